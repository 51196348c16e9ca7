abbrev pure_n : Nat := 5000000
/-! ===== the pure part: rules ===== -/
def wp {α : Type} (o : Option α) (Q : α → Prop) : Prop := ∃ a, o = some a ∧ Q a
theorem wp_some {α : Type} {a : α} {Q : α → Prop} (h : Q a) : wp (some a) Q := ⟨a, rfl, h⟩
theorem wp_of {α : Type} {o : Option α} {a : α} {Q : α → Prop} (e : o = some a) (h : Q a) : wp o Q := ⟨a, e, h⟩
theorem wp_bind {α β : Type} {o : Option α} {f : α → Option β} {P : α → Prop} {Q : β → Prop} (h : wp o P) (k : ∀ a, P a → wp (f a) Q) : wp (o.bind f) Q := by
  obtain ⟨a, rfl, h2⟩ := h
  exact k a h2
theorem wp_bs {α β : Type} {o : Option α} {f : α → Option β} {a : α} {Q : β → Prop} (e : o = some a) (k : wp (f a) Q) : wp (o.bind f) Q := by
  subst e
  exact k
theorem wp_mono {α : Type} {o : Option α} {P Q : α → Prop} (h : wp o P) (k : ∀ a, P a → Q a) : wp o Q := by
  obtain ⟨a, e, h2⟩ := h
  exact ⟨a, e, k a h2⟩
theorem wp_ck {α : Type} {b : Bool} {x : Option α} {Q : α → Prop} (h : b = true) (k : wp x Q) : wp (ck b x) Q := by
  unfold ck
  rw [if_pos h]
  exact k
theorem wp_al {ρ : Type} {k n : Nat} {x : Option (ρ × Nat × Nat)} {Q : ρ × Nat × Nat → Prop} (h : wp x (fun z => Q (z.1, z.2.1 + k, z.2.2 + n))) : wp (al k n x) Q := by
  obtain ⟨a, rfl, h2⟩ := h
  exact ⟨_, rfl, h2⟩
theorem wp_ite {α : Type} {c : Prop} {i : Decidable c} {a b : Option α} {Q : α → Prop} (h : (c → wp a Q) ∧ (¬ c → wp b Q)) : wp (@ite (Option α) c i a b) Q := by
  by_cases hc : c
  · rw [if_pos hc]
    exact h.1 hc
  · rw [if_neg hc]
    exact h.2 hc
theorem wp_it {α : Type} {c : Prop} {i : Decidable c} {a b : Option α} {Q : α → Prop} (hc : c) (h : wp a Q) : wp (@ite (Option α) c i a b) Q := by
  rw [if_pos hc]
  exact h
theorem wp_if {α : Type} {c : Prop} {i : Decidable c} {a b : Option α} {Q : α → Prop} (hc : ¬ c) (h : wp b Q) : wp (@ite (Option α) c i a b) Q := by
  rw [if_neg hc]
  exact h
theorem ck_t {α : Type} {b : Bool} {x : Option α} (h : b = true) : ck b x = x := if_pos h
/-! indexes and lengths -/
theorem ixb_t {k N : Nat} (h : k < N) (hk : k < 2147483648) : ixb (nI k) N = true := by
  unfold ixb
  apply decide_eq_true
  rw [nI_clamp hk]
  rintro (q | q)
  · exact nI_pos hk q
  · omega
theorem nab_t {k w : Nat} (hk : k < 2147483648) (h : k * w ≤ 536870912) : nab (nI k) w = true := by
  unfold nab
  apply decide_eq_true
  rw [nI_clamp hk]
  exact ⟨nI_pos hk, h⟩
theorem cpb_t {k n0 n1 : Nat} (hk : k < 2147483648) (h0 : k ≤ n0) (h1 : k ≤ n1) : cpb 0 0 (nI k) n0 n1 = true := by
  unfold cpb
  apply decide_eq_true
  rw [nI_clamp hk, show (0 : Int32).toNatClampNeg = 0 from rfl]
  refine ⟨by decide, by decide, nI_pos hk, by omega, by omega⟩
/-- a byte as it stands in an array -/
def bok (x : Int32) : Prop := x.toInt8.toInt32 = x
theorem bok_b (x : Int32) : bok x.toInt8.toInt32 := by
  unfold bok
  simp
theorem bok_fits {x : Int32} (h : bok x) : fits .byte (.int x) = true := by
  rw [← h]
  exact pk_fb x
theorem bfit_t {f : Nat → Int32} {n : Nat} (h : ∀ j, j < n → bok (f j)) : bfit f 0 n = true := by
  unfold bfit
  rw [List.all_eq_true]
  intro i hi
  rw [Nat.zero_add]
  exact bok_fits (h i (List.mem_range.mp hi))
theorem cp_b {k : Nat} {f : Nat → Int32} (h0 : 0 < k) (hk : k ≤ 134217728) (hb : ∀ j, j < k → bok (f j)) : p_Arrays_copyOf_aBI (2 * nI k) k f = some ((2 * k, va_cpy f (fun _ => 0) 0 0 k), 1, 2 * k) := by
  have e2 : (2 : Int32) * nI k = nI (2 * k) := pk_mul 2 k
  have hne : ¬ nI (2 * k) = Int32.ofNat k := fun h => by
    have := (nI_eq (a := 2 * k) (b := k) (by omega) (by omega)).mp h
    omega
  have hlt : ¬ nI (2 * k) < Int32.ofNat k := nI_nlt (by omega) (by omega)
  unfold p_Arrays_copyOf_aBI
  rw [e2, if_neg hne]
  simp only [if_neg hlt]
  rw [ck_t (nab_t (by omega) (by omega)), show (0 : Int32).toNatClampNeg = 0 from rfl, nI_clamp (n := 2 * k) (by omega), show Int32.ofNat k = nI k from rfl, nI_clamp (n := k) (by omega), ck_t (cpb_t (by omega) (by omega) (by omega)), ck_t (bfit_t hb)]
  simp only [al, Option.map_some, Nat.zero_add]
theorem by_add (b : Int32) {k N : Nat} {f : Nat → Int32} (hk : k ≤ N) (h0 : 64 ≤ N) (hN : N ≤ 134217728) (hb : ∀ j, j < k → bok (f j)) : wp (p_Bytes_add b (nI k) N f) (fun ((s', N', g), mq, sk) => s' = nI (k + 1) ∧ k + 1 ≤ N' ∧ 64 * mq + N ≤ N' ∧ sk + 2 * N ≤ 2 * N' ∧ (N' = N ∨ N' = 2 * k) ∧ (∀ j, j < k → g j = f j) ∧ g k = b.toInt8.toInt32) := by
  unfold p_Bytes_add
  refine wp_ite (pk_eq k N (fun h => ?_) (fun h => ?_))
  · subst h
    refine wp_bs (cp_b (by omega) hN hb) ?_
    dsimp only
    refine wp_al (wp_ck (ixb_t (by omega) (by omega)) (wp_some ?_))
    dsimp only
    rw [nI_clamp (by omega), nI_1, pk_vb]
    refine ⟨rfl, by omega, by omega, by omega, Or.inr rfl, fun j hj => ?_, pk_us⟩
    rw [pk_un (by omega), pk_cpy_in (by omega) (by omega), Nat.zero_add, Nat.sub_zero]
  · refine wp_ck (ixb_t (by omega) (by omega)) (wp_some ?_)
    dsimp only
    rw [nI_clamp (by omega), nI_1, pk_vb]
    refine ⟨rfl, by omega, by omega, by omega, Or.inl rfl, fun j hj => pk_un (by omega), pk_us⟩
/-! ===== rows of values in arrays ===== -/
/-- the first places of an array -/
def la (l : List Int32) (f : Nat → Int32) : Prop := ∀ j, j < l.length → f j = l.getD j 0
theorem gd_1 {α : Type} {l m : List α} {j : Nat} {d : α} (h : j < l.length) : (l ++ m).getD j d = l.getD j d := by
  rw [List.getD_eq_getElem?_getD, List.getD_eq_getElem?_getD, List.getElem?_append_left h]
theorem gd_2 {α : Type} {l m : List α} {j : Nat} {d : α} (h : l.length ≤ j) : (l ++ m).getD j d = m.getD (j - l.length) d := by
  rw [List.getD_eq_getElem?_getD, List.getD_eq_getElem?_getD, List.getElem?_append_right h]
theorem la_nil (f : Nat → Int32) : la [] f := fun j h => absurd h (Nat.not_lt_zero j)
theorem la_app {l : List Int32} {f g : Nat → Int32} {x : Int32} (h : la l f) (h1 : ∀ j, j < l.length → g j = f j) (h2 : g l.length = x) : la (l ++ [x]) g := by
  intro j hj
  rw [List.length_append, List.length_singleton] at hj
  by_cases q : j < l.length
  · rw [h1 j q, h j q, gd_1 q]
  · obtain rfl : j = l.length := by omega
    rw [h2, gd_2 (Nat.le_refl _), Nat.sub_self]
    rfl
theorem la_left {l m : List Int32} {f : Nat → Int32} (h : la (l ++ m) f) : la l f := by
  intro j hj
  rw [h j (by rw [List.length_append]; omega), gd_1 hj]
theorem la_take {l : List Int32} {f : Nat → Int32} (h : la l f) (n : Nat) : la (l.take n) f := by
  intro j hj
  rw [List.length_take] at hj
  rw [h j (by omega), List.getD_eq_getElem?_getD, List.getD_eq_getElem?_getD, List.getElem?_take_of_lt (by omega)]
/-- an array that grows: what it costs -/
def gw (N N' k mq sk : Nat) : Prop := 64 * mq + N ≤ N' ∧ sk + 2 * N ≤ 2 * N' ∧ (N' = N ∨ N' ≤ 2 * k)
theorem gw_refl (N k : Nat) : gw N N k 0 0 := ⟨by omega, by omega, Or.inl rfl⟩
theorem gw_trans {N N1 N2 k1 k2 m1 s1 m2 s2 : Nat} (h1 : gw N N1 k1 m1 s1) (h2 : gw N1 N2 k2 m2 s2) (hk : k1 ≤ k2) : gw N N2 k2 (m2 + m1) (s2 + s1) := by
  obtain ⟨a1, a2, a3⟩ := h1
  obtain ⟨b1, b2, b3⟩ := h2
  exact ⟨by omega, by omega, by omega⟩
theorem gw_mono {N N' k k' mq sk : Nat} (h : gw N N' k mq sk) (hk : k ≤ k') : gw N N' k' mq sk := by
  obtain ⟨a1, a2, a3⟩ := h
  exact ⟨a1, a2, by omega⟩
/-- the class's row of bytes -/
def BY (l : List Int32) (s : Int32) (N : Nat) (f : Nat → Int32) : Prop := s = nI l.length ∧ l.length ≤ N ∧ 64 ≤ N ∧ N ≤ 67108864 ∧ la l f ∧ ∀ j, j < l.length → bok (f j)
theorem by_addL (b : Int32) {l : List Int32} {s : Int32} {N : Nat} {f : Nat → Int32} (h : BY l s N f) (hl : l.length < 33554432) : wp (p_Bytes_add b s N f) (fun ((s', N', g), mq, sk) => BY (l ++ [b.toInt8.toInt32]) s' N' g ∧ gw N N' (l.length + 1) mq sk) := by
  obtain ⟨rfl, h1, h2, h3, h4, h5⟩ := h
  refine wp_mono (by_add b h1 h2 (by omega) h5) ?_
  rintro ⟨⟨s', N', g⟩, mq, sk⟩ ⟨a1, a2, a3, a4, a5, a6, a7⟩
  dsimp only at a1 a2 a3 a4 a5 a6 a7 ⊢
  refine ⟨⟨?_, ?_, by omega, by omega, la_app h4 a6 a7, ?_⟩, by omega, by omega, by omega⟩
  · rw [a1, List.length_append, List.length_singleton]
  · rw [List.length_append, List.length_singleton]
    omega
  · intro j hj
    rw [List.length_append, List.length_singleton] at hj
    by_cases q : j < l.length
    · rw [a6 j q]
      exact h5 j q
    · obtain rfl : j = l.length := by omega
      rw [a7]
      exact bok_b b
/-! ===== feed ===== -/
def fbx (v x : Int32) : Int32 := (v >>> (x &&& 31)).toInt8.toInt32
def fl (v : Int32) : List Int32 := [fbx v 24, fbx v 16, fbx v 8, fbx v 0]
theorem ub_four (k : Nat) (v m p : Int32) {l : List Int32} {s : Int32} {N : Nat} {f : Nat → Int32} (h : BY l s N f) (hl : l.length + 4 < 33554432) : wp (p_UB_addToTape (k + 5) v m p s N f) (fun ((s', N', g), mq, sk) => BY (l ++ fl v) s' N' g ∧ gw N N' (l.length + 4) mq sk) := by
  unfold p_UB_addToTape
  rw [p_UB_addToTape_3]
  refine wp_if (by decide) (wp_bind (by_addL _ h (by omega)) ?_)
  rintro ⟨⟨s1, N1, g1⟩, m1, k1⟩ ⟨h1, w1⟩
  dsimp only at h1 w1 ⊢
  refine wp_al ?_
  rw [p_UB_addToTape_3]
  refine wp_if (by decide) (wp_bind (by_addL _ h1 (by rw [List.length_append, List.length_singleton]; omega)) ?_)
  rintro ⟨⟨s2, N2, g2⟩, m2, k2⟩ ⟨h2, w2⟩
  dsimp only at h2 w2 ⊢
  refine wp_al ?_
  rw [p_UB_addToTape_3]
  refine wp_if (by decide) (wp_bind (by_addL _ h2 (by simp only [List.length_append, List.length_singleton]; omega)) ?_)
  rintro ⟨⟨s3, N3, g3⟩, m3, k3⟩ ⟨h3, w3⟩
  dsimp only at h3 w3 ⊢
  refine wp_al ?_
  rw [p_UB_addToTape_3]
  refine wp_if (by decide) (wp_bind (by_addL _ h3 (by simp only [List.length_append, List.length_singleton]; omega)) ?_)
  rintro ⟨⟨s4, N4, g4⟩, m4, k4⟩ ⟨h4, w4⟩
  dsimp only at h4 w4 ⊢
  refine wp_al ?_
  rw [p_UB_addToTape_3]
  refine wp_it (by decide) (wp_some ?_)
  dsimp only
  simp only [List.length_append, List.length_singleton] at w2 w3 w4
  refine ⟨?_, ?_⟩
  · have e : l ++ fl v = l ++ [fbx v 24] ++ [fbx v 16] ++ [fbx v 8] ++ [fbx v 0] := by
      simp [fl]
    rw [e]
    exact h4
  · obtain ⟨a1, a2, a3⟩ := w1
    obtain ⟨b1, b2, b3⟩ := w2
    obtain ⟨c1, c2, c3⟩ := w3
    obtain ⟨d1, d2, d3⟩ := w4
    exact ⟨by omega, by omega, by omega⟩
theorem fl_len (v : Int32) : (fl v).length = 4 := rfl
theorem ub_feed (k : Nat) (v1 v2 v3 v4 v5 m p : Int32) {l : List Int32} {s : Int32} {N : Nat} {f : Nat → Int32} (h : BY l s N f) (hl : l.length ≤ 4096) : wp (p_UB_feed (k + 5) v1 v2 v3 v4 v5 m p s N f) (fun ((xc, r, s', N', g), mq, sk) => (l.length + 20 ≤ 4096 ∧ xc = 0 ∧ r = nI (l.length + 20) ∧ BY (l ++ fl v1 ++ fl v2 ++ fl v3 ++ fl v4 ++ fl v5) s' N' g ∧ gw N N' (l.length + 20) mq sk) ∨ (4096 < l.length + 20 ∧ xc = 3 ∧ s' = s ∧ N' = N ∧ g = f ∧ mq = 1 ∧ sk = 6)) := by
  unfold p_UB_feed p_Bytes_size
  refine wp_bs rfl ?_
  obtain ⟨rfl, hr⟩ := h
  have h : BY l (nI l.length) N f := ⟨rfl, hr⟩
  refine wp_ite (pk_le (l.length + 20) 4096 (fun q => ?_) (fun q => ?_) (nI_add _ 20))
  · refine wp_bind (ub_four k v1 m p h (by omega)) ?_
    rintro ⟨⟨s1, N1, g1⟩, m1, k1⟩ ⟨h1, w1⟩
    dsimp only at h1 w1 ⊢
    refine wp_al (wp_bind (ub_four k v2 m p h1 (by simp only [List.length_append, fl_len]; omega)) ?_)
    rintro ⟨⟨s2, N2, g2⟩, m2, k2⟩ ⟨h2, w2⟩
    dsimp only at h2 w2 ⊢
    refine wp_al (wp_bind (ub_four k v3 m p h2 (by simp only [List.length_append, fl_len]; omega)) ?_)
    rintro ⟨⟨s3, N3, g3⟩, m3, k3⟩ ⟨h3, w3⟩
    dsimp only at h3 w3 ⊢
    refine wp_al (wp_bind (ub_four k v4 m p h3 (by simp only [List.length_append, fl_len]; omega)) ?_)
    rintro ⟨⟨s4, N4, g4⟩, m4, k4⟩ ⟨h4, w4⟩
    dsimp only at h4 w4 ⊢
    refine wp_al (wp_bind (ub_four k v5 m p h4 (by simp only [List.length_append, fl_len]; omega)) ?_)
    rintro ⟨⟨s5, N5, g5⟩, m5, k5⟩ ⟨h5, w5⟩
    dsimp only at h5 w5 ⊢
    refine wp_al (wp_some ?_)
    dsimp only
    simp only [List.length_append, fl_len] at w1 w2 w3 w4 w5
    refine Or.inl ⟨q, rfl, ?_, h5, ?_⟩
    · rw [h5.1]
      simp only [List.length_append, fl_len]
    · obtain ⟨a1, a2, a3⟩ := w1
      obtain ⟨b1, b2, b3⟩ := w2
      obtain ⟨c1, c2, c3⟩ := w3
      obtain ⟨d1, d2, d3⟩ := w4
      obtain ⟨e1, e2, e3⟩ := w5
      exact ⟨by omega, by omega, by omega⟩
  · refine wp_al (wp_some ?_)
    exact Or.inr ⟨q, rfl, rfl, rfl, rfl, rfl, rfl⟩
/-- the reference's tape -/
def MT (l : List Int32) (s : Int32) (f : Nat → Int32) : Prop := s = nI l.length ∧ l.length ≤ 4096 ∧ la l f
theorem mo_put {l : List Int32} {f : Nat → Int32} {x : Int32} (h : la l f) (hl : l.length < 4096) : la (l ++ [x]) (upd f (nI l.length).toNatClampNeg x) := by
  rw [nI_clamp (by omega)]
  exact la_app h (fun j hj => pk_un (by omega)) pk_us
theorem mo_four (k : Nat) (v a b c d e : Int32) (t : Int32) {l : List Int32} {s : Int32} {f : Nat → Int32} (h : MT l s f) (hl : l.length + 4 ≤ 4096) : wp (p_Mo_four (k + 5) v t s a b c d e 4096 f) (fun (s', g) => MT (l ++ fl v) s' g) := by
  obtain ⟨rfl, h1, h2⟩ := h
  have ad : ∀ (m : List Int32) (x : Int32), nI m.length + 1 = nI (m ++ [x]).length := fun m x => by
    rw [nI_1, List.length_append, List.length_singleton]
  unfold p_Mo_four
  rw [p_Mo_four_3]
  refine wp_if (by decide) (wp_ck (ixb_t (by omega) (by omega)) ?_)
  rw [pk_vb, ad l (fbx v 24)]
  have g1 := mo_put (x := fbx v 24) h2 (by omega)
  have l1 : (l ++ [fbx v 24]).length = l.length + 1 := by simp only [List.length_append, List.length_singleton]
  rw [p_Mo_four_3]
  refine wp_if (by decide) (wp_ck (ixb_t (by omega) (by omega)) ?_)
  rw [pk_vb, ad _ (fbx v 16)]
  have g2 := mo_put (x := fbx v 16) g1 (by omega)
  have l2 : (l ++ [fbx v 24] ++ [fbx v 16]).length = l.length + 2 := by simp only [List.length_append, List.length_singleton]
  rw [p_Mo_four_3]
  refine wp_if (by decide) (wp_ck (ixb_t (by omega) (by omega)) ?_)
  rw [pk_vb, ad _ (fbx v 8)]
  have g3 := mo_put (x := fbx v 8) g2 (by omega)
  have l3 : (l ++ [fbx v 24] ++ [fbx v 16] ++ [fbx v 8]).length = l.length + 3 := by simp only [List.length_append, List.length_singleton]
  rw [p_Mo_four_3]
  refine wp_if (by decide) (wp_ck (ixb_t (by omega) (by omega)) ?_)
  rw [pk_vb, ad _ (fbx v 0)]
  have g4 := mo_put (x := fbx v 0) g3 (by omega)
  have l4 : (l ++ [fbx v 24] ++ [fbx v 16] ++ [fbx v 8] ++ [fbx v 0]).length = l.length + 4 := by simp only [List.length_append, List.length_singleton]
  rw [p_Mo_four_3]
  refine wp_it (by decide) (wp_some ?_)
  have ee : l ++ fl v = l ++ [fbx v 24] ++ [fbx v 16] ++ [fbx v 8] ++ [fbx v 0] := by
    simp [fl]
  rw [ee]
  exact ⟨rfl, by omega, g4⟩
theorem mo_feed (k : Nat) (v1 v2 v3 v4 v5 a b c d e t : Int32) {l : List Int32} {s : Int32} {f : Nat → Int32} (h : MT l s f) : wp (p_Mo_feed (k + 5) v1 v2 v3 v4 v5 t s a b c d e 4096 f) (fun (r, t', s', g) => (l.length + 20 ≤ 4096 ∧ r = nI (l.length + 20) ∧ t' = 0 ∧ MT (l ++ fl v1 ++ fl v2 ++ fl v3 ++ fl v4 ++ fl v5) s' g) ∨ (4096 < l.length + 20 ∧ t' = 1 ∧ s' = s ∧ g = f)) := by
  unfold p_Mo_feed
  obtain ⟨rfl, hr⟩ := h
  have h : MT l (nI l.length) f := ⟨rfl, hr⟩
  refine wp_ite (pk_le (l.length + 20) 4096 (fun q => ?_) (fun q => ?_) (nI_add _ 20) rfl (by omega))
  · refine wp_bind (mo_four k v1 a b c d e 0 h (by omega)) ?_
    rintro ⟨s1, g1⟩ h1
    dsimp only at h1 ⊢
    refine wp_bind (mo_four k v2 a b c d e 0 h1 (by simp only [List.length_append, fl_len]; omega)) ?_
    rintro ⟨s2, g2⟩ h2
    dsimp only at h2 ⊢
    refine wp_bind (mo_four k v3 a b c d e 0 h2 (by simp only [List.length_append, fl_len]; omega)) ?_
    rintro ⟨s3, g3⟩ h3
    dsimp only at h3 ⊢
    refine wp_bind (mo_four k v4 a b c d e 0 h3 (by simp only [List.length_append, fl_len]; omega)) ?_
    rintro ⟨s4, g4⟩ h4
    dsimp only at h4 ⊢
    refine wp_bind (mo_four k v5 a b c d e 0 h4 (by simp only [List.length_append, fl_len]; omega)) ?_
    rintro ⟨s5, g5⟩ h5
    dsimp only at h5 ⊢
    refine wp_some (Or.inl ⟨q, ?_, rfl, h5⟩)
    rw [h5.1]
    simp only [List.length_append, fl_len]
  · exact wp_some (Or.inr ⟨q, rfl, rfl, rfl⟩)
/-! ===== the class's rows of ints ===== -/
theorem cp_i {k : Nat} {f : Nat → Int32} (h0 : 0 < k) (hk : k ≤ 33554432) : p_Arrays_copyOf_aII (2 * nI k) k f = some ((2 * k, va_cpy f (fun _ => 0) 0 0 k), 1, 2 * k) := by
  have e2 : (2 : Int32) * nI k = nI (2 * k) := pk_mul 2 k
  have hne : ¬ nI (2 * k) = Int32.ofNat k := fun h => by
    have := (nI_eq (a := 2 * k) (b := k) (by omega) (by omega)).mp h
    omega
  have hlt : ¬ nI (2 * k) < Int32.ofNat k := nI_nlt (by omega) (by omega)
  unfold p_Arrays_copyOf_aII
  rw [e2, if_neg hne]
  simp only [if_neg hlt]
  rw [ck_t (nab_t (by omega) (by omega)), show (0 : Int32).toNatClampNeg = 0 from rfl, nI_clamp (n := 2 * k) (by omega), show Int32.ofNat k = nI k from rfl, nI_clamp (n := k) (by omega), ck_t (cpb_t (by omega) (by omega) (by omega))]
  simp only [al, Option.map_some, Nat.zero_add]
def IN (l : List Int32) (s : Int32) (N : Nat) (f : Nat → Int32) : Prop := s = nI l.length ∧ l.length ≤ N ∧ 64 ≤ N ∧ N ≤ 33554432 ∧ la l f
theorem in_push (x : Int32) {l : List Int32} {s : Int32} {N : Nat} {f : Nat → Int32} (h : IN l s N f) (hl : l.length < 16777216) : wp (p_Ints_push x s N f) (fun ((s', N', g), mq, sk) => IN (l ++ [x]) s' N' g ∧ gw N N' (l.length + 1) mq sk) := by
  obtain ⟨rfl, h1, h2, h3, h4⟩ := h
  have ln : (l ++ [x]).length = l.length + 1 := by rw [List.length_append, List.length_singleton]
  unfold p_Ints_push
  refine wp_ite (pk_eq l.length N (fun h => ?_) (fun h => ?_))
  · subst h
    refine wp_bs (cp_i (by omega) h3) ?_
    dsimp only
    refine wp_al (wp_ck (ixb_t (by omega) (by omega)) (wp_some ?_))
    dsimp only
    rw [nI_clamp (by omega), nI_1]
    refine ⟨⟨by rw [ln], by omega, by omega, by omega, la_app h4 (fun j hj => ?_) pk_us⟩, by omega, by omega, by omega⟩
    rw [pk_un (by omega), pk_cpy_in (by omega) (by omega), Nat.zero_add, Nat.sub_zero]
  · refine wp_ck (ixb_t (by omega) (by omega)) (wp_some ?_)
    dsimp only
    rw [nI_clamp (by omega), nI_1]
    exact ⟨⟨by rw [ln], by omega, by omega, by omega, la_app h4 (fun j hj => pk_un (by omega)) pk_us⟩, by omega, by omega, by omega⟩
theorem in_pop {l : List Int32} {x s : Int32} {N : Nat} {f : Nat → Int32} (h : IN (l ++ [x]) s N f) : p_Ints_pop s N f = some (x, nI l.length) ∧ IN l (nI l.length) N f := by
  obtain ⟨rfl, h1, h2, h3, h4⟩ := h
  have ln : (l ++ [x]).length = l.length + 1 := by rw [List.length_append, List.length_singleton]
  rw [ln] at h1 ⊢
  constructor
  · unfold p_Ints_pop
    rw [if_neg (nI_ne0 (by omega) (by omega)), nI_pred, ck_t (ixb_t (by omega) (by omega)), nI_clamp (by omega), h4 l.length (by rw [ln]; omega), gd_2 (Nat.le_refl _), Nat.sub_self]
    rfl
  · exact ⟨rfl, by omega, h2, h3, la_left h4⟩
theorem in_at {l : List Int32} {s : Int32} {N : Nat} {f : Nat → Int32} (h : IN l s N f) {j : Nat} (hj : j < l.length) : p_Ints_at (nI j) s N f = some (l.getD j 0) := by
  obtain ⟨rfl, h1, h2, h3, h4⟩ := h
  unfold p_Ints_at
  rw [if_neg (nI_pos (by omega)), if_neg (nI_ge hj (by omega)), ck_t (ixb_t (by omega) (by omega)), nI_clamp (by omega), h4 j hj]
theorem in_at_neg {s : Int32} {N : Nat} {f : Nat → Int32} {i : Int32} (h : i < 0) : p_Ints_at i s N f = some 0 := by
  unfold p_Ints_at
  rw [if_pos h]
theorem in_cut {l : List Int32} {s : Int32} {N : Nat} {f : Nat → Int32} (h : IN l s N f) {k : Nat} (hk : k ≤ l.length) : p_Ints_cut (nI k) s = some (nI k) ∧ IN (l.take k) (nI k) N f := by
  obtain ⟨rfl, h1, h2, h3, h4⟩ := h
  have lt : (l.take k).length = k := by rw [List.length_take]; omega
  constructor
  · unfold p_Ints_cut
    rw [if_neg (nI_pos (by omega))]
    by_cases q : k = l.length
    · subst q
      rw [if_pos (nI_le (Nat.le_refl _) (by omega))]
    · rw [if_neg (nI_ge (by omega) (by omega))]
  · exact ⟨by rw [lt], by omega, h2, h3, la_take h4 k⟩
/-! ===== names in chains ===== -/
/-- the last of the first k texts whose row is r, or -1 -/
def lastB (H : List Int32 → Int32) (T : List (List Int32)) : Nat → Int32 → Int32
  | 0, _ => -1
  | k + 1, r => if H (T.getD k []) = r then nI k else lastB H T k r
theorem lastB_app (H : List Int32 → Int32) (T U : List (List Int32)) (r : Int32) : ∀ k, k ≤ T.length → lastB H (T ++ U) k r = lastB H T k r := by
  intro k
  induction k with
  | zero => intro _; rfl
  | succ k ih =>
    intro hk
    rw [lastB, lastB, ih (by omega), gd_1 (by omega)]
theorem lastB_or (H : List Int32 → Int32) (T : List (List Int32)) (r : Int32) : ∀ k, lastB H T k r = -1 ∨ ∃ j, j < k ∧ lastB H T k r = nI j ∧ H (T.getD j []) = r := by
  intro k
  induction k with
  | zero => exact Or.inl rfl
  | succ k ih =>
    rw [lastB]
    by_cases h : H (T.getD k []) = r
    · rw [if_pos h]
      exact Or.inr ⟨k, by omega, rfl, h⟩
    · rw [if_neg h]
      rcases ih with e | ⟨j, h1, h2, h3⟩
      · exact Or.inl e
      · exact Or.inr ⟨j, by omega, h2, h3⟩
/-- where a text begins -/
def off (T : List (List Int32)) (k : Nat) : Nat := (T.take k).flatten.length
theorem off_0 (T : List (List Int32)) : off T 0 = 0 := rfl
theorem off_succ {T : List (List Int32)} {k : Nat} (h : k < T.length) : off T (k + 1) = off T k + (T.getD k []).length := by
  unfold off
  rw [List.take_add_one, List.flatten_append, List.length_append, List.getElem?_eq_getElem h]
  congr 1
  rw [List.getD_eq_getElem?_getD, List.getElem?_eq_getElem h]
  simp
theorem off_le {T : List (List Int32)} {a b : Nat} (h : a ≤ b) : off T a ≤ off T b := by
  unfold off
  obtain ⟨c, rfl⟩ : ∃ c, b = a + c := ⟨b - a, by omega⟩
  rw [List.take_add, List.flatten_append, List.length_append]
  omega
theorem off_all {T : List (List Int32)} {k : Nat} (h : T.length ≤ k) : off T k = T.flatten.length := by
  unfold off
  rw [List.take_of_length_le h]
theorem off_app {T U : List (List Int32)} {k : Nat} (h : k ≤ T.length) : off (T ++ U) k = off T k := by
  unfold off
  rw [List.take_append_of_le_length h]
/-! ===== the class's names ===== -/
/-- a row within an array -/
def seg (l : List Int32) (f : Nat → Int32) (a : Nat) : Prop := ∀ j, j < l.length → f (a + j) = l.getD j 0
theorem seg_cons {x : Int32} {l : List Int32} {f : Nat → Int32} {a : Nat} (h : seg (x :: l) f a) : f a = x ∧ seg l f (a + 1) := by
  refine ⟨h 0 (Nat.zero_lt_succ _), fun j hj => ?_⟩
  have := h (j + 1) (by rw [List.length_cons]; omega)
  rw [show a + (j + 1) = a + 1 + j by omega] at this
  rw [this]
  rfl
theorem la_seg {l m : List Int32} {f : Nat → Int32} (h : la (l ++ m) f) : seg m f l.length := by
  intro j hj
  rw [h (l.length + j) (by rw [List.length_append]; omega), gd_2 (by omega), Nat.add_sub_cancel_left]
theorem flat_at {T : List (List Int32)} {k : Nat} (h : k < T.length) : T.flatten = (T.take k).flatten ++ (T.getD k [] ++ (T.drop (k + 1)).flatten) := by
  have e : T = T.take k ++ (T.getD k [] :: T.drop (k + 1)) := by
    rw [List.getD_eq_getElem?_getD, List.getElem?_eq_getElem h, Option.getD_some, ← List.drop_eq_getElem_cons h, List.take_append_drop]
  conv => lhs; rw [e]
  rw [List.flatten_append, List.flatten_cons]
theorem seg_at {T : List (List Int32)} {p : List Int32} {f : Nat → Int32} {k : Nat} (h : la (T.flatten ++ p) f) (hk : k < T.length) : seg (T.getD k []) f (off T k) := by
  rw [flat_at hk, List.append_assoc, List.append_assoc] at h
  intro j hj
  have := la_seg h j (by rw [List.length_append]; omega)
  rw [gd_1 hj] at this
  exact this
/-- the row of a text -/
def hc (t : List Int32) : Int32 := (t.foldl (fun m b => m * 31 + (b &&& 255)) 0) &&& 127
theorem hc_lt (t : List Int32) : ∃ r, r < 128 ∧ hc t = nI r := pk_andE _ 7 (by decide)
theorem nc_row (n : Nat) (sb : Int32) {S tn : Nat} {tf : Nat → Int32} (hS : S ≤ tn) (hS2 : S < 2147483648) : ∀ (t : List Int32) (m : Int32) (i kf : Nat), seg t tf i → i + t.length ≤ S → t.length < kf → p_Names_rowOf_5 n (nI (i + t.length)) (nI S) sb tn tf kf (nI i) m = some ((t.foldl (fun m b => m * 31 + (b &&& 255)) m) &&& 127) := by
  intro t
  induction t with
  | nil =>
    intro m i kf _ h1 h2
    obtain ⟨k, rfl⟩ : ∃ k, kf = k + 1 := ⟨kf - 1, by rw [List.length_nil] at h2; omega⟩
    rw [p_Names_rowOf_5, List.length_nil, Nat.add_zero, if_pos (nI_le (Nat.le_refl _) (by rw [List.length_nil] at h1; omega))]
    rfl
  | cons x t ih =>
    intro m i kf hs h1 h2
    rw [List.length_cons] at h1 h2
    obtain ⟨k, rfl⟩ : ∃ k, kf = k + 1 := ⟨kf - 1, by omega⟩
    obtain ⟨e1, e2⟩ := seg_cons hs
    rw [p_Names_rowOf_5, List.length_cons, if_neg (nI_ge (by omega) (by omega))]
    have eb : p_Names_byteAt (nI i) (nI S) sb tn tf = some (x &&& 255) := by
      unfold p_Names_byteAt
      rw [if_neg (nI_pos (by omega)), if_neg (nI_ge (by omega) (by omega)), ck_t (ixb_t (by omega) (by omega)), nI_clamp (by omega), e1]
    rw [eb, Option.bind_some, nI_1, show i + (t.length + 1) = i + 1 + t.length by omega, ih _ (i + 1) k e2 (by omega) (by omega)]
    rfl
/-- two rows of one length, compared -/
theorem nc_cmp (n : Nat) {tn : Nat} {tf : Nat → Int32} {a b m : Nat} (ha : a + m ≤ tn) (hb : b + m ≤ tn) (hab : a + m ≤ b) (hn : tn < 1073741824) : ∀ (u v : List Int32) (i kf : Nat), u.length = v.length → i + u.length = m → seg u tf (a + i) → seg v tf (b + i) → u.length < kf → p_Names_areSameTexts_17 n (nI a) (nI (a + m)) (nI b) tn tf kf (nI (a + i)) = some (if u = v then 1 else 0) := by
  intro u
  induction u with
  | nil =>
    intro v i kf h1 h2 _ _ h5
    obtain ⟨k, rfl⟩ : ∃ k, kf = k + 1 := ⟨kf - 1, by rw [List.length_nil] at h5; omega⟩
    rw [List.length_nil] at h1 h2
    obtain rfl : v = [] := List.eq_nil_of_length_eq_zero h1.symm
    rw [p_Names_areSameTexts_17, if_pos (nI_le (by omega) (by omega)), if_pos rfl]
  | cons x u ih =>
    intro v i kf h1 h2 h3 h4 h5
    rw [List.length_cons] at h1 h2 h5
    obtain ⟨k, rfl⟩ : ∃ k, kf = k + 1 := ⟨kf - 1, by omega⟩
    cases v with
    | nil => rw [List.length_nil] at h1; omega
    | cons y v =>
      rw [List.length_cons] at h1
      obtain ⟨e1, e2⟩ := seg_cons h3
      obtain ⟨e3, e4⟩ := seg_cons h4
      rw [p_Names_areSameTexts_17, if_neg (nI_ge (by omega) (by omega)), ck_t (ixb_t (by omega) (by omega)), nI_add, pk_sub (by omega), show b + (a + i) - a = b + i by omega, ck_t (ixb_t (by omega) (by omega)), nI_clamp (by omega), nI_clamp (by omega), e1, e3]
      by_cases q : x = y
      · subst q
        rw [if_pos rfl, nI_1, show a + i + 1 = a + (i + 1) by omega, ih v (i + 1) k (by omega) (by omega) (by rw [show a + (i + 1) = a + i + 1 by omega]; exact e2) (by rw [show b + (i + 1) = b + i + 1 by omega]; exact e4) (by omega)]
        by_cases q2 : u = v
        · rw [if_pos q2, if_pos (by rw [q2])]
        · rw [if_neg q2, if_neg (fun h => q2 (List.cons.inj h).2)]
      · rw [if_neg q, if_neg (fun h => q (List.cons.inj h).1)]
/-- ends and chains as rows -/
def offs (T : List (List Int32)) : List Int32 := (List.range T.length).map (fun i => nI (off T (i + 1)))
def olds (H : List Int32 → Int32) (T : List (List Int32)) : List Int32 := (List.range T.length).map (fun i => lastB H T i (H (T.getD i [])))
theorem offs_len (T : List (List Int32)) : (offs T).length = T.length := by simp [offs]
theorem olds_len (H : List Int32 → Int32) (T : List (List Int32)) : (olds H T).length = T.length := by simp [olds]
theorem offs_at {T : List (List Int32)} {k : Nat} (h : k < T.length) : (offs T).getD k 0 = nI (off T (k + 1)) := by
  unfold offs
  rw [List.getD_eq_getElem?_getD, List.getElem?_map, List.getElem?_range h]
  rfl
theorem olds_at (H : List Int32 → Int32) {T : List (List Int32)} {k : Nat} (h : k < T.length) : (olds H T).getD k 0 = lastB H T k (H (T.getD k [])) := by
  unfold olds
  rw [List.getD_eq_getElem?_getD, List.getElem?_map, List.getElem?_range h]
  rfl
theorem offs_app (T : List (List Int32)) (t : List Int32) : offs (T ++ [t]) = offs T ++ [nI (T.flatten.length + t.length)] := by
  unfold offs
  rw [List.length_append, List.length_singleton, List.range_succ, List.map_append]
  congr 1
  · apply List.map_congr_left
    intro i hi
    rw [off_app (by have := List.mem_range.mp hi; omega)]
  · rw [List.map_cons, List.map_nil, off_all (by simp), List.flatten_append, List.length_append]
    simp
theorem olds_app (H : List Int32 → Int32) (T : List (List Int32)) (t : List Int32) : olds H (T ++ [t]) = olds H T ++ [lastB H T T.length (H t)] := by
  unfold olds
  rw [List.length_append, List.length_singleton, List.range_succ, List.map_append]
  congr 1
  · apply List.map_congr_left
    intro i hi
    have := List.mem_range.mp hi
    rw [gd_1 this, lastB_app _ _ _ _ _ (by omega)]
  · rw [List.map_cons, List.map_nil, gd_2 (Nat.le_refl _), Nat.sub_self, lastB_app _ _ _ _ _ (Nat.le_refl _)]
    rfl
/-- the class's names: the texts T, and the text p that is begun -/
def NC (T : List (List Int32)) (p : List Int32) (ts : Int32) (tn : Nat) (tf : Nat → Int32) (es : Int32) (en : Nat) (ef : Nat → Int32) (os : Int32) (on : Nat) (of : Nat → Int32) (nf : Nat → Int32) : Prop :=
  BY (T.flatten ++ p) ts tn tf ∧ IN (offs T) es en ef ∧ IN (olds hc T) os on of ∧ (∀ r, r < 128 → nf r = lastB hc T T.length (nI r)) ∧ (T.flatten.length + p.length + T.length < 32768 ∧ tn ≤ 65536 ∧ en ≤ 65536 ∧ on ≤ 65536) ∧ T.Nodup
theorem nc_from {T : List (List Int32)} {es : Int32} {en : Nat} {ef : Nat → Int32} (h : IN (offs T) es en ef) (ts sb : Int32) {k : Nat} (hk : k ≤ T.length) : p_Names_from (nI k) ts sb es en ef = some (nI (off T k)) := by
  have hb : T.length ≤ 33554432 := by
    obtain ⟨_, h1, _, h3, _⟩ := h
    rw [offs_len] at h1
    omega
  unfold p_Names_from
  cases k with
  | zero => rw [if_pos nI_0, off_0, nI_0]
  | succ k => rw [if_neg (nI_ne0 (by omega) (by omega)), nI_pred, in_at h (by rw [offs_len]; omega), offs_at (by omega), Option.bind_some]
theorem nc_to {T : List (List Int32)} {es : Int32} {en : Nat} {ef : Nat → Int32} (h : IN (offs T) es en ef) (ts sb : Int32) {k : Nat} (hk : k < T.length) : p_Names_to (nI k) ts sb es en ef = some (nI (off T (k + 1))) := by
  unfold p_Names_to
  rw [in_at h (by rw [offs_len]; omega), offs_at hk, Option.bind_some]
theorem by_take {l m : List Int32} {s : Int32} {N : Nat} {f : Nat → Int32} (h : BY (l ++ m) s N f) : BY l (nI l.length) N f := by
  obtain ⟨_, h1, h2, h3, h4, h5⟩ := h
  rw [List.length_append] at h1 h5
  exact ⟨rfl, by omega, h2, h3, la_left h4, fun j hj => h5 j (by omega)⟩
theorem nc_start {T : List (List Int32)} {p : List Int32} {ts : Int32} {tn : Nat} {tf : Nat → Int32} {es : Int32} {en : Nat} {ef : Nat → Int32} {os : Int32} {on : Nat} {of nf : Nat → Int32} (h : NC T p ts tn tf es en ef os on of nf) (sb : Int32) : p_Names_startText ts sb es en ef = some (nI T.flatten.length) ∧ NC T [] (nI T.flatten.length) tn tf es en ef os on of nf := by
  obtain ⟨h1, h2, h3, h4, h5, h6⟩ := h
  constructor
  · unfold p_Names_startText p_Ints_size
    have e : es = nI T.length := by rw [h2.1, offs_len]
    subst e
    rw [Option.bind_some, nc_from h2 ts sb (Nat.le_refl _), off_all (Nat.le_refl _), Option.bind_some]
  · refine ⟨?_, h2, h3, h4, by rw [List.length_nil]; omega, h6⟩
    rw [List.append_nil]
    exact by_take h1
theorem nc_add (b : Int32) {T : List (List Int32)} {p : List Int32} {ts : Int32} {tn : Nat} {tf : Nat → Int32} {es : Int32} {en : Nat} {ef : Nat → Int32} {os : Int32} {on : Nat} {of nf : Nat → Int32} (h : NC T p ts tn tf es en ef os on of nf) (hb : T.flatten.length + p.length + T.length + 1 < 32768) (sb : Int32) : wp (p_Names_addToText b ts sb tn tf) (fun ((ts', tn', tf'), mq, sk) => NC T (p ++ [b.toInt8.toInt32]) ts' tn' tf' es en ef os on of nf ∧ 64 * mq + tn ≤ tn' ∧ sk + 2 * tn ≤ 2 * tn') := by
  obtain ⟨h1, h2, h3, h4, h5, h6⟩ := h
  have E : p_Names_addToText b ts sb tn tf = p_Bytes_add b ts tn tf := rfl
  rw [E]
  refine wp_mono (by_addL b h1 (by rw [List.length_append]; omega)) ?_
  rintro ⟨⟨ts', tn', tf'⟩, mq, sk⟩ ⟨a1, a2⟩
  dsimp only at a1 a2 ⊢
  rw [List.append_assoc] at a1
  rw [List.length_append] at a2
  obtain ⟨w1, w2, w3⟩ := a2
  exact ⟨⟨a1, h2, h3, h4, by rw [List.length_append, List.length_singleton]; omega, h6⟩, w1, w2⟩
/-! ===== a text's number ===== -/
theorem nc_same (n : Nat) (sb : Int32) {T : List (List Int32)} {p : List Int32} {ts : Int32} {tn : Nat} {tf : Nat → Int32} (h : BY (T.flatten ++ p) ts tn tf) (hb : T.flatten.length + p.length < 32768) (hn : T.flatten.length + p.length < n) {k : Nat} (hk : k < T.length) : p_Names_areSameTexts n (nI (off T k)) (nI (off T (k + 1))) (nI T.flatten.length) ts sb tn tf = some (if T.getD k [] = p then 1 else 0) := by
  obtain ⟨rfl, h1, h2, h3, h4, h5⟩ := h
  rw [List.length_append] at h1 ⊢
  have o1 := off_succ hk
  have o2 : off T (k + 1) ≤ off T T.length := off_le (by omega)
  rw [off_all (Nat.le_refl _)] at o2
  unfold p_Names_areSameTexts
  rw [pk_sub (by omega), pk_sub (by omega), show off T (k + 1) - off T k = (T.getD k []).length by omega, Nat.add_sub_cancel_left]
  by_cases q : (T.getD k []).length = p.length
  · rw [q, if_pos rfl]
    have s1 : seg (T.getD k []) tf (off T k + 0) := seg_at h4 hk
    have s2 : seg p tf (T.flatten.length + 0) := la_seg h4
    have := nc_cmp n (tn := tn) (tf := tf) (a := off T k) (b := T.flatten.length) (m := p.length) (by omega) (by omega) (by omega) (by omega) (T.getD k []) p 0 n q (by omega) s1 s2 (by omega)
    rw [Nat.add_zero] at this
    rw [show off T (k + 1) = off T k + p.length by omega]
    exact this
  · rw [if_neg (fun e => q ((nI_eq (by omega) (by omega)).mp e)), if_neg (fun e => q (by rw [e]))]
/-- what a text's number is, and what it costs -/
def NP (T : List (List Int32)) (p : List Int32) (ts : Int32) (tn : Nat) (tf : Nat → Int32) (en on : Nat) : (Int32 × Int32 × Nat × (Nat → Int32) × Int32 × Nat × (Nat → Int32) × (Nat → Int32)) × Nat × Nat → Prop :=
  fun ((r, es', en', ef', os', on', of', nf'), mq, sk) => ∃ T' p', NC T' p' ts tn tf es' en' ef' os' on' of' nf' ∧ (∃ i, i < T'.length ∧ T'.getD i [] = p ∧ r = nI i) ∧ ((T' = T ∧ p' = p) ∨ (T' = T ++ [p] ∧ p' = [])) ∧ 64 * mq + (en + on) ≤ en' + on' ∧ sk + 2 * (en + on) ≤ 2 * (en' + on')
theorem nc_new {T : List (List Int32)} {p : List Int32} {ts : Int32} {tn : Nat} {tf : Nat → Int32} {es : Int32} {en : Nat} {ef : Nat → Int32} {os : Int32} {on : Nat} {of nf : Nat → Int32} (h : NC T p ts tn tf es en ef os on of nf) (hb : T.flatten.length + p.length + T.length + 1 < 32768) (hp : p ∉ T) : wp ((p_Ints_push ts es en ef).bind (fun ((a_size_8, a_items_n_8, a_items_f_8), mk8, sk8) => al mk8 sk8 (ck (ixb (hc p) 128) ((p_Ints_push (nf (hc p).toNatClampNeg) os on of).bind (fun ((a_size_10, a_items_n_10, a_items_f_10), mk10, sk10) => al mk10 sk10 ((p_Ints_size a_size_8).bind (fun r11 => ck (ixb (hc p) 128) (ck (ixb (hc p) 128) (some (((upd nf (hc p).toNatClampNeg (r11 - 1)) (hc p).toNatClampNeg, a_size_8, a_items_n_8, a_items_f_8, a_size_10, a_items_n_10, a_items_f_10, upd nf (hc p).toNatClampNeg (r11 - 1)), 0, 0)))))))))) (NP T p ts tn tf en on) := by
  obtain ⟨h1, h2, h3, h4, h5, h6⟩ := h
  obtain ⟨r, hr, er⟩ := hc_lt p
  have cr : (hc p).toNatClampNeg = r := by rw [er]; exact nI_clamp (by omega)
  have ir : ixb (hc p) 128 = true := by rw [er]; exact ixb_t hr (by omega)
  have et : ts = nI (T.flatten.length + p.length) := by rw [h1.1, List.length_append]
  refine wp_bind (in_push ts h2 (by rw [offs_len]; omega)) ?_
  rintro ⟨⟨s1, N1, g1⟩, m1, k1⟩ ⟨a1, a2⟩
  dsimp only at a1 a2 ⊢
  rw [cr]
  refine wp_al (wp_ck ir (wp_bind (in_push (nf r) h3 (by rw [olds_len]; omega)) ?_))
  rintro ⟨⟨s2, N2, g2⟩, m2, k2⟩ ⟨b1, b2⟩
  dsimp only at b1 b2 ⊢
  refine wp_al ?_
  unfold p_Ints_size
  refine wp_bs rfl (wp_ck ir (wp_ck ir (wp_some ?_)))
  rw [offs_len] at a2
  rw [olds_len] at b2
  rw [et, ← offs_app] at a1
  rw [h4 r hr, ← er, ← olds_app] at b1
  have es1 : s1 - 1 = nI T.length := by
    rw [a1.1, offs_len, List.length_append, List.length_singleton, nI_pred]
  rw [es1, pk_us]
  obtain ⟨c1, c2, c3⟩ := a2
  obtain ⟨d1, d2, d3⟩ := b2
  have fl : (T ++ [p]).flatten = T.flatten ++ p := by simp
  refine ⟨T ++ [p], [], ⟨?_, a1, b1, ?_, ?_, ?_⟩, ⟨T.length, ?_, ?_, rfl⟩, Or.inr ⟨rfl, rfl⟩, ?_, ?_⟩
  · rw [fl, List.append_nil]
    exact h1
  · intro q hq
    rw [List.length_append, List.length_singleton, lastB, gd_2 (Nat.le_refl _), Nat.sub_self, lastB_app _ _ _ _ _ (Nat.le_refl _), show [p].getD 0 [] = p from rfl]
    by_cases e : q = r
    · subst e
      rw [pk_us, if_pos (show hc p = nI q from er)]
    · rw [pk_un e, h4 q hq, if_neg (fun z => e ((nI_eq (by omega) (by omega)).mp ((show hc p = nI q from z).symm.trans er)))]
  · rw [fl, List.length_append, List.length_append, List.length_nil, List.length_singleton]
    omega
  · rw [List.nodup_append]
    refine ⟨h6, by simp, ?_⟩
    intro a ha b hb e
    rw [List.mem_singleton] at hb
    subst e hb
    exact hp ha
  · rw [List.length_append, List.length_singleton]
    omega
  · rw [gd_2 (Nat.le_refl _), Nat.sub_self]
    rfl
  · first | omega | (dsimp only; omega)
  · first | omega | (dsimp only; omega)
theorem nc_loop (n : Nat) (sb : Int32) {T : List (List Int32)} {p : List Int32} {ts : Int32} {tn : Nat} {tf : Nat → Int32} {es : Int32} {en : Nat} {ef : Nat → Int32} {os : Int32} {on : Nat} {of nf : Nat → Int32} (h : NC T p ts tn tf es en ef os on of nf) (hb : T.flatten.length + p.length + T.length + 1 < 32768) (hn : 100000 ≤ n) : ∀ (k c kf : Nat), k ≤ T.length → k ≤ c → c ≤ T.length → c < kf → (∀ i, k ≤ i → i < T.length → T.getD i [] ≠ p) → wp (p_Names_numberOfText_38 n ts sb tn tf es en ef os on of 128 nf (nI T.flatten.length) (hc p) kf (nI c) (lastB hc T k (hc p))) (NP T p ts tn tf en on) := by
  have h0 := h
  obtain ⟨h1, h2, h3, h4, h5, h6⟩ := h
  intro k
  induction k with
  | zero =>
    intro c kf _ _ hc1 hc2 hno
    obtain ⟨kf, rfl⟩ : ∃ z, kf = z + 1 := ⟨kf - 1, by omega⟩
    have hp : p ∉ T := fun hm => by
      obtain ⟨i, hi, e⟩ := List.mem_iff_getElem.mp hm
      exact hno i (Nat.zero_le _) hi (by rw [List.getD_eq_getElem?_getD, List.getElem?_eq_getElem hi, e]; rfl)
    rw [p_Names_numberOfText_38]
    by_cases q : c = 0
    · exact wp_it (by rw [q]; decide) (nc_new h0 hb hp)
    · refine wp_if (nI_nle (by omega) (by omega)) (wp_it ?_ (nc_new h0 hb hp))
      show (-1 : Int32) < 0
      decide
  | succ k ih =>
    intro c kf hk1 hk2 hc1 hc2 hno
    rw [lastB]
    by_cases q : hc (T.getD k []) = hc p
    · rw [if_pos q]
      obtain ⟨kf, rfl⟩ : ∃ z, kf = z + 1 := ⟨kf - 1, by omega⟩
      obtain ⟨c, rfl⟩ : ∃ z, c = z + 1 := ⟨c - 1, by omega⟩
      rw [p_Names_numberOfText_38]
      refine wp_if (nI_nle (by omega) (by omega)) (wp_if (nI_pos (by omega)) ?_)
      refine wp_bs (nc_from h2 ts sb (by omega)) (wp_bs (nc_to h2 ts sb (by omega)) (wp_bs (nc_same n sb h1 (by omega) (by omega) (by omega)) ?_))
      by_cases e : T.getD k [] = p
      · rw [if_pos e]
        refine wp_if (by decide) (wp_some ?_)
        refine ⟨T, p, h0, ⟨k, by omega, e, rfl⟩, Or.inl ⟨rfl, rfl⟩, ?_, ?_⟩
        · first | omega | (dsimp only; omega)
        · first | omega | (dsimp only; omega)
      · rw [if_neg e]
        refine wp_it rfl (wp_bs (in_at h3 (by rw [olds_len]; omega)) ?_)
        rw [olds_at hc (by omega), q, pk_m1]
        refine ih c kf (by omega) (by omega) (by omega) (by omega) (fun i hi1 hi2 => ?_)
        by_cases z : i = k
        · rw [z]
          exact e
        · exact hno i (by omega) hi2
    · rw [if_neg q]
      refine ih c kf (by omega) (by omega) (by omega) (by omega) (fun i hi1 hi2 => ?_)
      by_cases z : i = k
      · rw [z]
        exact fun e => q (by rw [e])
      · exact hno i (by omega) hi2
theorem nc_number (n : Nat) (sb : Int32) {T : List (List Int32)} {p : List Int32} {ts : Int32} {tn : Nat} {tf : Nat → Int32} {es : Int32} {en : Nat} {ef : Nat → Int32} {os : Int32} {on : Nat} {of nf : Nat → Int32} (h : NC T p ts tn tf es en ef os on of nf) (hb : T.flatten.length + p.length + T.length + 1 < 32768) (hn : 100000 ≤ n) : wp (p_Names_numberOfText n ts sb tn tf es en ef os on of 128 nf) (NP T p ts tn tf en on) := by
  have h0 := h
  obtain ⟨h1, h2, h3, h4, h5, h6⟩ := h
  have et : ts = nI (T.flatten.length + p.length) := by rw [h1.1, List.length_append]
  have es' : es = nI T.length := by rw [h2.1, offs_len]
  obtain ⟨r, hr, er⟩ := hc_lt p
  have row : p_Names_rowOf n (nI T.flatten.length) ts ts sb tn tf = some (hc p) := by
    unfold p_Names_rowOf
    have hs := h1.2.1
    rw [List.length_append] at hs
    rw [et]
    exact nc_row n sb (S := T.flatten.length + p.length) hs (by omega) p 0 T.flatten.length n (la_seg h1.2.2.2.2.1) (by omega) (by omega)
  unfold p_Names_numberOfText p_Ints_size
  refine wp_bs rfl ?_
  have fr : p_Names_from es ts sb es en ef = some (nI T.flatten.length) := by
    rw [es', ← es', es']
    have := nc_from h2 ts sb (Nat.le_refl T.length)
    rw [off_all (Nat.le_refl _)] at this
    rw [es'] at this
    exact this
  refine wp_bs fr (wp_bs row (wp_ck (by rw [er]; exact ixb_t hr (by omega)) (wp_bs rfl ?_)))
  have en1 : nf (hc p).toNatClampNeg = lastB hc T T.length (hc p) := by
    rw [er, nI_clamp (by omega), h4 r hr]
  rw [en1]
  have := nc_loop n sb h0 hb hn T.length T.length n (Nat.le_refl _) (Nat.le_refl _) (Nat.le_refl _) (by omega) (fun i a b => absurd b (by omega))
  rw [← es'] at this
  exact this
/-! ===== names forgotten ===== -/
theorem last_of {α : Type} {T : List α} {m : Nat} (h : T.length = m + 1) : ∃ U t, T = U ++ [t] ∧ U.length = m := by
  rcases List.eq_nil_or_concat T with e | ⟨U, t, e⟩
  · rw [e] at h
    cases h
  · rw [List.concat_eq_append] at e
    refine ⟨U, t, e, ?_⟩
    rw [e, List.length_append, List.length_singleton] at h
    omega
theorem nc_back (n : Nat) (sb ts : Int32) (hn : 100000 ≤ n) {tn : Nat} {tf : Nat → Int32} {en : Nat} {ef : Nat → Int32} {on : Nat} {of : Nat → Int32} {k : Nat} : ∀ (d : Nat) (T : List (List Int32)) (p : List Int32) (es os : Int32) (nf : Nat → Int32) (x : Int32) (kf : Nat), NC T p ts tn tf es en ef os on of nf → T.length = k + d → d < kf → ((T.length = 0 ∧ x = -1) ∨ ∃ m, T.length = m + 1 ∧ x = nI m) → wp (p_Names_forgetFrom_10 n (nI k) ts sb tn tf en ef on of 128 kf x os es nf) (fun (es', os', nf') => NC (T.take k) ((T.drop k).flatten ++ p) ts tn tf es' en ef os' on of nf') := by
  intro d
  induction d with
  | zero =>
    intro T p es os nf x kf h h1 h2 h3
    obtain ⟨kf, rfl⟩ : ∃ z, kf = z + 1 := ⟨kf - 1, by omega⟩
    have hb := h.2.2.2.2.1
    rw [p_Names_forgetFrom_10]
    have hx : x < nI k := by
      rcases h3 with ⟨e1, e2⟩ | ⟨m, e1, e2⟩
      · rw [e2]
        obtain rfl : k = 0 := by omega
        decide
      · rw [e2]
        exact nI_lt (by omega) (by omega)
    refine wp_it hx (wp_some ?_)
    dsimp only
    rw [List.take_of_length_le (by omega), List.drop_of_length_le (by omega)]
    exact h
  | succ d ih =>
    intro T p es os nf x kf h h1 h2 h3
    obtain ⟨kf, rfl⟩ : ∃ z, kf = z + 1 := ⟨kf - 1, by omega⟩
    obtain ⟨U, t, rfl, hU⟩ := last_of (T := T) (m := k + d) (by omega)
    obtain ⟨c1, c2, c3, c4, c5, c6⟩ := h
    have fl : (U ++ [t]).flatten = U.flatten ++ t := by simp
    rw [fl, List.length_append, List.length_append, List.length_singleton] at c5
    have ex : x = nI U.length := by
      rw [List.length_append, List.length_singleton] at h3
      rcases h3 with ⟨e1, _⟩ | ⟨m, e1, e2⟩
      · omega
      · rw [e2]
        congr 1
        omega
    have lU : U.length < (U ++ [t]).length := by rw [List.length_append, List.length_singleton]; omega
    have o1 : off (U ++ [t]) U.length = U.flatten.length := by rw [off_app (Nat.le_refl _), off_all (Nat.le_refl _)]
    have o2 : off (U ++ [t]) (U.length + 1) = U.flatten.length + t.length := by
      rw [off_all (by simp), fl, List.length_append]
    have f1 := nc_from c2 ts sb (k := U.length) (by omega)
    have f2 := nc_to c2 ts sb (k := U.length) (by omega)
    rw [o1] at f1
    rw [o2] at f2
    have c1' : BY (U.flatten ++ (t ++ p)) ts tn tf := by
      rw [← List.append_assoc, ← fl]
      exact c1
    have sg : seg t tf U.flatten.length := by
      have := seg_at (k := U.length) c1.2.2.2.2.1 lU
      rw [o1, gd_2 (Nat.le_refl _), Nat.sub_self] at this
      exact this
    have et : ts = nI (U.flatten.length + (t.length + p.length)) := by rw [c1'.1, List.length_append, List.length_append]
    have row : p_Names_rowOf n (nI U.flatten.length) (nI (U.flatten.length + t.length)) ts sb tn tf = some (hc t) := by
      unfold p_Names_rowOf
      have hs := c1'.2.1
      rw [List.length_append, List.length_append] at hs
      rw [et]
      exact nc_row n sb (S := U.flatten.length + (t.length + p.length)) hs (by omega) t 0 U.flatten.length n sg (by omega) (by omega)
    rw [olds_app] at c3
    rw [offs_app] at c2
    obtain ⟨p1, p2⟩ := in_pop c3
    obtain ⟨p3, p4⟩ := in_pop c2
    obtain ⟨r, hr, er⟩ := hc_lt t
    rw [p_Names_forgetFrom_10, ex]
    refine wp_if (nI_nlt (by omega) (by omega)) (wp_bs f1 (wp_bs f2 (wp_bs row (wp_bs p1 ?_))))
    dsimp only
    refine wp_ck (by rw [er]; exact ixb_t hr (by omega)) (wp_bs p3 ?_)
    dsimp only
    have N' : NC U (t ++ p) ts tn tf (nI (offs U).length) en ef (nI (olds hc U).length) on of (upd nf (hc t).toNatClampNeg (lastB hc U U.length (hc t))) := by
      refine ⟨c1', p4, p2, ?_, by rw [List.length_append]; omega, ?_⟩
      · intro q hq
        have c4q := c4 q hq
        rw [List.length_append, List.length_singleton, lastB, gd_2 (Nat.le_refl _), Nat.sub_self, lastB_app _ _ _ _ _ (Nat.le_refl _)] at c4q
        rw [er, nI_clamp (by omega)]
        by_cases e : q = r
        · subst e
          rw [pk_us]
        · rw [pk_un e, c4q, if_neg]
          intro z
          exact e ((nI_eq (by omega) (by omega)).mp ((show hc t = nI q from z).symm.trans er))
      · rw [List.nodup_append] at c6
        exact c6.1
    refine wp_mono (ih U (t ++ p) _ _ _ _ kf N' hU (by omega) ?_) ?_
    · rcases Nat.eq_zero_or_pos U.length with z | z
      · rw [z]
        exact Or.inl ⟨rfl, by decide⟩
      · obtain ⟨m, hm⟩ : ∃ m, U.length = m + 1 := ⟨U.length - 1, by omega⟩
        refine Or.inr ⟨m, hm, ?_⟩
        rw [hm, pk_m1]
    · rintro ⟨es', os', nf'⟩ q
      dsimp only at q ⊢
      rw [List.take_append_of_le_length (by omega), List.drop_append_of_le_length (by omega), List.flatten_append]
      have e1 : [t].flatten = t := by simp
      rw [e1, List.append_assoc]
      exact q
theorem nc_forget (n : Nat) (sb : Int32) (hn : 100000 ≤ n) {T : List (List Int32)} {p : List Int32} {ts : Int32} {tn : Nat} {tf : Nat → Int32} {es : Int32} {en : Nat} {ef : Nat → Int32} {os : Int32} {on : Nat} {of nf : Nat → Int32} (h : NC T p ts tn tf es en ef os on of nf) {k : Nat} (hk : k ≤ T.length) : wp (p_Names_forgetFrom n (nI k) ts sb tn tf es en ef os on of 128 nf) (fun (es', os', nf') => NC (T.take k) ((T.drop k).flatten ++ p) ts tn tf es' en ef os' on of nf') := by
  have hb := h.2.2.2.2.1
  have es' : es = nI T.length := by rw [h.2.1.1, offs_len]
  unfold p_Names_forgetFrom p_Ints_size
  refine wp_bs rfl ?_
  refine nc_back n sb ts hn (T.length - k) T p es os nf _ n h (by omega) (by omega) ?_
  rcases Nat.eq_zero_or_pos T.length with z | z
  · refine Or.inl ⟨z, ?_⟩
    rw [es', z]
    decide
  · obtain ⟨m, hm⟩ : ∃ m, T.length = m + 1 := ⟨T.length - 1, by omega⟩
    exact Or.inr ⟨m, hm, by rw [es', hm, nI_pred]⟩
/-! ===== the reference's names ===== -/
theorem nar_bok {x : Int32} (h : bok x) : vp_nar .byte x = x := by
  have := pk_vb x
  rw [show x.toInt8.toInt32 = x from h] at this
  exact this
def hmx (h : Int32) : Int32 := (h ^^^ ((h.toUInt32 >>> ((11 : Int32).toUInt32 &&& Int32.toUInt32 31)).toInt32)) &&& 1023
def hm (t : List Int32) : Int32 := hmx (t.foldl (fun h b => 31 * h + b) (nI t.length))
theorem hm_lt (t : List Int32) : ∃ r, r < 1024 ∧ hm t = nI r := pk_andE _ 10 (by decide)
def MN (T : List (List Int32)) (sz tx : Int32) (text from_ next first : Nat → Int32) : Prop :=
  sz = nI T.length ∧ tx = nI T.flatten.length ∧ la T.flatten text ∧ (∀ i, i ≤ T.length → from_ i = nI (off T i)) ∧ (∀ i, i < T.length → next i = lastB hm T i (hm (T.getD i []))) ∧ (∀ r, r < 1024 → first r = lastB hm T T.length (nI r)) ∧ T.flatten.length + T.length ≤ 80000
/-- a word that is to be named -/
def WD (w : List Int32) (wn : Nat) (wf : Nat → Int32) : Prop := w.length ≤ wn ∧ wn ≤ 4096 ∧ la w wf ∧ ∀ j, j < w.length → bok (wf j)
theorem mn_hash (n : Nat) (sz tx : Int32) (text from_ next first : Nat → Int32) {L wn : Nat} {wf : Nat → Int32} (hL : L ≤ wn) (hw : wn ≤ 4096) : ∀ (t : List Int32) (m : Int32) (i kf : Nat), seg t wf i → i + t.length = L → t.length < kf → p_MoNames_of_5 n (nI L) sz tx 90000 text 404301 from_ 404300 next 1024 first wn wf kf (nI i) m = p_MoNames_of_5 n (nI L) sz tx 90000 text 404301 from_ 404300 next 1024 first wn wf 1 (nI L) (t.foldl (fun h b => 31 * h + b) m) := by
  intro t
  induction t with
  | nil =>
    intro m i kf _ h1 h2
    rw [List.length_nil] at h1 h2
    obtain ⟨k, rfl⟩ : ∃ k, kf = k + 1 := ⟨kf - 1, by omega⟩
    obtain rfl : i = L := by omega
    rw [p_MoNames_of_5, if_pos (nI_le (Nat.le_refl _) (by omega)), p_MoNames_of_5, if_pos (nI_le (Nat.le_refl _) (by omega))]
    rfl
  | cons x t ih =>
    intro m i kf hs h1 h2
    rw [List.length_cons] at h1 h2
    obtain ⟨k, rfl⟩ : ∃ k, kf = k + 1 := ⟨kf - 1, by omega⟩
    obtain ⟨e1, e2⟩ := seg_cons hs
    conv => lhs; rw [p_MoNames_of_5]
    rw [if_neg (nI_ge (by omega) (by omega)), ck_t (ixb_t (by omega) (by omega)), nI_1, nI_clamp (by omega), e1, ih _ (i + 1) k e2 (by omega) (by omega)]
    rfl
theorem mn_cmp (n : Nat) {text from_ : Nat → Int32} {k o L wn : Nat} {wf : Nat → Int32} (hk : k < 404300) (ho : from_ k = nI o) (hoL : o + L ≤ 90000) (hL : L ≤ wn) (hw : wn ≤ 4096) : ∀ (u v : List Int32) (i kf : Nat), u.length = v.length → i + u.length = L → seg u text (o + i) → seg v wf i → u.length < kf → p_MoNames_same_24 n (nI k) (nI L) 90000 text 404301 from_ wn wf kf (nI i) = some (if u = v then 1 else 0) := by
  intro u
  induction u with
  | nil =>
    intro v i kf h1 h2 _ _ h5
    rw [List.length_nil] at h1 h2 h5
    obtain ⟨z, rfl⟩ : ∃ z, kf = z + 1 := ⟨kf - 1, by omega⟩
    obtain rfl : v = [] := List.eq_nil_of_length_eq_zero h1.symm
    rw [p_MoNames_same_24, if_pos (nI_le (by omega) (by omega)), if_pos rfl]
  | cons x u ih =>
    intro v i kf h1 h2 h3 h4 h5
    rw [List.length_cons] at h1 h2 h5
    obtain ⟨z, rfl⟩ : ∃ z, kf = z + 1 := ⟨kf - 1, by omega⟩
    cases v with
    | nil => rw [List.length_nil] at h1; omega
    | cons y v =>
      rw [List.length_cons] at h1
      obtain ⟨e1, e2⟩ := seg_cons h3
      obtain ⟨e3, e4⟩ := seg_cons h4
      rw [p_MoNames_same_24, if_neg (nI_ge (by omega) (by omega)), ck_t (ixb_t (by omega) (by omega)), nI_clamp (n := k) (by omega), ho, nI_add, ck_t (ixb_t (by omega) (by omega)), ck_t (ixb_t (by omega) (by omega)), nI_clamp (by omega), nI_clamp (by omega), e1, e3]
      by_cases q : x = y
      · subst q
        rw [if_pos rfl, nI_1, ih v (i + 1) z (by omega) (by omega) (by rw [show o + (i + 1) = o + i + 1 by omega]; exact e2) e4 (by omega)]
        by_cases q2 : u = v
        · rw [if_pos q2, if_pos (by rw [q2])]
        · rw [if_neg q2, if_neg (fun h => q2 (List.cons.inj h).2)]
      · rw [if_neg q, if_neg (fun h => q (List.cons.inj h).1)]
theorem la_seg0 {l : List Int32} {f : Nat → Int32} (h : la l f) : seg l f 0 := by
  intro j hj
  rw [Nat.zero_add]
  exact h j hj
theorem mn_same (n : Nat) {T : List (List Int32)} {sz tx : Int32} {text from_ next first : Nat → Int32} (h : MN T sz tx text from_ next first) {w : List Int32} {wn : Nat} {wf : Nat → Int32} (hw : WD w wn wf) (hn : 5000 ≤ n) {k : Nat} (hk : k < T.length) : p_MoNames_same n (nI k) (nI w.length) sz tx 90000 text 404301 from_ wn wf = some (if T.getD k [] = w then 1 else 0) := by
  obtain ⟨rfl, rfl, h3, h4, h5, h6, h7⟩ := h
  obtain ⟨w1, w2, w3, w4⟩ := hw
  have o1 := off_succ hk
  have o2 : off T (k + 1) ≤ off T T.length := off_le (by omega)
  rw [off_all (Nat.le_refl _)] at o2
  unfold p_MoNames_same
  rw [nI_1, ck_t (ixb_t (by omega) (by omega)), ck_t (ixb_t (by omega) (by omega)), nI_clamp (by omega), nI_clamp (by omega), h4 (k + 1) (by omega), h4 k (by omega), pk_sub (by omega), show off T (k + 1) - off T k = (T.getD k []).length by omega]
  by_cases q : (T.getD k []).length = w.length
  · rw [q, if_pos rfl]
    have s1 : seg (T.getD k []) text (off T k + 0) := by
      have h3' : la (T.flatten ++ []) text := by rw [List.append_nil]; exact h3
      exact seg_at h3' hk
    exact mn_cmp n (by omega) (h4 k (by omega)) (by omega) w1 w2 (T.getD k []) w 0 n q (by omega) s1 (la_seg0 w3) (by omega)
  · rw [if_neg (fun e => q ((nI_eq (by omega) (by omega)).mp e)), if_neg (fun e => q (by rw [e]))]
theorem mn_copy (n : Nat) (sz : Int32) (from_ next first : Nat → Int32) {o L wn : Nat} {wf : Nat → Int32} (x3 : Int32) (hL : L ≤ wn) (hw : wn ≤ 4096) (ho : o + L ≤ 90000) : ∀ (t : List Int32) (i kf : Nat) (f : Nat → Int32), seg t wf i → (∀ j, j < t.length → bok (wf (i + j))) → i + t.length = L → t.length < kf → ∃ g : Nat → Int32, p_MoNames_of_81 n (nI L) sz (nI o) 90000 404301 from_ 404300 next 1024 first wn wf x3 kf (nI i) f = p_MoNames_of_81 n (nI L) sz (nI o) 90000 404301 from_ 404300 next 1024 first wn wf x3 1 (nI L) g ∧ seg t g (o + i) ∧ ∀ j, j < o + i → g j = f j := by
  intro t
  induction t with
  | nil =>
    intro i kf f _ _ h1 h2
    rw [List.length_nil] at h1 h2
    obtain ⟨k, rfl⟩ : ∃ k, kf = k + 1 := ⟨kf - 1, by omega⟩
    obtain rfl : i = L := by omega
    refine ⟨f, ?_, fun j hj => absurd hj (Nat.not_lt_zero j), fun j _ => rfl⟩
    rw [p_MoNames_of_81, if_pos (nI_le (Nat.le_refl _) (by omega)), p_MoNames_of_81, if_pos (nI_le (Nat.le_refl _) (by omega))]
  | cons x t ih =>
    intro i kf f hs hb h1 h2
    rw [List.length_cons] at h1 h2
    obtain ⟨k, rfl⟩ : ∃ k, kf = k + 1 := ⟨kf - 1, by omega⟩
    obtain ⟨e1, e2⟩ := seg_cons hs
    have b0 := hb 0 (by rw [List.length_cons]; omega)
    rw [Nat.add_zero] at b0
    obtain ⟨g, g1, g2, g3⟩ := ih (i + 1) k (upd f (o + i) x) e2 (fun j hj => by
      have := hb (j + 1) (by rw [List.length_cons]; omega)
      rw [show i + (j + 1) = i + 1 + j by omega] at this
      exact this) (by omega) (by omega)
    refine ⟨g, ?_, ?_, ?_⟩
    · conv => lhs; rw [p_MoNames_of_81]
      rw [if_neg (nI_ge (by omega) (by omega)), ck_t (ixb_t (by omega) (by omega)), nI_add, ck_t (ixb_t (by omega) (by omega)), nI_1, nI_clamp (by omega), nI_clamp (by omega), nar_bok b0, e1]
      exact g1
    · intro j hj
      cases j with
      | zero =>
        rw [Nat.add_zero, g3 (o + i) (by omega), pk_us]
        rfl
      | succ j =>
        rw [show o + i + (j + 1) = o + (i + 1) + j by omega, g2 j (by rw [List.length_cons] at hj; omega)]
        rfl
    · intro j hj
      rw [g3 j (by omega), pk_un (by omega)]
/-- what naming a word gives -/
def MP (T : List (List Int32)) (w : List Int32) : Int32 × Int32 × Int32 × (Nat → Int32) × (Nat → Int32) × (Nat → Int32) × (Nat → Int32) → Prop :=
  fun (r, sz, tx, text, from_, next, first) => ∃ T', MN T' sz tx text from_ next first ∧ (∃ i, i < T'.length ∧ T'.getD i [] = w ∧ r = nI i) ∧ (T' = T ∨ (T' = T ++ [w] ∧ w ∉ T))
theorem mn_new (n : Nat) {T : List (List Int32)} {sz tx : Int32} {text from_ next first : Nat → Int32} (h : MN T sz tx text from_ next first) {w : List Int32} {wn : Nat} {wf : Nat → Int32} (hw : WD w wn wf) (hn : 5000 ≤ n) (hb : T.flatten.length + T.length + w.length + 1 ≤ 80000) (hnew : w ∉ T) : wp (p_MoNames_of_81 n (nI w.length) sz tx 90000 404301 from_ 404300 next 1024 first wn wf (w.foldl (fun h b => 31 * h + b) (nI w.length)) n (0 : Int32) text) (MP T w) := by
  obtain ⟨rfl, rfl, h3, h4, h5, h6, h7⟩ := h
  obtain ⟨w1, w2, w3, w4⟩ := hw
  obtain ⟨r, hr, er⟩ := hm_lt w
  have er' : hmx (w.foldl (fun h b => 31 * h + b) (nI w.length)) = nI r := er
  unfold hmx at er'
  obtain ⟨g, g1, g2, g3⟩ := mn_copy n (nI T.length) from_ next first (o := T.flatten.length) (w.foldl (fun h b => 31 * h + b) (nI w.length)) w1 w2 (by omega) w 0 n text (la_seg0 w3) (fun j hj => by rw [Nat.zero_add]; exact w4 j hj) (by omega) (by omega)
  rw [nI_0] at g1
  rw [g1, p_MoNames_of_81, if_pos (nI_le (Nat.le_refl _) (by omega)), er', ck_t (ixb_t hr (by omega)), ck_t (ixb_t (by omega) (by omega)), ck_t (ixb_t hr (by omega)), nI_1, ck_t (ixb_t (by omega) (by omega)), nI_pred, nI_add, nI_clamp (by omega), nI_clamp (by omega), nI_clamp (by omega)]
  refine wp_some ?_
  have fl : (T ++ [w]).flatten = T.flatten ++ w := by simp
  have ln : (T ++ [w]).length = T.length + 1 := by rw [List.length_append, List.length_singleton]
  refine ⟨T ++ [w], ⟨by rw [ln], by rw [fl, List.length_append], ?_, ?_, ?_, ?_, ?_⟩, ⟨T.length, by omega, ?_, rfl⟩, Or.inr ⟨rfl, hnew⟩⟩
  · rw [fl]
    intro j hj
    rw [List.length_append] at hj
    by_cases q : j < T.flatten.length
    · rw [g3 j (by omega), h3 j q, gd_1 q]
    · have := g2 (j - T.flatten.length) (by omega)
      rw [show T.flatten.length + 0 + (j - T.flatten.length) = j by omega] at this
      rw [this, gd_2 (by omega)]
  · intro i hi
    rw [ln] at hi
    by_cases q : i = T.length + 1
    · subst q
      rw [pk_us, off_all (by omega), fl, List.length_append]
    · rw [pk_un q, h4 i (by omega), off_app (by omega)]
  · intro i hi
    rw [ln] at hi
    by_cases q : i = T.length
    · subst q
      rw [pk_us, h6 r hr, gd_2 (Nat.le_refl _), Nat.sub_self, lastB_app _ _ _ _ _ (Nat.le_refl _), ← er]
      rfl
    · rw [pk_un q, h5 i (by omega), gd_1 (by omega), lastB_app _ _ _ _ _ (by omega)]
  · intro q hq
    rw [ln, lastB, gd_2 (Nat.le_refl _), Nat.sub_self, lastB_app _ _ _ _ _ (Nat.le_refl _), show [w].getD 0 [] = w from rfl]
    by_cases e : q = r
    · subst e
      rw [pk_us, if_pos (show hm w = nI q from er)]
    · rw [pk_un e, h6 q hq, if_neg (fun z => e ((nI_eq (by omega) (by omega)).mp ((show hm w = nI q from z).symm.trans er)))]
  · rw [fl, ln, List.length_append]
    omega
  · rw [gd_2 (Nat.le_refl _), Nat.sub_self]
    rfl
theorem mn_loop (n : Nat) {T : List (List Int32)} {sz tx : Int32} {text from_ next first : Nat → Int32} (h : MN T sz tx text from_ next first) {w : List Int32} {wn : Nat} {wf : Nat → Int32} (hw : WD w wn wf) (hn : 100000 ≤ n) (hb : T.flatten.length + T.length + w.length + 1 ≤ 80000) : ∀ (k kf : Nat), k ≤ T.length → k < kf → (∀ i, k ≤ i → i < T.length → T.getD i [] ≠ w) → wp (p_MoNames_of_46 n (nI w.length) sz tx 90000 text 404301 from_ 404300 next 1024 first wn wf (w.foldl (fun h b => 31 * h + b) (nI w.length)) kf (lastB hm T k (hm w))) (MP T w) := by
  intro k
  induction k with
  | zero =>
    intro kf _ hk hno
    obtain ⟨kf, rfl⟩ : ∃ z, kf = z + 1 := ⟨kf - 1, by omega⟩
    have hp : w ∉ T := fun hm' => by
      obtain ⟨i, hi, e⟩ := List.mem_iff_getElem.mp hm'
      exact hno i (Nat.zero_le _) hi (by rw [List.getD_eq_getElem?_getD, List.getElem?_eq_getElem hi, e]; rfl)
    rw [p_MoNames_of_46]
    exact wp_it rfl (mn_new n h hw (by omega) hb hp)
  | succ k ih =>
    intro kf hk1 hk2 hno
    rw [lastB]
    by_cases q : hm (T.getD k []) = hm w
    · rw [if_pos q]
      obtain ⟨kf, rfl⟩ : ∃ z, kf = z + 1 := ⟨kf - 1, by omega⟩
      rw [p_MoNames_of_46]
      have hne : ¬ nI k = -1 := fun e => by
        have : nI k < 0 := by rw [e]; decide
        exact nI_pos (by omega) this
      refine wp_if hne (wp_bs (mn_same n h hw (by omega) (by omega)) ?_)
      by_cases e : T.getD k [] = w
      · rw [if_pos e]
        exact wp_if (by decide) (wp_some ⟨T, h, ⟨k, by omega, e, rfl⟩, Or.inl rfl⟩)
      · rw [if_neg e]
        refine wp_it rfl (wp_ck (ixb_t (by omega) (by omega)) ?_)
        rw [nI_clamp (by omega), h.2.2.2.2.1 k (by omega), q]
        refine ih kf (by omega) (by omega) (fun i hi1 hi2 => ?_)
        by_cases z : i = k
        · rw [z]
          exact e
        · exact hno i (by omega) hi2
    · rw [if_neg q]
      refine ih kf (by omega) (by omega) (fun i hi1 hi2 => ?_)
      by_cases z : i = k
      · rw [z]
        exact fun e => q (by rw [e])
      · exact hno i (by omega) hi2
theorem mn_of (n : Nat) {T : List (List Int32)} {sz tx : Int32} {text from_ next first : Nat → Int32} (h : MN T sz tx text from_ next first) {w : List Int32} {wn : Nat} {wf : Nat → Int32} (hw : WD w wn wf) (hn : 100000 ≤ n) (hb : T.flatten.length + T.length + w.length + 1 ≤ 80000) : wp (p_MoNames_of n (nI w.length) sz tx 90000 text 404301 from_ 404300 next 1024 first wn wf) (MP T w) := by
  obtain ⟨r, hr, er⟩ := hm_lt w
  have er' : hmx (w.foldl (fun h b => 31 * h + b) (nI w.length)) = nI r := er
  unfold hmx at er'
  unfold p_MoNames_of
  have := mn_hash n sz tx text from_ next first (L := w.length) hw.1 hw.2.1 w (nI w.length) 0 n (la_seg0 hw.2.2.1) (by omega) (by have := hw.1; have := hw.2.1; omega)
  rw [nI_0] at this
  rw [this, p_MoNames_of_5, if_pos (nI_le (Nat.le_refl _) (by have := hw.1; have := hw.2.1; omega)), er', ck_t (ixb_t hr (by omega)), nI_clamp (by omega), h.2.2.2.2.2.1 r hr, ← er]
  exact mn_loop n h hw hn hb T.length n (Nat.le_refl _) (by omega) (fun i a b => absurd b (by omega))
/-! ===== what stands on a tape ===== -/
def cB (b : Int32) : Bool := b == 9 || b == 10 || b == 13 || b == 32
def cD (b : Int32) : Bool := decide (48 ≤ b) && decide (b ≤ 57)
def cS (b : Int32) : Bool := decide (97 ≤ b) && decide (b ≤ 122)
def cG (b : Int32) : Bool := (decide (65 ≤ b) && decide (b ≤ 90)) || b == 95
def cW (b : Int32) : Bool := cS b || cG b || cD b
def cY (b : Int32) : Bool := [43, 45, 42, 47, 92, 94, 60, 62, 61, 126, 58, 46, 63, 64, 35, 38, 36].contains b
def cM (b : Int32) : Bool := [40, 41, 91, 93, 123, 125, 44, 124].contains b
def cQ (b : Int32) : Bool := decide (32 ≤ b) && decide (b ≤ 126)
theorem bok_u {b : Int32} (h : bok b) : ∃ u, u < 256 ∧ b = (nI u).toInt8.toInt32 := by
  have e : b.toInt = b.toInt.bmod (2 ^ 8) := by
    have := lg_i2b_toInt b
    rw [show b.toInt8.toInt32 = b from h] at this
    exact this
  have p1 : 0 ≤ b.toInt % 256 := Int.emod_nonneg _ (by decide)
  have p2 : b.toInt % 256 < 256 := Int.emod_lt_of_pos _ (by decide)
  refine ⟨(b.toInt % 256).toNat, by omega, ?_⟩
  apply Int32.toInt_inj.mp
  rw [lg_i2b_toInt, nI_toInt (by omega), Int.toNat_of_nonneg p1, show ((2 : Nat) ^ 8) = 256 from rfl, show (256 : Int) = ((256 : Nat) : Int) from rfl, Int.emod_bmod]
  exact e
theorem all_b (P : Int32 → Prop) (h : ∀ u, u < 256 → P (nI u).toInt8.toInt32) {b : Int32} (hb : bok b) : P b := by
  obtain ⟨u, hu, e⟩ := bok_u hb
  rw [e]
  exact h u hu
def b1 (x : Bool) : Int32 := if x then 1 else 0
set_option maxRecDepth 100000 in
theorem let_B {b : Int32} (hb : bok b) : p_Letters_isBlank (b &&& 255) = some (b1 (cB b)) := all_b (fun b => p_Letters_isBlank (b &&& 255) = some (b1 (cB b))) (by decide +kernel) hb
set_option maxRecDepth 100000 in
theorem let_D {b : Int32} (hb : bok b) : p_Letters_isDigit (b &&& 255) = some (b1 (cD b)) := all_b (fun b => p_Letters_isDigit (b &&& 255) = some (b1 (cD b))) (by decide +kernel) hb
set_option maxRecDepth 100000 in
theorem let_S {b : Int32} (hb : bok b) : p_Letters_isSmall (b &&& 255) = some (b1 (cS b)) := all_b (fun b => p_Letters_isSmall (b &&& 255) = some (b1 (cS b))) (by decide +kernel) hb
set_option maxRecDepth 100000 in
theorem let_G {b : Int32} (hb : bok b) : p_Letters_beginsVariable (b &&& 255) = some (b1 (cG b)) := all_b (fun b => p_Letters_beginsVariable (b &&& 255) = some (b1 (cG b))) (by decide +kernel) hb
set_option maxRecDepth 100000 in
theorem let_W {b : Int32} (hb : bok b) : p_Letters_isOfWord (b &&& 255) = some (b1 (cW b)) := all_b (fun b => p_Letters_isOfWord (b &&& 255) = some (b1 (cW b))) (by decide +kernel) hb
set_option maxRecDepth 100000 in
theorem let_Y {b : Int32} (hb : bok b) : p_Letters_isSymbol pure_n (b &&& 255) = some (b1 (cY b)) := all_b (fun b => p_Letters_isSymbol pure_n (b &&& 255) = some (b1 (cY b))) (by decide +kernel) hb
set_option maxRecDepth 100000 in
theorem let_M {b : Int32} (hb : bok b) : p_Letters_isMark pure_n (b &&& 255) = some (b1 (cM b)) := all_b (fun b => p_Letters_isMark pure_n (b &&& 255) = some (b1 (cM b))) (by decide +kernel) hb
set_option maxRecDepth 100000 in
theorem let_Q {b : Int32} (hb : bok b) : p_Letters_isQuotable (b &&& 255) = some (b1 (cQ b)) := all_b (fun b => p_Letters_isQuotable (b &&& 255) = some (b1 (cQ b))) (by decide +kernel) hb
/-- a byte against a sign below 128 -/
theorem and_eq {b : Int32} (hb : bok b) : ∀ v, v < 128 → ((b &&& 255 = nI v) ↔ b = nI v) := all_b (fun b => ∀ v, v < 128 → ((b &&& 255 = nI v) ↔ b = nI v)) (by decide +kernel) hb
/-! signs, by what is left of the tape -/
def sk : Bool → List Int32 → Nat
  | _, [] => 0
  | true, b :: t => 1 + sk (b != 10) t
  | false, b :: t => if b = 37 then 1 + sk true t else if cB b then 1 + sk false t else 0
def tw (p : Int32 → Bool) : List Int32 → Nat
  | [] => 0
  | b :: t => if p b then 1 + tw p t else 0
theorem sk_le : ∀ (t : List Int32) (c : Bool), sk c t ≤ t.length := by
  intro t
  induction t with
  | nil => intro c; cases c <;> exact Nat.le_refl _
  | cons b t ih =>
    intro c
    rw [List.length_cons]
    cases c with
    | true =>
      have := ih (b != 10)
      show 1 + sk (b != 10) t ≤ _
      omega
    | false =>
      rw [sk]
      have h1 := ih true
      have h2 := ih false
      by_cases q : b = 37
      · rw [if_pos q]
        omega
      · rw [if_neg q]
        by_cases q2 : cB b = true
        · rw [if_pos q2]
          omega
        · rw [if_neg q2]
          omega
theorem tw_le (p : Int32 → Bool) : ∀ (t : List Int32), tw p t ≤ t.length := by
  intro t
  induction t with
  | nil => exact Nat.le_refl _
  | cons b t ih =>
    rw [tw, List.length_cons]
    by_cases q : p b = true
    · rw [if_pos q]
      omega
    · rw [if_neg q]
      omega
theorem drop_c {l t : List Int32} {b : Int32} {i : Nat} (h : l.drop i = b :: t) : i < l.length ∧ l.getD i 0 = b ∧ l.drop (i + 1) = t := by
  have hl : i < l.length := by
    rcases Nat.lt_or_ge i l.length with q | q
    · exact q
    · rw [List.drop_of_length_le q] at h
      cases h
  rw [List.drop_eq_getElem_cons hl] at h
  injection h with h1 h2
  refine ⟨hl, ?_, h2⟩
  rw [List.getD_eq_getElem?_getD, List.getElem?_eq_getElem hl, ← h1]
  rfl
theorem drop_n {l : List Int32} {i : Nat} (h : l.drop i = []) : l.length ≤ i := by
  rcases Nat.lt_or_ge i l.length with q | q
  · rw [List.drop_eq_getElem_cons q] at h
    cases h
  · exact q
theorem by_at {l : List Int32} {s : Int32} {N : Nat} {f : Nat → Int32} (h : BY l s N f) {j : Nat} (hj : j < l.length) : p_Bytes_at (nI j) s N f = some (l.getD j 0 &&& 255) ∧ bok (l.getD j 0) := by
  obtain ⟨rfl, h1, h2, h3, h4, h5⟩ := h
  have := h5 j hj
  rw [h4 j hj] at this
  refine ⟨?_, this⟩
  unfold p_Bytes_at
  rw [if_neg (nI_pos (by omega)), if_neg (nI_ge hj (by omega)), ck_t (ixb_t (by omega) (by omega)), nI_clamp (by omega), h4 j hj]
theorem by_at0 {l : List Int32} {s : Int32} {N : Nat} {f : Nat → Int32} (h : BY l s N f) {j : Nat} (hj : l.length ≤ j) (hj2 : j < 2147483648) : p_Bytes_at (nI j) s N f = some 0 := by
  obtain ⟨rfl, h1, h2, h3, h4, h5⟩ := h
  unfold p_Bytes_at
  rw [if_neg (nI_pos (by omega)), if_pos (nI_le hj (by omega))]
theorem b1_f {x : Bool} : ¬ (b1 x = 0) ↔ x = true := by
  cases x
  · decide
  · decide
theorem cl_skip {l : List Int32} {s : Int32} {N : Nat} {f : Nat → Int32} (h : BY l s N f) : ∀ (t : List Int32) (i kf : Nat) (c : Bool), l.drop i = t → i ≤ l.length → t.length < kf → p_Signs_firstNotBlank_4 pure_n s N f kf (nI i) (b1 c) = some (nI (i + sk c t)) := by
  have hN := h.2.2.2.1
  have hl := h.2.1
  have hs := h.1
  intro t
  induction t with
  | nil =>
    intro i kf c hd hi hk
    rw [List.length_nil] at hk
    obtain ⟨k, rfl⟩ : ∃ k, kf = k + 1 := ⟨kf - 1, by omega⟩
    have := drop_n hd
    obtain rfl : i = l.length := by omega
    rw [p_Signs_firstNotBlank_4]
    unfold p_Bytes_size
    rw [Option.bind_some, hs, if_pos (nI_le (Nat.le_refl _) (by omega)), Option.bind_some]
    cases c <;> rfl
  | cons b t ih =>
    intro i kf c hd hi hk
    rw [List.length_cons] at hk
    obtain ⟨k, rfl⟩ : ∃ k, kf = k + 1 := ⟨kf - 1, by omega⟩
    obtain ⟨e1, e2, e3⟩ := drop_c hd
    obtain ⟨a1, a2⟩ := by_at h e1
    rw [e2] at a1 a2
    have next : ∀ c', p_Signs_firstNotBlank_4 pure_n s N f k (nI i + 1) (b1 c') = some (nI (i + (1 + sk c' t))) := fun c' => by
      rw [nI_1, ih (i + 1) k c' e3 (by omega) (by omega)]
      congr 2
      omega
    rw [p_Signs_firstNotBlank_4]
    unfold p_Bytes_size
    rw [Option.bind_some, if_neg (by rw [hs]; exact nI_ge e1 (by omega)), a1, Option.bind_some]
    cases c with
    | true =>
      rw [if_neg (show ¬ b1 true = 0 by decide)]
      by_cases q : b = 10
      · rw [if_pos (show b &&& 255 = 10 from (and_eq a2 10 (by decide)).mpr q)]
        have := next false
        rw [show sk true (b :: t) = 1 + sk false t by rw [sk, q]; rfl]
        exact this
      · rw [if_neg (show ¬ b &&& 255 = 10 from fun z => q ((and_eq a2 10 (by decide)).mp z))]
        have := next true
        rw [show sk true (b :: t) = 1 + sk true t by rw [sk, show (b != 10) = true from bne_iff_ne.mpr q]]
        exact this
    | false =>
      rw [if_pos (show b1 false = 0 by decide), sk]
      by_cases q : b = 37
      · rw [if_pos (show b &&& 255 = 37 from (and_eq a2 37 (by decide)).mpr q), if_pos q]
        exact next true
      · rw [if_neg (show ¬ b &&& 255 = 37 from fun z => q ((and_eq a2 37 (by decide)).mp z)), if_neg q, let_B a2, Option.bind_some]
        by_cases q2 : cB b = true
        · rw [if_neg (b1_f.mpr q2), if_pos q2]
          exact next false
        · rw [if_pos (by rw [eq_false_of_ne_true q2]; rfl), if_neg q2]
          rfl
theorem cl_word {l : List Int32} {s : Int32} {N : Nat} {f : Nat → Int32} (h : BY l s N f) : ∀ (t : List Int32) (i kf : Nat), l.drop i = t → i ≤ l.length → t.length < kf → p_Signs_wordEnd_5 pure_n s N f kf (nI i) = some (nI (i + tw cW t)) := by
  have hN := h.2.2.2.1
  have hl := h.2.1
  have hs := h.1
  intro t
  induction t with
  | nil =>
    intro i kf hd hi hk
    rw [List.length_nil] at hk
    obtain ⟨k, rfl⟩ : ∃ k, kf = k + 1 := ⟨kf - 1, by omega⟩
    have := drop_n hd
    obtain rfl : i = l.length := by omega
    rw [p_Signs_wordEnd_5]
    unfold p_Bytes_size
    rw [Option.bind_some, hs, if_pos (nI_le (Nat.le_refl _) (by omega))]
    rfl
  | cons b t ih =>
    intro i kf hd hi hk
    rw [List.length_cons] at hk
    obtain ⟨k, rfl⟩ : ∃ k, kf = k + 1 := ⟨kf - 1, by omega⟩
    obtain ⟨e1, e2, e3⟩ := drop_c hd
    obtain ⟨a1, a2⟩ := by_at h e1
    rw [e2] at a1 a2
    rw [p_Signs_wordEnd_5]
    unfold p_Bytes_size
    rw [Option.bind_some, if_neg (by rw [hs]; exact nI_ge e1 (by omega)), a1, Option.bind_some, let_W a2, Option.bind_some, tw]
    by_cases q2 : cW b = true
    · rw [if_neg (b1_f.mpr q2), if_pos q2, nI_1, ih (i + 1) k e3 (by omega) (by omega)]
      congr 2
      omega
    · rw [if_pos (by rw [eq_false_of_ne_true q2]; rfl), if_neg q2]
      rfl
/-! ===== the class's signs ===== -/
set_option maxRecDepth 100000 in
theorem bok_and {b : Int32} (hb : bok b) : (b &&& 255).toInt8.toInt32 = b := all_b (fun b => (b &&& 255).toInt8.toInt32 = b) (by decide +kernel) hb
theorem pure_ge : 100000 ≤ pure_n := by decide
/-- a name that was taken: w, which ends at e -/
def TN (T : List (List Int32)) (w : List Int32) (kd : Int32) (e tn en on : Nat) : (Int32 × Int32 × Int32 × Int32 × Nat × (Nat → Int32) × Int32 × Nat × (Nat → Int32) × Int32 × Nat × (Nat → Int32) × (Nat → Int32)) × Nat × Nat → Prop :=
  fun ((kind, behind, name, ts', tn', tf', es', en', ef', os', on', of', nf'), mq, sk) => kind = kd ∧ behind = nI e ∧ ∃ T' p', NC T' p' ts' tn' tf' es' en' ef' os' on' of' nf' ∧ (∃ j, j < T'.length ∧ T'.getD j [] = w ∧ name = nI j) ∧ (T' = T ∨ T' = T ++ [w]) ∧ p'.length ≤ w.length ∧ (64 * mq + (tn + en + on) ≤ tn' + en' + on' ∧ sk + 2 * (tn + en + on) ≤ 2 * (tn' + en' + on'))
theorem cl_take (k0 p0 b0 q0 sb : Int32) (num : Int64) {l : List Int32} {s : Int32} {N : Nat} {f : Nat → Int32} (hB : BY l s N f) {T : List (List Int32)} {es : Int32} {en : Nat} {ef : Nat → Int32} {os : Int32} {on : Nat} {of nf : Nat → Int32} : ∀ (t : List Int32) (i kf e : Nat) (p : List Int32) (ts : Int32) (tn : Nat) (tf : Nat → Int32), (∀ j, j < t.length → l.getD (i + j) 0 = t.getD j 0) → i + t.length = e → e ≤ l.length → NC T p ts tn tf es en ef os on of nf → T.flatten.length + p.length + t.length + T.length + 1 < 32768 → t.length < kf → wp (p_Signs_takeName_12 pure_n (nI e) k0 p0 b0 q0 num s N f sb es en ef os on of 128 nf kf (nI i) ts tn tf) (TN T (p ++ t) 3 e tn en on) := by
  have hN := hB.2.2.2.1
  have hl := hB.2.1
  intro t
  induction t with
  | nil =>
    intro i kf e p ts tn tf _ h2 h3 h4 h5 h6
    rw [List.length_nil] at h2 h5 h6
    obtain ⟨k, rfl⟩ : ∃ k, kf = k + 1 := ⟨kf - 1, by omega⟩
    rw [p_Signs_takeName_12]
    refine wp_it (nI_le (by omega) (by omega)) (wp_bind (nc_number pure_n sb h4 (by omega) pure_ge) ?_)
    rintro ⟨⟨r, es', en', ef', os', on', of', nf'⟩, mq, sk⟩ ⟨T', p', a1, a2, a3, a4, a5⟩
    dsimp only at a1 a2 a3 a4 a5 ⊢
    refine wp_al ?_
    unfold p_Signs_takeTo
    refine wp_bs rfl (wp_some ?_)
    rw [List.append_nil]
    refine ⟨rfl, rfl, T', p', a1, a2, ?_, ?_, ?_, ?_⟩
    · rcases a3 with ⟨q, _⟩ | ⟨q, _⟩
      · exact Or.inl q
      · exact Or.inr q
    · rcases a3 with ⟨_, q⟩ | ⟨_, q⟩
      · rw [q]
        exact Nat.le_refl _
      · rw [q, List.length_nil]
        omega
    · first | omega | (dsimp only; omega)
    · first | omega | (dsimp only; omega)
  | cons x t ih =>
    intro i kf e p ts tn tf h1 h2 h3 h4 h5 h6
    rw [List.length_cons] at h2 h5 h6
    obtain ⟨k, rfl⟩ : ∃ k, kf = k + 1 := ⟨kf - 1, by omega⟩
    have hx : l.getD i 0 = x := h1 0 (by rw [List.length_cons]; omega)
    obtain ⟨a1, a2⟩ := by_at hB (j := i) (by omega)
    rw [hx] at a1 a2
    rw [p_Signs_takeName_12]
    refine wp_if (nI_ge (by omega) (by omega)) (wp_bs a1 (wp_bind (nc_add (x &&& 255) h4 (by omega) sb) ?_))
    rintro ⟨⟨ts', tn', tf'⟩, mq, sk⟩ ⟨b1', b2, b3⟩
    dsimp only at b1' b2 b3 ⊢
    rw [bok_and a2] at b1'
    refine wp_al ?_
    rw [nI_1]
    refine wp_mono (ih (i + 1) k e (p ++ [x]) ts' tn' tf' (fun j hj => ?_) (by omega) h3 b1' (by rw [List.length_append, List.length_singleton]; omega) (by omega)) ?_
    · have := h1 (j + 1) (by rw [List.length_cons]; omega)
      rw [show i + (j + 1) = i + 1 + j by omega] at this
      exact this
    · rintro ⟨⟨kind, behind, name, ts2, tn2, tf2, es2, en2, ef2, os2, on2, of2, nf2⟩, mk2, sk2⟩ ⟨c1, c2, T', p', c3, c4, c5, c6, c7, c8⟩
      dsimp only at c1 c2 c3 c4 c5 c6 c7 c8 ⊢
      rw [List.append_assoc, List.singleton_append] at c4 c5 c6
      refine ⟨c1, c2, T', p', c3, c4, c5, c6, ?_, ?_⟩
      · first | omega | (dsimp only; omega)
      · first | omega | (dsimp only; omega)
theorem cl_name (k0 p0 b0 q0 n0 sb : Int32) (num : Int64) {l : List Int32} {s : Int32} {N : Nat} {f : Nat → Int32} (hB : BY l s N f) {T : List (List Int32)} {p : List Int32} {ts : Int32} {tn : Nat} {tf : Nat → Int32} {es : Int32} {en : Nat} {ef : Nat → Int32} {os : Int32} {on : Nat} {of nf : Nat → Int32} (h : NC T p ts tn tf es en ef os on of nf) {i e : Nat} (hi : i ≤ e) (he : e ≤ l.length) (hb : T.flatten.length + (e - i) + T.length + 1 < 32768) : wp (p_Signs_takeName pure_n (nI e) k0 (nI i) b0 q0 n0 num s N f ts sb tn tf es en ef os on of 128 nf) (TN T ((l.drop i).take (e - i)) 3 e tn en on) := by
  unfold p_Signs_takeName
  obtain ⟨s1, s2⟩ := nc_start h sb
  refine wp_bs s1 ?_
  have lt : ((l.drop i).take (e - i)).length = e - i := by rw [List.length_take, List.length_drop]; omega
  have := cl_take k0 (nI i) b0 q0 sb num hB ((l.drop i).take (e - i)) i pure_n e [] (nI T.flatten.length) tn tf (fun j hj => ?_) (by omega) he s2 (by rw [List.length_nil, lt]; omega) (by have := pure_ge; omega)
  · rw [List.nil_append] at this
    exact this
  · rw [lt] at hj
    rw [List.getD_eq_getElem?_getD, List.getD_eq_getElem?_getD, List.getElem?_take_of_lt hj, List.getElem?_drop]
/-! numbers: held at 2 ^ 53 -/
def dg (b : Int32) : Nat := (b.toInt - 48).toNat
def dv : Nat → List Int32 → Nat
  | c, [] => c
  | c, b :: t => if cD b then dv (min (c * 10 + dg b) 9007199254740992) t else c
set_option maxRecDepth 100000 in
theorem dg_u {b : Int32} (hb : bok b) : cD b = true → (b &&& 255 = nI (dg b + 48) ∧ b = nI (dg b + 48) ∧ dg b < 10) := all_b (fun b => cD b = true → (b &&& 255 = nI (dg b + 48) ∧ b = nI (dg b + 48) ∧ dg b < 10)) (by decide +kernel) hb
theorem lN_add' (a b : Nat) : lN a + lN b = lN (a + b) := (Int64.ofNat_add a b).symm
theorem lN_mul' (a b : Nat) : lN a * lN b = lN (a * b) := (Int64.ofNat_mul a b).symm
theorem lN_sub' {a b : Nat} (h : b ≤ a) : lN a - lN b = lN (a - b) := by
  obtain ⟨c, rfl⟩ : ∃ c, a = c + b := ⟨a - b, by omega⟩
  rw [← lN_add', Int64.add_sub_cancel, Nat.add_sub_cancel]
theorem cl_int (k0 p0 b0 q0 n0 : Int32) {l : List Int32} {s : Int32} {N : Nat} {f : Nat → Int32} (hB : BY l s N f) : ∀ (t : List Int32) (i kf c : Nat), l.drop i = t → i ≤ l.length → t.length < kf → c ≤ 9007199254740992 → p_Signs_takeInteger_10 pure_n k0 p0 b0 q0 n0 s N f kf (nI i) (lN c) = some (if dv c t < 9007199254740992 then 2 else 6, nI (i + tw cD t), lN (dv c t)) := by
  have hN := hB.2.2.2.1
  have hl := hB.2.1
  have hs := hB.1
  have ed : ∀ (i c : Nat), c ≤ 9007199254740992 → (if (lg_cmp (lN c) 9007199254740991) ≤ 0 then ((p_Signs_takeTo (2 : Int32) (nI i) k0 p0 b0 q0 n0 (lN c)).bind (fun (a_kind_5, a_behind_5) => some (a_kind_5, a_behind_5, lN c))) else ((p_Signs_takeTo (6 : Int32) (nI i) k0 p0 b0 q0 n0 (lN c)).bind (fun (a_kind_6, a_behind_6) => some (a_kind_6, a_behind_6, lN c)))) = some (if c < 9007199254740992 then (2 : Int32) else 6, nI i, lN c) := fun i c hc' => by
    unfold p_Signs_takeTo
    have e : ((lg_cmp (lN c) 9007199254740991) ≤ 0) ↔ c < 9007199254740992 := by
      rw [lg_cmp_le]
      have := pk_lLE (a := c) (b := 9007199254740991) (by omega) (by omega)
      have e2 : (9007199254740991 : Int64) = lN 9007199254740991 := rfl
      rw [e2, this]
      omega
    by_cases q : c < 9007199254740992
    · rw [if_pos (e.mpr q), if_pos q]
      rfl
    · rw [if_neg (fun z => q (e.mp z)), if_neg q]
      rfl
  intro t
  induction t with
  | nil =>
    intro i kf c hd hi hk hc'
    rw [List.length_nil] at hk
    obtain ⟨k, rfl⟩ : ∃ k, kf = k + 1 := ⟨kf - 1, by omega⟩
    have := drop_n hd
    obtain rfl : i = l.length := by omega
    rw [p_Signs_takeInteger_10]
    unfold p_Bytes_size
    rw [Option.bind_some, hs, if_pos (nI_le (Nat.le_refl _) (by omega)), ed _ _ hc']
    rfl
  | cons b t ih =>
    intro i kf c hd hi hk hc'
    rw [List.length_cons] at hk
    obtain ⟨k, rfl⟩ : ∃ k, kf = k + 1 := ⟨kf - 1, by omega⟩
    obtain ⟨e1, e2, e3⟩ := drop_c hd
    obtain ⟨a1, a2⟩ := by_at hB e1
    rw [e2] at a1 a2
    rw [p_Signs_takeInteger_10]
    unfold p_Bytes_size
    rw [Option.bind_some, if_neg (by rw [hs]; exact nI_ge e1 (by omega)), a1, Option.bind_some, let_D a2, Option.bind_some, tw, dv]
    by_cases q2 : cD b = true
    · obtain ⟨u1, u2, u3⟩ := dg_u a2 q2
      rw [if_neg (b1_f.mpr q2), if_pos q2, if_pos q2, Option.bind_some, u1, nI_l (by omega), nI_1]
      have en : lN c * 10 + lN (dg b + 48) - 48 = lN (c * 10 + dg b) := by
        have e10 : (10 : Int64) = lN 10 := rfl
        have e48 : (48 : Int64) = lN 48 := rfl
        rw [e10, e48, lN_mul', lN_add', lN_sub' (by omega)]
        congr 1
      rw [en]
      have em : (if 9007199254740992 < lN (c * 10 + dg b) then (9007199254740992 : Int64) else lN (c * 10 + dg b)) = lN (min (c * 10 + dg b) 9007199254740992) := by
        have e53 : (9007199254740992 : Int64) = lN 9007199254740992 := rfl
        by_cases q : 9007199254740992 < c * 10 + dg b
        · rw [if_pos (by rw [e53]; exact (pk_lLT (by omega) (by omega)).mpr q), Nat.min_eq_right (by omega)]
          rfl
        · rw [if_neg (fun z => q (by rw [e53] at z; exact (pk_lLT (by omega) (by omega)).mp z)), Nat.min_eq_left (by omega)]
      rw [em, ih (i + 1) k _ e3 (by omega) (by omega) (Nat.min_le_right _ _)]
      rw [show i + 1 + tw cD t = i + (1 + tw cD t) by omega]
    · rw [if_pos (by rw [eq_false_of_ne_true q2]; rfl), if_neg q2, if_neg q2, ed _ _ hc']
      rfl
/-! ===== the class's signs: quoted names ===== -/
def qt : Nat → List Int32 → Option (List Int32 × Nat)
  | 0, _ => none
  | _ + 1, [] => none
  | k + 1, b :: t => if cQ b then (if b = 39 then (match t with
    | [] => some ([], 1)
    | c :: t2 => if c = 39 then (qt k t2).map (fun z => (39 :: z.1, z.2 + 2)) else some ([], 1)) else (qt k t).map (fun z => (b :: z.1, z.2 + 1))) else none
theorem qt_c (k : Nat) (b : Int32) (t : List Int32) : qt (k + 1) (b :: t) = if cQ b then (if b = 39 then (match t with
    | [] => some ([], 1)
    | c :: t2 => if c = 39 then (qt k t2).map (fun z => (39 :: z.1, z.2 + 2)) else some ([], 1)) else (qt k t).map (fun z => (b :: z.1, z.2 + 1))) else none := by
  rw [qt.eq_def]
/-- what a quoted name leaves -/
def QP (T : List (List Int32)) (p : List Int32) (kd bh n0 : Int32) (i L tn en on : Nat) (o : Option (List Int32 × Nat)) : (Int32 × Int32 × Int32 × Int32 × Nat × (Nat → Int32) × Int32 × Nat × (Nat → Int32) × Int32 × Nat × (Nat → Int32) × (Nat → Int32)) × Nat × Nat → Prop :=
  fun ((kind, behind, name, ts', tn', tf', es', en', ef', os', on', of', nf'), mq, sk) => (64 * mq + (tn + en + on) ≤ tn' + en' + on' ∧ sk + 2 * (tn + en + on) ≤ 2 * (tn' + en' + on')) ∧ ((o = none ∧ kind = kd ∧ behind = bh ∧ name = n0 ∧ ∃ p', NC T p' ts' tn' tf' es' en' ef' os' on' of' nf' ∧ p'.length ≤ p.length + L) ∨ ∃ w m, o = some (w, m) ∧ kind = 3 ∧ behind = nI (i + m) ∧ ∃ T' p', NC T' p' ts' tn' tf' es' en' ef' os' on' of' nf' ∧ (∃ j, j < T'.length ∧ T'.getD j [] = p ++ w ∧ name = nI j) ∧ (T' = T ∨ T' = T ++ [p ++ w]) ∧ p'.length ≤ p.length + L)
theorem cl_quot (a0 q0 n0 sb kd bh : Int32) (num : Int64) {l : List Int32} {s : Int32} {N : Nat} {f : Nat → Int32} (hB : BY l s N f) {T : List (List Int32)} {es : Int32} {en : Nat} {ef : Nat → Int32} {os : Int32} {on : Nat} {of nf : Nat → Int32} : ∀ (k : Nat) (t : List Int32) (i kf : Nat) (p : List Int32) (ts : Int32) (tn : Nat) (tf : Nat → Int32), l.drop i = t → i ≤ l.length → t.length < k → t.length < kf → NC T p ts tn tf es en ef os on of nf → T.flatten.length + p.length + t.length + T.length + 1 < 32768 → wp (p_Signs_takeQuoted_26 pure_n a0 q0 n0 num s N f sb es en ef os on of 128 nf kd bh kf (nI i) ts tn tf) (QP T p kd bh n0 i t.length tn en on (qt k t)) := by
  have hN := hB.2.2.2.1
  have hl := hB.2.1
  have hs := hB.1
  intro k
  induction k with
  | zero => intro t i kf p ts tn tf _ _ h1; exact absurd h1 (Nat.not_lt_zero _)
  | succ k ih =>
    intro t i kf p ts tn tf hd hi h1 h2 hC hb
    obtain ⟨kf, rfl⟩ : ∃ z, kf = z + 1 := ⟨kf - 1, by omega⟩
    cases t with
    | nil =>
      have := drop_n hd
      obtain rfl : i = l.length := by omega
      rw [p_Signs_takeQuoted_26]
      unfold p_Bytes_size
      refine wp_bs rfl (wp_it (by rw [hs]; exact nI_le (Nat.le_refl _) (by omega)) (wp_some ?_))
      refine ⟨?_, Or.inl ⟨rfl, rfl, rfl, rfl, p, hC, by omega⟩⟩
      first | omega | (dsimp only; omega)
    | cons b t =>
      obtain ⟨e1, e2, e3⟩ := drop_c hd
      obtain ⟨a1, a2⟩ := by_at hB e1
      rw [e2] at a1 a2
      rw [List.length_cons] at h1 h2 hb
      rw [p_Signs_takeQuoted_26]
      unfold p_Bytes_size
      refine wp_bs rfl (wp_if (by rw [hs]; exact nI_ge e1 (by omega)) (wp_bs a1 (wp_bs (let_Q a2) ?_)))
      rw [qt_c]
      by_cases q : cQ b = true
      · rw [if_pos q]
        refine wp_if (b1_f.mpr q) (wp_bs a1 ?_)
        by_cases q2 : b = 39
        · rw [if_pos q2]
          refine wp_it ((and_eq a2 39 (by decide)).mpr q2) ?_
          rw [nI_1]
          cases t with
          | nil =>
            have hi1 := drop_n e3
            refine wp_bs (by_at0 hB hi1 (by omega)) (wp_if (by decide) (wp_bind (nc_number pure_n sb hC (by omega) pure_ge) ?_))
            rintro ⟨⟨r, es', en', ef', os', on', of', nf'⟩, mq, sk⟩ ⟨T', p', c1, c2, c3, c4, c5⟩
            dsimp only at c1 c2 c3 c4 c5 ⊢
            refine wp_al ?_
            unfold p_Signs_takeTo
            refine wp_bs rfl (wp_some ⟨?_, Or.inr ⟨[], 1, rfl, rfl, rfl, T', p', c1, ?_, ?_, ?_⟩⟩)
            · first | omega | (dsimp only; omega)
            · rw [List.append_nil]
              exact c2
            · rw [List.append_nil]
              rcases c3 with ⟨q, _⟩ | ⟨q, _⟩
              · exact Or.inl q
              · exact Or.inr q
            · rcases c3 with ⟨_, q⟩ | ⟨_, q⟩
              · rw [q]
                omega
              · rw [q, List.length_nil]
                omega
          | cons c t2 =>
            obtain ⟨f1, f2, f3⟩ := drop_c e3
            obtain ⟨g1, g2⟩ := by_at hB f1
            rw [f2] at g1 g2
            refine wp_bs g1 ?_
            dsimp only
            by_cases q3 : c = 39
            · rw [if_pos q3]
              refine wp_it ((and_eq g2 39 (by decide)).mpr q3) (wp_bs g1 (wp_bind (nc_add (c &&& 255) hC (by omega) sb) ?_))
              rintro ⟨⟨ts', tn', tf'⟩, mq, sk⟩ ⟨b1', b2, b3⟩
              dsimp only at b1' b2 b3 ⊢
              rw [bok_and g2, q3] at b1'
              refine wp_al ?_
              rw [nI_1]
              rw [List.length_cons] at h1 h2 hb
              refine wp_mono (ih t2 (i + 1 + 1) kf (p ++ [39]) ts' tn' tf' f3 (by omega) (by omega) (by omega) b1' (by rw [List.length_append, List.length_singleton]; omega)) ?_
              rintro ⟨⟨kind, behind, name, ts2, tn2, tf2, es2, en2, ef2, os2, on2, of2, nf2⟩, mk2, sk2⟩ ⟨d1, d2⟩
              dsimp only at d1 d2 ⊢
              refine ⟨by first | omega | (dsimp only; omega), ?_⟩
              rcases d2 with ⟨d3, d4, d5, d6, p', d7, d8⟩ | ⟨w, m, d3, d4, d5, T', p', d6, d7, d8, d9⟩
              · refine Or.inl ⟨by rw [d3]; rfl, d4, d5, d6, p', d7, ?_⟩
                rw [List.length_append, List.length_singleton] at d8
                rw [List.length_cons, List.length_cons]
                omega
              · rw [List.append_assoc, List.singleton_append] at d7 d8
                refine Or.inr ⟨39 :: w, m + 2, by rw [d3]; rfl, d4, by rw [d5]; congr 1; omega, T', p', d6, d7, d8, ?_⟩
                rw [List.length_append, List.length_singleton] at d9
                rw [List.length_cons, List.length_cons]
                omega
            · rw [if_neg q3]
              refine wp_if (fun z => q3 ((and_eq g2 39 (by decide)).mp z)) (wp_bind (nc_number pure_n sb hC (by omega) pure_ge) ?_)
              rintro ⟨⟨r, es', en', ef', os', on', of', nf'⟩, mq, sk⟩ ⟨T', p', c1, c2, c3, c4, c5⟩
              dsimp only at c1 c2 c3 c4 c5 ⊢
              refine wp_al ?_
              unfold p_Signs_takeTo
              refine wp_bs rfl (wp_some ⟨?_, Or.inr ⟨[], 1, rfl, rfl, rfl, T', p', c1, ?_, ?_, ?_⟩⟩)
              · first | omega | (dsimp only; omega)
              · rw [List.append_nil]
                exact c2
              · rw [List.append_nil]
                rcases c3 with ⟨q, _⟩ | ⟨q, _⟩
                · exact Or.inl q
                · exact Or.inr q
              · rcases c3 with ⟨_, q⟩ | ⟨_, q⟩
                · rw [q]
                  omega
                · rw [q, List.length_nil]
                  omega
        · rw [if_neg q2]
          refine wp_if (fun z => q2 ((and_eq a2 39 (by decide)).mp z)) (wp_bs a1 (wp_bind (nc_add (b &&& 255) hC (by omega) sb) ?_))
          rintro ⟨⟨ts', tn', tf'⟩, mq, sk⟩ ⟨b1', b2, b3⟩
          dsimp only at b1' b2 b3 ⊢
          rw [bok_and a2] at b1'
          refine wp_al ?_
          rw [nI_1]
          refine wp_mono (ih t (i + 1) kf (p ++ [b]) ts' tn' tf' e3 (by omega) (by omega) (by omega) b1' (by rw [List.length_append, List.length_singleton]; omega)) ?_
          rintro ⟨⟨kind, behind, name, ts2, tn2, tf2, es2, en2, ef2, os2, on2, of2, nf2⟩, mk2, sk2⟩ ⟨d1, d2⟩
          dsimp only at d1 d2 ⊢
          refine ⟨by first | omega | (dsimp only; omega), ?_⟩
          rcases d2 with ⟨d3, d4, d5, d6, p', d7, d8⟩ | ⟨w, m, d3, d4, d5, T', p', d6, d7, d8, d9⟩
          · refine Or.inl ⟨by rw [d3]; rfl, d4, d5, d6, p', d7, ?_⟩
            rw [List.length_append, List.length_singleton] at d8
            rw [List.length_cons]
            omega
          · rw [List.append_assoc, List.singleton_append] at d7 d8
            refine Or.inr ⟨b :: w, m + 1, by rw [d3]; rfl, d4, by rw [d5]; congr 1; omega, T', p', d6, d7, d8, ?_⟩
            rw [List.length_append, List.length_singleton] at d9
            rw [List.length_cons]
            omega
      · rw [if_neg q]
        refine wp_it (by rw [eq_false_of_ne_true q]; rfl) (wp_some ⟨?_, Or.inl ⟨rfl, rfl, rfl, rfl, p, hC, by omega⟩⟩)
        first | omega | (dsimp only; omega)
/-! ===== a sign of the tape ===== -/
def endq : List Int32 → Bool
  | [] => true
  | b :: _ => cB b || b == 37
/-- kind (the class's numbers), place, behind, text, number -/
def tk1 (a : Nat) : List Int32 → Nat × Nat × Nat × List Int32 × Nat
  | [] => (5, a, a, [], 0)
  | b :: t =>
    if cG b then (1, a, a + tw cW (b :: t), (b :: t).take (tw cW (b :: t)), 0)
    else if cS b then (3, a, a + tw cW (b :: t), (b :: t).take (tw cW (b :: t)), 0)
    else if cD b then (if dv 0 (b :: t) < 9007199254740992 then 2 else 6, a, a + tw cD (b :: t), [], dv 0 (b :: t))
    else if b = 39 then (match qt (t.length + 1) t with
      | some (w, m) => (3, a, a + 1 + m, w, 0)
      | none => (6, a, a + 1, [], 0))
    else if cY b then (if tw cY (b :: t) = 1 ∧ b = 46 ∧ endq t = true then (4, a, a + 1, [], 0) else (3, a, a + tw cY (b :: t), (b :: t).take (tw cY (b :: t)), 0))
    else if b = 33 ∨ b = 59 then (3, a, a + 1, [b], 0)
    else if b = 91 ∧ t.head? = some 93 then (3, a, a + 2, [91, 93], 0)
    else if cM b then (b.toInt.toNat, a, a + 1, [], 0)
    else (6, a, a + 1, [], 0)
def tkn (l : List Int32) (i : Nat) : Nat × Nat × Nat × List Int32 × Nat := tk1 (i + sk false (l.drop i)) (l.drop (i + sk false (l.drop i)))
theorem nn {a b : Nat} {P : Prop} (z : a = b) (h : Nat.beq a b = false) : P := by
  subst z
  rw [Nat.beq_refl] at h
  cases h
/-- what the class has when it has looked at a sign -/
def LK (T : List (List Int32)) (tn en on : Nat) (k : Nat × Nat × Nat × List Int32 × Nat) : (Int32 × Int32 × Int32 × Int32 × Int32 × Int64 × Int32 × Nat × (Nat → Int32) × Int32 × Nat × (Nat → Int32) × Int32 × Nat × (Nat → Int32) × (Nat → Int32)) × Nat × Nat → Prop :=
  fun ((kind, place, behind, passed, name, number, ts', tn', tf', es', en', ef', os', on', of', nf'), mq, sk) => (64 * mq + (tn + en + on) ≤ tn' + en' + on' ∧ sk + 2 * (tn + en + on) ≤ 2 * (tn' + en' + on')) ∧ kind = nI k.1 ∧ place = nI k.2.1 ∧ behind = nI k.2.2.1 ∧ passed = 0 ∧ ∃ T' p', NC T' p' ts' tn' tf' es' en' ef' os' on' of' nf' ∧ p'.length ≤ 40000 ∧ (T' = T ∨ ((k.1 = 1 ∨ k.1 = 3) ∧ T' = T ++ [k.2.2.2.1])) ∧ (k.1 = 3 → ∃ j, j < T'.length ∧ T'.getD j [] = k.2.2.2.1 ∧ name = nI j) ∧ (k.1 = 1 → (k.2.2.2.1 = [95] ∧ name = -1) ∨ (k.2.2.2.1 ≠ [95] ∧ ∃ j, j < T'.length ∧ T'.getD j [] = k.2.2.2.1 ∧ name = nI j)) ∧ (k.1 = 2 → number = lN k.2.2.2.2)
/-- the same, of what takes a sign -/
def SY (T : List (List Int32)) (tn en on : Nat) (k : Nat × Nat × Nat × List Int32 × Nat) : (Int32 × Int32 × Int32 × Int32 × Nat × (Nat → Int32) × Int32 × Nat × (Nat → Int32) × Int32 × Nat × (Nat → Int32) × (Nat → Int32)) × Nat × Nat → Prop :=
  fun ((kind, behind, name, ts', tn', tf', es', en', ef', os', on', of', nf'), mq, sk) => (64 * mq + (tn + en + on) ≤ tn' + en' + on' ∧ sk + 2 * (tn + en + on) ≤ 2 * (tn' + en' + on')) ∧ kind = nI k.1 ∧ behind = nI k.2.2.1 ∧ ∃ T' p', NC T' p' ts' tn' tf' es' en' ef' os' on' of' nf' ∧ p'.length ≤ 40000 ∧ (T' = T ∨ ((k.1 = 1 ∨ k.1 = 3) ∧ T' = T ++ [k.2.2.2.1])) ∧ (k.1 = 3 → ∃ j, j < T'.length ∧ T'.getD j [] = k.2.2.2.1 ∧ name = nI j) ∧ (k.1 = 1 → (k.2.2.2.1 = [95] ∧ name = -1) ∨ (k.2.2.2.1 ≠ [95] ∧ ∃ j, j < T'.length ∧ T'.getD j [] = k.2.2.2.1 ∧ name = nI j))
theorem lk_sy {T : List (List Int32)} {tn en on : Nat} {k : Nat × Nat × Nat × List Int32 × Nat} (hk : k.1 ≠ 2) (num : Int64) {x : Option ((Int32 × Int32 × Int32 × Int32 × Nat × (Nat → Int32) × Int32 × Nat × (Nat → Int32) × Int32 × Nat × (Nat → Int32) × (Nat → Int32)) × Nat × Nat)} (h : wp x (SY T tn en on k)) : wp (x.bind (fun ((a_kind, a_behind, a_name, ts', tn', tf', es', en', ef', os', on', of', nf'), mq, sk) => al mq sk (some ((a_kind, nI k.2.1, a_behind, (0 : Int32), a_name, num, ts', tn', tf', es', en', ef', os', on', of', nf'), 0, 0)))) (LK T tn en on k) := by
  refine wp_bind h ?_
  rintro ⟨⟨kind, behind, name, ts', tn', tf', es', en', ef', os', on', of', nf'⟩, mq, sk⟩ ⟨c1, c2, c3, T', p', c4, c5, c6, c7, c8⟩
  try dsimp only at c1 c2 c3 c4 c5 c6 c7 c8 ⊢
  refine wp_al (wp_some ⟨?_, c2, rfl, c3, rfl, T', p', c4, c5, c6, c7, c8, fun q => absurd q hk⟩)
  first | omega | (dsimp only; omega)
theorem sy_again {T : List (List Int32)} {tn en on : Nat} {k : Nat × Nat × Nat × List Int32 × Nat} {x : Option ((Int32 × Int32 × Int32 × Int32 × Nat × (Nat → Int32) × Int32 × Nat × (Nat → Int32) × Int32 × Nat × (Nat → Int32) × (Nat → Int32)) × Nat × Nat)} (h : wp x (SY T tn en on k)) : wp (x.bind (fun ((a_kind, a_behind, a_name, ts', tn', tf', es', en', ef', os', on', of', nf'), mq, sk) => al mq sk (some ((a_kind, a_behind, a_name, ts', tn', tf', es', en', ef', os', on', of', nf'), 0, 0)))) (SY T tn en on k) := by
  refine wp_bind h ?_
  rintro ⟨⟨kind, behind, name, ts', tn', tf', es', en', ef', os', on', of', nf'⟩, mq, sk⟩ ⟨c1, c2⟩
  try dsimp only at c1 c2 ⊢
  refine wp_al (wp_some ⟨?_, c2⟩)
  first | omega | (dsimp only; omega)
theorem sy_tn {T : List (List Int32)} {w : List Int32} {e tn en on : Nat} (a : Nat) (hw : w.length ≤ 40000) {x : Option ((Int32 × Int32 × Int32 × Int32 × Nat × (Nat → Int32) × Int32 × Nat × (Nat → Int32) × Int32 × Nat × (Nat → Int32) × (Nat → Int32)) × Nat × Nat)} (h : wp x (TN T w 3 e tn en on)) : wp x (SY T tn en on (3, a, e, w, 0)) := by
  refine wp_mono h ?_
  rintro ⟨⟨kind, behind, name, ts', tn', tf', es', en', ef', os', on', of', nf'⟩, mq, sk⟩ ⟨c1, c2, T', p', c3, c4, c5, c6, c7, c8⟩
  try dsimp only at c1 c2 c3 c4 c5 c6 c7 c8 ⊢
  refine ⟨⟨c7, c8⟩, c1, c2, T', p', c3, by omega, ?_, fun _ => c4, fun q => absurd (show (3 : Nat) = 1 from q) (by decide)⟩
  rcases c5 with q | q
  · exact Or.inl q
  · exact Or.inr ⟨Or.inr rfl, q⟩
theorem tw_cons {p : Int32 → Bool} {b : Int32} {t : List Int32} (h : p b = true) : tw p (b :: t) = 1 + tw p t := by rw [tw, if_pos h]
theorem tw_stop (p : Int32 → Bool) : ∀ (t : List Int32), tw p t < t.length → p (t.getD (tw p t) 0) = false := by
  intro t
  induction t with
  | nil => intro h; exact absurd h (Nat.not_lt_zero _)
  | cons b t ih =>
    intro h
    by_cases q : p b = true
    · rw [tw_cons q] at h ⊢
      rw [List.length_cons] at h
      rw [Nat.add_comm, List.getD_cons_succ]
      exact ih (by omega)
    · rw [show tw p (b :: t) = 0 by rw [tw, if_neg q]]
      exact eq_false_of_ne_true q
theorem drop_len {l t : List Int32} {i : Nat} (h : l.drop i = t) (hi : i ≤ l.length) : i + t.length = l.length := by
  rw [← h, List.length_drop]
  omega
/-- the loop of symbols, to its end -/
theorem cl_sym (k0 p0 b0 q0 n0 sb : Int32) (num : Int64) {l : List Int32} {s : Int32} {N : Nat} {f : Nat → Int32} (hB : BY l s N f) {ts : Int32} {tn : Nat} {tf : Nat → Int32} {es : Int32} {en : Nat} {ef : Nat → Int32} {os : Int32} {on : Nat} {of nf : Nat → Int32} : ∀ (t : List Int32) (i kf : Nat), l.drop i = t → i ≤ l.length → t.length < kf → p_Signs_takeSymbols_5 pure_n k0 p0 b0 q0 n0 num s N f ts sb tn tf es en ef os on of 128 nf kf (nI i) = p_Signs_takeSymbols_5 pure_n k0 p0 b0 q0 n0 num s N f ts sb tn tf es en ef os on of 128 nf 1 (nI (i + tw cY t)) := by
  have hN := hB.2.2.2.1
  have hl := hB.2.1
  have hs := hB.1
  intro t
  induction t with
  | nil =>
    intro i kf hd hi hk
    rw [List.length_nil] at hk
    obtain ⟨k, rfl⟩ : ∃ k, kf = k + 1 := ⟨kf - 1, by omega⟩
    have := drop_n hd
    have hle : s ≤ nI i := by rw [hs]; exact nI_le this (by omega)
    rw [show i + tw cY [] = i from rfl, p_Signs_takeSymbols_5, p_Signs_takeSymbols_5]
    unfold p_Bytes_size
    simp only [Option.bind_some, if_pos hle]
  | cons b t ih =>
    intro i kf hd hi hk
    rw [List.length_cons] at hk
    obtain ⟨k, rfl⟩ : ∃ k, kf = k + 1 := ⟨kf - 1, by omega⟩
    obtain ⟨e1, e2, e3⟩ := drop_c hd
    obtain ⟨a1, a2⟩ := by_at hB e1
    rw [e2] at a1 a2
    by_cases q : cY b = true
    · rw [tw_cons q, show i + (1 + tw cY t) = i + 1 + tw cY t by omega, ← ih (i + 1) k e3 (by omega) (by omega)]
      conv => lhs; rw [p_Signs_takeSymbols_5]
      unfold p_Bytes_size
      rw [Option.bind_some, if_neg (by rw [hs]; exact nI_ge e1 (by omega)), a1, Option.bind_some, let_Y a2, Option.bind_some, if_neg (b1_f.mpr q), nI_1]
    · have hge : ¬ s ≤ nI i := by rw [hs]; exact nI_ge e1 (by omega)
      have hz : b1 (cY b) = 0 := by rw [eq_false_of_ne_true q]; rfl
      rw [show i + tw cY (b :: t) = i by rw [tw, if_neg q]; rfl, p_Signs_takeSymbols_5, p_Signs_takeSymbols_5]
      unfold p_Bytes_size
      simp only [Option.bind_some, if_neg hge, a1, let_Y a2, if_pos hz]
theorem cl_behind (k0 p0 b0 q0 n0 : Int32) (num : Int64) {l : List Int32} {s : Int32} {N : Nat} {f : Nat → Int32} (hB : BY l s N f) {i : Nat} {t : List Int32} (hd : l.drop i = t) (hi : i ≤ l.length) : p_Signs_isBehindEnd (nI i) k0 p0 b0 q0 n0 num s N f = some (b1 (endq t)) := by
  have hN := hB.2.2.2.1
  have hl := hB.2.1
  have hs := hB.1
  unfold p_Signs_isBehindEnd p_Bytes_size
  cases t with
  | nil =>
    have := drop_n hd
    rw [Option.bind_some, if_pos (by rw [hs]; exact nI_le this (by omega))]
    rfl
  | cons b t =>
    obtain ⟨e1, e2, e3⟩ := drop_c hd
    obtain ⟨a1, a2⟩ := by_at hB e1
    rw [e2] at a1 a2
    rw [Option.bind_some, if_neg (by rw [hs]; exact nI_ge e1 (by omega)), a1, Option.bind_some, let_B a2, Option.bind_some, endq]
    by_cases q : cB b = true
    · rw [if_neg (b1_f.mpr q), q]
      rfl
    · rw [if_pos (by rw [eq_false_of_ne_true q]; rfl), Option.bind_some, eq_false_of_ne_true q]
      by_cases q2 : b = 37
      · rw [if_pos (show b &&& 255 = 37 from (and_eq a2 37 (by decide)).mpr q2), q2]
        rfl
      · rw [if_neg (show ¬ b &&& 255 = 37 from fun z => q2 ((and_eq a2 37 (by decide)).mp z)), show (b == 37) = false from beq_eq_false_iff_ne.mpr q2]
        rfl
/-! ===== the class looks at a sign ===== -/
theorem sy_name (k0 b0 q0 n0 sb : Int32) (num : Int64) {l : List Int32} {s : Int32} {N : Nat} {f : Nat → Int32} (hB : BY l s N f) (hl4 : l.length ≤ 4096) {T : List (List Int32)} {p : List Int32} {ts : Int32} {tn : Nat} {tf : Nat → Int32} {es : Int32} {en : Nat} {ef : Nat → Int32} {os : Int32} {on : Nat} {of nf : Nat → Int32} (h : NC T p ts tn tf es en ef os on of nf) (hb : T.flatten.length + T.length + 4100 < 32768) {a : Nat} {r : List Int32} (hd : l.drop a = r) (ha : a ≤ l.length) (e : Nat) (he : e ≤ r.length) : wp (p_Signs_takeName pure_n (nI (a + e)) k0 (nI a) b0 q0 n0 num s N f ts sb tn tf es en ef os on of 128 nf) (SY T tn en on (3, a, a + e, r.take e, 0)) := by
  have dl := drop_len hd ha
  have := cl_name k0 0 b0 q0 n0 sb num hB h (i := a) (e := a + e) (by omega) (by omega) (by omega)
  rw [hd, Nat.add_sub_cancel_left] at this
  exact sy_tn a (by rw [List.length_take]; omega) this
theorem cl_symS (k0 b0 q0 n0 sb : Int32) (num : Int64) {l : List Int32} {s : Int32} {N : Nat} {f : Nat → Int32} (hB : BY l s N f) (hl4 : l.length ≤ 4096) {T : List (List Int32)} {p : List Int32} {ts : Int32} {tn : Nat} {tf : Nat → Int32} {es : Int32} {en : Nat} {ef : Nat → Int32} {os : Int32} {on : Nat} {of nf : Nat → Int32} (h : NC T p ts tn tf es en ef os on of nf) (hb : T.flatten.length + T.length + 4100 < 32768) (hp : p.length ≤ 40000) {a : Nat} {b : Int32} {t : List Int32} (hd : l.drop a = b :: t) (hY : cY b = true) : wp (p_Signs_takeSymbols pure_n k0 (nI a) b0 q0 n0 num s N f ts sb tn tf es en ef os on of 128 nf) (SY T tn en on (if tw cY (b :: t) = 1 ∧ b = 46 ∧ endq t = true then (4, a, a + 1, [], 0) else (3, a, a + tw cY (b :: t), (b :: t).take (tw cY (b :: t)), 0))) := by
  have hN := hB.2.2.2.1
  have hl := hB.2.1
  have hs := hB.1
  obtain ⟨e1, e2, e3⟩ := drop_c hd
  obtain ⟨a1, a2⟩ := by_at hB e1
  rw [e2] at a1 a2
  have dl := drop_len hd (by omega)
  have tl := tw_le cY (b :: t)
  have tc := tw_cons (t := t) hY
  have hpn := pure_ge
  have nm := sy_again (sy_name k0 b0 q0 n0 sb num hB hl4 h hb hd (by omega) (tw cY (b :: t)) tl)
  unfold p_Signs_takeSymbols
  rw [cl_sym k0 (nI a) b0 q0 n0 sb num hB (b :: t) a pure_n hd (by omega) (by omega)]
  -- what is done behind the symbols
  have E : wp (if nI (a + tw cY (b :: t)) = (nI a + 1) then ((p_Bytes_at (nI a) s N f).bind (fun r6 => if r6 = 46 then ((p_Signs_isBehindEnd (nI (a + tw cY (b :: t))) k0 (nI a) b0 q0 n0 num s N f).bind (fun r9 => if r9 = 0 then ((p_Signs_takeName pure_n (nI (a + tw cY (b :: t))) k0 (nI a) b0 q0 n0 num s N f ts sb tn tf es en ef os on of 128 nf).bind (fun ((a_kind_11, a_behind_11, a_name_11, ts', tn', tf', es', en', ef', os', on', of', nf'), mk11, sk11) => al mk11 sk11 (some ((a_kind_11, a_behind_11, a_name_11, ts', tn', tf', es', en', ef', os', on', of', nf'), 0, 0)))) else ((p_Signs_takeTo (4 : Int32) (nI (a + tw cY (b :: t))) k0 (nI a) b0 q0 n0 num).bind (fun (a_kind_12, a_behind_12) => some ((a_kind_12, a_behind_12, n0, ts, tn, tf, es, en, ef, os, on, of, nf), 0, 0))))) else ((p_Signs_takeName pure_n (nI (a + tw cY (b :: t))) k0 (nI a) b0 q0 n0 num s N f ts sb tn tf es en ef os on of 128 nf).bind (fun ((a_kind_8, a_behind_8, a_name_8, ts', tn', tf', es', en', ef', os', on', of', nf'), mk8, sk8) => al mk8 sk8 (some ((a_kind_8, a_behind_8, a_name_8, ts', tn', tf', es', en', ef', os', on', of', nf'), 0, 0)))))) else ((p_Signs_takeName pure_n (nI (a + tw cY (b :: t))) k0 (nI a) b0 q0 n0 num s N f ts sb tn tf es en ef os on of 128 nf).bind (fun ((a_kind_5, a_behind_5, a_name_5, ts', tn', tf', es', en', ef', os', on', of', nf'), mk5, sk5) => al mk5 sk5 (some ((a_kind_5, a_behind_5, a_name_5, ts', tn', tf', es', en', ef', os', on', of', nf'), 0, 0))))) (SY T tn en on (if tw cY (b :: t) = 1 ∧ b = 46 ∧ endq t = true then (4, a, a + 1, [], 0) else (3, a, a + tw cY (b :: t), (b :: t).take (tw cY (b :: t)), 0))) := by
    refine wp_ite (pk_eq (a + tw cY (b :: t)) (a + 1) (fun q => ?_) (fun q => ?_) rfl (nI_1 a))
    · refine wp_bs a1 ?_
      by_cases q2 : b = 46
      · refine wp_it ((and_eq a2 46 (by decide)).mpr q2) ?_
        have hb' : l.drop (a + tw cY (b :: t)) = t := by rw [q]; exact e3
        refine wp_bs (cl_behind k0 (nI a) b0 q0 n0 num hB hb' (by omega)) ?_
        by_cases q3 : endq t = true
        · rw [if_pos (show tw cY (b :: t) = 1 ∧ b = 46 ∧ endq t = true from ⟨by omega, q2, q3⟩)]
          refine wp_if (b1_f.mpr q3) ?_
          unfold p_Signs_takeTo
          refine wp_bs rfl (wp_some ⟨?_, rfl, by rw [q], T, p, h, hp, Or.inl rfl, fun z => nn z rfl, fun z => nn z rfl⟩)
          first | omega | (dsimp only; omega)
        · rw [if_neg (show ¬ (tw cY (b :: t) = 1 ∧ b = 46 ∧ endq t = true) from fun z => q3 z.2.2)]
          exact wp_it (by rw [eq_false_of_ne_true q3]; rfl) nm
      · rw [if_neg (show ¬ (tw cY (b :: t) = 1 ∧ b = 46 ∧ endq t = true) from fun z => q2 z.2.1)]
        exact wp_if (fun z => q2 ((and_eq a2 46 (by decide)).mp z)) nm
    · rw [if_neg (show ¬ (tw cY (b :: t) = 1 ∧ b = 46 ∧ endq t = true) from fun z => q (by rw [z.1]))]
      exact nm
  rw [p_Signs_takeSymbols_5]
  unfold p_Bytes_size
  refine wp_bs rfl ?_
  by_cases q : l.length ≤ a + tw cY (b :: t)
  · exact wp_it (by rw [hs]; exact nI_le q (by omega)) E
  · refine wp_if (by rw [hs]; exact nI_ge (by omega) (by omega)) ?_
    obtain ⟨g1, g2⟩ := by_at hB (j := a + tw cY (b :: t)) (by omega)
    refine wp_bs g1 (wp_bs (let_Y g2) ?_)
    have nq : cY (l.getD (a + tw cY (b :: t)) 0) = false := by
      have e : l.getD (a + tw cY (b :: t)) 0 = (b :: t).getD (tw cY (b :: t)) 0 := by
        rw [← hd, List.getD_eq_getElem?_getD, List.getD_eq_getElem?_getD, List.getElem?_drop]
      rw [e]
      exact tw_stop cY (b :: t) (by omega)
    exact wp_it (by rw [nq]; rfl) E
theorem sy_var {T : List (List Int32)} {tn en on a e : Nat} {w : List Int32} (hw : w ≠ [95]) {x : Option ((Int32 × Int32 × Int32 × Int32 × Nat × (Nat → Int32) × Int32 × Nat × (Nat → Int32) × Int32 × Nat × (Nat → Int32) × (Nat → Int32)) × Nat × Nat)} (h : wp x (SY T tn en on (3, a, e, w, 0))) : wp (x.bind (fun ((a_kind, a_behind, a_name, ts', tn', tf', es', en', ef', os', on', of', nf'), mq, sk) => al mq sk (some (((1 : Int32), a_behind, a_name, ts', tn', tf', es', en', ef', os', on', of', nf'), 0, 0)))) (SY T tn en on (1, a, e, w, 0)) := by
  refine wp_bind h ?_
  rintro ⟨⟨kind, behind, name, ts', tn', tf', es', en', ef', os', on', of', nf'⟩, mq, sk⟩ ⟨c1, c2, c3, T', p', c4, c5, c6, c7, c8⟩
  try dsimp only at c1 c2 c3 c4 c5 c6 c7 c8 ⊢
  refine wp_al (wp_some ⟨?_, rfl, c3, T', p', c4, c5, ?_, fun q => nn q rfl, fun _ => Or.inr ⟨hw, c7 rfl⟩⟩)
  · first | omega | (dsimp only; omega)
  · rcases c6 with q | ⟨_, q⟩
    · exact Or.inl q
    · exact Or.inr ⟨Or.inl rfl, q⟩
theorem sy_anon {T : List (List Int32)} {tn en on a e : Nat} {w : List Int32} (hw : w = [95]) {x : Option ((Int32 × Int32 × Int32 × Int32 × Nat × (Nat → Int32) × Int32 × Nat × (Nat → Int32) × Int32 × Nat × (Nat → Int32) × (Nat → Int32)) × Nat × Nat)} (h : wp x (SY T tn en on (3, a, e, w, 0))) : wp (x.bind (fun ((a_kind, a_behind, a_name, ts', tn', tf', es', en', ef', os', on', of', nf'), mq, sk) => al mq sk (some (((1 : Int32), a_behind, ((-1) : Int32), ts', tn', tf', es', en', ef', os', on', of', nf'), 0, 0)))) (SY T tn en on (1, a, e, w, 0)) := by
  refine wp_bind h ?_
  rintro ⟨⟨kind, behind, name, ts', tn', tf', es', en', ef', os', on', of', nf'⟩, mq, sk⟩ ⟨c1, c2, c3, T', p', c4, c5, c6, c7, c8⟩
  try dsimp only at c1 c2 c3 c4 c5 c6 c7 c8 ⊢
  refine wp_al (wp_some ⟨?_, rfl, c3, T', p', c4, c5, ?_, fun q => nn q rfl, fun _ => Or.inl ⟨hw, rfl⟩⟩)
  · first | omega | (dsimp only; omega)
  · rcases c6 with q | ⟨_, q⟩
    · exact Or.inl q
    · exact Or.inr ⟨Or.inl rfl, q⟩
theorem cl_wordE (k0 b0 q0 n0 : Int32) (num : Int64) {l : List Int32} {s : Int32} {N : Nat} {f : Nat → Int32} (hB : BY l s N f) (hl4 : l.length ≤ 4096) {a : Nat} {r : List Int32} (hd : l.drop a = r) (ha : a ≤ l.length) : p_Signs_wordEnd pure_n k0 (nI a) b0 q0 n0 num s N f = some (nI (a + tw cW r)) := by
  have dl := drop_len hd ha
  have := pure_ge
  exact cl_word hB r a pure_n hd ha (by omega)
theorem cl_varS (k0 b0 q0 n0 sb : Int32) (num : Int64) {l : List Int32} {s : Int32} {N : Nat} {f : Nat → Int32} (hB : BY l s N f) (hl4 : l.length ≤ 4096) {T : List (List Int32)} {p : List Int32} {ts : Int32} {tn : Nat} {tf : Nat → Int32} {es : Int32} {en : Nat} {ef : Nat → Int32} {os : Int32} {on : Nat} {of nf : Nat → Int32} (h : NC T p ts tn tf es en ef os on of nf) (hb : T.flatten.length + T.length + 4100 < 32768) {a : Nat} {b : Int32} {t : List Int32} (hd : l.drop a = b :: t) (hG : cG b = true) : wp (p_Signs_takeVariable pure_n k0 (nI a) b0 q0 n0 num s N f ts sb tn tf es en ef os on of 128 nf) (SY T tn en on (1, a, a + tw cW (b :: t), (b :: t).take (tw cW (b :: t)), 0)) := by
  have hN := hB.2.2.2.1
  have hl := hB.2.1
  obtain ⟨e1, e2, e3⟩ := drop_c hd
  obtain ⟨a1, a2⟩ := by_at hB e1
  rw [e2] at a1 a2
  have tl := tw_le cW (b :: t)
  have hW : cW b = true := by
    unfold cW
    rw [hG, Bool.or_true, Bool.true_or]
  have tc := tw_cons (t := t) hW
  have nm := sy_name k0 b0 q0 n0 sb num hB hl4 h hb hd (by omega) (tw cW (b :: t)) tl
  have we := cl_wordE k0 b0 q0 n0 num hB hl4 hd (by omega)
  have tk : (b :: t).take (tw cW (b :: t)) = b :: t.take (tw cW t) := by
    rw [tc, Nat.add_comm, List.take_succ_cons]
  unfold p_Signs_takeVariable
  refine wp_bs a1 ?_
  by_cases q : b = 95
  · refine wp_it ((and_eq a2 95 (by decide)).mpr q) ?_
    rw [nI_1]
    cases t with
    | nil =>
      refine wp_bs (by_at0 hB (drop_n e3) (by omega)) (wp_bs (show p_Letters_isOfWord 0 = some 0 by decide) (wp_it rfl (wp_bs we ?_)))
      exact sy_anon (by rw [tk, q]; rfl) nm
    | cons c u =>
      obtain ⟨f1, f2, f3⟩ := drop_c e3
      obtain ⟨g1, g2⟩ := by_at hB f1
      rw [f2] at g1 g2
      refine wp_bs g1 (wp_bs (let_W g2) ?_)
      by_cases q2 : cW c = true
      · refine wp_if (b1_f.mpr q2) (wp_bs we ?_)
        refine sy_var (fun z => ?_) nm
        rw [tk, tw_cons q2, Nat.add_comm, List.take_succ_cons] at z
        injection z with z1 z2
        cases z2
      · refine wp_it (by rw [eq_false_of_ne_true q2]; rfl) (wp_bs we ?_)
        refine sy_anon ?_ nm
        rw [tk, q, show tw cW (c :: u) = 0 by rw [tw, if_neg q2], List.take_zero]
  · refine wp_if (fun z => q ((and_eq a2 95 (by decide)).mp z)) (wp_bs we ?_)
    refine sy_var (fun z => ?_) nm
    rw [tk] at z
    injection z with z1 z2
    exact q z1
theorem cl_quotS (k0 b0 q0 n0 sb : Int32) (num : Int64) {l : List Int32} {s : Int32} {N : Nat} {f : Nat → Int32} (hB : BY l s N f) (hl4 : l.length ≤ 4096) {T : List (List Int32)} {p : List Int32} {ts : Int32} {tn : Nat} {tf : Nat → Int32} {es : Int32} {en : Nat} {ef : Nat → Int32} {os : Int32} {on : Nat} {of nf : Nat → Int32} (h : NC T p ts tn tf es en ef os on of nf) (hb : T.flatten.length + T.length + 4100 < 32768) {a : Nat} {b : Int32} {t : List Int32} (hd : l.drop a = b :: t) : wp (p_Signs_takeQuoted pure_n k0 (nI a) b0 q0 n0 num s N f ts sb tn tf es en ef os on of 128 nf) (SY T tn en on (match qt (t.length + 1) t with
      | some (w, m) => (3, a, a + 1 + m, w, 0)
      | none => (6, a, a + 1, [], 0))) := by
  have hN := hB.2.2.2.1
  have hl := hB.2.1
  have hpn := pure_ge
  obtain ⟨e1, e2, e3⟩ := drop_c hd
  have dl := drop_len hd (by omega)
  rw [List.length_cons] at dl
  unfold p_Signs_takeQuoted
  obtain ⟨s1, s2⟩ := nc_start h sb
  refine wp_bs s1 ?_
  unfold p_Signs_takeTo
  refine wp_bs rfl ?_
  rw [nI_1]
  refine wp_mono (cl_quot (nI a) q0 n0 sb 6 (nI (a + 1)) num hB (t.length + 1) t (a + 1) pure_n [] (nI T.flatten.length) tn tf e3 (by omega) (by omega) (by omega) s2 (by rw [List.length_nil]; omega)) ?_
  rintro ⟨⟨kind, behind, name, ts', tn', tf', es', en', ef', os', on', of', nf'⟩, mq, sk⟩ ⟨c1, c2⟩
  try dsimp only at c1 c2 ⊢
  rcases c2 with ⟨d3, d4, d5, d6, p', d7, d8⟩ | ⟨w, m, d3, d4, d5, T', p', d6, d7, d8, d9⟩
  · rw [d3]
    rw [List.length_nil] at d8
    exact ⟨c1, d4, d5, T, p', d7, by omega, Or.inl rfl, fun z => nn z rfl, fun z => nn z rfl⟩
  · rw [d3]
    rw [List.nil_append] at d7 d8
    rw [List.length_nil] at d9
    refine ⟨c1, d4, d5, T', p', d6, by omega, ?_, fun _ => d7, fun z => nn z rfl⟩
    rcases d8 with z | z
    · exact Or.inl z
    · exact Or.inr ⟨Or.inr rfl, z⟩
set_option maxRecDepth 100000 in
theorem mark_u {b : Int32} (hb : bok b) : cM b = true → (b &&& 255 = nI b.toInt.toNat ∧ 40 ≤ b.toInt.toNat) := all_b (fun b => cM b = true → (b &&& 255 = nI b.toInt.toNat ∧ 40 ≤ b.toInt.toNat)) (by decide +kernel) hb
/-! ===== the class looks at a sign: the whole of it ===== -/
theorem b1_0 {x : Bool} (h : ¬ x = true) : b1 x = 0 := by
  rw [eq_false_of_ne_true h]
  rfl
theorem cl_look (k0 p0 n0 sb : Int32) (num : Int64) {l : List Int32} {s : Int32} {N : Nat} {f : Nat → Int32} (hB : BY l s N f) (hl4 : l.length ≤ 4096) {T : List (List Int32)} {p : List Int32} {ts : Int32} {tn : Nat} {tf : Nat → Int32} {es : Int32} {en : Nat} {ef : Nat → Int32} {os : Int32} {on : Nat} {of nf : Nat → Int32} (h : NC T p ts tn tf es en ef os on of nf) (hp : p.length ≤ 40000) (hb : T.flatten.length + T.length + 4100 < 32768) {i : Nat} (hi : i ≤ l.length) : wp (p_Signs_look pure_n k0 p0 (nI i) 1 n0 num s N f ts sb tn tf es en ef os on of 128 nf) (LK T tn en on (tkn l i)) := by
  have hN := hB.2.2.2.1
  have hl := hB.2.1
  have hs := hB.1
  have hpn := pure_ge
  have hle := sk_le (l.drop i) false
  rw [List.length_drop] at hle
  have sk1 : p_Signs_firstNotBlank pure_n (nI i) k0 p0 (nI i) 0 n0 num s N f = some (nI (i + sk false (l.drop i))) := cl_skip hB (l.drop i) i pure_n false rfl hi (by rw [List.length_drop]; omega)
  unfold p_Signs_look tkn
  refine wp_if (by decide) (wp_bs sk1 ?_)
  have hal : i + sk false (l.drop i) ≤ l.length := by omega
  generalize i + sk false (l.drop i) = a at hal ⊢
  unfold p_Bytes_size p_Signs_takeTo
  cases hd : l.drop a with
  | nil =>
    have hn := drop_n hd
    refine wp_bs (by_at0 hB hn (by omega)) (wp_bs rfl (wp_if (by rw [hs]; exact nI_nlt hn (by omega)) (wp_bs rfl (wp_some ?_))))
    refine ⟨?_, rfl, rfl, rfl, rfl, T, p, h, hp, Or.inl rfl, fun z => nn z rfl, fun z => nn z rfl, fun z => nn z rfl⟩
    first | omega | (dsimp only; omega)
  | cons b t =>
    obtain ⟨e1, e2, e3⟩ := drop_c hd
    obtain ⟨a1, a2⟩ := by_at hB e1
    rw [e2] at a1 a2
    have dl := drop_len hd hal
    refine wp_bs a1 (wp_bs rfl (wp_it (by rw [hs]; exact nI_lt e1 (by omega)) (wp_bs (let_G a2) ?_)))
    rw [tk1]
    by_cases qG : cG b = true
    · rw [if_pos qG]
      exact wp_if (b1_f.mpr qG) (lk_sy (k := (1, a, a + tw cW (b :: t), (b :: t).take (tw cW (b :: t)), 0)) (fun z => nn z rfl) num (cl_varS k0 (nI i) 0 n0 sb num hB hl4 h hb hd qG))
    rw [if_neg qG]
    refine wp_it (b1_0 qG) (wp_bs (let_S a2) ?_)
    by_cases qS : cS b = true
    · rw [if_pos qS]
      exact wp_if (b1_f.mpr qS) (wp_bs (cl_wordE k0 (nI i) 0 n0 num hB hl4 hd hal) (lk_sy (k := (3, a, a + tw cW (b :: t), (b :: t).take (tw cW (b :: t)), 0)) (fun z => nn z rfl) num (sy_name k0 (nI i) 0 n0 sb num hB hl4 h hb hd hal (tw cW (b :: t)) (tw_le cW (b :: t)))))
    rw [if_neg qS]
    refine wp_it (b1_0 qS) (wp_bs (let_D a2) ?_)
    by_cases qD : cD b = true
    · rw [if_pos qD]
      have ci : p_Signs_takeInteger pure_n k0 (nI a) (nI i) 0 n0 num s N f = some (if dv 0 (b :: t) < 9007199254740992 then 2 else 6, nI (a + tw cD (b :: t)), lN (dv 0 (b :: t))) := cl_int k0 (nI a) (nI i) 0 n0 hB (b :: t) a pure_n 0 hd hal (by omega) (by omega)
      refine wp_if (b1_f.mpr qD) (wp_bs ci (wp_some ?_))
      by_cases q : dv 0 (b :: t) < 9007199254740992
      · rw [if_pos q, if_pos q]
        refine ⟨?_, rfl, rfl, rfl, rfl, T, p, h, hp, Or.inl rfl, fun z => nn z rfl, fun z => nn z rfl, fun _ => rfl⟩
        first | omega | (dsimp only; omega)
      · rw [if_neg q, if_neg q]
        refine ⟨?_, rfl, rfl, rfl, rfl, T, p, h, hp, Or.inl rfl, fun z => nn z rfl, fun z => nn z rfl, fun z => nn z rfl⟩
        first | omega | (dsimp only; omega)
    rw [if_neg qD]
    refine wp_it (b1_0 qD) ?_
    by_cases q39 : b = 39
    · rw [if_pos q39]
      refine wp_it ((and_eq a2 39 (by decide)).mpr q39) ?_
      have cq := cl_quotS k0 (nI i) 0 n0 sb num hB hl4 h hb hd
      cases hq : qt (t.length + 1) t with
      | none =>
        rw [hq] at cq
        exact lk_sy (k := (6, a, a + 1, [], 0)) (fun z => nn z rfl) num cq
      | some z =>
        obtain ⟨w, m⟩ := z
        rw [hq] at cq
        exact lk_sy (k := (3, a, a + 1 + m, w, 0)) (fun z => nn z rfl) num cq
    rw [if_neg q39]
    refine wp_if (fun z => q39 ((and_eq a2 39 (by decide)).mp z)) (wp_bs (let_Y a2) ?_)
    by_cases qY : cY b = true
    · rw [if_pos qY]
      refine wp_if (b1_f.mpr qY) ?_
      have cs := cl_symS k0 (nI i) 0 n0 sb num hB hl4 h hb hp hd qY
      by_cases q : tw cY (b :: t) = 1 ∧ b = 46 ∧ endq t = true
      · rw [if_pos q] at cs ⊢
        exact lk_sy (k := (4, a, a + 1, [], 0)) (fun z => nn z rfl) num cs
      · rw [if_neg q] at cs ⊢
        exact lk_sy (k := (3, a, a + tw cY (b :: t), (b :: t).take (tw cY (b :: t)), 0)) (fun z => nn z rfl) num cs
    rw [if_neg qY]
    refine wp_it (b1_0 qY) ?_
    have one := sy_name k0 (nI i) 0 n0 sb num hB hl4 h hb hd hal 1 (by rw [List.length_cons]; omega)
    rw [show (b :: t).take 1 = [b] from rfl] at one
    rw [nI_1]
    by_cases q33 : b = 33
    · rw [if_pos (Or.inl q33)]
      exact wp_it ((and_eq a2 33 (by decide)).mpr q33) (lk_sy (k := (3, a, a + 1, [b], 0)) (fun z => nn z rfl) num one)
    refine wp_if (fun z => q33 ((and_eq a2 33 (by decide)).mp z)) ?_
    by_cases q59 : b = 59
    · rw [if_pos (Or.inr q59)]
      exact wp_it ((and_eq a2 59 (by decide)).mpr q59) (lk_sy (k := (3, a, a + 1, [b], 0)) (fun z => nn z rfl) num one)
    refine wp_if (fun z => q59 ((and_eq a2 59 (by decide)).mp z)) ?_
    rw [if_neg (show ¬ (b = 33 ∨ b = 59) from fun z => z.elim q33 q59)]
    -- marks and the rest
    have MK : wp ((p_Letters_isMark pure_n (b &&& 255)).bind (fun r25 => if r25 = 0 then ((some ((6 : Int32), nI (a + 1))).bind (fun (a_kind_27, a_behind_27) => some ((a_kind_27, nI a, a_behind_27, (0 : Int32), n0, num, ts, tn, tf, es, en, ef, os, on, of, nf), 0, 0))) else ((some (b &&& 255, nI (a + 1))).bind (fun (a_kind_28, a_behind_28) => some ((a_kind_28, nI a, a_behind_28, (0 : Int32), n0, num, ts, tn, tf, es, en, ef, os, on, of, nf), 0, 0))))) (LK T tn en on (if cM b then (b.toInt.toNat, a, a + 1, [], 0) else (6, a, a + 1, [], 0))) := by
      refine wp_bs (let_M a2) ?_
      by_cases qM : cM b = true
      · rw [if_pos qM]
        obtain ⟨m1, m2⟩ := mark_u a2 qM
        refine wp_if (b1_f.mpr qM) (wp_bs rfl (wp_some ?_))
        refine ⟨?_, m1, rfl, rfl, rfl, T, p, h, hp, Or.inl rfl, fun z => ?_, fun z => ?_, fun z => ?_⟩
        · first | omega | (dsimp only; omega)
        · exact absurd (show b.toInt.toNat = 3 from z) (by omega)
        · exact absurd (show b.toInt.toNat = 1 from z) (by omega)
        · exact absurd (show b.toInt.toNat = 2 from z) (by omega)
      · rw [if_neg qM]
        refine wp_it (b1_0 qM) (wp_bs rfl (wp_some ?_))
        refine ⟨?_, rfl, rfl, rfl, rfl, T, p, h, hp, Or.inl rfl, fun z => nn z rfl, fun z => nn z rfl, fun z => nn z rfl⟩
        first | omega | (dsimp only; omega)
    by_cases q91 : b = 91
    · refine wp_it ((and_eq a2 91 (by decide)).mpr q91) ?_
      cases t with
      | nil =>
        rw [if_neg (show ¬ (b = 91 ∧ ([] : List Int32).head? = some 93) from fun z => by cases z.2)]
        exact wp_bs (by_at0 hB (drop_n e3) (by omega)) (wp_if (by decide) MK)
      | cons c u =>
        obtain ⟨f1, f2, f3⟩ := drop_c e3
        obtain ⟨g1, g2⟩ := by_at hB f1
        rw [f2] at g1 g2
        refine wp_bs g1 ?_
        by_cases q93 : c = 93
        · rw [if_pos (show b = 91 ∧ (c :: u).head? = some 93 from ⟨q91, by rw [q93]; rfl⟩)]
          have two := sy_name k0 (nI i) 0 n0 sb num hB hl4 h hb hd hal 2 (by rw [List.length_cons, List.length_cons]; omega)
          rw [show (b :: c :: u).take 2 = [b, c] from rfl, q91, q93] at two
          refine wp_it ((and_eq g2 93 (by decide)).mpr q93) ?_
          have e2' : nI a + 2 = nI (a + 2) := nI_add a 2
          rw [e2']
          exact lk_sy (k := (3, a, a + 2, [91, 93], 0)) (fun z => nn z rfl) num two
        · rw [if_neg (show ¬ (b = 91 ∧ (c :: u).head? = some 93) from fun z => q93 (by have := z.2; injection this))]
          exact wp_if (fun z => q93 ((and_eq g2 93 (by decide)).mp z)) MK
    · rw [if_neg (show ¬ (b = 91 ∧ t.head? = some 93) from fun z => q91 z.1)]
      exact wp_if (fun z => q91 ((and_eq a2 91 (by decide)).mp z)) MK
/-! ===== the reference's signs ===== -/
/-- the text that the reference reads -/
def TM (l : List Int32) (f : Nat → Int32) : Prop := l.length ≤ 4096 ∧ la l f ∧ ∀ j, j < l.length → bok (f j)
def mb (l : List Int32) (i : Nat) : Int32 := if i < l.length then l.getD i 0 else -1
theorem bok_m1 : bok (-1) := by unfold bok; decide
theorem mb_bok {l : List Int32} {f : Nat → Int32} (hM : TM l f) (i : Nat) : bok (mb l i) := by
  unfold mb
  by_cases q : i < l.length
  · rw [if_pos q]
    have := hM.2.2 i q
    rw [hM.2.1 i q] at this
    exact this
  · rw [if_neg q]
    exact bok_m1
theorem ml_look {l : List Int32} {f : Nat → Int32} (hM : TM l f) {i : Nat} (hi : i < 2147483648) (aa : Int32) (beh tok opn : Int32) (num : Int64) (top plc vbd kno rnk : Int32) (let_ : Int32) : p_MoReader_look (nI i) (nI l.length) aa beh tok opn num let_ top plc vbd kno rnk 4096 f = some (mb l i) := by
  unfold p_MoReader_look mb
  have := hM.1
  by_cases q : i < l.length
  · rw [if_pos q, if_neg (nI_ge q (by omega)), ck_t (ixb_t (by omega) (by omega)), nI_clamp (by omega), hM.2.1 i q]
  · rw [if_neg q, if_pos (nI_le (by omega) (by omega))]
set_option maxRecDepth 100000 in
theorem ml_S {b : Int32} (hb : bok b) : p_MoReader_small b = some (b1 (cS b)) := all_b (fun b => p_MoReader_small b = some (b1 (cS b))) (by decide +kernel) hb
set_option maxRecDepth 100000 in
theorem ml_G {b : Int32} (hb : bok b) : p_MoReader_great b = some (b1 (cG b)) := all_b (fun b => p_MoReader_great b = some (b1 (cG b))) (by decide +kernel) hb
set_option maxRecDepth 100000 in
theorem ml_D {b : Int32} (hb : bok b) : p_MoReader_digit b = some (b1 (cD b)) := all_b (fun b => p_MoReader_digit b = some (b1 (cD b))) (by decide +kernel) hb
set_option maxRecDepth 100000 in
theorem ml_B {b : Int32} (hb : bok b) : p_MoReader_blank b = some (b1 (cB b)) := all_b (fun b => p_MoReader_blank b = some (b1 (cB b))) (by decide +kernel) hb
set_option maxRecDepth 100000 in
theorem ml_Y {b : Int32} (hb : bok b) : p_MoReader_symbol pure_n b = some (b1 (cY b)) := all_b (fun b => p_MoReader_symbol pure_n b = some (b1 (cY b))) (by decide +kernel) hb
/-- letters of a word -/
theorem ml_letter {w : List Int32} {wf : Nat → Int32} (h : WD w 4096 wf) (hl : w.length < 4096) {b : Int32} (hb : bok b) (an aa : Int32) (beh tok opn : Int32) (num : Int64) (top plc vbd kno rnk : Int32) : ∃ g, p_MoReader_letter b an aa beh tok opn num (nI w.length) top plc vbd kno rnk 4096 wf = some (nI (w ++ [b]).length, g) ∧ WD (w ++ [b]) 4096 g := by
  have ln : (w ++ [b]).length = w.length + 1 := by rw [List.length_append, List.length_singleton]
  refine ⟨upd wf w.length b, ?_, by omega, by omega, la_app h.2.2.1 (fun j hj => pk_un (by omega)) pk_us, ?_⟩
  · unfold p_MoReader_letter
    rw [ck_t (ixb_t (by omega) (by omega)), nI_1, nI_clamp (by omega), pk_vb, show b.toInt8.toInt32 = b from hb, ln]
  · intro j hj
    rw [ln] at hj
    by_cases q : j = w.length
    · subst q
      rw [pk_us]
      exact hb
    · rw [pk_un q]
      exact h.2.2.2 j (by omega)
/-- words -/
theorem ms_word {l : List Int32} {f : Nat → Int32} (hM : TM l f) (aa y0 : Int32) (hy : bok y0) (beh tok opn : Int32) (num : Int64) (top plc vbd kno rnk : Int32) : ∀ (t w : List Int32) (i kf : Nat) (wf : Nat → Int32), l.drop i = t → i ≤ l.length → t.length < kf → WD w 4096 wf → w.length + t.length ≤ 4096 → wp (p_MoReader_scan_146 pure_n (nI l.length) beh tok opn num top plc vbd kno rnk 4096 f 4096 aa y0 kf (nI i) (nI w.length) wf) (fun (a', b', t', n', l', wf') => a' = aa ∧ b' = nI (i + tw cW t) ∧ t' = (if cG y0 then 1 else 3) ∧ n' = num ∧ l' = nI (w ++ t.take (tw cW t)).length ∧ WD (w ++ t.take (tw cW t)) 4096 wf') := by
  have hl := hM.1
  intro t
  induction t with
  | nil =>
    intro w i kf wf hd hi hk hw hwl
    rw [List.length_nil] at hk
    obtain ⟨k, rfl⟩ : ∃ k, kf = k + 1 := ⟨kf - 1, by omega⟩
    have hn := drop_n hd
    have em : mb l i = -1 := by unfold mb; rw [if_neg (by omega)]
    rw [p_MoReader_scan_146]
    have lk := fun (let_ : Int32) => ml_look hM (i := i) (by omega) aa beh tok opn num top plc vbd kno rnk let_
    rw [em] at lk
    refine wp_bs (lk _) (wp_bs (ml_S bok_m1) (wp_it (by decide) (wp_bs (lk _) (wp_bs (ml_G bok_m1) (wp_it (by decide) (wp_bs (lk _) (wp_bs (ml_D bok_m1) (wp_it (by decide) (wp_bs (ml_G hy) ?_)))))))))
    unfold p_MoReader_take
    rw [show tw cW [] = 0 from rfl, List.take_nil, List.append_nil, Nat.add_zero]
    by_cases q : cG y0 = true
    · rw [if_pos q]
      exact wp_if (b1_f.mpr q) (wp_bs rfl (wp_some ⟨rfl, rfl, rfl, rfl, rfl, hw⟩))
    · rw [if_neg q]
      exact wp_it (b1_0 q) (wp_bs rfl (wp_some ⟨rfl, rfl, rfl, rfl, rfl, hw⟩))
  | cons b t ih =>
    intro w i kf wf hd hi hk hw hwl
    rw [List.length_cons] at hk hwl
    obtain ⟨k, rfl⟩ : ∃ k, kf = k + 1 := ⟨kf - 1, by omega⟩
    obtain ⟨e1, e2, e3⟩ := drop_c hd
    have em : mb l i = b := by unfold mb; rw [if_pos e1, e2]
    have hb : bok b := by rw [← em]; exact mb_bok hM i
    have lk := fun (let_ : Int32) => ml_look hM (i := i) (by omega) aa beh tok opn num top plc vbd kno rnk let_
    rw [em] at lk
    have step : cW b = true → wp (p_MoReader_scan_179 pure_n (nI l.length) beh tok opn num top plc vbd kno rnk 4096 f 4096 aa (nI i) (nI w.length) wf (fun w0 w1 w2 => p_MoReader_scan_146 pure_n (nI l.length) beh tok opn num top plc vbd kno rnk 4096 f 4096 aa y0 k w0 w1 w2)) (fun (a', b', t', n', l', wf') => a' = aa ∧ b' = nI (i + tw cW (b :: t)) ∧ t' = (if cG y0 then 1 else 3) ∧ n' = num ∧ l' = nI (w ++ (b :: t).take (tw cW (b :: t))).length ∧ WD (w ++ (b :: t).take (tw cW (b :: t))) 4096 wf') := fun hW => by
      unfold p_MoReader_scan_179
      obtain ⟨g, g1, g2⟩ := ml_letter hw (by omega) hb (nI l.length) aa beh tok opn num top plc vbd kno rnk
      refine wp_ck (ixb_t (by omega) (by omega)) ?_
      rw [nI_clamp (by omega), hM.2.1 i e1, e2]
      refine wp_bs g1 ?_
      dsimp only
      rw [nI_1, tw_cons hW, show i + (1 + tw cW t) = i + 1 + tw cW t by omega, show (b :: t).take (1 + tw cW t) = [b] ++ t.take (tw cW t) by rw [Nat.add_comm, List.take_succ_cons]; rfl, ← List.append_assoc]
      exact ih (w ++ [b]) (i + 1) k g e3 (by omega) (by omega) g2 (by rw [List.length_append, List.length_singleton]; omega)
    rw [p_MoReader_scan_146]
    refine wp_bs (lk _) (wp_bs (ml_S hb) ?_)
    by_cases qS : cS b = true
    · exact wp_if (b1_f.mpr qS) (step (by unfold cW; rw [qS]; rfl))
    refine wp_it (b1_0 qS) (wp_bs (lk _) (wp_bs (ml_G hb) ?_))
    by_cases qG : cG b = true
    · exact wp_if (b1_f.mpr qG) (step (by unfold cW; rw [qG, Bool.or_true]; rfl))
    refine wp_it (b1_0 qG) (wp_bs (lk _) (wp_bs (ml_D hb) ?_))
    by_cases qD : cD b = true
    · exact wp_if (b1_f.mpr qD) (step (by unfold cW; rw [qD, Bool.or_true]))
    refine wp_it (b1_0 qD) (wp_bs (ml_G hy) ?_)
    have nW : tw cW (b :: t) = 0 := by
      rw [tw, if_neg]
      unfold cW
      rw [eq_false_of_ne_true qS, eq_false_of_ne_true qG, eq_false_of_ne_true qD]
      decide
    unfold p_MoReader_take
    rw [nW, List.take_zero, List.append_nil, Nat.add_zero]
    by_cases q : cG y0 = true
    · rw [if_pos q]
      exact wp_if (b1_f.mpr q) (wp_bs rfl (wp_some ⟨rfl, rfl, rfl, rfl, rfl, hw⟩))
    · rw [if_neg q]
      exact wp_it (b1_0 q) (wp_bs rfl (wp_some ⟨rfl, rfl, rfl, rfl, rfl, hw⟩))
/-! ===== the reference's signs: what is skipped ===== -/
def nl : List Int32 → Nat
  | [] => 0
  | b :: t => if b = 10 then 0 else 1 + nl t
theorem nl_le : ∀ t : List Int32, nl t ≤ t.length := by
  intro t
  induction t with
  | nil => exact Nat.le_refl _
  | cons b t ih =>
    rw [nl, List.length_cons]
    by_cases q : b = 10
    · rw [if_pos q]
      omega
    · rw [if_neg q]
      omega
theorem sk_nl : ∀ t : List Int32, sk true t = nl t + sk false (t.drop (nl t)) := by
  intro t
  induction t with
  | nil => rfl
  | cons b t ih =>
    rw [nl, sk]
    by_cases q : b = 10
    · rw [if_pos q, q, List.drop_zero, sk, if_neg (by decide), if_pos (by decide), Nat.zero_add]
      rfl
    · rw [if_neg q, show (b != 10) = true from bne_iff_ne.mpr q, ih, Nat.add_comm 1 (nl t), List.drop_succ_cons]
      omega
theorem ms_nl {l : List Int32} {f : Nat → Int32} (hM : TM l f) (K : Int32 → Option (Int32 × Int32 × Int32 × Int64 × Int32 × (Nat → Int32))) : ∀ (t : List Int32) (i kf : Nat), l.drop i = t → i ≤ l.length → t.length < kf → p_MoReader_scan_47 pure_n (nI l.length) 4096 f K kf (nI i) = K (nI (i + nl t)) := by
  have hl := hM.1
  intro t
  induction t with
  | nil =>
    intro i kf hd hi hk
    rw [List.length_nil] at hk
    obtain ⟨k, rfl⟩ : ∃ k, kf = k + 1 := ⟨kf - 1, by omega⟩
    have hn := drop_n hd
    rw [p_MoReader_scan_47, if_pos (nI_le hn (by omega))]
    rfl
  | cons b t ih =>
    intro i kf hd hi hk
    rw [List.length_cons] at hk
    obtain ⟨k, rfl⟩ : ∃ k, kf = k + 1 := ⟨kf - 1, by omega⟩
    obtain ⟨e1, e2, e3⟩ := drop_c hd
    rw [p_MoReader_scan_47, if_neg (nI_ge e1 (by omega)), ck_t (ixb_t (by omega) (by omega)), nI_clamp (by omega), hM.2.1 i e1, e2, nl]
    by_cases q : b = 10
    · rw [if_pos q, if_pos q]
      rfl
    · rw [if_neg q, if_neg q, nI_1, ih (i + 1) k e3 (by omega) (by omega)]
      congr 2
      omega
theorem ms_skip {l : List Int32} {f : Nat → Int32} (hM : TM l f) (beh tok opn : Int32) (num : Int64) (top plc vbd kno rnk : Int32) (wf : Nat → Int32) : ∀ (m : Nat) (t : List Int32) (i kf : Nat), t.length ≤ m → l.drop i = t → i ≤ l.length → t.length < kf → p_MoReader_scan_5 pure_n (nI l.length) beh tok opn num top plc vbd kno rnk 4096 f 4096 wf kf (nI i) = p_MoReader_scan_78 pure_n (nI l.length) beh tok opn num top plc vbd kno rnk 4096 f 4096 wf (nI (i + sk false t)) := by
  have hl := hM.1
  have hpn := pure_ge
  intro m
  induction m with
  | zero =>
    intro t i kf hm hd hi hk
    obtain rfl : t = [] := List.eq_nil_of_length_eq_zero (by omega)
    rw [List.length_nil] at hk
    obtain ⟨k, rfl⟩ : ∃ k, kf = k + 1 := ⟨kf - 1, by omega⟩
    have hn := drop_n hd
    rw [p_MoReader_scan_5, if_pos (nI_le hn (by omega))]
    rfl
  | succ m ih =>
    intro t i kf hm hd hi hk
    obtain ⟨k, rfl⟩ : ∃ k, kf = k + 1 := ⟨kf - 1, by omega⟩
    cases t with
    | nil =>
      have hn := drop_n hd
      rw [p_MoReader_scan_5, if_pos (nI_le hn (by omega))]
      rfl
    | cons b t =>
      rw [List.length_cons] at hm hk
      obtain ⟨e1, e2, e3⟩ := drop_c hd
      have dl := drop_len hd hi
      rw [List.length_cons] at dl
      have hb : bok b := by
        have := hM.2.2 i e1
        rw [hM.2.1 i e1, e2] at this
        exact this
      rw [p_MoReader_scan_5, if_neg (nI_ge e1 (by omega)), ck_t (ixb_t (by omega) (by omega)), nI_clamp (by omega), hM.2.1 i e1, e2, ml_B hb, Option.bind_some, sk]
      unfold p_MoReader_scan_36
      rw [ck_t (ixb_t (by omega) (by omega)), nI_clamp (by omega), hM.2.1 i e1, e2]
      by_cases q : b = 37
      · rw [if_pos q, if_pos q, if_pos q]
        have nB : ¬ b1 (cB b) = 0 → False := fun z => z (by rw [q]; decide)
        rw [if_pos (by rw [q]; decide), ms_nl hM _ (b :: t) i pure_n hd hi (by rw [List.length_cons]; omega)]
        have n1 : nl (b :: t) = 1 + nl t := by rw [nl, if_neg (by rw [q]; decide)]
        have nle := nl_le t
        have d2 : l.drop (i + (1 + nl t)) = t.drop (nl t) := by
          rw [← e3, List.drop_drop]
          congr 1
          omega
        rw [n1, ck_t (ixb_t (by omega) (by omega))]
        dsimp only
        rw [ih (t.drop (nl t)) (i + (1 + nl t)) k (by rw [List.length_drop]; omega) d2 (by omega) (by rw [List.length_drop]; omega), sk_nl t]
        congr 2
        omega
      · rw [if_neg q, if_neg q, if_neg q]
        by_cases q2 : cB b = true
        · rw [if_neg (b1_f.mpr q2), if_pos q2, nI_1, ck_t (ixb_t (by omega) (by omega))]
          dsimp only
          rw [ih t (i + 1) k (by omega) e3 (by omega) (by omega)]
          congr 2
          omega
        · rw [if_pos (b1_0 q2), if_neg q2]
          rfl
/-! ===== the reference's signs: numbers, quoted names, symbols, the whole ===== -/
/-- the reference's numbers of signs -/
def rt (k : Nat) : Nat := if k = 4 then 0 else if k = 5 then 13 else if k = 6 then 12 else if k = 40 then 4 else if k = 41 then 5 else if k = 91 then 6 else if k = 93 then 7 else if k = 123 then 8 else if k = 125 then 9 else if k = 44 then 10 else if k = 124 then 11 else k
theorem dv_top : ∀ t : List Int32, dv 9007199254740992 t = 9007199254740992 := by
  intro t
  induction t with
  | nil => rfl
  | cons b t ih =>
    rw [dv]
    by_cases q : cD b = true
    · rw [if_pos q, Nat.min_eq_right (by omega), ih]
    · rw [if_neg q]
theorem ms_dig {l : List Int32} {f : Nat → Int32} (hM : TM l f) (aa beh tok opn let_ top plc vbd kno rnk : Int32) : ∀ (t : List Int32) (i kf c m : Nat), l.drop i = t → i ≤ l.length → t.length < kf → ((m = c ∧ c < 9007199254740992) ∨ (c = 9007199254740992 ∧ 9007199254740992 ≤ m ∧ m < 100000000000000000)) → wp (p_MoReader_digits_10 pure_n (nI l.length) aa beh tok opn let_ top plc vbd kno rnk 4096 f kf (nI i) (lN m)) (fun (b', t', n') => b' = nI (i + tw cD t) ∧ t' = (if dv c t < 9007199254740992 then 2 else 12) ∧ (dv c t < 9007199254740992 → n' = lN (dv c t))) := by
  have hl := hM.1
  have e53 : (9007199254740992 : Int64) = lN 9007199254740992 := rfl
  have ed : ∀ (i c m : Nat), ((m = c ∧ c < 9007199254740992) ∨ (c = 9007199254740992 ∧ 9007199254740992 ≤ m ∧ m < 100000000000000000)) → wp (if 0 ≤ (lg_cmp (lN m) 9007199254740992) then ((p_MoReader_take (12 : Int32) (nI i) (nI l.length) aa beh tok opn (lN m) let_ top plc vbd kno rnk).bind (fun (a_behind_6, a_token_6) => some (a_behind_6, a_token_6, lN m))) else ((p_MoReader_take (2 : Int32) (nI i) (nI l.length) aa beh tok opn (lN m) let_ top plc vbd kno rnk).bind (fun (a_behind_7, a_token_7) => some (a_behind_7, a_token_7, lN m)))) (fun (b', t', n') => b' = nI i ∧ t' = (if c < 9007199254740992 then 2 else 12) ∧ (c < 9007199254740992 → n' = lN c)) := fun i c m hm => by
    unfold p_MoReader_take
    rcases hm with ⟨rfl, h2⟩ | ⟨rfl, h2, h3⟩
    · refine wp_if (fun z => ?_) (wp_bs rfl (wp_some ⟨rfl, ?_, fun _ => rfl⟩))
      · rw [lg_cmp_ge, e53] at z
        have := (pk_lLE (by omega) (by omega)).mp z
        omega
      · rw [if_pos h2]
    · refine wp_it ?_ (wp_bs rfl (wp_some ⟨rfl, rfl, fun z => absurd z (by omega)⟩))
      rw [lg_cmp_ge, e53]
      exact (pk_lLE (by omega) (by omega)).mpr h2
  intro t
  induction t with
  | nil =>
    intro i kf c m hd hi hk hm
    rw [List.length_nil] at hk
    obtain ⟨k, rfl⟩ : ∃ k, kf = k + 1 := ⟨kf - 1, by omega⟩
    have hn := drop_n hd
    have em : mb l i = -1 := by unfold mb; rw [if_neg (by omega)]
    have lk := ml_look hM (i := i) (by omega) aa beh tok opn (lN m) top plc vbd kno rnk let_
    rw [em] at lk
    rw [p_MoReader_digits_10]
    refine wp_bs lk (wp_bs (ml_D bok_m1) (wp_it (by decide) ?_))
    exact ed i c m hm
  | cons b t ih =>
    intro i kf c m hd hi hk hm
    rw [List.length_cons] at hk
    obtain ⟨k, rfl⟩ : ∃ k, kf = k + 1 := ⟨kf - 1, by omega⟩
    obtain ⟨e1, e2, e3⟩ := drop_c hd
    have em : mb l i = b := by unfold mb; rw [if_pos e1, e2]
    have hb : bok b := by rw [← em]; exact mb_bok hM i
    have lk := ml_look hM (i := i) (by omega) aa beh tok opn (lN m) top plc vbd kno rnk let_
    rw [em] at lk
    rw [p_MoReader_digits_10]
    refine wp_bs lk (wp_bs (ml_D hb) ?_)
    rw [tw, dv]
    by_cases q : cD b = true
    · obtain ⟨u1, u2, u3⟩ := dg_u hb q
      rw [if_pos q, if_pos q, nI_1, show i + (1 + tw cD t) = i + 1 + tw cD t by omega]
      refine wp_if (b1_f.mpr q) ?_
      rcases hm with ⟨rfl, h2⟩ | ⟨rfl, h2, h3⟩
      · refine wp_if (fun z => ?_) (wp_ck (ixb_t (by omega) (by omega)) ?_)
        · rw [lg_cmp_ge, e53] at z
          have := (pk_lLE (by omega) (by omega)).mp z
          omega
        · rw [nI_clamp (by omega), hM.2.1 i e1, e2, u2, nI_l (by omega)]
          have en : 10 * lN m + lN (dg b + 48) - 48 = lN (m * 10 + dg b) := by
            have e10 : (10 : Int64) = lN 10 := rfl
            have e48 : (48 : Int64) = lN 48 := rfl
            rw [e10, e48, lN_mul', lN_add', lN_sub' (by omega)]
            congr 1
            omega
          rw [← u2, en]
          refine ih (i + 1) k _ _ e3 (by omega) (by omega) ?_
          by_cases q3 : m * 10 + dg b < 9007199254740992
          · exact Or.inl ⟨by rw [Nat.min_eq_left (by omega)], by omega⟩
          · exact Or.inr ⟨by omega, by omega, by omega⟩
      · refine wp_it ?_ ?_
        · rw [lg_cmp_ge, e53]
          exact (pk_lLE (by omega) (by omega)).mpr h2
        · rw [Nat.min_eq_right (by omega)]
          exact ih (i + 1) k _ _ e3 (by omega) (by omega) (Or.inr ⟨rfl, h2, h3⟩)
    · rw [if_neg q, if_neg q]
      exact wp_it (b1_0 q) (ed i c m hm)
set_option maxRecDepth 100000 in
theorem cQ_m {b : Int32} (hb : bok b) : (b < 32 → cQ b = false) ∧ (¬ b < 32 → b ≤ 126 → cQ b = true) ∧ (¬ b < 32 → ¬ b ≤ 126 → cQ b = false) := all_b (fun b => (b < 32 → cQ b = false) ∧ (¬ b < 32 → b ≤ 126 → cQ b = true) ∧ (¬ b < 32 → ¬ b ≤ 126 → cQ b = false)) (by decide +kernel) hb
/-- quoted names -/
theorem ms_quot {l : List Int32} {f : Nat → Int32} (hM : TM l f) (a : Nat) (beh tok opn : Int32) (num : Int64) (top plc vbd kno rnk : Int32) : ∀ (k : Nat) (t w : List Int32) (i kf : Nat) (wf : Nat → Int32), l.drop i = t → i ≤ l.length → t.length < k → t.length < kf → WD w 4096 wf → w.length + t.length ≤ 4096 → wp (p_MoReader_quoted_7 pure_n (nI l.length) (nI a) beh tok opn num top plc vbd kno rnk 4096 f 4096 kf (nI i) (nI w.length) wf) (fun (b', t', l', wf') => ∃ w', l' = nI w'.length ∧ WD w' 4096 wf' ∧ ((qt k t = none ∧ b' = nI (a + 1) ∧ t' = 12) ∨ (∃ v m, qt k t = some (v, m) ∧ b' = nI (i + m) ∧ t' = 3 ∧ w' = w ++ v))) := by
  have hl := hM.1
  intro k
  induction k with
  | zero => intro t w i kf wf _ _ h1; exact absurd h1 (Nat.not_lt_zero _)
  | succ k ih =>
    intro t w i kf wf hd hi h1 h2 hw hwl
    obtain ⟨kf, rfl⟩ : ∃ z, kf = z + 1 := ⟨kf - 1, by omega⟩
    have lk := ml_look hM (i := i) (by omega) (nI a) beh tok opn num top plc vbd kno rnk (nI w.length)
    rw [p_MoReader_quoted_7]
    cases t with
    | nil =>
      have hn := drop_n hd
      have em : mb l i = -1 := by unfold mb; rw [if_neg (by omega)]
      rw [em] at lk
      unfold p_MoReader_take
      refine wp_bs lk (wp_it (by decide) (wp_bs rfl (wp_some ⟨w, rfl, hw, Or.inl ⟨rfl, nI_1 a, rfl⟩⟩)))
    | cons b t =>
      obtain ⟨e1, e2, e3⟩ := drop_c hd
      have em : mb l i = b := by unfold mb; rw [if_pos e1, e2]
      have hb : bok b := by rw [← em]; exact mb_bok hM i
      rw [em] at lk
      rw [List.length_cons] at h1 h2 hwl
      obtain ⟨c1, c2, c3⟩ := cQ_m hb
      refine wp_bs lk ?_
      rw [qt_c]
      by_cases q1 : b < 32
      · rw [c1 q1]
        unfold p_MoReader_take
        exact wp_it q1 (wp_bs rfl (wp_some ⟨w, rfl, hw, Or.inl ⟨rfl, nI_1 a, rfl⟩⟩))
      refine wp_if q1 ?_
      by_cases q2 : b ≤ 126
      · rw [c2 q1 q2, if_pos rfl]
        refine wp_it q2 ?_
        by_cases q3 : b = 39
        · refine wp_it q3 ?_
          rw [if_pos q3]
          rw [nI_1]
          have lk2 := ml_look hM (i := i + 1) (by omega) (nI a) beh tok opn num top plc vbd kno rnk (nI w.length)
          cases t with
          | nil =>
            have hn := drop_n e3
            have em2 : mb l (i + 1) = -1 := by unfold mb; rw [if_neg (by omega)]
            rw [em2] at lk2
            unfold p_MoReader_take
            exact wp_bs lk2 (wp_if (by decide) (wp_bs rfl (wp_some ⟨w, rfl, hw, Or.inr ⟨[], 1, rfl, rfl, rfl, by rw [List.append_nil]⟩⟩)))
          | cons c t2 =>
            obtain ⟨f1, f2, f3⟩ := drop_c e3
            have em2 : mb l (i + 1) = c := by unfold mb; rw [if_pos f1, f2]
            rw [em2] at lk2
            refine wp_bs lk2 ?_
            dsimp only
            by_cases q4 : c = 39
            · refine wp_it q4 ?_
              rw [if_pos q4]
              rw [List.length_cons] at h1 h2 hwl
              obtain ⟨g, g1, g2⟩ := ml_letter hw (by omega) (show bok 39 by unfold bok; decide) (nI l.length) (nI a) beh tok opn num top plc vbd kno rnk
              refine wp_bs g1 ?_
              dsimp only
              rw [nI_1]
              refine wp_mono (ih t2 (w ++ [39]) (i + 1 + 1) kf g f3 (by omega) (by omega) (by omega) g2 (by rw [List.length_append, List.length_singleton]; omega)) ?_
              rintro ⟨b', t', l', wf'⟩ ⟨w', d1, d2, d3⟩
              refine ⟨w', d1, d2, ?_⟩
              rcases d3 with ⟨d3, d4, d5⟩ | ⟨v, m, d3, d4, d5, d6⟩
              · exact Or.inl ⟨by rw [d3]; rfl, d4, d5⟩
              · exact Or.inr ⟨39 :: v, m + 2, by rw [d3]; rfl, by rw [d4, show i + 1 + 1 + m = i + (m + 2) by omega], d5, by rw [d6, List.append_assoc]; rfl⟩
            · refine wp_if q4 ?_
              rw [if_neg q4]
              unfold p_MoReader_take
              exact (wp_bs rfl (wp_some ⟨w, rfl, hw, Or.inr ⟨[], 1, rfl, rfl, rfl, by rw [List.append_nil]⟩⟩))
        · refine wp_if q3 ?_
          rw [if_neg q3]
          obtain ⟨g, g1, g2⟩ := ml_letter hw (by omega) hb (nI l.length) (nI a) beh tok opn num top plc vbd kno rnk
          refine wp_bs g1 ?_
          dsimp only
          rw [nI_1]
          refine wp_mono (ih t (w ++ [b]) (i + 1) kf g e3 (by omega) (by omega) (by omega) g2 (by rw [List.length_append, List.length_singleton]; omega)) ?_
          rintro ⟨b', t', l', wf'⟩ ⟨w', d1, d2, d3⟩
          refine ⟨w', d1, d2, ?_⟩
          rcases d3 with ⟨d3, d4, d5⟩ | ⟨v, m, d3, d4, d5, d6⟩
          · exact Or.inl ⟨by rw [d3]; rfl, d4, d5⟩
          · exact Or.inr ⟨b :: v, m + 1, by rw [d3]; rfl, by rw [d4, show i + 1 + m = i + (m + 1) by omega], d5, by rw [d6, List.append_assoc]; rfl⟩
      · rw [c3 q1 q2]
        unfold p_MoReader_take
        exact wp_if q2 (wp_bs rfl (wp_some ⟨w, rfl, hw, Or.inl ⟨rfl, nI_1 a, rfl⟩⟩))
/-- symbols -/
theorem ms_sym {l : List Int32} {f : Nat → Int32} (hM : TM l f) (a : Nat) (y0 : Int32) (beh tok opn : Int32) (num : Int64) (top plc vbd kno rnk : Int32) : ∀ (t w : List Int32) (i kf : Nat) (wf : Nat → Int32), l.drop i = t → i ≤ l.length → t.length < kf → WD w 4096 wf → w.length + t.length ≤ 4096 → wp (p_MoReader_scan_249 pure_n (nI l.length) beh tok opn num top plc vbd kno rnk 4096 f 4096 (nI a) y0 kf (nI i) (nI w.length) wf) (fun (a', b', t', n', l', wf') => a' = nI a ∧ b' = nI (i + tw cY t) ∧ t' = (if w.length + tw cY t = 1 ∧ y0 = 46 ∧ endq (t.drop (tw cY t)) = true then 0 else 3) ∧ n' = num ∧ l' = nI (w ++ t.take (tw cY t)).length ∧ WD (w ++ t.take (tw cY t)) 4096 wf') := by
  have hl := hM.1
  have ed : ∀ (t w : List Int32) (i : Nat) (wf : Nat → Int32), l.drop i = t → i ≤ l.length → WD w 4096 wf → wp (if nI w.length = 1 then (if y0 = 46 then (if nI i = nI l.length then (p_MoReader_scan_321 pure_n (nI l.length) beh tok opn num top plc vbd kno rnk (nI a) (nI i) (nI w.length) wf) else (ck (ixb (nI i) 4096) ((p_MoReader_blank (f (nI i).toNatClampNeg)).bind (fun r46 => if r46 = 0 then (ck (ixb (nI i) 4096) (if (f (nI i).toNatClampNeg) = 37 then (p_MoReader_scan_321 pure_n (nI l.length) beh tok opn num top plc vbd kno rnk (nI a) (nI i) (nI w.length) wf) else (p_MoReader_scan_325 pure_n (nI l.length) beh tok opn num top plc vbd kno rnk (nI a) (nI i) (nI w.length) wf))) else (p_MoReader_scan_321 pure_n (nI l.length) beh tok opn num top plc vbd kno rnk (nI a) (nI i) (nI w.length) wf))))) else (p_MoReader_scan_325 pure_n (nI l.length) beh tok opn num top plc vbd kno rnk (nI a) (nI i) (nI w.length) wf)) else (p_MoReader_scan_325 pure_n (nI l.length) beh tok opn num top plc vbd kno rnk (nI a) (nI i) (nI w.length) wf)) (fun (a', b', t', n', l', wf') => a' = nI a ∧ b' = nI i ∧ t' = (if w.length = 1 ∧ y0 = 46 ∧ endq t = true then 0 else 3) ∧ n' = num ∧ l' = nI w.length ∧ WD w 4096 wf') := fun t w i wf hd hi hw => by
    have y3 : wp (p_MoReader_scan_321 pure_n (nI l.length) beh tok opn num top plc vbd kno rnk (nI a) (nI i) (nI w.length) wf) (fun (a', b', t', n', l', wf') => a' = nI a ∧ b' = nI i ∧ t' = 0 ∧ n' = num ∧ l' = nI w.length ∧ WD w 4096 wf') := by
      unfold p_MoReader_scan_321 p_MoReader_scan_326 p_MoReader_take
      exact wp_if (by decide) (wp_bs rfl (wp_some ⟨rfl, rfl, rfl, rfl, rfl, hw⟩))
    have y4 : wp (p_MoReader_scan_325 pure_n (nI l.length) beh tok opn num top plc vbd kno rnk (nI a) (nI i) (nI w.length) wf) (fun (a', b', t', n', l', wf') => a' = nI a ∧ b' = nI i ∧ t' = 3 ∧ n' = num ∧ l' = nI w.length ∧ WD w 4096 wf') := by
      unfold p_MoReader_scan_325 p_MoReader_scan_326 p_MoReader_take
      exact wp_it rfl (wp_bs rfl (wp_some ⟨rfl, rfl, rfl, rfl, rfl, hw⟩))
    have hwl := hw.1
    by_cases q1 : w.length = 1
    · refine wp_it (by rw [q1]; rfl) ?_
      by_cases q2 : y0 = 46
      · refine wp_it q2 ?_
        cases t with
        | nil =>
          have hn := drop_n hd
          obtain rfl : i = l.length := by omega
          refine wp_it rfl ?_
          rw [if_pos (show w.length = 1 ∧ y0 = 46 ∧ endq [] = true from ⟨q1, q2, rfl⟩)]
          exact y3
        | cons b t =>
          obtain ⟨e1, e2, e3⟩ := drop_c hd
          have hb : bok b := by
            have := hM.2.2 i e1
            rw [hM.2.1 i e1, e2] at this
            exact this
          refine wp_if (fun z => by have := (nI_eq (by omega) (by omega)).mp z; omega) (wp_ck (ixb_t (by omega) (by omega)) ?_)
          rw [nI_clamp (by omega), hM.2.1 i e1, e2]
          refine wp_bs (ml_B hb) ?_
          by_cases q3 : cB b = true
          · rw [if_pos (show w.length = 1 ∧ y0 = 46 ∧ endq (b :: t) = true from ⟨q1, q2, by rw [endq, q3]; rfl⟩)]
            exact wp_if (b1_f.mpr q3) y3
          · refine wp_it (b1_0 q3) (wp_ck (ixb_t (by omega) (by omega)) ?_)
            by_cases q4 : b = 37
            · rw [if_pos (show w.length = 1 ∧ y0 = 46 ∧ endq (b :: t) = true from ⟨q1, q2, by rw [endq, q4]; rfl⟩)]
              exact wp_it q4 y3
            · rw [if_neg (show ¬ (w.length = 1 ∧ y0 = 46 ∧ endq (b :: t) = true) from fun z => by
                have := z.2.2
                rw [endq, eq_false_of_ne_true q3, beq_eq_false_iff_ne.mpr q4] at this
                cases this)]
              exact wp_if q4 y4
      · rw [if_neg (show ¬ (w.length = 1 ∧ y0 = 46 ∧ endq t = true) from fun z => q2 z.2.1)]
        exact wp_if q2 y4
    · rw [if_neg (show ¬ (w.length = 1 ∧ y0 = 46 ∧ endq t = true) from fun z => q1 z.1)]
      exact wp_if (fun z => q1 ((nI_eq (a := w.length) (b := 1) (by omega) (by omega)).mp z)) y4
  intro t
  induction t with
  | nil =>
    intro w i kf wf hd hi hk hw hwl
    rw [List.length_nil] at hk
    obtain ⟨k, rfl⟩ : ∃ k, kf = k + 1 := ⟨kf - 1, by omega⟩
    have hn := drop_n hd
    have em : mb l i = -1 := by unfold mb; rw [if_neg (by omega)]
    have lk := ml_look hM (i := i) (by omega) (nI a) beh tok opn num top plc vbd kno rnk (nI w.length)
    rw [em] at lk
    rw [p_MoReader_scan_249, show tw cY [] = 0 from rfl, List.take_nil, List.append_nil, Nat.add_zero, Nat.add_zero, List.drop_nil]
    exact wp_bs lk (wp_bs (ml_Y bok_m1) (wp_it (by decide) (ed [] w i wf hd hi hw)))
  | cons b t ih =>
    intro w i kf wf hd hi hk hw hwl
    rw [List.length_cons] at hk hwl
    obtain ⟨k, rfl⟩ : ∃ k, kf = k + 1 := ⟨kf - 1, by omega⟩
    obtain ⟨e1, e2, e3⟩ := drop_c hd
    have em : mb l i = b := by unfold mb; rw [if_pos e1, e2]
    have hb : bok b := by rw [← em]; exact mb_bok hM i
    have lk := ml_look hM (i := i) (by omega) (nI a) beh tok opn num top plc vbd kno rnk (nI w.length)
    rw [em] at lk
    rw [p_MoReader_scan_249]
    refine wp_bs lk (wp_bs (ml_Y hb) ?_)
    by_cases q : cY b = true
    · refine wp_if (b1_f.mpr q) (wp_ck (ixb_t (by omega) (by omega)) ?_)
      rw [nI_clamp (by omega), hM.2.1 i e1, e2]
      obtain ⟨g, g1, g2⟩ := ml_letter hw (by omega) hb (nI l.length) (nI a) beh tok opn num top plc vbd kno rnk
      refine wp_bs g1 ?_
      dsimp only
      have := ih (w ++ [b]) (i + 1) k g e3 (by omega) (by omega) g2 (by rw [List.length_append, List.length_singleton]; omega)
      rw [List.append_assoc, List.length_append, List.length_singleton] at this
      rw [nI_1, tw_cons q, show i + (1 + tw cY t) = i + 1 + tw cY t by omega, show w.length + (1 + tw cY t) = w.length + 1 + tw cY t by omega, Nat.add_comm 1 (tw cY t), List.take_succ_cons, List.drop_succ_cons, List.length_append (as := w) (bs := [b]), List.length_singleton]
      exact this
    · rw [show tw cY (b :: t) = 0 by rw [tw, if_neg q], List.take_zero, List.append_nil, Nat.add_zero, Nat.add_zero, List.drop_zero]
      exact wp_it (b1_0 q) (ed (b :: t) w i wf hd hi hw)
/-! ===== the reference looks at a sign: the whole of it ===== -/
theorem ms_word2 (a_n : Int32) (beh tok opn : Int32) (num : Int64) (top plc vbd kno rnk : Int32) (f : Nat → Int32) (aa y0 : Int32) : ∀ (kf : Nat) (x le : Int32) (wf : Nat → Int32), p_MoReader_scan_146_54 pure_n a_n beh tok opn num top plc vbd kno rnk 4096 f 4096 aa y0 kf x le wf = p_MoReader_scan_146 pure_n a_n beh tok opn num top plc vbd kno rnk 4096 f 4096 aa y0 kf x le wf := by
  intro kf
  induction kf with
  | zero => intro x le wf; rfl
  | succ k ih =>
    intro x le wf
    rw [p_MoReader_scan_146_54, p_MoReader_scan_146]
    unfold p_MoReader_scan_179_57 p_MoReader_scan_179
    simp only [ih]
def RK (k : Nat × Nat × Nat × List Int32 × Nat) : Int32 × Int32 × Int32 × Int64 × Int32 × (Nat → Int32) → Prop :=
  fun (at', beh', tok', num', let', wf') => at' = nI k.2.1 ∧ beh' = nI k.2.2.1 ∧ tok' = nI (rt k.1) ∧ (k.1 = 2 → num' = lN k.2.2.2.2) ∧ (∃ w, let' = nI w.length ∧ WD w 4096 wf' ∧ ((k.1 = 1 ∨ k.1 = 3) → w = k.2.2.2.1))
theorem wd_nil (wf : Nat → Int32) : WD [] 4096 wf := ⟨Nat.zero_le _, Nat.le_refl _, la_nil wf, fun j h => absurd h (Nat.not_lt_zero j)⟩
theorem ms_sign {l : List Int32} {f : Nat → Int32} (hM : TM l f) (beh tok opn : Int32) (num : Int64) (top plc vbd kno rnk : Int32) (wf : Nat → Int32) {a : Nat} {b : Int32} {t : List Int32} (hd : l.drop a = b :: t) (hY : ¬ cY b = true) (n39 : ¬ b = 39) : wp (p_MoReader_sign b (nI l.length) (nI a) beh tok opn num (0 : Int32) top plc vbd kno rnk 4096 f 4096 wf) (fun (b', t', l', wf') => RK (if b = 33 ∨ b = 59 then (3, a, a + 1, [b], 0) else if b = 91 ∧ t.head? = some 93 then (3, a, a + 2, [91, 93], 0) else if cM b then (b.toInt.toNat, a, a + 1, [], 0) else (6, a, a + 1, [], 0)) (nI a, b', t', num, l', wf')) := by
  have hl := hM.1
  obtain ⟨e1, e2, e3⟩ := drop_c hd
  have hb : bok b := by
    have := hM.2.2 a e1
    rw [hM.2.1 a e1, e2] at this
    exact this
  have L1 := fun (b : Int32) (hb : bok b) => ml_letter (wd_nil wf) (by rw [List.length_nil]; omega) hb (nI l.length) (nI a) beh tok opn num top plc vbd kno rnk
  rw [List.length_nil, nI_0] at L1
  unfold p_MoReader_sign p_MoReader_take
  rw [nI_1]
  have mk : ∀ (v : Int32) (j : Nat), b = v → ¬ (b = 33 ∨ b = 59) → ¬ (b = 91 ∧ t.head? = some 93) → cM v = true → nI (rt v.toInt.toNat) = nI j → (v.toInt.toNat = 2 → False) → (v.toInt.toNat = 1 ∨ v.toInt.toNat = 3 → False) → wp ((some (nI (a + 1), nI j)).bind (fun (x, y) => some (x, y, (0 : Int32), wf))) (fun (b', t', l', wf') => RK (if b = 33 ∨ b = 59 then (3, a, a + 1, [b], 0) else if b = 91 ∧ t.head? = some 93 then (3, a, a + 2, [91, 93], 0) else if cM b then (b.toInt.toNat, a, a + 1, [], 0) else (6, a, a + 1, [], 0)) (nI a, b', t', num, l', wf')) := fun v j ev h1 h2 h3 h4 h5 h6 => by
    subst ev
    rw [if_neg h1, if_neg h2, if_pos h3]
    exact wp_bs rfl (wp_some ⟨rfl, rfl, h4.symm, fun z => absurd z h5, [], rfl, wd_nil wf, fun z => absurd z h6⟩)
  by_cases q33 : b = 33
  · rw [if_pos (show b = 33 ∨ b = 59 from Or.inl q33)]
    obtain ⟨g, g1, g2⟩ := L1 b hb
    exact wp_it q33 (wp_bs g1 (wp_bs rfl (wp_some ⟨rfl, rfl, rfl, fun z => nn z rfl, [b], rfl, g2, fun _ => rfl⟩)))
  refine wp_if q33 ?_
  by_cases q40 : b = 40
  · exact wp_it q40 (mk 40 4 q40 (by rw [q40]; decide) (by rw [q40]; exact fun z => absurd z.1 (by decide)) (by decide) (by decide) (by decide) (by decide))
  refine wp_if q40 ?_
  by_cases q41 : b = 41
  · exact wp_it q41 (mk 41 5 q41 (by rw [q41]; decide) (by rw [q41]; exact fun z => absurd z.1 (by decide)) (by decide) (by decide) (by decide) (by decide))
  refine wp_if q41 ?_
  by_cases q44 : b = 44
  · exact wp_it q44 (mk 44 10 q44 (by rw [q44]; decide) (by rw [q44]; exact fun z => absurd z.1 (by decide)) (by decide) (by decide) (by decide) (by decide))
  refine wp_if q44 ?_
  by_cases q59 : b = 59
  · rw [if_pos (show b = 33 ∨ b = 59 from Or.inr q59)]
    obtain ⟨g, g1, g2⟩ := L1 b hb
    exact wp_it q59 (wp_bs g1 (wp_bs rfl (wp_some ⟨rfl, rfl, rfl, fun z => nn z rfl, [b], rfl, g2, fun _ => rfl⟩)))
  refine wp_if q59 ?_
  have n33 : ¬ (b = 33 ∨ b = 59) := fun z => z.elim q33 q59
  by_cases q91 : b = 91
  · refine wp_it q91 ?_
    have lk := ml_look hM (i := a + 1) (by omega) (nI a) beh tok opn num top plc vbd kno rnk 0
    refine wp_bs lk ?_
    cases t with
    | nil =>
      have hn := drop_n e3
      have em2 : mb l (a + 1) = -1 := by unfold mb; rw [if_neg (by omega)]
      rw [em2]
      exact wp_if (by decide) (mk 91 6 q91 n33 (fun z => by cases z.2) (by decide) (by decide) (by decide) (by decide))
    | cons c u =>
      obtain ⟨f1, f2, f3⟩ := drop_c e3
      have em2 : mb l (a + 1) = c := by unfold mb; rw [if_pos f1, f2]
      rw [em2]
      by_cases q93 : c = 93
      · rw [if_neg n33, if_pos (show b = 91 ∧ (c :: u).head? = some 93 from ⟨q91, by rw [q93]; rfl⟩)]
        obtain ⟨g, g1, g2⟩ := L1 91 (by unfold bok; decide)
        obtain ⟨g', g3, g4⟩ := ml_letter g2 (by rw [List.length_append, List.length_nil, List.length_singleton]; omega) (show bok 93 by unfold bok; decide) (nI l.length) (nI a) beh tok opn num top plc vbd kno rnk
        refine wp_it q93 (wp_bs g1 (wp_bs g3 (wp_bs rfl (wp_some ⟨rfl, ?_, rfl, fun z => nn z rfl, [91, 93], rfl, g4, fun _ => rfl⟩))))
        exact nI_add a 2
      · exact wp_if q93 (mk 91 6 q91 n33 (fun z => q93 (by have := z.2; injection this)) (by decide) (by decide) (by decide) (by decide))
  refine wp_if q91 ?_
  have n91 : ¬ (b = 91 ∧ t.head? = some 93) := fun z => q91 z.1
  by_cases q93 : b = 93
  · exact wp_it q93 (mk 93 7 q93 n33 n91 (by decide) (by decide) (by decide) (by decide))
  refine wp_if q93 ?_
  by_cases q123 : b = 123
  · exact wp_it q123 (mk 123 8 q123 n33 n91 (by decide) (by decide) (by decide) (by decide))
  refine wp_if q123 ?_
  by_cases q124 : b = 124
  · exact wp_it q124 (mk 124 11 q124 n33 n91 (by decide) (by decide) (by decide) (by decide))
  refine wp_if q124 ?_
  by_cases q125 : b = 125
  · exact wp_it q125 (mk 125 9 q125 n33 n91 (by decide) (by decide) (by decide) (by decide))
  refine wp_if q125 ?_
  have nM : ¬ cM b = true := by
    unfold cM
    rw [List.contains_iff_mem]
    intro z
    simp only [List.mem_cons, List.not_mem_nil, or_false] at z
    rcases z with z | z | z | z | z | z | z | z
    · exact q40 z
    · exact q41 z
    · exact q91 z
    · exact q93 z
    · exact q123 z
    · exact q125 z
    · exact q44 z
    · exact q124 z
  rw [if_neg n33, if_neg n91, if_neg nM]
  exact wp_bs rfl (wp_some ⟨rfl, rfl, rfl, fun z => nn z rfl, [], rfl, wd_nil wf, fun z => z.elim (fun z => nn z rfl) (fun z => nn z rfl)⟩)
theorem ms_scan {l : List Int32} {f : Nat → Int32} (hM : TM l f) (aa tok opn : Int32) (num : Int64) (let_ top plc vbd kno rnk : Int32) (wf : Nat → Int32) {i : Nat} (hi : i ≤ l.length) : wp (p_MoReader_scan pure_n (nI l.length) aa (nI i) tok opn num let_ top plc vbd kno rnk 4096 f 4096 wf) (RK (tkn l i)) := by
  have hl := hM.1
  have hpn := pure_ge
  have hle := sk_le (l.drop i) false
  rw [List.length_drop] at hle
  unfold p_MoReader_scan
  rw [ms_skip hM (nI i) tok opn num top plc vbd kno rnk wf (l.drop i).length (l.drop i) i pure_n (Nat.le_refl _) rfl hi (by rw [List.length_drop]; omega)]
  unfold tkn
  have hal : i + sk false (l.drop i) ≤ l.length := by omega
  generalize i + sk false (l.drop i) = a at hal ⊢
  unfold p_MoReader_scan_78
  cases hd : l.drop a with
  | nil =>
    have hn := drop_n hd
    obtain rfl : a = l.length := by omega
    refine wp_it (nI_le hn (by omega)) ?_
    unfold p_MoReader_scan_106
    exact wp_it rfl (wp_some ⟨rfl, rfl, rfl, fun z => nn z rfl, [], rfl, wd_nil wf, fun z => z.elim (fun z => nn z rfl) (fun z => nn z rfl)⟩)
  | cons b t =>
    obtain ⟨e1, e2, e3⟩ := drop_c hd
    have dl := drop_len hd hal
    have hb : bok b := by
      have := hM.2.2 a e1
      rw [hM.2.1 a e1, e2] at this
      exact this
    refine wp_if (nI_ge e1 (by omega)) (wp_ck (ixb_t (by omega) (by omega)) ?_)
    rw [nI_clamp (by omega), hM.2.1 a e1, e2]
    unfold p_MoReader_scan_106
    refine wp_if (fun z => by have := (nI_eq (by omega) (by omega)).mp z; omega) (wp_bs (ml_S hb) ?_)
    have W := ms_word hM (nI a) b hb (nI i) tok opn num top plc vbd kno rnk (b :: t) [] a pure_n wf hd hal (by omega) (wd_nil wf) (by rw [List.length_nil]; omega)
    rw [List.length_nil, nI_0, List.nil_append] at W
    rw [tk1]
    by_cases qS : cS b = true
    · have qG : ¬ cG b = true := fun z => by
        unfold cS at qS
        unfold cG at z
        simp only [Bool.and_eq_true, Bool.or_eq_true, decide_eq_true_eq, beq_iff_eq] at qS z
        rcases z with z | z
        · have h1 : (97 : Int32).toInt ≤ b.toInt := Int32.le_iff_toInt_le.mp qS.1
          have h2 : b.toInt ≤ (90 : Int32).toInt := Int32.le_iff_toInt_le.mp z.2
          have : (97 : Int32).toInt = 97 := by decide
          have : (90 : Int32).toInt = 90 := by decide
          omega
        · rw [z] at qS
          exact absurd qS.1 (by decide)
      rw [if_neg qG, if_pos qS]
      rw [if_neg qG] at W
      refine wp_if (b1_f.mpr qS) (wp_mono W ?_)
      rintro ⟨a', b', t', n', l', wf'⟩ ⟨c1, c2, c3, c4, c5, c6⟩
      exact ⟨c1, c2, c3, fun z => nn z rfl, _, c5, c6, fun _ => rfl⟩
    refine wp_it (b1_0 qS) (wp_bs (ml_G hb) ?_)
    by_cases qG : cG b = true
    · rw [if_pos qG]
      rw [if_pos qG, ← ms_word2] at W
      refine wp_if (b1_f.mpr qG) (wp_mono W ?_)
      rintro ⟨a', b', t', n', l', wf'⟩ ⟨c1, c2, c3, c4, c5, c6⟩
      exact ⟨c1, c2, c3, fun z => nn z rfl, _, c5, c6, fun _ => rfl⟩
    rw [if_neg qG, if_neg qS]
    refine wp_it (b1_0 qG) (wp_bs (ml_D hb) ?_)
    by_cases qD : cD b = true
    · rw [if_pos qD]
      have D := ms_dig hM (nI a) (nI i) tok opn 0 top plc vbd kno rnk (b :: t) a pure_n 0 0 hd hal (by omega) (Or.inl ⟨rfl, by omega⟩)
      refine wp_if (b1_f.mpr qD) (wp_bind D ?_)
      rintro ⟨b', t', n'⟩ ⟨c1, c2, c3⟩
      dsimp only at c1 c2 c3 ⊢
      by_cases q : dv 0 (b :: t) < 9007199254740992
      · rw [if_pos q]
        rw [if_pos q] at c2
        exact wp_some ⟨rfl, c1, c2, fun _ => c3 q, [], rfl, wd_nil wf, fun z => z.elim (fun z => nn z rfl) (fun z => nn z rfl)⟩
      · rw [if_neg q]
        rw [if_neg q] at c2
        exact wp_some ⟨rfl, c1, c2, fun z => nn z rfl, [], rfl, wd_nil wf, fun z => z.elim (fun z => nn z rfl) (fun z => nn z rfl)⟩
    rw [if_neg qD]
    refine wp_it (b1_0 qD) ?_
    by_cases q39 : b = 39
    · refine wp_it q39 ?_
      rw [if_pos q39]
      have Q := ms_quot hM a (nI i) tok opn num top plc vbd kno rnk (t.length + 1) t [] (a + 1) pure_n wf e3 (by omega) (by omega) (by rw [List.length_cons] at dl; omega) (wd_nil wf) (by rw [List.length_nil]; rw [List.length_cons] at dl; omega)
      unfold p_MoReader_quoted
      rw [List.length_nil, nI_0, ← nI_1] at Q
      refine wp_bind Q ?_
      rintro ⟨b', t', l', wf'⟩ ⟨w', c1, c2, c3⟩
      dsimp only at c1 c2 c3 ⊢
      rcases c3 with ⟨c3, c4, c5⟩ | ⟨v, m, c3, c4, c5, c6⟩
      · rw [c3]
        exact wp_some ⟨rfl, c4.trans (nI_1 a), c5, fun z => nn z rfl, w', c1, c2, fun z => z.elim (fun z => nn z rfl) (fun z => nn z rfl)⟩
      · rw [c3]
        exact wp_some ⟨rfl, c4, c5, fun z => nn z rfl, w', c1, c2, fun _ => c6⟩
    refine wp_if q39 (wp_bs (ml_Y hb) ?_)
    rw [if_neg q39]
    by_cases qY : cY b = true
    · rw [if_pos qY]
      have Y := ms_sym hM a b (nI i) tok opn num top plc vbd kno rnk (b :: t) [] a pure_n wf hd hal (by omega) (wd_nil wf) (by rw [List.length_nil]; omega)
      rw [List.length_nil, nI_0, List.nil_append, Nat.zero_add] at Y
      refine wp_if (b1_f.mpr qY) (wp_mono Y ?_)
      rintro ⟨a', b', t', n', l', wf'⟩ ⟨c1, c2, c3, c4, c5, c6⟩
      by_cases q : tw cY (b :: t) = 1 ∧ b = 46 ∧ endq t = true
      · rw [if_pos q]
        rw [q.1, if_pos (show 1 = 1 ∧ b = 46 ∧ endq ((b :: t).drop 1) = true from ⟨rfl, q.2.1, q.2.2⟩)] at c3
        rw [q.1] at c2
        exact ⟨c1, c2, c3, fun z => nn z rfl, _, c5, c6, fun z => z.elim (fun z => nn z rfl) (fun z => nn z rfl)⟩
      · rw [if_neg q]
        rw [if_neg (show ¬ (tw cY (b :: t) = 1 ∧ b = 46 ∧ endq ((b :: t).drop (tw cY (b :: t))) = true) from fun z => q ⟨z.1, z.2.1, by have := z.2.2; rw [z.1] at this; exact this⟩)] at c3
        exact ⟨c1, c2, c3, fun z => nn z rfl, _, c5, c6, fun _ => rfl⟩
    rw [if_neg qY]
    refine wp_it (b1_0 qY) (wp_bind (ms_sign hM (nI i) tok opn num top plc vbd kno rnk wf hd qY q39) ?_)
    rintro ⟨b', t', l', wf'⟩ c
    exact wp_some c
/-! ===== terms as both sides hold them ===== -/
/-- true: a variable, false: a node -/
abbrev Rf : Type := Bool × Nat
/-- an integer, or a name's text with parts -/
abbrev Nd : Type := Option Int64 × List Int32 × List Rf
def ci (r : Rf) : Nat := if r.1 then r.2 else 200 + r.2
def rI (r : Rf) : Int32 := nI (ci r)
def pl (S : List Nd) : List Int32 := (S.map (fun d => d.2.2.map rI)).flatten
def poS (S : List Nd) (i : Nat) : Nat := (pl (S.take i)).length
theorem pl_app (S : List Nd) (d : Nd) : pl (S ++ [d]) = pl S ++ d.2.2.map rI := by
  unfold pl
  rw [List.map_append, List.flatten_append]
  simp
theorem pl_app2 (S U : List Nd) : pl (S ++ U) = pl S ++ pl U := by
  unfold pl
  rw [List.map_append, List.flatten_append]
theorem po_app {S U : List Nd} {i : Nat} (h : i ≤ S.length) : poS (S ++ U) i = poS S i := by
  unfold poS
  rw [List.take_append_of_le_length h]
theorem po_all (S : List Nd) : poS S S.length = (pl S).length := by
  unfold poS
  rw [List.take_length]
theorem pl_at {S : List Nd} {i k : Nat} {d : Nd} (h : S[i]? = some d) (hk : k < d.2.2.length) : poS S i + k < (pl S).length ∧ (pl S).getD (poS S i + k) 0 = rI (d.2.2.getD k (true, 0)) := by
  obtain ⟨hi, e⟩ := List.getElem?_eq_some_iff.mp h
  have e2 : S = S.take i ++ [d] ++ S.drop (i + 1) := by
    rw [List.append_assoc, List.singleton_append, ← e, ← List.drop_eq_getElem_cons hi, List.take_append_drop]
  have e3 : pl S = pl (S.take i) ++ (d.2.2.map rI ++ pl (S.drop (i + 1))) := by
    conv => lhs; rw [e2]
    rw [pl_app2, pl_app, List.append_assoc]
  have e4 : (d.2.2.map rI).length = d.2.2.length := List.length_map ..
  constructor
  · rw [e3, List.length_append, List.length_append, e4]
    unfold poS
    omega
  · rw [e3]
    unfold poS
    rw [gd_2 (by omega), Nat.add_sub_cancel_left, gd_1 (by omega), List.getD_eq_getElem?_getD, List.getD_eq_getElem?_getD, List.getElem?_map, List.getElem?_eq_getElem hk]
    rfl
/-- a text's number -/
def nm (T : List (List Int32)) (w : List Int32) (x : Int32) : Prop := ∃ j, j < T.length ∧ T.getD j [] = w ∧ x = nI j
theorem nm_app {T U : List (List Int32)} {w : List Int32} {x : Int32} (h : nm T w x) : nm (T ++ U) w x := by
  obtain ⟨j, h1, h2, h3⟩ := h
  exact ⟨j, by rw [List.length_append]; omega, by rw [gd_1 h1]; exact h2, h3⟩
/-- a node as the class holds it -/
def NE (T : List (List Int32)) (d : Nd) (s : Int32) (v : Int64) : Prop := (∃ z, d.1 = some z ∧ d.2.2 = [] ∧ s = -1 ∧ v = z) ∨ (d.1 = none ∧ s = nI d.2.2.length ∧ d.2.2.length ≤ 8 ∧ ∃ j, j < T.length ∧ T.getD j [] = d.2.1 ∧ v = lN j)
theorem ne_app {T U : List (List Int32)} {d : Nd} {s : Int32} {v : Int64} (h : NE T d s v) : NE (T ++ U) d s v := by
  rcases h with h | ⟨h1, h2, h3, j, h4, h5, h6⟩
  · exact Or.inl h
  · exact Or.inr ⟨h1, h2, h3, j, by rw [List.length_append]; omega, by rw [gd_1 h4]; exact h5, h6⟩
/-- the class's nodes -/
def CT (T : List (List Int32)) (S : List Nd) (nd : Int32) (sn : Nat) (sf : Nat → Int32) (vn : Nat) (vf : Nat → Int64) (fn : Nat) (ff : Nat → Int32) (ps : Int32) (pn : Nat) (pf : Nat → Int32) : Prop :=
  nd = nI (200 + S.length) ∧ 1 ≤ S.length ∧ 200 + S.length ≤ sn ∧ vn = sn ∧ fn = sn ∧ 400 ≤ sn ∧ sn ≤ 53000 ∧ IN (pl S) ps pn pf ∧ pn ≤ 53000 ∧ (∀ v, v < 200 → sf v = -2) ∧ (∀ i d, S[i]? = some d → NE T d (sf (200 + i)) (vf (200 + i)) ∧ ff (200 + i) = nI (poS S i))
theorem cp_l {k : Nat} {f : Nat → Int64} (h0 : 0 < k) (hk : k ≤ 33554432) : p_Arrays_copyOf_aJI (2 * nI k) k f = some ((2 * k, va_cpy f (fun _ => 0) 0 0 k), 1, 2 * k) := by
  have e2 : (2 : Int32) * nI k = nI (2 * k) := pk_mul 2 k
  have hne : ¬ nI (2 * k) = Int32.ofNat k := fun h => by
    have := (nI_eq (a := 2 * k) (b := k) (by omega) (by omega)).mp h
    omega
  have hlt : ¬ nI (2 * k) < Int32.ofNat k := nI_nlt (by omega) (by omega)
  unfold p_Arrays_copyOf_aJI
  rw [e2, if_neg hne]
  simp only [if_neg hlt]
  rw [ck_t (nab_t (by omega) (by omega)), show (0 : Int32).toNatClampNeg = 0 from rfl, nI_clamp (n := 2 * k) (by omega), show Int32.ofNat k = nI k from rfl, nI_clamp (n := k) (by omega), ck_t (cpb_t (by omega) (by omega) (by omega))]
  simp only [al, Option.map_some, Nat.zero_add]
theorem p1s (x : Nat) : nI x + 1 - 1 = nI x := by rw [nI_1, nI_pred]
theorem tn_new (shape : Int32) (value : Int64) (a b c d e g : Int32) {n sn : Nat} {sf : Nat → Int32} {vf : Nat → Int64} {ff : Nat → Int32} {ps : Int32} (h1 : n ≤ sn) (h2 : 400 ≤ sn) (h3 : sn ≤ 53000) : wp (p_Terms_newNode shape value (nI n) a b c d e g sn sf sn vf sn ff ps) (fun ((r, nd', sn', sf', vn', vf', fn', ff'), mq, sk) => r = nI n ∧ nd' = nI (n + 1) ∧ vn' = sn' ∧ fn' = sn' ∧ n + 1 ≤ sn' ∧ sn ≤ sn' ∧ (sn' = sn ∨ sn' = 2 * n) ∧ 64 * mq + 3 * sn ≤ 3 * sn' ∧ sk + 6 * sn ≤ 6 * sn' ∧ (∀ j, j < n → sf' j = sf j ∧ vf' j = vf j ∧ ff' j = ff j) ∧ sf' n = shape ∧ vf' n = value ∧ ff' n = ps) := by
  unfold p_Terms_newNode p_Ints_size
  refine wp_ite (pk_eq n sn (fun h => ?_) (fun h => ?_) rfl rfl (by omega) (by omega))
  · subst h
    refine wp_bs (cp_i (by omega) (by omega)) ?_
    dsimp only
    refine wp_al (wp_bs (cp_l (by omega) (by omega)) ?_)
    dsimp only
    refine wp_al (wp_bs (cp_i (by omega) (by omega)) ?_)
    dsimp only
    refine wp_al (wp_ck (ixb_t (by omega) (by omega)) (wp_ck (ixb_t (by omega) (by omega)) (wp_bs rfl (wp_ck (ixb_t (by omega) (by omega)) (wp_some ?_)))))
    dsimp only
    rw [nI_clamp (by omega), p1s, nI_1]
    refine ⟨rfl, rfl, rfl, rfl, by omega, by omega, by omega, by omega, by omega, fun j hj => ?_, pk_us, pk_uLs, pk_us⟩
    rw [pk_un (by omega), pk_un (by omega), pk_uLn (by omega), pk_cpy_in (by omega) (by omega), pk_cpy_in (by omega) (by omega), pk_cpy_in (by omega) (by omega), Nat.zero_add, Nat.sub_zero]
    exact ⟨rfl, rfl, rfl⟩
  · refine wp_ck (ixb_t (by omega) (by omega)) (wp_ck (ixb_t (by omega) (by omega)) (wp_bs rfl (wp_ck (ixb_t (by omega) (by omega)) (wp_some ?_))))
    dsimp only
    rw [nI_clamp (by omega), p1s, nI_1]
    refine ⟨rfl, rfl, rfl, rfl, by omega, by omega, by omega, by omega, by omega, fun j hj => ?_, pk_us, pk_uLs, pk_us⟩
    rw [pk_un (by omega), pk_un (by omega), pk_uLn (by omega)]
    exact ⟨rfl, rfl, rfl⟩
