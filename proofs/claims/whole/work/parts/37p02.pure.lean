/-! ===== the reference's compounds, variables, names ===== -/
theorem mt_loop (n : Nat) (x sz : Int32) (kf nf ff mf : Nat → Int32) {a k P : Nat} {pf stf : Nat → Int32} (ha : a + k ≤ 4200) (hP : P + k ≤ 300000) : ∀ (j i f : Nat) (pg : Nat → Int32), i + j = k → j < f → (∀ q, q < P → pg q = pf q) → (∀ t, t < i → pg (P + t) = stf (a + t)) → ∃ pf', p_MoTerms_compound_47 n x (nI a) (nI k) sz (nI P) kf nf ff mf 404300 4200 stf f (nI i) (nI (P + i)) pg = some (sz, sz + 1, nI (P + k), upd kf sz.toNatClampNeg 2, upd nf sz.toNatClampNeg x, upd ff sz.toNatClampNeg (nI P), upd mf sz.toNatClampNeg (nI k), pf') ∧ (∀ q, q < P → pf' q = pf q) ∧ (∀ t, t < k → pf' (P + t) = stf (a + t)) := by
  intro j
  induction j with
  | zero =>
    intro i f pg hi hf h1 h2
    obtain ⟨f, rfl⟩ : ∃ z, f = z + 1 := ⟨f - 1, by omega⟩
    obtain rfl : i = k := by omega
    refine ⟨pg, ?_, h1, h2⟩
    rw [p_MoTerms_compound_47, if_pos (nI_le (Nat.le_refl _) (by omega))]
  | succ j ih =>
    intro i f pg hi hf h1 h2
    obtain ⟨f, rfl⟩ : ∃ z, f = z + 1 := ⟨f - 1, by omega⟩
    rw [p_MoTerms_compound_47, if_neg (nI_ge (by omega) (by omega)), nI_add, ck_t (ixb_t (by omega) (by omega)), ck_t (ixb_t (by omega) (by omega)), nI_1, nI_1, nI_clamp (n := a + i) (by omega), nI_clamp (n := P + i) (by omega)]
    refine ih (i + 1) f _ (by omega) (by omega) (fun q hq => ?_) (fun t ht => ?_)
    · rw [pk_un (by omega)]
      exact h1 q hq
    · by_cases q : t = i
      · subst q
        rw [pk_us]
      · rw [pk_un (by omega)]
        exact h2 t (by omega)
theorem mt_comp (n : Nat) (hn : 100 < n) {TR : List (List Int32)} {S : List Nd} {M : List Rf} {P : Nat} {sz pt : Int32} {kf nf ff mf pf : Nat → Int32} {bf : Nat → Int64} (h : RT TR S M P sz pt kf nf ff mf pf bf) (hM : M.length < 300000) {w : List Int32} {x : Int32} (hw : nm TR w x) {K : List Rf} {stf : Nat → Int32} (hK : RS M K stf) {k : Nat} (hk : k ≤ K.length) (hk8 : k ≤ 8) (hK2 : K.length ≤ 4200) (hP : P + k ≤ 300000) : ∃ kf' nf' ff' mf' pf', p_MoTerms_compound n x (nI (K.length - k)) (nI k) sz pt 404300 kf 404300 nf 404300 ff 404300 mf 404300 pf 4200 stf = some (nI M.length, nI (M.length + 1), nI (P + k), kf', nf', ff', mf', pf') ∧ RT TR (S ++ [(none, w, K.drop (K.length - k))]) (M ++ [(false, S.length)]) (P + k) (nI (M.length + 1)) (nI (P + k)) kf' nf' ff' mf' pf' bf ∧ (∀ x, x < M.length → kf' x = kf x ∧ nf' x = nf x ∧ ff' x = ff x ∧ mf' x = mf x) ∧ (∀ j, j < P → pf' j = pf j) := by
  have h0 := h
  obtain ⟨rfl, rfl, h3, h4, h5, h6⟩ := h
  obtain ⟨pf', e1, e2, e3⟩ := mt_loop n x (nI M.length) kf nf ff mf (a := K.length - k) (k := k) (P := P) (pf := pf) (stf := stf) (by omega) hP k 0 n pf (by omega) (by omega) (fun _ _ => rfl) (fun t ht => absurd ht (Nat.not_lt_zero t))
  have ld : (K.drop (K.length - k)).length = k := by rw [List.length_drop]; omega
  refine ⟨upd kf M.length 2, upd nf M.length x, upd ff M.length (nI P), upd mf M.length (nI k), pf', ?_, ?_, fun y hy => ⟨pk_un (by omega), pk_un (by omega), pk_un (by omega), pk_un (by omega)⟩, e2⟩
  · unfold p_MoTerms_compound
    rw [ck_t (ixb_t (by omega) (by omega)), ck_t (ixb_t (by omega) (by omega)), ck_t (ixb_t (by omega) (by omega)), ck_t (ixb_t (by omega) (by omega))]
    rw [nI_0, Nat.add_zero] at e1
    rw [e1, nI_1, nI_clamp (by omega)]
  · refine rt_more h0 (fun _ => rfl) hM (by omega) hP (fun x hx => ⟨pk_un (by omega), pk_un (by omega), pk_un (by omega), pk_un (by omega), rfl⟩) e2 ?_
    refine Or.inr ⟨rfl, (none, w, K.drop (K.length - k)), ?_, Or.inr ⟨rfl, pk_us, by rw [pk_us]; exact hw, by rw [pk_us, ld], by rw [ld]; exact hk8, P, fun _ => pk_us, by rw [ld]; exact Nat.le_refl _, fun j t e => ?_⟩⟩
    · rw [List.getElem?_append_right (Nat.le_refl _), Nat.sub_self]
      rfl
    · obtain ⟨hj, _⟩ := List.getElem?_eq_some_iff.mp e
      rw [ld] at hj
      dsimp only at e
      rw [List.getElem?_drop] at e
      obtain ⟨y, y1, y2⟩ := hK _ _ e
      obtain ⟨hy, _⟩ := List.getElem?_eq_some_iff.mp y2
      exact ⟨y, hy, by rw [e3 j hj]; exact y1, by rw [List.getElem?_append_left hy]; exact y2⟩
/-- the reference's names, none twice -/
def MM (TR : List (List Int32)) (sz tx : Int32) (text from_ next first : Nat → Int32) : Prop := MN TR sz tx text from_ next first ∧ TR.Nodup
def NQ (TR : List (List Int32)) (w : List Int32) : Int32 × Int32 × Int32 × (Nat → Int32) × (Nat → Int32) × (Nat → Int32) × (Nat → Int32) → Prop :=
  fun (r, sz, tx, text, from_, next, first) => ∃ U, MM (TR ++ U) sz tx text from_ next first ∧ nm (TR ++ U) w r ∧ (U = [] ∨ U = [w])
theorem mr_of {TR : List (List Int32)} {sz tx : Int32} {text from_ next first : Nat → Int32} (h : MM TR sz tx text from_ next first) {w : List Int32} {wf : Nat → Int32} (hw : WD w 4096 wf) (hb : TR.flatten.length + TR.length + w.length + 1 ≤ 80000) : wp (p_MoNames_of pure_n (nI w.length) sz tx 90000 text 404301 from_ 404300 next 1024 first 4096 wf) (NQ TR w) := by
  refine wp_mono (mn_of pure_n h.1 hw (by decide) hb) ?_
  rintro ⟨r, sz', tx', text', from', next', first'⟩ ⟨T', a1, a2, a3⟩
  rcases a3 with rfl | ⟨rfl, q⟩
  · exact ⟨[], by rw [List.append_nil]; exact ⟨a1, h.2⟩, by rw [List.append_nil]; exact a2, Or.inl rfl⟩
  · refine ⟨[w], ⟨a1, ?_⟩, a2, Or.inr rfl⟩
    rw [List.nodup_append]
    refine ⟨h.2, by simp, ?_⟩
    intro a ha b hb e
    rw [List.mem_singleton] at hb
    subst e hb
    exact q ha
theorem mr_name {TR : List (List Int32)} {sz tx : Int32} {text from_ next first : Nat → Int32} (h : MM TR sz tx text from_ next first) {w : List Int32} {wf : Nat → Int32} (hw : WD w 4096 wf) (hb : TR.flatten.length + TR.length + w.length + 1 ≤ 80000) (an aa beh tok opn : Int32) (num : Int64) (top plc vbd kno rnk : Int32) : wp (p_MoReader_name pure_n an aa beh tok opn num (nI w.length) top plc vbd kno rnk sz tx 90000 text 404301 from_ 404300 next 1024 first 4096 wf) (NQ TR w) := by
  unfold p_MoReader_name
  refine wp_bind (mr_of h hw hb) ?_
  rintro ⟨r, sz', tx', text', from', next', first'⟩ a
  exact wp_some a
/-- the reference's variables -/
def RV (TR V : List (List Int32)) (vbd : Int32) (vrf : Nat → Int32) : Prop := vbd = nI V.length ∧ V.length ≤ 4190 ∧ ∀ (i : Nat) (w : List Int32), V[i]? = some w → VE TR w (vrf i)
theorem rv_app {TR V : List (List Int32)} {vbd : Int32} {vrf : Nat → Int32} (U : List (List Int32)) (h : RV TR V vbd vrf) : RV (TR ++ U) V vbd vrf := ⟨h.1, h.2.1, fun i w e => ve_app (h.2.2 i w e)⟩
def VQ (TR V : List (List Int32)) (w : List Int32) : Int32 × Int32 × Int32 × Int32 × (Nat → Int32) × (Nat → Int32) × (Nat → Int32) × (Nat → Int32) × (Nat → Int32) → Prop :=
  fun (r, vbd', sz, tx, text, from_, next, first, vrf') => ∃ U, MM (TR ++ U) sz tx text from_ next first ∧ (U = [] ∨ U = [w]) ∧ ((vfi V w < V.length ∧ r = nI (vfi V w) ∧ RV (TR ++ U) V vbd' vrf') ∨ (V.length ≤ vfi V w ∧ r = nI V.length ∧ RV (TR ++ U) (V ++ [w]) vbd' vrf'))
theorem rv_new (n : Nat) {TR V U : List (List Int32)} {w : List Int32} {x : Int32} {vbd : Int32} {vrf : Nat → Int32} (h : RV TR V vbd vrf) (hV : V.length < 4190) (hU : U = [] ∨ U = [w]) (hw : VE (TR ++ U) w x) (hv : V.length ≤ vfi V w) {sz tx : Int32} {text from_ next first : Nat → Int32} (hN : MM (TR ++ U) sz tx text from_ next first) : wp (p_MoReader_variable_56 n vbd 4200 vrf x sz tx text from_ next first) (VQ TR V w) := by
  have h' := rv_app U h
  obtain ⟨rfl, h2, h3⟩ := h'
  unfold p_MoReader_variable_56
  refine wp_ck (ixb_t (by omega) (by omega)) (wp_some ⟨U, hN, hU, Or.inr ⟨hv, p1s _, by rw [nI_1, List.length_append, List.length_singleton], by rw [List.length_append, List.length_singleton]; omega, fun i u e => ?_⟩⟩)
  rw [nI_clamp (by omega)]
  obtain ⟨hi, _⟩ := List.getElem?_eq_some_iff.mp e
  rw [List.length_append, List.length_singleton] at hi
  by_cases z : i = V.length
  · subst z
    rw [List.getElem?_append_right (Nat.le_refl _), Nat.sub_self] at e
    obtain rfl : w = u := by injection e
    rw [pk_us]
    exact hw
  · rw [List.getElem?_append_left (by omega)] at e
    rw [pk_un z]
    exact h3 i u e
theorem rv_loop (n : Nat) {TR V U : List (List Int32)} {w : List Int32} {x : Int32} {vbd : Int32} {vrf : Nat → Int32} (h : RV TR V vbd vrf) (hV : V.length < 4190) (hU : U = [] ∨ U = [w]) (hw : VE (TR ++ U) w x) {sz tx : Int32} {text from_ next first : Nat → Int32} (hN : MM (TR ++ U) sz tx text from_ next first) (hl : (TR ++ U).length < 65536 ∨ True) : ∀ (D : List (List Int32)) (i f : Nat), V.drop i = D → i ≤ V.length → D.length < f → vfi V w = i + D.idxOf w → wp (p_MoReader_variable_28 n vbd 4200 vrf x sz tx text from_ next first f (nI i)) (VQ TR V w) := by
  have h' := rv_app U h
  obtain ⟨hv, h2, h3⟩ := h'
  have inj : ∀ {u : List Int32} {y : Int32}, VE (TR ++ U) u y → (y = x ↔ u = w) := fun {u y} hu => by
    have hl2 : (TR ++ U).length ≤ 80000 := by
      have := hN.1.2.2.2.2.2.2
      omega
    have nm_eq2 : ∀ {a b : List Int32} {c d : Int32}, nm (TR ++ U) a c → nm (TR ++ U) b d → (c = d ↔ a = b) := fun {a b c d} p q => by
      obtain ⟨j, p1, p2, rfl⟩ := p
      obtain ⟨k, q1, q2, rfl⟩ := q
      rw [nI_eq (by omega) (by omega), ← p2, ← q2]
      constructor
      · intro e
        rw [e]
      · intro e
        rw [List.getD_eq_getElem?_getD, List.getD_eq_getElem?_getD, List.getElem?_eq_getElem p1, List.getElem?_eq_getElem q1] at e
        rw [Option.getD_some, Option.getD_some] at e
        exact (List.getElem?_inj p1 hN.2).mp (by rw [List.getElem?_eq_getElem p1, List.getElem?_eq_getElem q1, e])
    have m1 : ∀ {a : List Int32} {c : Int32}, nm (TR ++ U) a c → ¬ c = -1 := fun {a c} p e => by
      obtain ⟨j, p1, p2, rfl⟩ := p
      have : nI j < 0 := by rw [e]; decide
      exact nI_pos (by omega) this
    rcases hu with ⟨u1, u2⟩ | ⟨u1, u2⟩
    · rcases hw with ⟨w1, w2⟩ | ⟨w1, w2⟩
      · rw [u2, w2, u1, w1]
        exact ⟨fun _ => rfl, fun _ => rfl⟩
      · rw [u2, u1]
        exact ⟨fun e => absurd e.symm (m1 w2), fun e => absurd e.symm w1⟩
    · rcases hw with ⟨w1, w2⟩ | ⟨w1, w2⟩
      · rw [w2, w1]
        exact ⟨fun e => absurd e (m1 u2), fun e => absurd e u1⟩
      · exact nm_eq2 u2 w2
  intro D
  induction D with
  | nil =>
    intro i f hd hi hk hf
    rw [List.length_nil] at hk
    obtain ⟨f, rfl⟩ : ∃ z, f = z + 1 := ⟨f - 1, by omega⟩
    have hi2 : V.length ≤ i := by
      have := congrArg List.length hd
      rw [List.length_drop, List.length_nil] at this
      omega
    rw [p_MoReader_variable_28]
    exact wp_it (by rw [hv]; exact nI_le hi2 (by omega)) (rv_new n h hV hU hw (by rw [hf]; omega) hN)
  | cons u D ih =>
    intro i f hd hi hk hf
    rw [List.length_cons] at hk
    obtain ⟨f, rfl⟩ : ∃ z, f = z + 1 := ⟨f - 1, by omega⟩
    have hi2 : i < V.length := by
      have := congrArg List.length hd
      rw [List.length_drop, List.length_cons] at this
      omega
    rw [List.drop_eq_getElem_cons hi2] at hd
    injection hd with e1 e2
    have hu : VE (TR ++ U) u (vrf i) := h3 i u (by rw [List.getElem?_eq_getElem hi2, e1])
    rw [p_MoReader_variable_28]
    refine wp_if (by rw [hv]; exact nI_ge hi2 (by omega)) (wp_ck (ixb_t (by omega) (by omega)) ?_)
    rw [nI_clamp (by omega)]
    rw [List.idxOf_cons] at hf
    by_cases q : u = w
    · refine wp_it ((inj hu).mpr q) (wp_some ⟨U, hN, hU, Or.inl ?_⟩)
      rw [beq_iff_eq.mpr q] at hf
      have hf' : vfi V w = i := hf
      exact ⟨by omega, by rw [hf'], hv, h2, h3⟩
    · refine wp_if (fun z => q ((inj hu).mp z)) ?_
      rw [beq_eq_false_iff_ne.mpr q] at hf
      rw [nI_1]
      exact ih (i + 1) f e2 (by omega) (by omega) (by rw [hf]; show i + (D.idxOf w + 1) = _; omega)
theorem rv_two (n : Nat) (vbd : Int32) (vrf : Nat → Int32) (x sz tx : Int32) (text from_ next first : Nat → Int32) : ∀ (f : Nat) (i : Int32), p_MoReader_variable_28_12 n vbd 4200 vrf x sz tx text from_ next first f i = p_MoReader_variable_28 n vbd 4200 vrf x sz tx text from_ next first f i := by
  intro f
  induction f with
  | zero => intro i; rfl
  | succ f ih => intro i; rw [p_MoReader_variable_28_12, p_MoReader_variable_28, ih]
theorem mr_variable {TR V : List (List Int32)} {w : List Int32} {vbd : Int32} {vrf : Nat → Int32} (h : RV TR V vbd vrf) (hV : V.length < 4190) {sz tx : Int32} {text from_ next first : Nat → Int32} (hN : MM TR sz tx text from_ next first) {wf : Nat → Int32} (hw : WD w 4096 wf) (hb : TR.flatten.length + TR.length + w.length + 1 ≤ 80000) (h0 : w ≠ []) (an aa beh tok opn : Int32) (num : Int64) (top plc kno rnk : Int32) : wp (p_MoReader_variable pure_n an aa beh tok opn num (nI w.length) top plc vbd kno rnk sz tx 90000 text 404301 from_ 404300 next 1024 first 4096 wf 4200 vrf) (VQ TR V w) := by
  have hpn := pure_ge
  have hw1 := hw.1
  have hl0 : 0 < w.length := List.length_pos_iff.mpr h0
  have M := mr_name hN hw hb an aa beh tok opn num top plc vbd kno rnk
  have G : w ≠ [95] → ∀ (r sz' tx' : Int32) (text' from' next' first' : Nat → Int32), NQ TR w (r, sz', tx', text', from', next', first') → wp (p_MoReader_variable_28 pure_n vbd 4200 vrf r sz' tx' text' from' next' first' pure_n 0) (VQ TR V w) := fun q r sz' tx' text' from' next' first' ⟨U, a1, a2, a3⟩ => by
    have := rv_loop pure_n h hV a3 (Or.inr ⟨q, a2⟩) a1 (Or.inr trivial) V 0 pure_n rfl (Nat.zero_le _) (by omega) (by unfold vfi; rw [if_neg q]; omega)
    rw [nI_0] at this
    exact this
  unfold p_MoReader_variable
  by_cases q1 : 1 < w.length
  · refine wp_it (show (1 : Int32) < nI w.length from nI_lt (a := 1) q1 (by omega)) (wp_bind M ?_)
    rintro ⟨r, sz', tx', text', from', next', first'⟩ a
    exact G (fun e => by rw [e] at q1; exact absurd q1 (by decide)) _ _ _ _ _ _ _ a
  · refine wp_if (show ¬ (1 : Int32) < nI w.length from nI_nlt (a := 1) (b := w.length) (by omega) (by omega)) (wp_ck (by decide) ?_)
    have e0 : wf (0 : Int32).toNatClampNeg = w.getD 0 0 := hw.2.2.1 0 hl0
    rw [e0]
    match w, hl0, q1 with
    | [b], _, _ =>
      by_cases q2 : b = 95
      · refine wp_it q2 ?_
        refine rv_new pure_n (U := []) h hV (Or.inl rfl) (Or.inl ⟨by rw [q2], rfl⟩) ?_ (by rw [List.append_nil]; exact hN)
        unfold vfi
        rw [if_pos (by rw [q2])]
        exact Nat.le_refl _
      · refine wp_if q2 (wp_bind M ?_)
        rintro ⟨r, sz', tx', text', from', next', first'⟩ a
        dsimp only
        rw [rv_two]
        exact G (fun e => q2 (by injection e)) _ _ _ _ _ _ _ a
    | _ :: _ :: _, _, q => exact absurd (by simp) q
/-! ===== the reference's operators ===== -/
set_option maxRecDepth 100000 in
theorem st_len : ∀ s, s < 26 → p_String_length s = some (nI (kn_byt.getD s []).length) := by decide +kernel
set_option maxRecDepth 100000 in
theorem st_chr : ∀ s, s < 26 → ∀ i, i < (kn_byt.getD s []).length → p_String_charAt s (nI i) = some ((kn_byt.getD s []).getD i 0) := by decide +kernel
set_option maxRecDepth 100000 in
theorem st_l17 : ∀ s, s < 26 → (kn_byt.getD s []).length ≤ 17 := by decide +kernel
theorem drop_gd {t : List Int32} {i : Nat} (h : i < t.length) : t.drop i = t.getD i 0 :: t.drop (i + 1) := by
  rw [List.drop_eq_getElem_cons h, List.getD_eq_getElem?_getD, List.getElem?_eq_getElem h]
  rfl
theorem sp_loop (n : Nat) {w : List Int32} {wf : Nat → Int32} (hw : WD w 4096 wf) {sx : Nat} (hs : sx < 26) (hl : w.length = (kn_byt.getD sx []).length) : ∀ (u v : List Int32) (i f : Nat), w.drop i = u → (kn_byt.getD sx []).drop i = v → i ≤ w.length → u.length < f → p_MoReader_spells_15 n sx (nI w.length) 4096 wf f (nI i) = some (if u = v then 1 else 0) := by
  have hwl := hw.1
  intro u
  induction u with
  | nil =>
    intro v i f h1 h2 hi hf
    obtain ⟨f, rfl⟩ : ∃ z, f = z + 1 := ⟨f - 1, by omega⟩
    have := drop_n h1
    have hv : v = [] := by rw [← h2]; exact List.drop_of_length_le (by omega)
    rw [p_MoReader_spells_15, if_pos (nI_le this (by omega)), hv, if_pos rfl]
  | cons b u ih =>
    intro v i f h1 h2 hi hf
    rw [List.length_cons] at hf
    obtain ⟨f, rfl⟩ : ∃ z, f = z + 1 := ⟨f - 1, by omega⟩
    obtain ⟨e1, e2, e3⟩ := drop_c h1
    have hc := drop_gd (t := kn_byt.getD sx []) (i := i) (by omega)
    rw [p_MoReader_spells_15, if_neg (nI_ge e1 (by omega)), ck_t (ixb_t (by omega) (by omega)), st_chr sx hs i (by omega), Option.bind_some, nI_clamp (by omega), hw.2.2.1 i e1, e2, ← h2, hc]
    by_cases q : b = (kn_byt.getD sx []).getD i 0
    · rw [if_pos q, nI_1, ih _ (i + 1) f e3 rfl (by omega) (by omega)]
      by_cases q2 : u = (kn_byt.getD sx []).drop (i + 1)
      · rw [if_pos q2, if_pos (by rw [q, q2])]
      · rw [if_neg q2, if_neg (fun z => q2 (List.cons.inj z).2)]
    · rw [if_neg q, if_neg (fun z => q (List.cons.inj z).1)]
theorem mr_spells {w : List Int32} {wf : Nat → Int32} (hw : WD w 4096 wf) {sx : Nat} (hs : sx < 26) (an aa beh tok opn : Int32) (num : Int64) (top plc vbd kno rnk : Int32) : p_MoReader_spells pure_n sx an aa beh tok opn num (nI w.length) top plc vbd kno rnk 4096 wf = some (if w = kn_byt.getD sx [] then 1 else 0) := by
  have hpn := pure_ge
  have hwl := hw.1
  have h17 := st_l17 sx hs
  unfold p_MoReader_spells
  rw [ck_t (decide_eq_true (show sx < kn_n from hs)), st_len sx hs, Option.bind_some]
  by_cases q : w.length = (kn_byt.getD sx []).length
  · rw [if_pos (by rw [q])]
    have := sp_loop pure_n hw hs q w (kn_byt.getD sx []) 0 pure_n rfl rfl (Nat.zero_le _) (by omega)
    rw [nI_0] at this
    exact this
  · rw [if_neg (nI_nn q (by omega) (by omega)), if_neg (fun z => q (by rw [z]))]
def RL : List Nat := [1200, 1100, 1050, 700, 700, 700, 700, 700, 700, 700, 700, 700, 700, 700, 500, 500, 400, 400, 400, 400]
def sdt (j : Nat) : List Int32 := kn_byt.getD (kn_sides.getD j 0) []
set_option maxRecDepth 100000 in
theorem sd_lvl : ∀ j, j < 20 → (lvl (sdt j)).1 = RL.getD j 0 ∧ 0 < RL.getD j 0 ∧ sdt j ≠ [44] ∧ kn_sides.getD j 0 < 26 := by decide +kernel
set_option maxRecDepth 100000 in
theorem kt_sd : ∀ i, i < 24 → 0 < (KL.getD i (0, 0, 0, 0)).1 → KT.getD i [] = [44] ∨ ∃ j, j < 20 ∧ sdt j = KT.getD i [] := by decide +kernel
theorem sd_of {w : List Int32} (h : 0 < (lvl w).1) (h44 : w ≠ [44]) : ∃ j, j < 20 ∧ sdt j = w := by
  by_cases q : w ∈ KT
  · obtain ⟨i, hi, e⟩ := List.mem_iff_getElem.mp q
    have hi' : i < 24 := hi
    have e2 : KT.getD i [] = w := by rw [List.getD_eq_getElem?_getD, List.getElem?_eq_getElem hi, e]; rfl
    have e3 : lvl w = KL.getD i (0, 0, 0, 0) := by
      have tb : ∀ j, j < 24 → KT.idxOf (KT.getD j []) = j := by decide
      unfold lvl
      rw [← e2, tb i hi']
    rcases kt_sd i hi' (by rw [← e3]; exact h) with z | ⟨j, z1, z2⟩
    · rw [e2] at z
      exact absurd z h44
    · exact ⟨j, z1, by rw [z2, e2]⟩
  · unfold lvl at h
    rw [List.idxOf_eq_length q] at h
    exact absurd h (by decide)
/-- kinds of signs -/
theorem tk_kind (l : List Int32) (i : Nat) : (tkn l i).1 ∈ [1, 2, 3, 4, 5, 6, 40, 41, 91, 93, 123, 125, 44, 124] := by
  unfold tkn
  generalize i + sk false (l.drop i) = a
  cases l.drop a with
  | nil => show 5 ∈ _; decide
  | cons b t =>
    rw [tk1]
    by_cases qG : cG b = true
    · rw [if_pos qG]; show 1 ∈ _; decide
    rw [if_neg qG]
    by_cases qS : cS b = true
    · rw [if_pos qS]; show 3 ∈ _; decide
    rw [if_neg qS]
    by_cases qD : cD b = true
    · rw [if_pos qD]
      dsimp only
      by_cases q : dv 0 (b :: t) < 9007199254740992
      · rw [if_pos q]; decide
      · rw [if_neg q]; decide
    rw [if_neg qD]
    by_cases q39 : b = 39
    · rw [if_pos q39]
      cases hq : qt (t.length + 1) t with
      | none => show 6 ∈ _; decide
      | some z => obtain ⟨w, m⟩ := z; show 3 ∈ _; decide
    rw [if_neg q39]
    by_cases qY : cY b = true
    · rw [if_pos qY]
      by_cases q : tw cY (b :: t) = 1 ∧ b = 46 ∧ endq t = true
      · rw [if_pos q]; show 4 ∈ _; decide
      · rw [if_neg q]; show 3 ∈ _; decide
    rw [if_neg qY]
    by_cases q33 : b = 33 ∨ b = 59
    · rw [if_pos q33]; show 3 ∈ _; decide
    rw [if_neg q33]
    by_cases q91 : b = 91 ∧ t.head? = some 93
    · rw [if_pos q91]; show 3 ∈ _; decide
    rw [if_neg q91]
    by_cases qM : cM b = true
    · rw [if_pos qM]
      unfold cM at qM
      rw [List.contains_iff_mem] at qM
      have tb : ∀ b : Int32, b ∈ [(40 : Int32), 41, 91, 93, 123, 125, 44, 124] → b.toInt.toNat ∈ [1, 2, 3, 4, 5, 6, 40, 41, 91, 93, 123, 125, 44, 124] := by
        intro b hb
        simp only [List.mem_cons, List.not_mem_nil, or_false] at hb
        rcases hb with rfl | rfl | rfl | rfl | rfl | rfl | rfl | rfl <;> decide
      exact tb b qM
    · rw [if_neg qM]; show 6 ∈ _; decide
/-- the reference's sign, as RK has it, of a kind that there is -/
def RKs (k : Tk) (tok : Int32) (num : Int64) (let_ : Int32) (wf : Nat → Int32) : Prop := tok = nI (rt k.1) ∧ (k.1 = 2 → num = lN k.2.2.2.2) ∧ (∃ w, let_ = nI w.length ∧ WD w 4096 wf ∧ ((k.1 = 1 ∨ k.1 = 3) → w = k.2.2.2.1)) ∧ k.1 ∈ [1, 2, 3, 4, 5, 6, 40, 41, 91, 93, 123, 125, 44, 124]
theorem rt_eq {x : Nat} (hx : x ∈ [1, 2, 3, 4, 5, 6, 40, 41, 91, 93, 123, 125, 44, 124]) {y : Nat} (hy : y ∈ [1, 2, 3, 4, 5, 6, 40, 41, 91, 93, 123, 125, 44, 124]) : nI (rt x) = nI (rt y) ↔ x = y := by
  have tb : ∀ x ∈ [1, 2, 3, 4, 5, 6, 40, 41, 91, 93, 123, 125, 44, 124], ∀ y ∈ [1, 2, 3, 4, 5, 6, 40, 41, 91, 93, 123, 125, 44, 124], (nI (rt x) = nI (rt y) ↔ x = y) := by decide
  exact tb x hx y hy
theorem rank_loop {k : Tk} (hk3 : k.1 = 3) {let_ : Int32} {wf : Nat → Int32} (hw : let_ = nI k.2.2.2.1.length ∧ WD k.2.2.2.1 4096 wf) {rf : Nat → Int32} (hr : ∀ j, j < 20 → rf j = nI (RL.getD j 0)) (an aa beh opn : Int32) (num : Int64) (top plc vbd kno rnk : Int32) : ∀ (m i f : Nat), i + m = 20 → m < f → (∀ j, j < i → k.2.2.2.1 ≠ sdt j) → p_MoReader_rank_15 pure_n an aa beh (nI (rt k.1)) opn num let_ top plc vbd kno rnk 20 rf 4096 wf f (nI i) = some (match sop k with
    | none => -1
    | some w => nI (lvl w).1) := by
  obtain ⟨rfl, hw⟩ := hw
  intro m
  induction m with
  | zero =>
    intro i f hi hf hno
    obtain ⟨f, rfl⟩ : ∃ z, f = z + 1 := ⟨f - 1, by omega⟩
    obtain rfl : i = 20 := by omega
    rw [p_MoReader_rank_15, if_pos (by rw [hk3]; rfl), if_pos (by decide)]
    have : sop k = none := by
      unfold sop
      rw [if_neg (by omega), if_neg (fun z => by
        obtain ⟨j, j1, j2⟩ := sd_of z.2.2 z.2.1
        exact hno j j1 j2.symm)]
    rw [this]
  | succ m ih =>
    intro i f hi hf hno
    obtain ⟨f, rfl⟩ : ∃ z, f = z + 1 := ⟨f - 1, by omega⟩
    obtain ⟨s1, s2, s3, s4⟩ := sd_lvl i (by omega)
    rw [p_MoReader_rank_15, if_pos (by rw [hk3]; rfl), if_neg (show ¬ Int32.ofNat 20 ≤ nI i from nI_ge (b := 20) (by omega) (by omega)), ck_t (ixb_t (by omega) (by omega)), nI_clamp (by omega), mr_spells hw s4, Option.bind_some]
    by_cases q : k.2.2.2.1 = kn_byt.getD (kn_sides.getD i 0) []
    · rw [if_pos q, if_neg (by decide), ck_t (ixb_t (by omega) (by omega)), hr i (by omega)]
      have q' : k.2.2.2.1 = sdt i := q
      have : sop k = some k.2.2.2.1 := by
        unfold sop
        rw [if_neg (by omega), if_pos ⟨hk3, by rw [q']; exact s3, by rw [q', s1]; exact s2⟩]
      rw [this]
      dsimp only
      rw [q', s1]
    · rw [if_neg q, if_pos rfl, nI_1]
      refine ih (i + 1) f (by omega) (by omega) (fun j hj => ?_)
      by_cases z : j = i
      · rw [z]
        exact q
      · exact hno j (by omega)
theorem mr_rank {k : Tk} {tok : Int32} {num : Int64} {let_ : Int32} {wf : Nat → Int32} (h : RKs k tok num let_ wf) {rf : Nat → Int32} (hr : ∀ j, j < 20 → rf j = nI (RL.getD j 0)) (an aa beh opn : Int32) (top plc vbd kno rnk : Int32) : p_MoReader_rank pure_n an aa beh tok opn num let_ top plc vbd kno rnk 20 rf 4096 wf = some (match sop k with
    | none => -1
    | some w => nI (lvl w).1) := by
  obtain ⟨rfl, h2, ⟨w, h3, h4, h5⟩, h6⟩ := h
  unfold p_MoReader_rank
  by_cases q1 : k.1 = 44
  · have : sop k = some [44] := by unfold sop; rw [if_pos q1]
    rw [if_pos (by rw [q1]; rfl), this]
    rfl
  rw [if_neg (show ¬ nI (rt k.1) = 10 from fun z => q1 ((rt_eq h6 (y := 44) (by decide)).mp z))]
  by_cases q2 : k.1 = 3
  · have e := h5 (Or.inr q2)
    rw [e] at h3 h4
    have := rank_loop q2 ⟨h3, h4⟩ hr an aa beh opn num top plc vbd kno rnk 20 0 pure_n rfl (by decide) (fun j hj => absurd hj (Nat.not_lt_zero j))
    rw [nI_0] at this
    exact this
  · have : sop k = none := by unfold sop; rw [if_neg q1, if_neg (fun z => q2 z.1)]
    rw [this]
    have e : pure_n = 4999999 + 1 := rfl
    rw [e, p_MoReader_rank_15, if_neg (show ¬ nI (rt k.1) = 3 from fun z => q2 ((rt_eq h6 (y := 3) (by decide)).mp z))]
theorem mr_prefix {k : Tk} {tok : Int32} {num : Int64} {let_ : Int32} {wf : Nat → Int32} (h : RKs k tok num let_ wf) (an aa beh opn : Int32) (top plc vbd kno rnk : Int32) : p_MoReader_prefix pure_n an aa beh tok opn num let_ top plc vbd kno rnk 4096 wf = some (if k.1 = 3 ∧ 0 < (lvl k.2.2.2.1).2.2.2 then nI (lvl k.2.2.2.1).2.2.2 else -1) := by
  obtain ⟨rfl, h2, ⟨w, h3, h4, h5⟩, h6⟩ := h
  unfold p_MoReader_prefix
  by_cases q2 : k.1 = 3
  · have e := h5 (Or.inr q2)
    subst h3
    rw [if_pos (by rw [q2]; rfl), mr_spells h4 (by decide), Option.bind_some, mr_spells h4 (by decide), e]
    by_cases c1 : k.2.2.2.1 = [92, 43]
    · rw [if_pos (show k.2.2.2.1 = kn_byt.getD 22 [] from c1), if_neg (by decide), if_pos (show k.1 = 3 ∧ 0 < (lvl k.2.2.2.1).2.2.2 from ⟨q2, by rw [c1]; decide⟩), c1]
      rfl
    rw [if_neg (show ¬ k.2.2.2.1 = kn_byt.getD 22 [] from c1), if_pos rfl, Option.bind_some]
    by_cases c2 : k.2.2.2.1 = [45]
    · rw [if_pos (show k.2.2.2.1 = kn_byt.getD 17 [] from c2), if_neg (by decide), if_pos (show k.1 = 3 ∧ 0 < (lvl k.2.2.2.1).2.2.2 from ⟨q2, by rw [c2]; decide⟩), c2]
      rfl
    rw [if_neg (show ¬ k.2.2.2.1 = kn_byt.getD 17 [] from c2), if_pos rfl, if_neg (show ¬ (k.1 = 3 ∧ 0 < (lvl k.2.2.2.1).2.2.2) from fun z => ?_)]
    have tb : ∀ i, i < 24 → 0 < (KL.getD i (0, 0, 0, 0)).2.2.2 → KT.getD i [] = [92, 43] ∨ KT.getD i [] = [45] := by decide
    by_cases q : k.2.2.2.1 ∈ KT
    · obtain ⟨i, hi, e'⟩ := List.mem_iff_getElem.mp q
      have hi' : i < 24 := hi
      have e2 : KT.getD i [] = k.2.2.2.1 := by rw [List.getD_eq_getElem?_getD, List.getElem?_eq_getElem hi, e']; rfl
      have e3 : lvl k.2.2.2.1 = KL.getD i (0, 0, 0, 0) := by
        have tb : ∀ j, j < 24 → KT.idxOf (KT.getD j []) = j := by decide
        unfold lvl
        rw [← e2, tb i hi']
      rcases tb i hi' (by rw [← e3]; exact z.2) with z | z
      · exact c1 (by rw [← e2]; exact z)
      · exact c2 (by rw [← e2]; exact z)
    · have := z.2
      unfold lvl at this
      rw [List.idxOf_eq_length q] at this
      exact absurd this (by decide)
  · rw [if_neg (show ¬ nI (rt k.1) = 3 from fun z => q2 ((rt_eq h6 (y := 3) (by decide)).mp z)), if_neg (show ¬ (k.1 = 3 ∧ 0 < (lvl k.2.2.2.1).2.2.2) from fun z => q2 z.1)]
def bgn (k : Tk) : Bool := cbg k && decide (k.1 ≠ 5)
theorem mr_begins {k : Tk} {tok : Int32} {num : Int64} {let_ : Int32} {wf : Nat → Int32} (h : RKs k tok num let_ wf) {rf : Nat → Int32} (hr : ∀ j, j < 20 → rf j = nI (RL.getD j 0)) (an aa beh opn : Int32) (top plc vbd kno rnk : Int32) : p_MoReader_begins pure_n an aa beh tok opn num let_ top plc vbd kno rnk 20 rf 4096 wf = some (b1 (bgn k)) := by
  have R := mr_rank h hr an aa beh opn top plc vbd kno rnk
  have X := mr_prefix h an aa beh opn top plc vbd kno rnk
  obtain ⟨rfl, h2, ⟨w, h3, h4, h5⟩, h6⟩ := h
  unfold p_MoReader_begins
  rw [R, X]
  unfold bgn cbg
  by_cases c1 : k.1 = 41
  · rw [if_pos (show nI (rt k.1) = 5 by rw [c1]; rfl), if_pos (by omega)]; rfl
  rw [if_neg (show ¬ nI (rt k.1) = 5 from fun z => c1 ((rt_eq h6 (y := 41) (by decide)).mp z))]
  by_cases c2 : k.1 = 93
  · rw [if_pos (show nI (rt k.1) = 7 by rw [c2]; rfl), if_pos (by omega)]; rfl
  rw [if_neg (show ¬ nI (rt k.1) = 7 from fun z => c2 ((rt_eq h6 (y := 93) (by decide)).mp z))]
  by_cases c3 : k.1 = 125
  · rw [if_pos (show nI (rt k.1) = 9 by rw [c3]; rfl), if_pos (by omega)]; rfl
  rw [if_neg (show ¬ nI (rt k.1) = 9 from fun z => c3 ((rt_eq h6 (y := 125) (by decide)).mp z))]
  by_cases c4 : k.1 = 44
  · rw [if_pos (show nI (rt k.1) = 10 by rw [c4]; rfl), if_pos (by omega)]; rfl
  rw [if_neg (show ¬ nI (rt k.1) = 10 from fun z => c4 ((rt_eq h6 (y := 44) (by decide)).mp z))]
  by_cases c5 : k.1 = 124
  · rw [if_pos (show nI (rt k.1) = 11 by rw [c5]; rfl), if_pos (by omega)]; rfl
  rw [if_neg (show ¬ nI (rt k.1) = 11 from fun z => c5 ((rt_eq h6 (y := 124) (by decide)).mp z))]
  by_cases c6 : k.1 = 4
  · rw [if_pos (show nI (rt k.1) = 0 by rw [c6]; rfl), if_pos (by omega)]; rfl
  rw [if_neg (show ¬ nI (rt k.1) = 0 from fun z => c6 ((rt_eq h6 (y := 4) (by decide)).mp z))]
  by_cases c7 : k.1 = 5
  · rw [if_pos (show nI (rt k.1) = 13 by rw [c7]; rfl), decide_eq_false (by omega), Bool.and_false]; rfl
  rw [if_neg (show ¬ nI (rt k.1) = 13 from fun z => c7 ((rt_eq h6 (y := 5) (by decide)).mp z)), decide_eq_true c7, Bool.and_true, if_neg (show ¬ (k.1 = 4 ∨ k.1 = 41 ∨ k.1 = 44 ∨ k.1 = 93 ∨ k.1 = 124 ∨ k.1 = 125) by omega), Option.bind_some, Option.bind_some]
  cases hs : sop k with
  | none => rfl
  | some w =>
    dsimp only
    have hw : k.1 = 3 ∧ w = k.2.2.2.1 ∧ 0 < (lvl w).1 := by
      unfold sop at hs
      rw [if_neg c4] at hs
      by_cases z : k.1 = 3 ∧ k.2.2.2.1 ≠ [44] ∧ 0 < (lvl k.2.2.2.1).1
      · rw [if_pos z] at hs
        injection hs with hs
        exact ⟨z.1, hs.symm, by rw [← hs]; exact z.2.2⟩
      · rw [if_neg z] at hs
        cases hs
    have lb := lvl_lt w
    have nm1 : ∀ j, j < 2147483648 → ¬ nI j = -1 := fun j hj e => by
      have : nI j < 0 := by rw [e]; decide
      exact nI_pos hj this
    rw [if_neg (nm1 _ (by omega)), ← hw.2.1]
    by_cases c8 : 0 < (lvl w).2.2.2
    · rw [if_pos (show k.1 = 3 ∧ 0 < (lvl w).2.2.2 from ⟨hw.1, c8⟩), if_neg (nm1 _ (by omega)), decide_eq_true c8]
      rfl
    · rw [if_neg (show ¬ (k.1 = 3 ∧ 0 < (lvl w).2.2.2) from fun z => c8 z.2), if_pos rfl, decide_eq_false c8]
      rfl
/-! ===== the machine as the reference reads ===== -/
def st2q (k : Tk) (nx : Nat) (o : Op) (O : List Op) (i : Nat) (ln : List Int32) (lb fi : Nat) (E : List Ev) : Ps :=
  if k.2.1 = lb ∧ k.1 = 40 then (1, 999, (o.1, o.2.1, 4, ln, o.2.2.2.2.1, 1) :: O, k.2.2.1, ln, lb, fi, E, none)
  else if k.2.1 = lb ∧ ln = [45] ∧ k.1 = 2 then (3, nx, o :: O, k.2.2.1, ln, lb, fi, E ++ [(some (-(lN k.2.2.2.2)), [], 0)], none)
  else if 0 < (lvl ln).2.2.2 ∧ (lvl ln).2.2.2 ≤ o.1 ∧ bgn k = true then (1, (lvl ln).2.2.2, (o.1, o.2.1, 2, ln, (lvl ln).2.2.2, o.2.2.2.2.2) :: O, i, ln, lb, fi, E, none)
  else (3, nx, o :: O, i, ln, lb, fi, E ++ [(none, ln, 0)], none)
def stq (l : List Int32) : Ps → Ps := fun (md, nx, O, i, ln, lb, fi, E, br) =>
  if br = none ∧ md = 2 then (match O with
    | [] => (md, nx, O, i, ln, lb, fi, E, some i)
    | o :: O => st2q (tkn l i) nx o O i ln lb fi E)
  else stp l (md, nx, O, i, ln, lb, fi, E, br)
def rq (l : List Int32) : Nat → Ps → Ps
  | 0, s => s
  | k + 1, s => rq l k (stq l s)
theorem rq_add (l : List Int32) : ∀ (a b : Nat) (s : Ps), rq l (a + b) s = rq l b (rq l a s) := by
  intro a
  induction a with
  | zero => intro b s; rw [Nat.zero_add]; rfl
  | succ a ih => intro b s; rw [Nat.add_right_comm, rq, rq, ih]
theorem stq_n (l : List Int32) {md nx : Nat} {O : List Op} {i : Nat} {ln : List Int32} {lb fi : Nat} {E : List Ev} {br : Option Nat} (h : md ≠ 2) : stq l (md, nx, O, i, ln, lb, fi, E, br) = stp l (md, nx, O, i, ln, lb, fi, E, br) := by
  unfold stq
  exact if_neg (fun z => h z.2)
theorem stq_2 (l : List Int32) {nx : Nat} {o : Op} {O : List Op} {i : Nat} {ln : List Int32} {lb fi : Nat} {E : List Ev} : stq l (2, nx, o :: O, i, ln, lb, fi, E, none) = st2q (tkn l i) nx o O i ln lb fi E := by
  unfold stq
  exact if_pos ⟨rfl, rfl⟩
theorem stq_20 (l : List Int32) {nx : Nat} {i : Nat} {ln : List Int32} {lb fi : Nat} {E : List Ev} : stq l (2, nx, [], i, ln, lb, fi, E, none) = stp l (2, nx, [], i, ln, lb, fi, E, none) := by
  unfold stq stp
  simp
theorem fin_fixq (l : List Int32) {s : Ps} (h : fin s) : ∀ j, rq l j s = s := by
  intro j
  induction j with
  | zero => rfl
  | succ j ih =>
    have : stq l s = s := by
      obtain ⟨md, nx, O, i, ln, lb, fi, E, br⟩ := s
      have e : stp l (md, nx, O, i, ln, lb, fi, E, br) = (md, nx, O, i, ln, lb, fi, E, br) := by
        unfold stp
        exact if_pos h
      have hn : ¬ (br = none ∧ md = 2) := fun z => by
        rcases h with w | w
        · exact w z.1
        · have w' : 7 ≤ md := w
          omega
      unfold stq
      exact (if_neg hn).trans e
    rw [rq, this, ih]
/-- behind the tape's end nothing can stand -/
def STK (l : List Int32) (s : Ps) : Prop := s.2.2.2.2.2.2.2.2 = none ∧ (tkn l s.2.2.2.1).1 = 5 ∧ ((s.1 = 5) ∨ ((s.1 = 3 ∨ s.1 = 4) ∧ s.2.2.1 ≠ []))
theorem stk_step (l : List Int32) {s : Ps} (h : STK l s) : (stq l s).2.2.2.2.2.2.2.2 = some (tkn l s.2.2.2.1).2.1 ∨ (STK l (stq l s) ∧ (stq l s).2.2.2.1 = s.2.2.2.1) := by
  obtain ⟨md, nx, O, i, ln, lb, fi, E, br⟩ := s
  obtain ⟨h1, h2, h3⟩ := h
  dsimp only at h1 h2 h3 ⊢
  subst h1
  rcases h3 with rfl | ⟨h3, h4⟩
  · rw [stq_n l (by decide), stp5, if_neg (by omega)]
    exact Or.inl rfl
  · cases O with
    | nil => exact absurd rfl h4
    | cons o O =>
      rcases h3 with rfl | rfl
      · rw [stq_n l (by decide), stp3]
        have : sop (tkn l i) = none := by
          unfold sop
          rw [if_neg (by omega), if_neg (by omega)]
        unfold st3
        rw [this]
        dsimp only
        refine Or.inr ⟨⟨rfl, h2, ?_⟩, rfl⟩
        by_cases q : O = []
        · exact Or.inl (by dsimp only; rw [if_pos q])
        · exact Or.inr ⟨Or.inr (by dsimp only; rw [if_neg q]), q⟩
      · rw [stq_n l (by decide), stp4]
        unfold st4
        by_cases a1 : o.2.2.1 = 1
        · rw [if_pos a1]
          exact Or.inr ⟨⟨rfl, h2, Or.inr ⟨Or.inl rfl, by simp⟩⟩, rfl⟩
        rw [if_neg a1]
        by_cases a2 : o.2.2.1 = 2
        · rw [if_pos a2]
          exact Or.inr ⟨⟨rfl, h2, Or.inr ⟨Or.inl rfl, by simp⟩⟩, rfl⟩
        rw [if_neg a2]
        by_cases a3 : o.2.2.1 = 3
        · rw [if_pos a3, if_neg (by omega)]
          exact Or.inl rfl
        rw [if_neg a3]
        by_cases a4 : o.2.2.1 = 4
        · rw [if_pos a4, if_neg (by omega), if_neg (by omega)]
          exact Or.inl rfl
        rw [if_neg a4]
        by_cases a5 : o.2.2.1 = 5
        · rw [if_pos a5, if_neg (by omega), if_neg (by omega)]
          exact Or.inr ⟨⟨rfl, h2, Or.inr ⟨Or.inr rfl, by simp⟩⟩, rfl⟩
        rw [if_neg a5, if_neg (by omega)]
        exact Or.inl rfl
theorem stk_end (l : List Int32) : ∀ (m : Nat) (s : Ps), STK l s → fin (rq l m s) → (rq l m s).2.2.2.2.2.2.2.2 = some (tkn l s.2.2.2.1).2.1 := by
  intro m
  induction m with
  | zero =>
    intro s h hf
    exfalso
    obtain ⟨h1, _, h3⟩ := h
    rcases hf with z | z
    · exact z h1
    · have z' : 7 ≤ s.1 := z
      rcases h3 with w | ⟨w | w, _⟩ <;> omega
  | succ m ih =>
    intro s h hf
    rw [rq] at hf ⊢
    rcases stk_step l h with z | ⟨z1, z2⟩
    · rw [fin_fixq l (Or.inl (by rw [z]; simp))]
      exact z
    · rw [ih _ z1 hf, z2]
theorem mq_rel (l : List Int32) : ∀ (m : Nat) (s : Ps), fin (rq l m s) → ∃ m', fin (rn l m' s) ∧ (rn l m' s = rq l m s ∨ ∃ p, (rn l m' s).2.2.2.2.2.2.2.2 = some p ∧ (rq l m s).2.2.2.2.2.2.2.2 = some p) := by
  intro m
  induction m with
  | zero => intro s h; exact ⟨0, h, Or.inl rfl⟩
  | succ m ih =>
    intro s h
    by_cases q : fin s
    · exact ⟨0, q, Or.inl (by rw [fin_fixq l q]; rfl)⟩
    · obtain ⟨md, nx, O, i, ln, lb, fi, E, br⟩ := s
      have hbr : br = none := by
        cases br with
        | none => rfl
        | some z => exact absurd (Or.inl (by simp)) q
      subst hbr
      rw [rq] at h ⊢
      have same : stq l (md, nx, O, i, ln, lb, fi, E, none) = stp l (md, nx, O, i, ln, lb, fi, E, none) → ∃ m', fin (rn l m' (md, nx, O, i, ln, lb, fi, E, none)) ∧ (rn l m' (md, nx, O, i, ln, lb, fi, E, none) = rq l m (stq l (md, nx, O, i, ln, lb, fi, E, none)) ∨ ∃ p, (rn l m' (md, nx, O, i, ln, lb, fi, E, none)).2.2.2.2.2.2.2.2 = some p ∧ (rq l m (stq l (md, nx, O, i, ln, lb, fi, E, none))).2.2.2.2.2.2.2.2 = some p) := fun e => by
        rw [e] at h ⊢
        obtain ⟨m', a1, a2⟩ := ih _ h
        exact ⟨m' + 1, a1, a2⟩
      by_cases d2 : md = 2
      · subst d2
        cases O with
        | nil => exact same (stq_20 l)
        | cons o O =>
          by_cases c1 : (tkn l i).1 = 5 ∧ 0 < (lvl ln).2.2.2 ∧ (lvl ln).2.2.2 ≤ o.1
          · -- the tape's end behind a prefix
            obtain ⟨c1, c2, c3⟩ := c1
            have cb : cbg (tkn l i) = true := by
              unfold cbg sop
              rw [if_neg (by omega), if_neg (by omega), if_neg (by omega)]
            have e1 : stp l (2, nx, o :: O, i, ln, lb, fi, E, none) = (1, (lvl ln).2.2.2, (o.1, o.2.1, 2, ln, (lvl ln).2.2.2, o.2.2.2.2.2) :: O, i, ln, lb, fi, E, none) := by
              rw [stp2]
              unfold st2
              rw [if_neg (by omega), if_neg (by omega), if_pos ⟨c2, c3, cb⟩]
            have e2 : (stp l (1, (lvl ln).2.2.2, (o.1, o.2.1, 2, ln, (lvl ln).2.2.2, o.2.2.2.2.2) :: O, i, ln, lb, fi, E, none)).2.2.2.2.2.2.2.2 = some (tkn l i).2.1 := by
              rw [stp1]
              unfold st1
              by_cases z : ((o.1, o.2.1, 2, ln, (lvl ln).2.2.2, o.2.2.2.2.2) :: O).length = 100 ∨ ptm ((o.1, o.2.1, 2, ln, (lvl ln).2.2.2, o.2.2.2.2.2) :: O) = true
              · rw [if_pos z]
              · rw [if_neg z, if_neg (by omega), if_neg (by omega), if_neg (by omega), if_neg (by omega), if_neg (by omega)]
            have e3 : stq l (2, nx, o :: O, i, ln, lb, fi, E, none) = (3, nx, o :: O, i, ln, lb, fi, E ++ [(none, ln, 0)], none) := by
              rw [stq_2]
              unfold st2q
              rw [if_neg (by omega), if_neg (by omega), if_neg (fun z => ?_)]
              have := z.2.2
              unfold bgn at this
              rw [decide_eq_false (by omega), Bool.and_false] at this
              cases this
            rw [e3] at h ⊢
            have se := stk_end l m (3, nx, o :: O, i, ln, lb, fi, E ++ [(none, ln, 0)], none) ⟨rfl, c1, Or.inr ⟨Or.inl rfl, by simp⟩⟩ h
            refine ⟨2, ?_, Or.inr ⟨(tkn l i).2.1, ?_, se⟩⟩
            · show fin (stp l (stp l _))
              rw [e1]
              exact Or.inl (by rw [e2]; simp)
            · show (stp l (stp l _)).2.2.2.2.2.2.2.2 = _
              rw [e1]
              exact e2
          · refine same ?_
            rw [stq_2, stp2]
            unfold st2q st2
            by_cases q1 : (tkn l i).2.1 = lb ∧ (tkn l i).1 = 40
            · rw [if_pos q1, if_pos q1]
            rw [if_neg q1, if_neg q1]
            by_cases q2 : (tkn l i).2.1 = lb ∧ ln = [45] ∧ (tkn l i).1 = 2
            · rw [if_pos q2, if_pos q2]
            rw [if_neg q2, if_neg q2]
            by_cases q3 : 0 < (lvl ln).2.2.2 ∧ (lvl ln).2.2.2 ≤ o.1
            · have c5 : (tkn l i).1 ≠ 5 := fun z => c1 ⟨z, q3⟩
              have : bgn (tkn l i) = cbg (tkn l i) := by
                unfold bgn
                rw [decide_eq_true c5, Bool.and_true]
              rw [this]
            · rw [if_neg (fun z => q3 ⟨z.1, z.2.1⟩), if_neg (fun z => q3 ⟨z.1, z.2.1⟩)]
      · exact same (stq_n l d2)
/-! ===== nodes without bounds ===== -/
abbrev Bs : Type := List Nd × List (List Int32) × List Rf
def ap (b : Bs) (e : Ev) : Bs :=
  match e.1 with
  | some z => (b.1 ++ [(some z, [], [])], b.2.1, b.2.2 ++ [(false, b.1.length)])
  | none => if e.2.2 = 100 then (if vfi b.2.1 e.2.1 < b.2.1.length then (b.1, b.2.1, b.2.2 ++ [(true, vfi b.2.1 e.2.1)]) else (b.1, b.2.1 ++ [e.2.1], b.2.2 ++ [(true, b.2.1.length)]))
    else (b.1 ++ [(none, e.2.1, b.2.2.drop (b.2.2.length - e.2.2))], b.2.1, b.2.2.take (b.2.2.length - e.2.2) ++ [(false, b.1.length)])
/-- the class's nodes against those without bounds, behind n events -/
def JJ (c : Cs) (b : Bs) (n : Nat) : Prop :=
  c.2.2.2.2 = n ∧ ((c.2.2.2.1 = false ∧ c.2.1 = b.2.1 ∧ b.2.1.length ≤ 200) ∨ (c.2.2.2.1 = true ∧ 200 < b.2.1.length)) ∧ (n ≤ 1000 → c.2.2.2.1 = false → c.1 = b.1 ∧ c.2.2.1 = b.2.2)
theorem jj_ap {c : Cs} {b : Bs} {n : Nat} (h : JJ c b n) (e : Ev) : JJ (apc c e) (ap b e) (n + 1) := by
  obtain ⟨h1, h2, h3⟩ := h
  unfold apc ap
  cases e.1 with
  | some z =>
    dsimp only
    by_cases q : c.2.2.2.2 < 1000
    · rw [if_pos q]
      refine ⟨by dsimp only; omega, h2, fun a1 a2 => ?_⟩
      obtain ⟨g1, g2⟩ := h3 (by omega) a2
      dsimp only
      rw [g1, g2]
      exact ⟨rfl, rfl⟩
    · rw [if_neg q]
      exact ⟨by dsimp only; omega, h2, fun a1 a2 => absurd a1 (by omega)⟩
  | none =>
    dsimp only
    by_cases q1 : e.2.2 = 100
    · rw [if_pos q1, if_pos q1]
      rcases h2 with ⟨h4, h5, h6⟩ | ⟨h4, h5⟩
      · rw [h5]
        by_cases q2 : vfi b.2.1 e.2.1 < b.2.1.length
        · rw [if_pos q2, if_pos q2]
          refine ⟨by dsimp only; omega, Or.inl ⟨h4, rfl, h6⟩, fun a1 a2 => ?_⟩
          obtain ⟨g1, g2⟩ := h3 (by omega) h4
          dsimp only
          rw [g1, g2]
          exact ⟨rfl, rfl⟩
        · rw [if_neg q2, if_neg q2]
          by_cases q3 : b.2.1.length = 200
          · rw [if_pos q3]
            refine ⟨by dsimp only; omega, Or.inr ⟨rfl, ?_⟩, fun a1 a2 => by cases a2⟩
            dsimp only
            rw [List.length_append, List.length_singleton]
            omega
          · rw [if_neg q3]
            refine ⟨by dsimp only; omega, Or.inl ⟨h4, rfl, ?_⟩, fun a1 a2 => ?_⟩
            · dsimp only
              rw [List.length_append, List.length_singleton]
              omega
            · obtain ⟨g1, g2⟩ := h3 (by omega) h4
              dsimp only
              rw [g1, g2]
              exact ⟨rfl, rfl⟩
      · have K : 200 < (if vfi b.2.1 e.2.1 < b.2.1.length then (b.1, b.2.1, b.2.2 ++ [(true, vfi b.2.1 e.2.1)]) else (b.1, b.2.1 ++ [e.2.1], b.2.2 ++ [(true, b.2.1.length)])).2.1.length := by
          by_cases q2 : vfi b.2.1 e.2.1 < b.2.1.length
          · rw [if_pos q2]
            exact h5
          · rw [if_neg q2]
            dsimp only
            rw [List.length_append, List.length_singleton]
            omega
        by_cases q4 : vfi c.2.1 e.2.1 < c.2.1.length
        · rw [if_pos q4]
          exact ⟨by dsimp only; omega, Or.inr ⟨h4, K⟩, fun a1 a2 => by rw [show c.2.2.2.1 = false from a2] at h4; cases h4⟩
        · rw [if_neg q4]
          by_cases q5 : c.2.1.length = 200
          · rw [if_pos q5]
            exact ⟨by dsimp only; omega, Or.inr ⟨rfl, K⟩, fun a1 a2 => by cases a2⟩
          · rw [if_neg q5]
            exact ⟨by dsimp only; omega, Or.inr ⟨h4, K⟩, fun a1 a2 => by rw [show c.2.2.2.1 = false from a2] at h4; cases h4⟩
    · rw [if_neg q1, if_neg q1]
      by_cases q : c.2.2.2.2 < 1000
      · rw [if_pos q]
        refine ⟨by dsimp only; omega, h2, fun a1 a2 => ?_⟩
        obtain ⟨g1, g2⟩ := h3 (by omega) a2
        dsimp only
        rw [g1, g2]
        exact ⟨rfl, rfl⟩
      · rw [if_neg q]
        exact ⟨by dsimp only; omega, h2, fun a1 a2 => absurd a1 (by omega)⟩
theorem jj_fold : ∀ (E : List Ev) {c : Cs} {b : Bs} {n : Nat}, JJ c b n → JJ (E.foldl apc c) (E.foldl ap b) (n + E.length) := by
  intro E
  induction E with
  | nil => intro c b n h; exact h
  | cons e E ih =>
    intro c b n h
    rw [List.foldl_cons, List.foldl_cons, List.length_cons]
    have := ih (jj_ap h e)
    rw [show n + 1 + E.length = n + (E.length + 1) by omega] at this
    exact this
theorem ap_1 (b : Bs) (E : List Ev) (e : Ev) : (E ++ [e]).foldl ap b = ap (E.foldl ap b) e := by
  rw [List.foldl_append]
  rfl
/-! ===== the reference's reader: its state ===== -/
/-- what was there when it began: names, nodes, parts, arrays -/
abbrev X0 : Type := List (List Int32) × List Rf × Nat × (Nat → Int32) × (Nat → Int32) × (Nat → Int32) × (Nat → Int32) × (Nat → Int32) × (Nat → Int64)
def UC (X : X0) (kf nf ff mf pf : Nat → Int32) (bf : Nat → Int64) : Prop :=
  (∀ x, x < X.2.1.length → kf x = X.2.2.2.1 x ∧ nf x = X.2.2.2.2.1 x ∧ ff x = X.2.2.2.2.2.1 x ∧ mf x = X.2.2.2.2.2.2.1 x ∧ bf x = X.2.2.2.2.2.2.2.2 x) ∧ (∀ j, j < X.2.2.1 → pf j = X.2.2.2.2.2.2.2.1 j)
/-- every variable stands somewhere, and none else -/
def OC (M : List Rf) (V : List (List Int32)) : Prop := (∀ v, v < V.length → ∃ x : Nat, M[x]? = some (true, v)) ∧ (∀ (x v : Nat), M[x]? = some (true, v) → v < V.length)
theorem oc_n {M : List Rf} {V : List (List Int32)} (h : OC M V) (i : Nat) : OC (M ++ [(false, i)]) V := by
  refine ⟨fun v hv => ?_, fun x v e => ?_⟩
  · obtain ⟨x, e⟩ := h.1 v hv
    obtain ⟨hx, _⟩ := List.getElem?_eq_some_iff.mp e
    exact ⟨x, by rw [List.getElem?_append_left hx]; exact e⟩
  · obtain ⟨hx, _⟩ := List.getElem?_eq_some_iff.mp e
    rw [List.length_append, List.length_singleton] at hx
    by_cases q : x = M.length
    · subst q
      rw [List.getElem?_append_right (Nat.le_refl _), Nat.sub_self] at e
      cases e
    · rw [List.getElem?_append_left (by omega)] at e
      exact h.2 x v e
theorem oc_v {M : List Rf} {V V' : List (List Int32)} (h : OC M V) {u : Nat} (hu : u < V'.length) (hV : V'.length = V.length ∨ (V'.length = V.length + 1 ∧ u = V.length)) : OC (M ++ [(true, u)]) V' := by
  refine ⟨fun v hv => ?_, fun x v e => ?_⟩
  · by_cases q : v < V.length
    · obtain ⟨x, e⟩ := h.1 v q
      obtain ⟨hx, _⟩ := List.getElem?_eq_some_iff.mp e
      exact ⟨x, by rw [List.getElem?_append_left hx]; exact e⟩
    · refine ⟨M.length, ?_⟩
      rw [List.getElem?_append_right (Nat.le_refl _), Nat.sub_self]
      have : v = u := by omega
      rw [this]
      rfl
  · obtain ⟨hx, _⟩ := List.getElem?_eq_some_iff.mp e
    rw [List.length_append, List.length_singleton] at hx
    by_cases q : x = M.length
    · subst q
      rw [List.getElem?_append_right (Nat.le_refl _), Nat.sub_self] at e
      injection e with e
      injection e with _ e
      omega
    · rw [List.getElem?_append_left (by omega)] at e
      have := h.2 x v e
      omega
def RD (X : X0) (b : Bs) (TR : List (List Int32)) (M : List Rf) (P : Nat) (sz pt : Int32) (kf nf ff mf pf : Nat → Int32) (bf : Nat → Int64) (nsz ntx : Int32) (txf frf nxf fsf : Nat → Int32) (vbd : Int32) (vrf : Nat → Int32) : Prop :=
  RT TR b.1 M P sz pt kf nf ff mf pf bf ∧ MM TR nsz ntx txf frf nxf fsf ∧ RV TR b.2.1 vbd vrf ∧ (∃ U, TR = X.1 ++ U) ∧ (∃ W, M = X.2.1 ++ W) ∧ X.2.2.1 ≤ P ∧ UC X kf nf ff mf pf bf ∧ OC M b.2.1
/-- what is known of names and nodes, and stays so -/
abbrev WW : Type := List (List Int32) → List Rf → Prop
def mono (W : WW) : Prop := ∀ TR U M M2, W TR M → W (TR ++ U) (M ++ M2)
def wT : WW := fun _ _ => True
def wV (y : Nat) (r : Rf) : WW := fun _ M => M[y]? = some r
def wN (w : List Int32) (x : Int32) : WW := fun TR _ => nm TR w x
def wA (A B : WW) : WW := fun TR M => A TR M ∧ B TR M
theorem mono_T : mono wT := fun _ _ _ _ _ => trivial
theorem mono_V (y : Nat) (r : Rf) : mono (wV y r) := fun _ _ M M2 h => by
  unfold wV at h ⊢
  obtain ⟨hy, _⟩ := List.getElem?_eq_some_iff.mp h
  rw [List.getElem?_append_left hy]
  exact h
theorem mono_N (w : List Int32) (x : Int32) : mono (wN w x) := fun _ _ _ _ h => nm_app h
theorem mono_A {A B : WW} (ha : mono A) (hb : mono B) : mono (wA A B) := fun TR U M M2 h => ⟨ha TR U M M2 h.1, hb TR U M M2 h.2⟩
/-- the sign that stands there -/
def TKP (l : List Int32) (i : Nat) (at_ beh tok : Int32) (num : Int64) (let_ : Int32) (wf : Nat → Int32) : Prop :=
  i ≤ l.length ∧ at_ = nI (tkn l i).2.1 ∧ beh = nI (tkn l i).2.2.1 ∧ RKs (tkn l i) tok num let_ wf
/-- nodes and names behind events -/
def DTP (X : X0) (b0 : Bs) (Z j : Nat) (E : List Ev) (Y : List Rf) (W : WW) (sz pt : Int32) (kf nf ff mf pf : Nat → Int32) (bf : Nat → Int64) (nsz ntx : Int32) (txf frf nxf fsf : Nat → Int32) (vbd : Int32) (vrf : Nat → Int32) (stf : Nat → Int32) : Prop :=
  ∃ TR M P, RD X (E.foldl ap b0) TR M P sz pt kf nf ff mf pf bf nsz ntx txf frf nxf fsf vbd vrf ∧ RS M Y stf ∧ TR.flatten.length + TR.length ≤ Z + 3 * j ∧ M.length = X.2.1.length + E.length ∧ M.length ≤ 30000 + E.length ∧ (P + (E.foldl ap b0).2.2.length ≤ X.2.2.1 + E.length ∧ X.2.2.1 ≤ 30000) ∧ W TR M
theorem rr_scan {l : List Int32} {f : Nat → Int32} (hM : TM l f) {i : Nat} {at_ beh tok : Int32} {num : Int64} {let_ : Int32} {wf : Nat → Int32} (h : TKP l i at_ beh tok num let_ wf) (opn top plc vbd kno rnk : Int32) : wp (p_MoReader_scan pure_n (nI l.length) at_ beh tok opn num let_ top plc vbd kno rnk 4096 f 4096 wf) (fun (at', beh', tok', num', let', wf') => TKP l (tkn l i).2.2.1 at' beh' tok' num' let' wf') := by
  obtain ⟨h1, h2, rfl, h4⟩ := h
  obtain ⟨l1, l2, l3, l4, l5, l6⟩ := tk_len l h1
  refine wp_mono (ms_scan hM at_ tok opn num let_ top plc vbd kno rnk wf l3) ?_
  rintro ⟨at', beh', tok', num', let', wf'⟩ ⟨a1, a2, a3, a4, a5⟩
  exact ⟨l3, a1, a2, a3, a4, a5, tk_kind l _⟩
theorem dt_W {X : X0} {b0 : Bs} {Z j : Nat} {E : List Ev} {Y : List Rf} {W W' : WW} {sz pt : Int32} {kf nf ff mf pf : Nat → Int32} {bf : Nat → Int64} {nsz ntx : Int32} {txf frf nxf fsf : Nat → Int32} {vbd : Int32} {vrf : Nat → Int32} {stf : Nat → Int32} (h : DTP X b0 Z j E Y W sz pt kf nf ff mf pf bf nsz ntx txf frf nxf fsf vbd vrf stf) (hW : ∀ TR M, W TR M → W' TR M) : DTP X b0 Z j E Y W' sz pt kf nf ff mf pf bf nsz ntx txf frf nxf fsf vbd vrf stf := by
  obtain ⟨TR, M, P, h1, h2, h3, h4, h5, h6, h7⟩ := h
  exact ⟨TR, M, P, h1, h2, h3, h4, h5, h6, hW TR M h7⟩
theorem dt_j {X : X0} {b0 : Bs} {Z j j' : Nat} {E : List Ev} {Y : List Rf} {W : WW} {sz pt : Int32} {kf nf ff mf pf : Nat → Int32} {bf : Nat → Int64} {nsz ntx : Int32} {txf frf nxf fsf : Nat → Int32} {vbd : Int32} {vrf : Nat → Int32} {stf : Nat → Int32} (h : DTP X b0 Z j E Y W sz pt kf nf ff mf pf bf nsz ntx txf frf nxf fsf vbd vrf stf) (hj : j ≤ j') : DTP X b0 Z j' E Y W sz pt kf nf ff mf pf bf nsz ntx txf frf nxf fsf vbd vrf stf := by
  obtain ⟨TR, M, P, h1, h2, h3, h4⟩ := h
  exact ⟨TR, M, P, h1, h2, by omega, h4⟩
theorem dt_take {X : X0} {b0 : Bs} {Z j : Nat} {E : List Ev} {Y : List Rf} {W : WW} {sz pt : Int32} {kf nf ff mf pf : Nat → Int32} {bf : Nat → Int64} {nsz ntx : Int32} {txf frf nxf fsf : Nat → Int32} {vbd : Int32} {vrf : Nat → Int32} {stf : Nat → Int32} (h : DTP X b0 Z j E Y W sz pt kf nf ff mf pf bf nsz ntx txf frf nxf fsf vbd vrf stf) (n : Nat) : DTP X b0 Z j E (Y.take n) W sz pt kf nf ff mf pf bf nsz ntx txf frf nxf fsf vbd vrf stf := by
  obtain ⟨TR, M, P, h1, h2, h3, h4⟩ := h
  exact ⟨TR, M, P, h1, rs_take h2 n, h3, h4⟩
theorem dt_push {X : X0} {b0 : Bs} {Z j : Nat} {E : List Ev} {Y : List Rf} {W : WW} {sz pt : Int32} {kf nf ff mf pf : Nat → Int32} {bf : Nat → Int64} {nsz ntx : Int32} {txf frf nxf fsf : Nat → Int32} {vbd : Int32} {vrf : Nat → Int32} {stf : Nat → Int32} {y : Nat} {r : Rf} (h : DTP X b0 Z j E Y (wA (wV y r) W) sz pt kf nf ff mf pf bf nsz ntx txf frf nxf fsf vbd vrf stf) : DTP X b0 Z j E (Y ++ [r]) W sz pt kf nf ff mf pf bf nsz ntx txf frf nxf fsf vbd vrf (upd stf Y.length (nI y)) := by
  obtain ⟨TR, M, P, h1, h2, h3, h4, h5, h6, h7⟩ := h
  exact ⟨TR, M, P, h1, rs_push h2 h7.1, h3, h4, h5, h6, h7.2⟩
theorem uc_ge {X : X0} {kf nf ff mf pf kf' nf' ff' mf' pf' : Nat → Int32} {bf bf' : Nat → Int64} (h : UC X kf nf ff mf pf bf) {m p : Nat} (hm : X.2.1.length ≤ m) (hp : X.2.2.1 ≤ p) (a : ∀ x, x < m → kf' x = kf x ∧ nf' x = nf x ∧ ff' x = ff x ∧ mf' x = mf x ∧ bf' x = bf x) (b : ∀ j, j < p → pf' j = pf j) : UC X kf' nf' ff' mf' pf' bf' := by
  refine ⟨fun x hx => ?_, fun j hj => ?_⟩
  · obtain ⟨a1, a2, a3, a4, a5⟩ := a x (by omega)
    obtain ⟨b1, b2, b3, b4, b5⟩ := h.1 x hx
    exact ⟨a1.trans b1, a2.trans b2, a3.trans b3, a4.trans b4, a5.trans b5⟩
  · exact (b j (by omega)).trans (h.2 j hj)
theorem dt_int {X : X0} {b0 : Bs} {Z j : Nat} {E : List Ev} {Y : List Rf} {W : WW} (hW : mono W) {sz pt : Int32} {kf nf ff mf pf : Nat → Int32} {bf : Nat → Int64} {nsz ntx : Int32} {txf frf nxf fsf : Nat → Int32} {vbd : Int32} {vrf : Nat → Int32} {stf : Nat → Int32} (h : DTP X b0 Z j E Y W sz pt kf nf ff mf pf bf nsz ntx txf frf nxf fsf vbd vrf stf) (hE : E.length ≤ 10000) (z : Int64) : ∃ y r sz' kf' mf' bf', p_MoTerms_integer z sz pt 404300 kf 404300 mf 404300 bf = some (nI y, sz', kf', mf', bf') ∧ ((E ++ [(some z, [], 0)]).foldl ap b0).2.2 = (E.foldl ap b0).2.2 ++ [r] ∧ ((E ++ [(some z, [], 0)]).foldl ap b0).2.1 = (E.foldl ap b0).2.1 ∧ DTP X b0 Z j (E ++ [(some z, [], 0)]) Y (wA (wV y r) W) sz' pt kf' nf ff mf' pf bf' nsz ntx txf frf nxf fsf vbd vrf stf := by
  obtain ⟨TR, M, P, ⟨d1, d2, d3, d4, ⟨W2, d5⟩, d6, d7, d8⟩, h2, h3, h4, h5, h6, h7⟩ := h
  obtain ⟨kf', mf', bf', e1, e2, e3⟩ := mt_int d1 (by omega) z
  have hml : X.2.1.length ≤ M.length := by rw [d5, List.length_append]; omega
  rw [ap_1]
  refine ⟨M.length, (false, (E.foldl ap b0).1.length), _, kf', mf', bf', e1, rfl, rfl, TR, M ++ [(false, (E.foldl ap b0).1.length)], P, ⟨?_, d2, ?_, d4, ⟨W2 ++ [_], by rw [d5, List.append_assoc]⟩, d6, uc_ge d7 hml d6 (fun x hx => ⟨(e3 x hx).1, rfl, rfl, (e3 x hx).2.1, (e3 x hx).2.2⟩) (fun _ _ => rfl), by rw [ap_1]; exact oc_n d8 _⟩, rs_app h2, h3, ?_, ?_, ?_, ?_, ?_⟩
  · rw [ap_1]
    exact e2
  · rw [ap_1]
    exact d3
  · rw [List.length_append, List.length_append, List.length_singleton, List.length_singleton]
    omega
  · rw [List.length_append, List.length_append, List.length_singleton, List.length_singleton]
    omega
  · refine ⟨?_, h6.2⟩
    rw [ap_1, List.length_append, List.length_singleton]
    show P + ((E.foldl ap b0).2.2 ++ [_]).length ≤ _
    rw [List.length_append, List.length_singleton]
    omega
  · show (M ++ [_])[M.length]? = some _
    rw [List.getElem?_append_right (Nat.le_refl _), Nat.sub_self]
    rfl
  · have := hW TR [] M [(false, (E.foldl ap b0).1.length)] h7
    rw [List.append_nil] at this
    exact this
theorem dt_atom {X : X0} {b0 : Bs} {Z j : Nat} {E : List Ev} {Y : List Rf} {W : WW} (hW : mono W) {sz pt : Int32} {kf nf ff mf pf : Nat → Int32} {bf : Nat → Int64} {nsz ntx : Int32} {txf frf nxf fsf : Nat → Int32} {vbd : Int32} {vrf : Nat → Int32} {stf : Nat → Int32} {w : List Int32} {x : Int32} (h : DTP X b0 Z j E Y (wA (wN w x) W) sz pt kf nf ff mf pf bf nsz ntx txf frf nxf fsf vbd vrf stf) (hE : E.length ≤ 10000) : ∃ y r sz' kf' nf' mf', p_MoTerms_atom x sz pt 404300 kf 404300 nf 404300 mf = some (nI y, sz', kf', nf', mf') ∧ ((E ++ [(none, w, 0)]).foldl ap b0).2.2 = (E.foldl ap b0).2.2 ++ [r] ∧ ((E ++ [(none, w, 0)]).foldl ap b0).2.1 = (E.foldl ap b0).2.1 ∧ DTP X b0 Z j (E ++ [(none, w, 0)]) Y (wA (wV y r) W) sz' pt kf' nf' ff mf' pf bf nsz ntx txf frf nxf fsf vbd vrf stf := by
  obtain ⟨TR, M, P, ⟨d1, d2, d3, d4, ⟨W2, d5⟩, d6, d7, d8⟩, h2, h3, h4, h5, h6, h7, h8⟩ := h
  obtain ⟨kf', nf', mf', e1, e2, e3⟩ := mt_atom d1 (by omega) h7
  have hml : X.2.1.length ≤ M.length := by rw [d5, List.length_append]; omega
  have ea : ap (E.foldl ap b0) (none, w, 0) = ((E.foldl ap b0).1 ++ [(none, w, [])], (E.foldl ap b0).2.1, (E.foldl ap b0).2.2 ++ [(false, (E.foldl ap b0).1.length)]) := by
    show ((E.foldl ap b0).1 ++ [(none, w, (E.foldl ap b0).2.2.drop ((E.foldl ap b0).2.2.length - 0))], _, (E.foldl ap b0).2.2.take ((E.foldl ap b0).2.2.length - 0) ++ _) = _
    rw [Nat.sub_zero, List.drop_length, List.take_length]
  rw [ap_1, ea]
  refine ⟨M.length, (false, (E.foldl ap b0).1.length), _, kf', nf', mf', e1, rfl, rfl, TR, M ++ [(false, (E.foldl ap b0).1.length)], P, ⟨?_, d2, ?_, d4, ⟨W2 ++ [_], by rw [d5, List.append_assoc]⟩, d6, uc_ge d7 hml d6 (fun x hx => ⟨(e3 x hx).1, (e3 x hx).2.1, rfl, (e3 x hx).2.2, rfl⟩) (fun _ _ => rfl), by rw [ap_1, ea]; exact oc_n d8 _⟩, rs_app h2, h3, ?_, ?_, ?_, ?_, ?_⟩
  · rw [ap_1, ea]
    exact e2
  · rw [ap_1, ea]
    exact d3
  · rw [List.length_append, List.length_append, List.length_singleton, List.length_singleton]
    omega
  · rw [List.length_append, List.length_append, List.length_singleton, List.length_singleton]
    omega
  · simp only [ap_1, ea, List.length_append, List.length_singleton]
    omega
  · show (M ++ [_])[M.length]? = some _
    rw [List.getElem?_append_right (Nat.le_refl _), Nat.sub_self]
    rfl
  · have := hW TR [] M [(false, (E.foldl ap b0).1.length)] h8
    rw [List.append_nil] at this
    exact this
theorem ap_cmp (b : Bs) (w : List Int32) (k : Nat) (h : k ≠ 100) : ap b (none, w, k) = (b.1 ++ [(none, w, b.2.2.drop (b.2.2.length - k))], b.2.1, b.2.2.take (b.2.2.length - k) ++ [(false, b.1.length)]) := by
  unfold ap
  exact if_neg h
theorem dt_comp {X : X0} {b0 : Bs} {Z j : Nat} {E : List Ev} {Y : List Rf} {W : WW} (hW : mono W) {sz pt : Int32} {kf nf ff mf pf : Nat → Int32} {bf : Nat → Int64} {nsz ntx : Int32} {txf frf nxf fsf : Nat → Int32} {vbd : Int32} {vrf : Nat → Int32} {stf : Nat → Int32} {w : List Int32} {x : Int32} (h : DTP X b0 Z j E Y (wA (wN w x) W) sz pt kf nf ff mf pf bf nsz ntx txf frf nxf fsf vbd vrf stf) (hE : E.length ≤ 10000) (hY : (E.foldl ap b0).2.2 = Y) {k : Nat} (hk : k ≤ Y.length) (hk8 : k ≤ 8) (hY2 : Y.length ≤ 4200) : ∃ y r sz' pt' kf' nf' ff' mf' pf', p_MoTerms_compound pure_n x (nI (Y.length - k)) (nI k) sz pt 404300 kf 404300 nf 404300 ff 404300 mf 404300 pf 4200 stf = some (nI y, sz', pt', kf', nf', ff', mf', pf') ∧ ((E ++ [(none, w, k)]).foldl ap b0).2.2 = Y.take (Y.length - k) ++ [r] ∧ ((E ++ [(none, w, k)]).foldl ap b0).2.1 = (E.foldl ap b0).2.1 ∧ DTP X b0 Z j (E ++ [(none, w, k)]) (Y.take (Y.length - k)) (wA (wV y r) W) sz' pt' kf' nf' ff' mf' pf' bf nsz ntx txf frf nxf fsf vbd vrf stf := by
  obtain ⟨TR, M, P, ⟨d1, d2, d3, d4, ⟨W2, d5⟩, d6, d7, d8⟩, h2, h3, h4, h5, h6, h7, h8⟩ := h
  rw [hY] at h6
  obtain ⟨kf', nf', ff', mf', pf', e1, e2, e3, e4⟩ := mt_comp pure_n (by decide) d1 (by omega) h7 h2 hk hk8 hY2 (by omega)
  have hml : X.2.1.length ≤ M.length := by rw [d5, List.length_append]; omega
  have ea : ap (E.foldl ap b0) (none, w, k) = ((E.foldl ap b0).1 ++ [(none, w, Y.drop (Y.length - k))], (E.foldl ap b0).2.1, Y.take (Y.length - k) ++ [(false, (E.foldl ap b0).1.length)]) := by
    rw [ap_cmp _ _ _ (by omega), hY]
  rw [ap_1, ea]
  refine ⟨M.length, (false, (E.foldl ap b0).1.length), _, _, kf', nf', ff', mf', pf', e1, rfl, rfl, TR, M ++ [(false, (E.foldl ap b0).1.length)], P + k, ⟨?_, d2, ?_, d4, ⟨W2 ++ [_], by rw [d5, List.append_assoc]⟩, by omega, uc_ge d7 hml d6 (fun x hx => ⟨(e3 x hx).1, (e3 x hx).2.1, (e3 x hx).2.2.1, (e3 x hx).2.2.2, rfl⟩) e4, by rw [ap_1, ea]; exact oc_n d8 _⟩, rs_app (rs_take h2 _), h3, ?_, ?_, ?_, ?_, ?_⟩
  · rw [ap_1, ea]
    exact e2
  · rw [ap_1, ea]
    exact d3
  · rw [List.length_append, List.length_append, List.length_singleton, List.length_singleton]
    omega
  · rw [List.length_append, List.length_append, List.length_singleton, List.length_singleton]
    omega
  · simp only [ap_1, ea, List.length_append, List.length_singleton, List.length_take]
    omega
  · show (M ++ [_])[M.length]? = some _
    rw [List.getElem?_append_right (Nat.le_refl _), Nat.sub_self]
    rfl
  · have := hW TR [] M [(false, (E.foldl ap b0).1.length)] h8
    rw [List.append_nil] at this
    exact this
theorem dt_name {X : X0} {b0 : Bs} {Z j j' : Nat} {E : List Ev} {Y : List Rf} {W : WW} (hW : mono W) {sz pt : Int32} {kf nf ff mf pf : Nat → Int32} {bf : Nat → Int64} {nsz ntx : Int32} {txf frf nxf fsf : Nat → Int32} {vbd : Int32} {vrf : Nat → Int32} {stf : Nat → Int32} (h : DTP X b0 Z j E Y W sz pt kf nf ff mf pf bf nsz ntx txf frf nxf fsf vbd vrf stf) (hZ : Z + 3 * j' ≤ 80000) {w : List Int32} {wf : Nat → Int32} (hw : WD w 4096 wf) (hj : 3 * j + w.length + 1 ≤ 3 * j') (an aa beh tok opn : Int32) (num : Int64) (top plc kno rnk : Int32) : wp (p_MoReader_name pure_n an aa beh tok opn num (nI w.length) top plc vbd kno rnk nsz ntx 90000 txf 404301 frf 404300 nxf 1024 fsf 4096 wf) (fun (x, nsz', ntx', txf', frf', nxf', fsf') => DTP X b0 Z j' E Y (wA (wN w x) W) sz pt kf nf ff mf pf bf nsz' ntx' txf' frf' nxf' fsf' vbd vrf stf) := by
  obtain ⟨TR, M, P, ⟨d1, d2, d3, ⟨U, d4⟩, d5, d6, d7, d8⟩, h2, h3, h4, h5, h6, h7⟩ := h
  refine wp_mono (mr_name d2 hw (by omega) an aa beh tok opn num top plc vbd kno rnk) ?_
  rintro ⟨x, nsz', ntx', txf', frf', nxf', fsf'⟩ ⟨U2, a1, a2, a3⟩
  refine ⟨TR ++ U2, M, P, ⟨rt_app U2 d1, a1, rv_app U2 d3, ⟨U ++ U2, by rw [d4, List.append_assoc]⟩, d5, d6, d7, d8⟩, h2, ?_, h4, h5, h6, a2, ?_⟩
  · rcases a3 with rfl | rfl
    · rw [List.append_nil]
      omega
    · rw [List.flatten_append, List.length_append, List.length_append, List.flatten_singleton, List.length_singleton]
      omega
  · have := hW TR U2 M [] h7
    rw [List.append_nil] at this
    exact this
theorem dt_var {X : X0} {b0 : Bs} {Z j j' : Nat} {E : List Ev} {Y : List Rf} {W : WW} (hW : mono W) {sz pt : Int32} {kf nf ff mf pf : Nat → Int32} {bf : Nat → Int64} {nsz ntx : Int32} {txf frf nxf fsf : Nat → Int32} {vbd : Int32} {vrf : Nat → Int32} {stf : Nat → Int32} (h : DTP X b0 Z j E Y W sz pt kf nf ff mf pf bf nsz ntx txf frf nxf fsf vbd vrf stf) (hE : E.length ≤ 10000) (hZ : Z + 3 * j' ≤ 80000) (hV : (E.foldl ap b0).2.1.length < 4190) {w : List Int32} {wf : Nat → Int32} (hw : WD w 4096 wf) (hw0 : w ≠ []) (hj : 3 * j + w.length + 1 ≤ 3 * j') (an aa beh tok opn : Int32) (num : Int64) (top plc kno rnk : Int32) : wp (p_MoReader_variable pure_n an aa beh tok opn num (nI w.length) top plc vbd kno rnk nsz ntx 90000 txf 404301 frf 404300 nxf 1024 fsf 4096 wf 4200 vrf) (fun (v, vbd', nsz', ntx', txf', frf', nxf', fsf', vrf') => ∃ y r sz' kf' nf' mf', p_MoTerms_variable v sz pt 404300 kf 404300 nf 404300 mf = some (nI y, sz', kf', nf', mf') ∧ ((E ++ [(none, w, 100)]).foldl ap b0).2.2 = (E.foldl ap b0).2.2 ++ [r] ∧ ((E ++ [(none, w, 100)]).foldl ap b0).2.1.length ≤ (E.foldl ap b0).2.1.length + 1 ∧ DTP X b0 Z j' (E ++ [(none, w, 100)]) Y (wA (wV y r) W) sz' pt kf' nf' ff mf' pf bf nsz' ntx' txf' frf' nxf' fsf' vbd' vrf' stf) := by
  obtain ⟨TR, M, P, ⟨d1, d2, d3, ⟨U, d4⟩, ⟨W2, d5⟩, d6, d7, d8⟩, h2, h3, h4, h5, h6, h7⟩ := h
  refine wp_mono (mr_variable d3 hV d2 hw (by omega) hw0 an aa beh tok opn num top plc kno rnk) ?_
  rintro ⟨v, vbd', nsz', ntx', txf', frf', nxf', fsf', vrf'⟩ ⟨U2, a1, a2, a3⟩
  have hml : X.2.1.length ≤ M.length := by rw [d5, List.length_append]; omega
  have tb : (TR ++ U2).flatten.length + (TR ++ U2).length ≤ Z + 3 * j' := by
    rcases a2 with rfl | rfl
    · rw [List.append_nil]
      omega
    · rw [List.flatten_append, List.length_append, List.length_append, List.flatten_singleton, List.length_singleton]
      omega
  have fin' : ∀ (vi : Nat) (V' : List (List Int32)), v = nI vi → ap (E.foldl ap b0) (none, w, 100) = ((E.foldl ap b0).1, V', (E.foldl ap b0).2.2 ++ [(true, vi)]) → vi < V'.length → (V'.length = (E.foldl ap b0).2.1.length ∨ (V'.length = (E.foldl ap b0).2.1.length + 1 ∧ vi = (E.foldl ap b0).2.1.length)) → RV (TR ++ U2) V' vbd' vrf' → ∃ y r sz' kf' nf' mf', p_MoTerms_variable v sz pt 404300 kf 404300 nf 404300 mf = some (nI y, sz', kf', nf', mf') ∧ ((E ++ [(none, w, 100)]).foldl ap b0).2.2 = (E.foldl ap b0).2.2 ++ [r] ∧ ((E ++ [(none, w, 100)]).foldl ap b0).2.1.length ≤ (E.foldl ap b0).2.1.length + 1 ∧ DTP X b0 Z j' (E ++ [(none, w, 100)]) Y (wA (wV y r) W) sz' pt kf' nf' ff mf' pf bf nsz' ntx' txf' frf' nxf' fsf' vbd' vrf' stf := fun vi V' ev ea hvi hV' hR => by
    obtain ⟨kf', nf', mf', e1, e2, e3⟩ := mt_var (rt_app U2 d1) (by omega) vi
    subst ev
    rw [ap_1, ea]
    refine ⟨M.length, (true, vi), _, kf', nf', mf', e1, rfl, by dsimp only; omega, TR ++ U2, M ++ [(true, vi)], P, ⟨?_, a1, ?_, ⟨U ++ U2, by rw [d4, List.append_assoc]⟩, ⟨W2 ++ [_], by rw [d5, List.append_assoc]⟩, d6, uc_ge d7 hml d6 (fun x hx => ⟨(e3 x hx).1, (e3 x hx).2.1, rfl, (e3 x hx).2.2, rfl⟩) (fun _ _ => rfl), by rw [ap_1, ea]; exact oc_v d8 hvi hV'⟩, rs_app h2, tb, ?_, ?_, ?_, ?_, hW TR U2 M [(true, vi)] h7⟩
    · rw [ap_1, ea]
      exact e2
    · rw [ap_1, ea]
      exact hR
    · rw [List.length_append, List.length_append, List.length_singleton, List.length_singleton]
      omega
    · rw [List.length_append, List.length_append, List.length_singleton, List.length_singleton]
      omega
    · simp only [ap_1, ea, List.length_append, List.length_singleton]
      omega
    · show (M ++ [_])[M.length]? = some _
      rw [List.getElem?_append_right (Nat.le_refl _), Nat.sub_self]
      rfl
  have eb : ap (E.foldl ap b0) (none, w, 100) = (if vfi (E.foldl ap b0).2.1 w < (E.foldl ap b0).2.1.length then ((E.foldl ap b0).1, (E.foldl ap b0).2.1, (E.foldl ap b0).2.2 ++ [(true, vfi (E.foldl ap b0).2.1 w)]) else ((E.foldl ap b0).1, (E.foldl ap b0).2.1 ++ [w], (E.foldl ap b0).2.2 ++ [(true, (E.foldl ap b0).2.1.length)])) := rfl
  rcases a3 with ⟨q1, q2, q3⟩ | ⟨q1, q2, q3⟩
  · exact fin' _ _ q2 (by rw [eb, if_pos q1]) q1 (Or.inl rfl) q3
  · refine fin' _ _ q2 (by rw [eb, if_neg (by omega)]) ?_ (Or.inr ⟨?_, rfl⟩) q3
    · rw [List.length_append, List.length_singleton]
      omega
    · rw [List.length_append, List.length_singleton]
/-! ===== the reference reads: what its methods claim ===== -/
abbrev TT : Type := Int32 → Int32 → Int32 → Int32 → Int32 → Int32 → Int64 → Int32 → Int32 → Int32 → Int32 → Int32 → Int32 → Nat → (Nat → Int32) → Int32 → Int32 → Nat → (Nat → Int32) → Nat → (Nat → Int32) → Nat → (Nat → Int32) → Nat → (Nat → Int32) → Nat → (Nat → Int32) → Nat → (Nat → Int64) → Int32 → Int32 → Nat → (Nat → Int32) → Nat → (Nat → Int32) → Nat → (Nat → Int32) → Nat → (Nat → Int32) → Nat → (Nat → Int32) → Nat → (Nat → Int32) → Nat → (Nat → Int32) → Nat → (Nat → Int32) → Nat → (Nat → Int32) → Option ((Nat × Int32 × Int32 × Int32 × Int32 × Int32 × Int64 × Int32 × Int32 × Int32 × Int32 × Int32 × Int32 × Int32 × (Nat → Int32) × (Nat → Int32) × (Nat → Int32) × (Nat → Int32) × (Nat → Int32) × (Nat → Int64) × Int32 × Int32 × (Nat → Int32) × (Nat → Int32) × (Nat → Int32) × (Nat → Int32) × (Nat → Int32) × (Nat → Int32) × (Nat → Int32) × (Nat → Int32)) × Nat × Nat)
def FD (X : X0) (b0 : Bs) (Z L : Nat) (sz pt : Int32) (kf nf ff mf pf : Nat → Int32) (bf : Nat → Int64) (nsz ntx : Int32) (txf frf nxf fsf : Nat → Int32) (vbd : Int32) (vrf : Nat → Int32) : Prop := ∃ b TR M P, RD X b TR M P sz pt kf nf ff mf pf bf nsz ntx txf frf nxf fsf vbd vrf ∧ (∃ U, b.1 = b0.1 ++ U) ∧ (∃ W, b.2.1 = b0.2.1 ++ W) ∧ TR.flatten.length + TR.length ≤ Z + 3 * L
theorem ap_ext (b0 b : Bs) (h : (∃ U, b.1 = b0.1 ++ U) ∧ (∃ W, b.2.1 = b0.2.1 ++ W)) (e : Ev) : (∃ U, (ap b e).1 = b0.1 ++ U) ∧ (∃ W, (ap b e).2.1 = b0.2.1 ++ W) := by
  obtain ⟨⟨U, h1⟩, W, h2⟩ := h
  unfold ap
  cases e.1 with
  | some z => exact ⟨⟨U ++ [(some z, [], [])], by dsimp only; rw [h1, List.append_assoc]⟩, W, h2⟩
  | none =>
    dsimp only
    by_cases q1 : e.2.2 = 100
    · rw [if_pos q1]
      by_cases q2 : vfi b.2.1 e.2.1 < b.2.1.length
      · rw [if_pos q2]
        exact ⟨⟨U, h1⟩, W, h2⟩
      · rw [if_neg q2]
        exact ⟨⟨U, h1⟩, W ++ [e.2.1], by dsimp only; rw [h2, List.append_assoc]⟩
    · rw [if_neg q1]
      exact ⟨⟨U ++ [_], by dsimp only; rw [h1, List.append_assoc]⟩, W, h2⟩
theorem fold_ext (b0 : Bs) : ∀ (E : List Ev) (b : Bs), ((∃ U, b.1 = b0.1 ++ U) ∧ (∃ W, b.2.1 = b0.2.1 ++ W)) → (∃ U, (E.foldl ap b).1 = b0.1 ++ U) ∧ (∃ W, (E.foldl ap b).2.1 = b0.2.1 ++ W) := by
  intro E
  induction E with
  | nil => intro b h; exact h
  | cons e E ih => intro b h; exact ih _ (ap_ext b0 b h e)
theorem fd_of {X : X0} {b0 : Bs} {Z j L : Nat} {E : List Ev} {Y : List Rf} {W : WW} {sz pt : Int32} {kf nf ff mf pf : Nat → Int32} {bf : Nat → Int64} {nsz ntx : Int32} {txf frf nxf fsf : Nat → Int32} {vbd : Int32} {vrf : Nat → Int32} {stf : Nat → Int32} (h : DTP X b0 Z j E Y W sz pt kf nf ff mf pf bf nsz ntx txf frf nxf fsf vbd vrf stf) (hj : j ≤ L) : FD X b0 Z L sz pt kf nf ff mf pf bf nsz ntx txf frf nxf fsf vbd vrf := by
  obtain ⟨TR, M, P, h1, h2, h3, h4⟩ := h
  obtain ⟨e1, e2⟩ := fold_ext b0 E b0 ⟨⟨[], by rw [List.append_nil]⟩, [], by rw [List.append_nil]⟩
  exact ⟨_, TR, M, P, h1, e1, e2, by omega⟩
/-- the machine comes there -/
def Rq (l : List Int32) (s s' : Ps) : Prop := ∃ m, rq l m s = s'
theorem rq_refl (l : List Int32) (s : Ps) : Rq l s s := ⟨0, rfl⟩
theorem rq_trans {l : List Int32} {s s' s'' : Ps} (h : Rq l s s') (h2 : Rq l s' s'') : Rq l s s'' := by
  obtain ⟨a, rfl⟩ := h
  obtain ⟨b, rfl⟩ := h2
  exact ⟨a + b, rq_add l a b s⟩
theorem rq_1 (l : List Int32) (s : Ps) : Rq l s (stq l s) := ⟨1, rfl⟩
theorem rq_1' {l : List Int32} {s s' : Ps} (h : stq l s = s') : Rq l s s' := ⟨1, h⟩
def PQ (l : List Int32) (X : X0) (b0 : Bs) (Z : Nat) (s : Ps) (i d pend : Nat) (Y : List Rf) (plc : Int32) (W : WW) (G : Int32 → Ps → Prop) : (Nat × Int32 × Int32 × Int32 × Int32 × Int32 × Int64 × Int32 × Int32 × Int32 × Int32 × Int32 × Int32 × Int32 × (Nat → Int32) × (Nat → Int32) × (Nat → Int32) × (Nat → Int32) × (Nat → Int32) × (Nat → Int64) × Int32 × Int32 × (Nat → Int32) × (Nat → Int32) × (Nat → Int32) × (Nat → Int32) × (Nat → Int32) × (Nat → Int32) × (Nat → Int32) × (Nat → Int32)) × Nat × Nat → Prop :=
  fun ((xc, r, at', beh', tok', opn', num', let', top', plc', vbd', rnk', sz', pt', kf', nf', ff', mf', pf', bf', nsz', ntx', txf', frf', nxf', fsf', wf', stf', vrf', kpf'), mq, sk) => mq = 0 ∧ sk = 0 ∧
    ((xc = 0 ∧ ∃ s' y r', Rq l s s' ∧ s'.2.2.2.2.2.2.2.2 = none ∧ G rnk' s' ∧ i < s'.2.2.2.1 ∧ r = nI y ∧ y < 100000 ∧ plc' = plc ∧ opn' = nI d ∧ top' = nI Y.length ∧ TKP l s'.2.2.2.1 at' beh' tok' num' let' wf' ∧ s'.2.2.2.2.2.2.2.1.length + pend ≤ 2 * s'.2.2.2.1 ∧ 2 * (s'.2.2.2.2.2.2.2.1.foldl ap b0).2.1.length ≤ s'.2.2.2.1 + 401 ∧ (s'.2.2.2.2.2.2.2.1.foldl ap b0).2.2 = Y ++ [r'] ∧ DTP X b0 Z s'.2.2.2.1 s'.2.2.2.2.2.2.2.1 Y (wA (wV y r') W) sz' pt' kf' nf' ff' mf' pf' bf' nsz' ntx' txf' frf' nxf' fsf' vbd' vrf' stf') ∨
     (xc = 5 ∧ ∃ q s', Rq l s s' ∧ s'.2.2.2.2.2.2.2.2 = some q ∧ q ≤ l.length ∧ plc' = nI q ∧ FD X b0 Z l.length sz' pt' kf' nf' ff' mf' pf' bf' nsz' ntx' txf' frf' nxf' fsf' vbd' vrf'))
/-- a whole term is behind it -/
def GT (O : List Op) (fi : Nat) : Int32 → Ps → Prop := fun _ s => s.1 = (if O = [] then 5 else 4) ∧ s.2.2.1 = O ∧ s.2.2.2.2.2.2.1 = fi
/-- a left side is behind it -/
def GP (O : List Op) (fi most : Nat) : Int32 → Ps → Prop := fun rnk s => s.1 = 3 ∧ s.2.2.2.2.2.2.1 = fi ∧ ∃ o, s.2.2.1 = o :: O ∧ o.1 = most ∧ o.2.1 ≤ 1200 ∧ rnk = nI o.2.1
def TCl (l : List Int32) (f : Nat → Int32) (X : X0) (b0 : Bs) (Z : Nat) (rf : Nat → Int32) (kno : Int32) (T : TT) (d : Nat) : Prop :=
  ∀ (most : Nat) (O : List Op) (i pend : Nat) (ln : List Int32) (lb fi : Nat) (E : List Ev) (Y : List Rf) (W : WW) (at_ beh tok : Int32) (num : Int64) (let_ plc rnk : Int32) (sz pt : Int32) (kf nf ff mf pf : Nat → Int32) (bf : Nat → Int64) (nsz ntx : Int32) (txf frf nxf fsf : Nat → Int32) (vbd : Int32) (vrf : Nat → Int32) (wf stf kpf : Nat → Int32), 200 ≤ most → most ≤ 1200 → O.length = d → ¬ ptm O = true → 2 * Y.length ≤ i → mono W → TKP l i at_ beh tok num let_ wf → E.length + pend ≤ 2 * i → 2 * (E.foldl ap b0).2.1.length ≤ i + 400 → (E.foldl ap b0).2.2 = Y → DTP X b0 Z i E Y W sz pt kf nf ff mf pf bf nsz ntx txf frf nxf fsf vbd vrf stf → wp (T (nI most) (nI l.length) at_ beh tok (nI d) num let_ (nI Y.length) plc vbd kno rnk 20 rf sz pt 404300 kf 404300 nf 404300 ff 404300 mf 404300 pf 404300 bf nsz ntx 90000 txf 404301 frf 404300 nxf 1024 fsf 4096 f 4096 wf 4200 stf 4200 vrf 4096 kpf) (PQ l X b0 Z (1, most, O, i, ln, lb, fi, E, none) i d pend Y plc W (GT O (if O = [] then (tkn l i).2.1 else fi)))
theorem pq_rq {l : List Int32} {X : X0} {b0 : Bs} {Z : Nat} {s s2 : Ps} {i i2 d pend : Nat} {Y : List Rf} {plc : Int32} {W : WW} {G : Int32 → Ps → Prop} (hs : Rq l s s2) (hi : i ≤ i2) {x : Option ((Nat × Int32 × Int32 × Int32 × Int32 × Int32 × Int64 × Int32 × Int32 × Int32 × Int32 × Int32 × Int32 × Int32 × (Nat → Int32) × (Nat → Int32) × (Nat → Int32) × (Nat → Int32) × (Nat → Int32) × (Nat → Int64) × Int32 × Int32 × (Nat → Int32) × (Nat → Int32) × (Nat → Int32) × (Nat → Int32) × (Nat → Int32) × (Nat → Int32) × (Nat → Int32) × (Nat → Int32)) × Nat × Nat)} (h : wp x (PQ l X b0 Z s2 i2 d pend Y plc W G)) : wp x (PQ l X b0 Z s i d pend Y plc W G) := by
  refine wp_mono h ?_
  rintro ⟨⟨xc, r, at', beh', tok', opn', num', let', top', plc', vbd', rnk', sz', pt', kf', nf', ff', mf', pf', bf', nsz', ntx', txf', frf', nxf', fsf', wf', stf', vrf', kpf'⟩, mq, sk⟩ ⟨m1, m2, h⟩
  refine ⟨m1, m2, ?_⟩
  rcases h with ⟨h1, s', y, r', a1, a2, a3, a4, a5⟩ | ⟨h1, q, s', a1, a2⟩
  · exact Or.inl ⟨h1, s', y, r', rq_trans hs a1, a2, a3, by omega, a5⟩
  · exact Or.inr ⟨h1, q, s', rq_trans hs a1, a2⟩
theorem dt_y {X : X0} {b0 : Bs} {Z j : Nat} {E : List Ev} {Y : List Rf} {W : WW} {sz pt : Int32} {kf nf ff mf pf : Nat → Int32} {bf : Nat → Int64} {nsz ntx : Int32} {txf frf nxf fsf : Nat → Int32} {vbd : Int32} {vrf : Nat → Int32} {stf : Nat → Int32} {y : Nat} {r : Rf} (h : DTP X b0 Z j E Y (wA (wV y r) W) sz pt kf nf ff mf pf bf nsz ntx txf frf nxf fsf vbd vrf stf) (hE : E.length ≤ 10000) : y < 100000 := by
  obtain ⟨TR, M, P, h1, h2, h3, h4, h5, h6, h7⟩ := h
  obtain ⟨hy, _⟩ := List.getElem?_eq_some_iff.mp h7.1
  omega
/-- a value that is at once there -/
theorem pq_ok {l : List Int32} {X : X0} {b0 : Bs} {Z : Nat} {s : Ps} {i d pend : Nat} {Y : List Rf} {plc : Int32} {W : WW} {G : Int32 → Ps → Prop} {md nx : Nat} {O : List Op} {i' : Nat} {ln : List Int32} {lb fi : Nat} {E : List Ev} {y : Nat} {r' : Rf} {at_ beh tok : Int32} {num : Int64} {let_ rnk : Int32} {sz pt : Int32} {kf nf ff mf pf : Nat → Int32} {bf : Nat → Int64} {nsz ntx : Int32} {txf frf nxf fsf : Nat → Int32} {vbd : Int32} {vrf : Nat → Int32} {wf stf kpf : Nat → Int32} (h1 : Rq l s (md, nx, O, i', ln, lb, fi, E, none)) (h2 : G rnk (md, nx, O, i', ln, lb, fi, E, none)) (h3 : i < i') (h4 : TKP l i' at_ beh tok num let_ wf) (h5 : E.length + pend ≤ 2 * i') (hE : E.length ≤ 10000) (h6 : 2 * (E.foldl ap b0).2.1.length ≤ i' + 401) (h7 : (E.foldl ap b0).2.2 = Y ++ [r']) (h8 : DTP X b0 Z i' E Y (wA (wV y r') W) sz pt kf nf ff mf pf bf nsz ntx txf frf nxf fsf vbd vrf stf) : PQ l X b0 Z s i d pend Y plc W G ((0, nI y, at_, beh, tok, nI d, num, let_, nI Y.length, plc, vbd, rnk, sz, pt, kf, nf, ff, mf, pf, bf, nsz, ntx, txf, frf, nxf, fsf, wf, stf, vrf, kpf), 0, 0) :=
  ⟨rfl, rfl, Or.inl ⟨rfl, _, y, r', h1, rfl, h2, h3, rfl, dt_y h8 hE, rfl, rfl, rfl, h4, h5, h6, h7, h8⟩⟩
/-- what is broken -/
theorem pq_bad {l : List Int32} {X : X0} {b0 : Bs} {Z : Nat} {s : Ps} {i d pend : Nat} {Y : List Rf} {plc : Int32} {W : WW} {G : Int32 → Ps → Prop} {s' : Ps} {q : Nat} {r at_ beh tok opn : Int32} {num : Int64} {let_ top rnk : Int32} {sz pt : Int32} {kf nf ff mf pf : Nat → Int32} {bf : Nat → Int64} {nsz ntx : Int32} {txf frf nxf fsf : Nat → Int32} {vbd : Int32} {vrf : Nat → Int32} {wf stf kpf : Nat → Int32} (h1 : Rq l s s') (h2 : s'.2.2.2.2.2.2.2.2 = some q) (h3 : q ≤ l.length) (h4 : FD X b0 Z l.length sz pt kf nf ff mf pf bf nsz ntx txf frf nxf fsf vbd vrf) : PQ l X b0 Z s i d pend Y plc W G ((5, r, at_, beh, tok, opn, num, let_, top, nI q, vbd, rnk, sz, pt, kf, nf, ff, mf, pf, bf, nsz, ntx, txf, frf, nxf, fsf, wf, stf, vrf, kpf), 0, 0) :=
  ⟨rfl, rfl, Or.inr ⟨rfl, q, s', h1, h2, h3, rfl, h4⟩⟩
/-- passed on as it is -/
theorem pq_again {Q : (Nat × Int32 × Int32 × Int32 × Int32 × Int32 × Int64 × Int32 × Int32 × Int32 × Int32 × Int32 × Int32 × Int32 × (Nat → Int32) × (Nat → Int32) × (Nat → Int32) × (Nat → Int32) × (Nat → Int32) × (Nat → Int64) × Int32 × Int32 × (Nat → Int32) × (Nat → Int32) × (Nat → Int32) × (Nat → Int32) × (Nat → Int32) × (Nat → Int32) × (Nat → Int32) × (Nat → Int32)) × Nat × Nat → Prop} {x : Option ((Nat × Int32 × Int32 × Int32 × Int32 × Int32 × Int64 × Int32 × Int32 × Int32 × Int32 × Int32 × Int32 × Int32 × (Nat → Int32) × (Nat → Int32) × (Nat → Int32) × (Nat → Int32) × (Nat → Int32) × (Nat → Int64) × Int32 × Int32 × (Nat → Int32) × (Nat → Int32) × (Nat → Int32) × (Nat → Int32) × (Nat → Int32) × (Nat → Int32) × (Nat → Int32) × (Nat → Int32)) × Nat × Nat)} (hx : wp x Q) (hz : ∀ z, Q z → z.2.1 = 0 ∧ z.2.2 = 0 ∧ (z.1.1 = 0 ∨ z.1.1 = 5)) (h5 : ∀ z : (Nat × Int32 × Int32 × Int32 × Int32 × Int32 × Int64 × Int32 × Int32 × Int32 × Int32 × Int32 × Int32 × Int32 × (Nat → Int32) × (Nat → Int32) × (Nat → Int32) × (Nat → Int32) × (Nat → Int32) × (Nat → Int64) × Int32 × Int32 × (Nat → Int32) × (Nat → Int32) × (Nat → Int32) × (Nat → Int32) × (Nat → Int32) × (Nat → Int32) × (Nat → Int32) × (Nat → Int32)) × Nat × Nat, Q z → z.1.1 = 5 → Q ((z.1.1, (0 : Int32), z.1.2.2), 0, 0)) : wp (x.bind (fun ((xc, r, at', beh', tok', opn', num', let', top', plc', vbd', rnk', sz', pt', kf', nf', ff', mf', pf', bf', nsz', ntx', txf', frf', nxf', fsf', wf', stf', vrf', kpf'), mq, sk) => al mq sk (if xc = 0 then (some ((0, r, at', beh', tok', opn', num', let', top', plc', vbd', rnk', sz', pt', kf', nf', ff', mf', pf', bf', nsz', ntx', txf', frf', nxf', fsf', wf', stf', vrf', kpf'), 0, 0)) else (some ((xc, (0 : Int32), at', beh', tok', opn', num', let', top', plc', vbd', rnk', sz', pt', kf', nf', ff', mf', pf', bf', nsz', ntx', txf', frf', nxf', fsf', wf', stf', vrf', kpf'), 0, 0))))) Q := by
  refine wp_bind hx ?_
  rintro ⟨⟨xc, r, at', beh', tok', opn', num', let', top', plc', vbd', rnk', sz', pt', kf', nf', ff', mf', pf', bf', nsz', ntx', txf', frf', nxf', fsf', wf', stf', vrf', kpf'⟩, mq, sk⟩ h
  obtain ⟨m1, m2, h3⟩ := hz _ h
  dsimp only at m1 m2 h3 ⊢
  subst m1 m2
  rcases h3 with rfl | rfl
  · rw [if_pos rfl]
    exact wp_als h
  · rw [if_neg (by decide)]
    exact wp_als (h5 _ h rfl)
theorem pq_z {l : List Int32} {X : X0} {b0 : Bs} {Z : Nat} {s : Ps} {i d pend : Nat} {Y : List Rf} {plc : Int32} {W : WW} {G : Int32 → Ps → Prop} : ∀ z, PQ l X b0 Z s i d pend Y plc W G z → z.2.1 = 0 ∧ z.2.2 = 0 ∧ (z.1.1 = 0 ∨ z.1.1 = 5) := by
  rintro ⟨⟨xc, r, at', beh', tok', opn', num', let', top', plc', vbd', rnk', sz', pt', kf', nf', ff', mf', pf', bf', nsz', ntx', txf', frf', nxf', fsf', wf', stf', vrf', kpf'⟩, mq, sk⟩ ⟨m1, m2, h⟩
  refine ⟨m1, m2, ?_⟩
  rcases h with ⟨h1, _⟩ | ⟨h1, _⟩
  · exact Or.inl h1
  · exact Or.inr h1
theorem pq_5 {l : List Int32} {X : X0} {b0 : Bs} {Z : Nat} {s : Ps} {i d pend : Nat} {Y : List Rf} {plc : Int32} {W : WW} {G : Int32 → Ps → Prop} : ∀ z : (Nat × Int32 × Int32 × Int32 × Int32 × Int32 × Int64 × Int32 × Int32 × Int32 × Int32 × Int32 × Int32 × Int32 × (Nat → Int32) × (Nat → Int32) × (Nat → Int32) × (Nat → Int32) × (Nat → Int32) × (Nat → Int64) × Int32 × Int32 × (Nat → Int32) × (Nat → Int32) × (Nat → Int32) × (Nat → Int32) × (Nat → Int32) × (Nat → Int32) × (Nat → Int32) × (Nat → Int32)) × Nat × Nat, PQ l X b0 Z s i d pend Y plc W G z → z.1.1 = 5 → PQ l X b0 Z s i d pend Y plc W G ((z.1.1, (0 : Int32), z.1.2.2), 0, 0) := by
  rintro ⟨⟨xc, r, at', beh', tok', opn', num', let', top', plc', vbd', rnk', sz', pt', kf', nf', ff', mf', pf', bf', nsz', ntx', txf', frf', nxf', fsf', wf', stf', vrf', kpf'⟩, mq, sk⟩ ⟨m1, m2, h⟩ e
  refine ⟨rfl, rfl, ?_⟩
  rcases h with ⟨h1, _⟩ | ⟨h1, h2⟩
  · dsimp only at e
    rw [h1] at e
    cases e
  · exact Or.inr ⟨h1, h2⟩
/-- behind a term: what comes then -/
theorem pq_then {l : List Int32} {X : X0} {b0 : Bs} {Z : Nat} {s s2 : Ps} {i i2 d d2 pend pend2 : Nat} {Y Y2 : List Rf} {plc : Int32} {W W2 : WW} {G G2 : Int32 → Ps → Prop} {x : Option ((Nat × Int32 × Int32 × Int32 × Int32 × Int32 × Int64 × Int32 × Int32 × Int32 × Int32 × Int32 × Int32 × Int32 × (Nat → Int32) × (Nat → Int32) × (Nat → Int32) × (Nat → Int32) × (Nat → Int32) × (Nat → Int64) × Int32 × Int32 × (Nat → Int32) × (Nat → Int32) × (Nat → Int32) × (Nat → Int32) × (Nat → Int32) × (Nat → Int32) × (Nat → Int32) × (Nat → Int32)) × Nat × Nat)} (hx : wp x (PQ l X b0 Z s2 i2 d2 pend2 Y2 plc W2 G2)) (hs : Rq l s s2) {F : (Nat × Int32 × Int32 × Int32 × Int32 × Int32 × Int64 × Int32 × Int32 × Int32 × Int32 × Int32 × Int32 × Int32 × (Nat → Int32) × (Nat → Int32) × (Nat → Int32) × (Nat → Int32) × (Nat → Int32) × (Nat → Int64) × Int32 × Int32 × (Nat → Int32) × (Nat → Int32) × (Nat → Int32) × (Nat → Int32) × (Nat → Int32) × (Nat → Int32) × (Nat → Int32) × (Nat → Int32)) × Nat × Nat → Option ((Nat × Int32 × Int32 × Int32 × Int32 × Int32 × Int64 × Int32 × Int32 × Int32 × Int32 × Int32 × Int32 × Int32 × (Nat → Int32) × (Nat → Int32) × (Nat → Int32) × (Nat → Int32) × (Nat → Int32) × (Nat → Int64) × Int32 × Int32 × (Nat → Int32) × (Nat → Int32) × (Nat → Int32) × (Nat → Int32) × (Nat → Int32) × (Nat → Int32) × (Nat → Int32) × (Nat → Int32)) × Nat × Nat)} (hF : ∀ (r at' beh' tok' opn' : Int32) (num' : Int64) (let' top' plc' vbd' rnk' sz' pt' : Int32) (kf' nf' ff' mf' pf' : Nat → Int32) (bf' : Nat → Int64) (nsz' ntx' : Int32) (txf' frf' nxf' fsf' wf' stf' vrf' kpf' : Nat → Int32) (s' : Ps) (y : Nat) (r' : Rf), Rq l s s' → s'.2.2.2.2.2.2.2.2 = none → G2 rnk' s' → i2 < s'.2.2.2.1 → r = nI y → y < 100000 → plc' = plc → opn' = nI d2 → top' = nI Y2.length → TKP l s'.2.2.2.1 at' beh' tok' num' let' wf' → s'.2.2.2.2.2.2.2.1.length + pend2 ≤ 2 * s'.2.2.2.1 → 2 * (s'.2.2.2.2.2.2.2.1.foldl ap b0).2.1.length ≤ s'.2.2.2.1 + 401 → (s'.2.2.2.2.2.2.2.1.foldl ap b0).2.2 = Y2 ++ [r'] → DTP X b0 Z s'.2.2.2.1 s'.2.2.2.2.2.2.2.1 Y2 (wA (wV y r') W2) sz' pt' kf' nf' ff' mf' pf' bf' nsz' ntx' txf' frf' nxf' fsf' vbd' vrf' stf' → wp (F ((0, r, at', beh', tok', opn', num', let', top', plc', vbd', rnk', sz', pt', kf', nf', ff', mf', pf', bf', nsz', ntx', txf', frf', nxf', fsf', wf', stf', vrf', kpf'), 0, 0)) (PQ l X b0 Z s i d pend Y plc W G)) (hF5 : ∀ (r at' beh' tok' opn' : Int32) (num' : Int64) (let' top' plc' vbd' rnk' sz' pt' : Int32) (kf' nf' ff' mf' pf' : Nat → Int32) (bf' : Nat → Int64) (nsz' ntx' : Int32) (txf' frf' nxf' fsf' wf' stf' vrf' kpf' : Nat → Int32), F ((5, r, at', beh', tok', opn', num', let', top', plc', vbd', rnk', sz', pt', kf', nf', ff', mf', pf', bf', nsz', ntx', txf', frf', nxf', fsf', wf', stf', vrf', kpf'), 0, 0) = some ((5, (0 : Int32), at', beh', tok', opn', num', let', top', plc', vbd', rnk', sz', pt', kf', nf', ff', mf', pf', bf', nsz', ntx', txf', frf', nxf', fsf', wf', stf', vrf', kpf'), 0, 0)) : wp (x.bind F) (PQ l X b0 Z s i d pend Y plc W G) := by
  refine wp_bind hx ?_
  rintro ⟨⟨xc, r, at', beh', tok', opn', num', let', top', plc', vbd', rnk', sz', pt', kf', nf', ff', mf', pf', bf', nsz', ntx', txf', frf', nxf', fsf', wf', stf', vrf', kpf'⟩, mq, sk⟩ ⟨m1, m2, h⟩
  try dsimp only at m1 m2 h
  subst m1 m2
  rcases h with ⟨rfl, s', y, r', a1, a2, a3, a4, a5, a6, a7, a8, a9, a10, a11, a12, a13, a14⟩ | ⟨rfl, q, s', a1, a2, a3, a4, a5⟩
  · exact hF _ _ _ _ _ _ _ _ _ _ _ _ _ _ _ _ _ _ _ _ _ _ _ _ _ _ _ _ _ s' y r' (rq_trans hs a1) a2 a3 a4 a5 a6 a7 a8 a9 a10 a11 a12 a13 a14
  · rw [hF5, a4]
    exact wp_some (pq_bad (rq_trans hs a1) a2 a3 a5)
/-! ===== the reference reads: names ===== -/
theorem al00 {ρ : Type} (x : Option (ρ × Nat × Nat)) : al 0 0 x = x := by
  cases x with
  | none => rfl
  | some z => rfl
theorem pf_200 (w : List Int32) (h : 0 < (lvl w).2.2.2) : 200 ≤ (lvl w).2.2.2 := by
  have : ∀ j, j < 24 → 0 < (KL.getD j (0, 0, 0, 0)).2.2.2 → 200 ≤ (KL.getD j (0, 0, 0, 0)).2.2.2 := by decide
  unfold lvl at h ⊢
  by_cases q : KT.idxOf w < 24
  · exact this _ q h
  · rw [List.getD_eq_getElem?_getD, List.getElem?_eq_none (by show 24 ≤ _; omega)] at h
    exact absurd h (by decide)
theorem nm1 {j : Nat} (hj : j < 2147483648) : ¬ nI j = -1 := fun e => by
  have : nI j < 0 := by rw [e]; decide
  exact nI_pos hj this
theorem m_n91 {l : List Int32} {f : Nat → Int32} (hM : TM l f) {X : X0} {b0 : Bs} {Z : Nat} (hZ : Z + 3 * l.length + 20 ≤ 80000) {rf : Nat → Int32} (hr : ∀ j, j < 20 → rf j = nI (RL.getD j 0)) (kno : Int32) {T : TT} {d : Nat} (hT : TCl l f X b0 Z rf kno T (d + 1)) (hd : d + 1 ≤ 100) {most : Nat} (hm : 200 ≤ most) (hm2 : most ≤ 1200) {O : List Op} (hO : O.length = d) {i pend fi : Nat} {E : List Ev} {Y : List Rf} {W : WW} (hW : mono W) {at_ beh tok : Int32} {num : Int64} {let_ : Int32} (plc : Int32) {sz pt : Int32} {kf nf ff mf pf : Nat → Int32} {bf : Nat → Int64} {nsz ntx : Int32} {txf frf nxf fsf : Nat → Int32} {vbd : Int32} {vrf : Nat → Int32} {wf stf : Nat → Int32} (kpf : Nat → Int32) (hY : 2 * Y.length ≤ i) (hk : TKP l i at_ beh tok num let_ wf) (h3 : (tkn l i).1 = 3) (hE : E.length + pend ≤ 2 * i) (hV : 2 * (E.foldl ap b0).2.1.length ≤ i + 400) (hK : (E.foldl ap b0).2.2 = Y) (hD : DTP X b0 Z i E Y W sz pt kf nf ff mf pf bf nsz ntx txf frf nxf fsf vbd vrf stf) (n1 : ¬ ((tkn l (tkn l i).2.2.1).2.1 = (tkn l i).2.2.1 ∧ (tkn l (tkn l i).2.2.1).1 = 40)) (n2 : ¬ ((tkn l (tkn l i).2.2.1).2.1 = (tkn l i).2.2.1 ∧ (tkn l i).2.2.2.1 = [45] ∧ (tkn l (tkn l i).2.2.1).1 = 2)) : wp (p_MoReader_named_91 pure_n (nI most) (nI l.length) at_ beh tok (nI (d + 1)) num let_ (nI Y.length) plc vbd kno 0 20 rf sz pt 404300 kf 404300 nf 404300 ff 404300 mf 404300 pf 404300 bf nsz ntx 90000 txf 404301 frf 404300 nxf 1024 fsf 4096 f 4096 wf 4200 stf 4200 vrf 4096 kpf T) (PQ l X b0 Z (2, most, (most, 0, 0, [], 0, 0) :: O, (tkn l i).2.2.1, (tkn l i).2.2.2.1, (tkn l i).2.2.1, fi, E, none) i (d + 1) pend Y plc W (GP O fi most)) := by
  have hl4 := hM.1
  obtain ⟨l1, l2, l3, l4, l5, l6⟩ := tk_len l hk.1
  have l4 := l4 (by omega)
  have hk0 := hk
  obtain ⟨k1, k2, k3, hR⟩ := hk
  have hR0 := hR
  obtain ⟨t1, t2, ⟨w, t3, t4, t5⟩, t6⟩ := hR
  have tw := t5 (Or.inr h3)
  subst t3
  have lb := lvl_lt (tkn l i).2.2.2.1
  have wl : w.length ≤ (tkn l i).2.2.1 - (tkn l i).2.1 := by rw [tw]; exact l5
  unfold p_MoReader_named_91
  refine wp_bs (mr_prefix hR0 _ _ _ _ _ _ _ _ _) (wp_bind (dt_name hW hD (by omega) t4 (j' := (tkn l i).2.2.1) (by omega) _ _ _ _ _ _ _ _ _ _) ?_)
  rintro ⟨x, nsz', ntx', txf', frf', nxf', fsf'⟩ hD1
  dsimp only at hD1 ⊢
  refine wp_bind (rr_scan hM hk0 _ _ _ _ _ _) ?_
  rintro ⟨at1, beh1, tok1, num1, let1, wf1⟩ hk1
  dsimp only at hk1 ⊢
  rw [tw] at hD1
  -- an atom
  have AT : ¬ (0 < (lvl (tkn l i).2.2.2.1).2.2.2 ∧ (lvl (tkn l i).2.2.2.1).2.2.2 ≤ most ∧ bgn (tkn l (tkn l i).2.2.1) = true) → wp ((p_MoTerms_atom x sz pt 404300 kf 404300 nf 404300 mf).bind (fun (r8, a_size_8, a_kind_f_8, a_name_f_8, a_many_f_8) => some ((0, r8, at1, beh1, tok1, nI (d + 1), num1, let1, nI Y.length, plc, vbd, (0 : Int32), a_size_8, pt, a_kind_f_8, a_name_f_8, ff, a_many_f_8, pf, bf, nsz', ntx', txf', frf', nxf', fsf', wf1, stf, vrf, kpf), 0, 0))) (PQ l X b0 Z (2, most, (most, 0, 0, [], 0, 0) :: O, (tkn l i).2.2.1, (tkn l i).2.2.2.1, (tkn l i).2.2.1, fi, E, none) i (d + 1) pend Y plc W (GP O fi most)) := fun hn => by
    obtain ⟨y, r', sz', kf', nf', mf', e1, e2, e3, e4⟩ := dt_atom hW hD1 (by omega)
    have st : stq l (2, most, (most, 0, 0, [], 0, 0) :: O, (tkn l i).2.2.1, (tkn l i).2.2.2.1, (tkn l i).2.2.1, fi, E, none) = (3, most, (most, 0, 0, [], 0, 0) :: O, (tkn l i).2.2.1, (tkn l i).2.2.2.1, (tkn l i).2.2.1, fi, E ++ [(none, (tkn l i).2.2.2.1, 0)], none) := by
      rw [stq_2]
      unfold st2q
      rw [if_neg n1, if_neg n2, if_neg hn]
    refine wp_bs e1 (wp_some (pq_ok (rq_1' st) ⟨rfl, rfl, (most, 0, 0, [], 0, 0), rfl, rfl, Nat.zero_le _, rfl⟩ (by omega) hk1 ?_ ?_ ?_ (by rw [e2, hK]) e4))
    · rw [List.length_append, List.length_singleton]
      omega
    · rw [List.length_append, List.length_singleton]
      omega
    · rw [e3]
      omega
  by_cases c1 : 0 < (lvl (tkn l i).2.2.2.1).2.2.2
  · rw [if_pos (show (tkn l i).1 = 3 ∧ 0 < (lvl (tkn l i).2.2.2.1).2.2.2 from ⟨h3, c1⟩)]
    refine wp_if (nm1 (by omega)) ?_
    by_cases c2 : (lvl (tkn l i).2.2.2.1).2.2.2 ≤ most
    · refine wp_if (nI_nlt c2 (by omega)) (wp_bs (mr_begins hk1.2.2.2 hr _ _ _ _ _ _ _ _ _) ?_)
      by_cases c3 : bgn (tkn l (tkn l i).2.2.1) = true
      · refine wp_if (b1_f.mpr c3) ?_
        have st : stq l (2, most, (most, 0, 0, [], 0, 0) :: O, (tkn l i).2.2.1, (tkn l i).2.2.2.1, (tkn l i).2.2.1, fi, E, none) = (1, (lvl (tkn l i).2.2.2.1).2.2.2, (most, 0, 2, (tkn l i).2.2.2.1, (lvl (tkn l i).2.2.2.1).2.2.2, 0) :: O, (tkn l i).2.2.1, (tkn l i).2.2.2.1, (tkn l i).2.2.1, fi, E, none) := by
          rw [stq_2]
          unfold st2q
          rw [if_neg n1, if_neg n2, if_pos (show 0 < (lvl (tkn l i).2.2.2.1).2.2.2 ∧ (lvl (tkn l i).2.2.2.1).2.2.2 ≤ (most, 0, 0, ([] : List Int32), 0, 0).1 ∧ bgn (tkn l (tkn l i).2.2.1) = true from ⟨c1, c2, c3⟩)]
        have TC := hT (lvl (tkn l i).2.2.2.1).2.2.2 ((most, 0, 2, (tkn l i).2.2.2.1, (lvl (tkn l i).2.2.2.1).2.2.2, 0) :: O) (tkn l i).2.2.1 (pend + 1) (tkn l i).2.2.2.1 (tkn l i).2.2.1 fi E Y (wA (wN (tkn l i).2.2.2.1 x) W) at1 beh1 tok1 num1 let1 plc 0 sz pt kf nf ff mf pf bf nsz' ntx' txf' frf' nxf' fsf' vbd vrf wf1 stf kpf (pf_200 _ c1) (by omega) (by rw [List.length_cons, hO]) (by rw [ptm_c]; simp) (by omega) (mono_A (mono_N _ _) hW) hk1 (by omega) (by omega) hK hD1
        rw [if_neg (show ¬ (most, 0, 2, (tkn l i).2.2.2.1, (lvl (tkn l i).2.2.2.1).2.2.2, 0) :: O = [] by simp)] at TC
        refine pq_then TC (rq_1' st) ?_ (by intros; rfl)
        intro r at' beh' tok' opn' num' let' top' plc' vbd' rnk' sz' pt' kf' nf' ff' mf' pf' bf' nsz2 ntx2 txf2 frf2 nxf2 fsf2 wf' stf' vrf' kpf' s' y r' b1' b2 b3 b4 b5 b6 b7 b8 b9 b10 b11 b12 b13 b14
        obtain ⟨md2, nx2, O2, i2, ln2, lb2, fi2, E2, br2⟩ := s'
        obtain ⟨g1, g2, g3⟩ := b3
        dsimp only at b2 b4 b10 b11 b12 b13 b14 g1 g2 g3 ⊢
        rw [if_neg (by rw [← g2] at g1; simp)] at g1
        subst b2 b5 b7 b8 b9 g1 g2 g3
        have hi2 := b10.1
        rw [al00, if_pos rfl]
        refine wp_ck (ixb_t (by omega) (by omega)) ?_
        rw [nI_clamp (by omega)]
        have D2 := dt_push (W := wA (wN (tkn l i).2.2.2.1 x) W) b14
        obtain ⟨y2, r2, sz2, pt2, kf2, nf2, ff2, mf2, pf2, e1, e2, e3, e4⟩ := dt_comp hW D2 (by omega) b13 (k := 1) (by rw [List.length_append, List.length_singleton]; omega) (by decide) (by rw [List.length_append, List.length_singleton]; omega)
        rw [List.length_append, List.length_singleton, Nat.add_sub_cancel] at e1 e2 e4
        rw [List.take_left'  rfl] at e2 e4
        have st2 : stq l (4, nx2, (most, 0, 2, (tkn l i).2.2.2.1, (lvl (tkn l i).2.2.2.1).2.2.2, 0) :: O, i2, ln2, lb2, fi2, E2, none) = (3, nx2, (most, (lvl (tkn l i).2.2.2.1).2.2.2, 2, (tkn l i).2.2.2.1, (lvl (tkn l i).2.2.2.1).2.2.2, 0) :: O, i2, ln2, lb2, fi2, E2 ++ [(none, (tkn l i).2.2.2.1, 1)], none) := by
          rw [stq_n l (by decide), stp4]
          rfl
        refine wp_bs e1 (wp_some (pq_ok (rq_trans b1' (rq_1' st2)) ⟨rfl, rfl, (most, (lvl (tkn l i).2.2.2.1).2.2.2, 2, (tkn l i).2.2.2.1, (lvl (tkn l i).2.2.2.1).2.2.2, 0), rfl, rfl, by show (lvl (tkn l i).2.2.2.1).2.2.2 ≤ 1200; omega, rfl⟩ (by omega) b10 ?_ ?_ ?_ e2 e4))
        · rw [List.length_append, List.length_singleton]
          omega
        · rw [List.length_append, List.length_singleton]
          omega
        · rw [e3]
          exact b12
      · exact wp_it (b1_0 c3) (AT (fun z => c3 z.2.2))
    · exact wp_it (nI_lt (by omega) (by omega)) (AT (fun z => c2 z.2.1))
  · rw [if_neg (show ¬ ((tkn l i).1 = 3 ∧ 0 < (lvl (tkn l i).2.2.2.1).2.2.2) from fun z => c1 z.2)]
    exact wp_it rfl (AT (fun z => c1 z.1))
/-! ===== the reference reads: compounds ===== -/
theorem m_cmp {l : List Int32} {f : Nat → Int32} (hM : TM l f) {X : X0} {b0 : Bs} {Z : Nat} (hZ : Z + 3 * l.length + 20 ≤ 80000) {rf : Nat → Int32} (hr : ∀ j, j < 20 → rf j = nI (RL.getD j 0)) (kno : Int32) {T : TT} {d : Nat} (hT2 : TCl l f X b0 Z rf kno T (d + 1)) (hd : d + 1 ≤ 100) {most : Nat} {O : List Op} (hO : O.length = d) {w : List Int32} {x : Int32} {Y : List Rf} {pend fi : Nat} {W : WW} (hW : mono W) {s : Ps} {i0 : Nat} (plc : Int32) : ∀ (fu j p : Nat) (nx : Nat) (ln : List Int32) (lb : Nat) (E : List Ev) (Y' : List Rf) (at_ beh tok : Int32) (num : Int64) (let_ rnk : Int32) (sz pt : Int32) (kf nf ff mf pf : Nat → Int32) (bf : Nat → Int64) (nsz ntx : Int32) (txf frf nxf fsf : Nat → Int32) (vbd : Int32) (vrf : Nat → Int32) (wf stf kpf : Nat → Int32), l.length - j < fu → Rq l s (1, 999, (most, 0, 4, w, 0, p + 1) :: O, (tkn l j).2.2.1, ln, lb, fi, E, none) → i0 ≤ j → p ≤ 8 → (∃ A, Y' = Y ++ A ∧ A.length = p) → 2 * Y'.length ≤ (tkn l j).2.2.1 → TKP l j at_ beh tok num let_ wf → (tkn l j).1 ≠ 5 → E.length + (pend + 1) ≤ 2 * (tkn l j).2.2.1 → 2 * (E.foldl ap b0).2.1.length ≤ (tkn l j).2.2.1 + 400 → (E.foldl ap b0).2.2 = Y' → DTP X b0 Z (tkn l j).2.2.1 E Y' (wA (wN w x) W) sz pt kf nf ff mf pf bf nsz ntx txf frf nxf fsf vbd vrf stf → wp (p_MoReader_compound_14 pure_n (nI l.length) (nI Y.length) kno 20 rf 404300 404300 404300 404300 404300 404300 90000 404301 404300 1024 4096 f 4096 4200 4200 4096 T x fu sz pt nsz ntx at_ beh tok (nI (d + 1)) num let_ (nI Y'.length) plc vbd rnk kf nf ff mf pf bf stf vrf kpf txf frf nxf fsf wf) (PQ l X b0 Z s i0 (d + 1) pend Y plc W (GP O fi most)) := by
  have hl4 := hM.1
  intro fu
  induction fu with
  | zero => intro j p nx ln lb E Y' at_ beh tok num let_ rnk sz pt kf nf ff mf pf bf nsz ntx txf frf nxf fsf vbd vrf wf stf kpf h; exact absurd h (Nat.not_lt_zero _)
  | succ fu ih =>
    intro j p nx ln lb E Y' at_ beh tok num let_ rnk sz pt kf nf ff mf pf bf nsz ntx txf frf nxf fsf vbd vrf wf stf kpf hfu hs hj hp hA hY hk h5 hE hV hK hD
    obtain ⟨A, eA, lA⟩ := hA
    have lY : Y'.length = Y.length + p := by rw [eA, List.length_append, lA]
    obtain ⟨l1, l2, l3, l4, l5, l6⟩ := tk_len l hk.1
    have l4 := l4 h5
    rw [p_MoReader_compound_14]
    refine wp_bind (rr_scan hM hk _ _ _ _ _ _) ?_
    rintro ⟨at1, beh1, tok1, num1, let1, wf1⟩ hk1
    dsimp only at hk1 ⊢
    obtain ⟨q1, q2, q3, q4, q5, q6⟩ := tk_len l l3
    by_cases c8 : p = 8
    · -- a ninth
      unfold p_MoReader_bad
      refine wp_it ?_ (wp_bs rfl (wp_some ?_))
      · rw [lY, pk_sub (by omega), show Y.length + p - Y.length = 8 by omega]
        rfl
      · rw [hk1.2.1]
        have st : (stq l (1, 999, (most, 0, 4, w, 0, p + 1) :: O, (tkn l j).2.2.1, ln, lb, fi, E, none)).2.2.2.2.2.2.2.2 = some (tkn l (tkn l j).2.2.1).2.1 := by
          rw [stq_n l (by decide), stp1]
          unfold st1
          rw [if_pos (Or.inr (by rw [ptm_c, c8]; rfl))]
        exact pq_bad (rq_trans hs (rq_1 l _)) st (by omega) (fd_of hD l3)
    refine wp_if ?_ ?_
    · rw [lY, pk_sub (by omega)]
      exact nI_nn (b := 8) (by omega) (by omega) (by omega)
    have TC := hT2 999 ((most, 0, 4, w, 0, p + 1) :: O) (tkn l j).2.2.1 (pend + 1) ln lb fi E Y' (wA (wN w x) W) at1 beh1 tok1 num1 let1 plc rnk sz pt kf nf ff mf pf bf nsz ntx txf frf nxf fsf vbd vrf wf1 stf kpf (by decide) (by decide) (by rw [List.length_cons, hO]) (by rw [ptm_c]; simp; omega) hY (mono_A (mono_N _ _) hW) hk1 hE hV hK hD
    rw [if_neg (show ¬ (most, 0, 4, w, 0, p + 1) :: O = [] by simp)] at TC
    refine pq_then TC hs ?_ (by intros; rfl)
    intro r at' beh' tok' opn' num' let' top' plc' vbd' rnk' sz' pt' kf' nf' ff' mf' pf' bf' nsz2 ntx2 txf2 frf2 nxf2 fsf2 wf' stf' vrf' kpf' s' y r' b1' b2 b3 b4 b5 b6 b7 b8 b9 b10 b11 b12 b13 b14
    obtain ⟨md2, nx2, O2, i2, ln2, lb2, fi2, E2, br2⟩ := s'
    obtain ⟨g1, g2, g3⟩ := b3
    dsimp only at b2 b4 b10 b11 b12 b13 b14 g1 g2 g3 ⊢
    rw [if_neg (by simp)] at g1
    subst b2 b5 b7 b8 b9 g1 g2 g3
    have hi2 := b10.1
    obtain ⟨w1, w2, w3, w4, w5, w6⟩ := tk_len l hi2
    have hk2 := b10.2.2.2
    rw [al00, if_pos rfl]
    refine wp_ck (ixb_t (by omega) (by omega)) ?_
    rw [nI_clamp (by omega), nI_1]
    have D2 := dt_push (W := wA (wN w x) W) b14
    have lY2 : (Y' ++ [r']).length = Y'.length + 1 := by rw [List.length_append, List.length_singleton]
    have sp4 : stq l (4, nx2, (most, 0, 4, w, 0, p + 1) :: O, i2, ln2, lb2, fi2, E2, none) = st4 (tkn l i2) nx2 (most, 0, 4, w, 0, p + 1) O i2 ln2 lb2 fi2 E2 := by
      rw [stq_n l (by decide), stp4]
    by_cases c44 : (tkn l i2).1 = 44
    · -- one more
      refine wp_it (by rw [hk2.1, c44]; rfl) ?_
      have w4 := w4 (by omega)
      have st : stq l (4, nx2, (most, 0, 4, w, 0, p + 1) :: O, i2, ln2, lb2, fi2, E2, none) = (1, 999, (most, 0, 4, w, 0, p + 1 + 1) :: O, (tkn l i2).2.2.1, ln2, lb2, fi2, E2, none) := by
        rw [sp4]
        unfold st4
        rw [if_neg (by simp), if_neg (by simp), if_neg (by simp), if_pos rfl, if_pos c44]
      have := ih i2 (p + 1) nx2 ln2 lb2 E2 (Y' ++ [r']) at' beh' tok' num' let' rnk' sz' pt' kf' nf' ff' mf' pf' bf' nsz2 ntx2 txf2 frf2 nxf2 fsf2 vbd' vrf' wf' (upd stf' Y'.length (nI y)) kpf' (by omega) (rq_trans b1' (rq_1' st)) (by omega) (by omega) ⟨A ++ [r'], by rw [eA, List.append_assoc], by rw [List.length_append, List.length_singleton, lA]⟩ (by omega) b10 (by omega) (by omega) (by omega) b13 (dt_j D2 (by omega))
      rw [lY2] at this
      exact this
    refine wp_if (by rw [hk2.1]; exact fun z => c44 ((rt_eq hk2.2.2.2 (y := 44) (by decide)).mp z)) ?_
    by_cases c41 : (tkn l i2).1 = 41
    · -- closed
      have w4 := w4 (by omega)
      refine wp_it (by rw [hk2.1, c41]; rfl) (wp_bind (rr_scan hM b10 _ _ _ _ _ _) ?_)
      rintro ⟨at3, beh3, tok3, num3, let3, wf3⟩ hk3
      dsimp only at hk3 ⊢
      obtain ⟨y2, r2, sz2, pt2, kf2, nf2, ff2, mf2, pf2, e1, e2, e3, e4⟩ := dt_comp hW D2 (by omega) b13 (k := p + 1) (by omega) (by omega) (by omega)
      rw [lY2, show Y'.length + 1 - (p + 1) = Y.length by omega] at e1 e2 e4
      have eT : (Y' ++ [r']).take Y.length = Y := by rw [eA, List.append_assoc, List.take_left' rfl]
      rw [eT] at e2 e4
      have st : stq l (4, nx2, (most, 0, 4, w, 0, p + 1) :: O, i2, ln2, lb2, fi2, E2, none) = (3, nx2, (most, 0, 4, w, 0, p + 1) :: O, (tkn l i2).2.2.1, ln2, lb2, fi2, E2 ++ [(none, w, p + 1)], none) := by
        rw [sp4]
        unfold st4
        rw [if_neg (by simp), if_neg (by simp), if_neg (by simp), if_pos rfl, if_neg c44, if_pos c41]
      rw [pk_sub (by omega), show Y'.length + 1 - Y.length = p + 1 by omega]
      refine wp_bs e1 (wp_some (pq_ok (rq_trans b1' (rq_1' st)) ⟨rfl, rfl, (most, 0, 4, w, 0, p + 1), rfl, rfl, Nat.zero_le _, rfl⟩ (by omega) hk3 ?_ ?_ ?_ e2 (dt_j e4 (by omega))))
      · rw [List.length_append, List.length_singleton]
        omega
      · rw [List.length_append, List.length_singleton]
        omega
      · rw [e3]
        omega
    · -- neither
      unfold p_MoReader_bad
      refine wp_if (by rw [hk2.1]; exact fun z => c41 ((rt_eq hk2.2.2.2 (y := 41) (by decide)).mp z)) (wp_bs rfl (wp_some ?_))
      rw [b10.2.1]
      have st : (stq l (4, nx2, (most, 0, 4, w, 0, p + 1) :: O, i2, ln2, lb2, fi2, E2, none)).2.2.2.2.2.2.2.2 = some (tkn l i2).2.1 := by
        rw [sp4]
        unfold st4
        rw [if_neg (by simp), if_neg (by simp), if_neg (by simp), if_pos rfl, if_neg c44, if_neg c41]
      exact pq_bad (rq_trans b1' (rq_1 l _)) st (by omega) (fd_of D2 hi2)
/-! ===== signs right behind ===== -/
theorem tk_at {l : List Int32} {i : Nat} {b : Int32} {t : List Int32} (hd : l.drop i = b :: t) (h1 : ¬ b = 37) (h2 : ¬ cB b = true) : tkn l i = tk1 i (b :: t) := by
  have e : sk false (l.drop i) = 0 := by
    rw [hd, sk, if_neg h1, if_neg h2]
  unfold tkn
  rw [e, Nat.add_zero, hd]
theorem tk_off {l : List Int32} {i : Nat} (hi : i ≤ l.length) {b : Int32} {t : List Int32} (hd : l.drop i = b :: t) (h : b = 37 ∨ cB b = true) : ¬ (tkn l i).2.1 = i := by
  have e : 1 ≤ sk false (l.drop i) := by
    rw [hd, sk]
    by_cases q : b = 37
    · rw [if_pos q]
      omega
    · rw [if_neg q, if_pos (h.elim (fun z => absurd z q) id)]
      omega
  have p : ∀ (a : Nat) (u : List Int32), (tk1 a u).2.1 = a := by
    intro a u
    cases u with
    | nil => rfl
    | cons b t =>
      rw [tk1]
      by_cases qG : cG b = true
      · rw [if_pos qG]
      rw [if_neg qG]
      by_cases qS : cS b = true
      · rw [if_pos qS]
      rw [if_neg qS]
      by_cases qD : cD b = true
      · rw [if_pos qD]
      rw [if_neg qD]
      by_cases q39 : b = 39
      · rw [if_pos q39]
        cases hq : qt (t.length + 1) t with
        | none => rfl
        | some z => obtain ⟨w, m⟩ := z; rfl
      rw [if_neg q39]
      by_cases qY : cY b = true
      · rw [if_pos qY]
        by_cases q : tw cY (b :: t) = 1 ∧ b = 46 ∧ endq t = true
        · rw [if_pos q]
        · rw [if_neg q]
      rw [if_neg qY]
      by_cases q33 : b = 33 ∨ b = 59
      · rw [if_pos q33]
      rw [if_neg q33]
      by_cases q91 : b = 91 ∧ t.head? = some 93
      · rw [if_pos q91]
      rw [if_neg q91]
      by_cases qM : cM b = true
      · rw [if_pos qM]
      · rw [if_neg qM]
  unfold tkn
  rw [p]
  omega
set_option maxRecDepth 100000 in
theorem by_40 {b : Int32} (hb : bok b) : (cM b = true → b.toInt.toNat = 40 → b = 40) ∧ (cM b = true → b.toInt.toNat ≠ 2) ∧ (cD b = true → ¬ b = 37 ∧ ¬ cB b = true ∧ ¬ cG b = true ∧ ¬ cS b = true) := all_b (fun b => (cM b = true → b.toInt.toNat = 40 → b = 40) ∧ (cM b = true → b.toInt.toNat ≠ 2) ∧ (cD b = true → ¬ b = 37 ∧ ¬ cB b = true ∧ ¬ cG b = true ∧ ¬ cS b = true)) (by decide +kernel) hb
theorem tk_40 {l : List Int32} {f : Nat → Int32} (hM : TM l f) {i : Nat} (hi : i ≤ l.length) : mb l i = 40 ↔ ((tkn l i).2.1 = i ∧ (tkn l i).1 = 40) := by
  cases hd : l.drop i with
  | nil =>
    have hn := drop_n hd
    have em : mb l i = -1 := by unfold mb; rw [if_neg (by omega)]
    rw [em]
    constructor
    · intro h
      exact absurd h (by decide)
    · intro h
      have e : sk false (l.drop i) = 0 := by rw [hd]; rfl
      have := h.2
      unfold tkn at this
      rw [e, Nat.add_zero, hd] at this
      exact absurd (show 5 = 40 from this) (by decide)
  | cons b t =>
    obtain ⟨e1, e2, e3⟩ := drop_c hd
    have em : mb l i = b := by unfold mb; rw [if_pos e1, e2]
    have hb : bok b := by rw [← em]; exact mb_bok hM i
    obtain ⟨x1, x2, x3⟩ := by_40 hb
    rw [em]
    constructor
    · intro h
      rw [tk_at hd (by rw [h]; decide) (by rw [h]; decide), tk1, h, if_neg (by decide), if_neg (by decide), if_neg (by decide), if_neg (by decide), if_neg (by decide), if_neg (by decide), if_neg (fun z => absurd z.1 (by decide)), if_pos (by decide)]
      exact ⟨rfl, show (Int32.toInt 40).toNat = 40 by decide⟩
    · intro ⟨h1, h2⟩
      by_cases q : b = 37 ∨ cB b = true
      · exact absurd h1 (tk_off hi hd q)
      rw [tk_at hd (fun z => q (Or.inl z)) (fun z => q (Or.inr z)), tk1] at h2
      by_cases qG : cG b = true
      · rw [if_pos qG] at h2; exact nn h2 rfl
      rw [if_neg qG] at h2
      by_cases qS : cS b = true
      · rw [if_pos qS] at h2; exact nn h2 rfl
      rw [if_neg qS] at h2
      by_cases qD : cD b = true
      · rw [if_pos qD] at h2
        dsimp only at h2
        by_cases z : dv 0 (b :: t) < 9007199254740992
        · rw [if_pos z] at h2; exact nn h2 rfl
        · rw [if_neg z] at h2; exact nn h2 rfl
      rw [if_neg qD] at h2
      by_cases q39 : b = 39
      · rw [if_pos q39] at h2
        cases hq : qt (t.length + 1) t with
        | none => rw [hq] at h2; exact nn h2 rfl
        | some z => obtain ⟨w, m⟩ := z; rw [hq] at h2; exact nn h2 rfl
      rw [if_neg q39] at h2
      by_cases qY : cY b = true
      · rw [if_pos qY] at h2
        by_cases z : tw cY (b :: t) = 1 ∧ b = 46 ∧ endq t = true
        · rw [if_pos z] at h2; exact nn h2 rfl
        · rw [if_neg z] at h2; exact nn h2 rfl
      rw [if_neg qY] at h2
      by_cases q33 : b = 33 ∨ b = 59
      · rw [if_pos q33] at h2; exact nn h2 rfl
      rw [if_neg q33] at h2
      by_cases q91 : b = 91 ∧ t.head? = some 93
      · rw [if_pos q91] at h2; exact nn h2 rfl
      rw [if_neg q91] at h2
      by_cases qM : cM b = true
      · rw [if_pos qM] at h2
        exact x1 qM h2
      · rw [if_neg qM] at h2; exact nn h2 rfl
theorem tk_dg {l : List Int32} {f : Nat → Int32} (hM : TM l f) {i : Nat} (hi : i ≤ l.length) : (cD (mb l i) = true → (tkn l i).2.1 = i ∧ ((tkn l i).1 = 2 ∨ (tkn l i).1 = 6)) ∧ (¬ cD (mb l i) = true → ¬ ((tkn l i).2.1 = i ∧ (tkn l i).1 = 2)) := by
  cases hd : l.drop i with
  | nil =>
    have hn := drop_n hd
    have em : mb l i = -1 := by unfold mb; rw [if_neg (by omega)]
    rw [em]
    refine ⟨fun h => absurd h (by decide), fun _ h => ?_⟩
    have e : sk false (l.drop i) = 0 := by rw [hd]; rfl
    have := h.2
    unfold tkn at this
    rw [e, Nat.add_zero, hd] at this
    exact absurd (show 5 = 2 from this) (by decide)
  | cons b t =>
    obtain ⟨e1, e2, e3⟩ := drop_c hd
    have em : mb l i = b := by unfold mb; rw [if_pos e1, e2]
    have hb : bok b := by rw [← em]; exact mb_bok hM i
    obtain ⟨x1, x2, x3⟩ := by_40 hb
    rw [em]
    constructor
    · intro h
      obtain ⟨y1, y2, y3, y4⟩ := x3 h
      rw [tk_at hd y1 y2, tk1, if_neg y3, if_neg y4, if_pos h]
      refine ⟨rfl, ?_⟩
      dsimp only
      by_cases z : dv 0 (b :: t) < 9007199254740992
      · rw [if_pos z]; exact Or.inl rfl
      · rw [if_neg z]; exact Or.inr rfl
    · intro qD ⟨h1, h2⟩
      by_cases q : b = 37 ∨ cB b = true
      · exact absurd h1 (tk_off hi hd q)
      rw [tk_at hd (fun z => q (Or.inl z)) (fun z => q (Or.inr z)), tk1] at h2
      by_cases qG : cG b = true
      · rw [if_pos qG] at h2; exact nn h2 rfl
      rw [if_neg qG] at h2
      by_cases qS : cS b = true
      · rw [if_pos qS] at h2; exact nn h2 rfl
      rw [if_neg qS, if_neg qD] at h2
      by_cases q39 : b = 39
      · rw [if_pos q39] at h2
        cases hq : qt (t.length + 1) t with
        | none => rw [hq] at h2; exact nn h2 rfl
        | some z => obtain ⟨w, m⟩ := z; rw [hq] at h2; exact nn h2 rfl
      rw [if_neg q39] at h2
      by_cases qY : cY b = true
      · rw [if_pos qY] at h2
        by_cases z : tw cY (b :: t) = 1 ∧ b = 46 ∧ endq t = true
        · rw [if_pos z] at h2; exact nn h2 rfl
        · rw [if_neg z] at h2; exact nn h2 rfl
      rw [if_neg qY] at h2
      by_cases q33 : b = 33 ∨ b = 59
      · rw [if_pos q33] at h2; exact nn h2 rfl
      rw [if_neg q33] at h2
      by_cases q91 : b = 91 ∧ t.head? = some 93
      · rw [if_pos q91] at h2; exact nn h2 rfl
      rw [if_neg q91] at h2
      by_cases qM : cM b = true
      · rw [if_pos qM] at h2
        exact x2 qM h2
      · rw [if_neg qM] at h2; exact nn h2 rfl
/-! ===== the reference reads: what begins with a name ===== -/
theorem m_named {l : List Int32} {f : Nat → Int32} (hM : TM l f) {X : X0} {b0 : Bs} {Z : Nat} (hZ : Z + 3 * l.length + 20 ≤ 80000) {rf : Nat → Int32} (hr : ∀ j, j < 20 → rf j = nI (RL.getD j 0)) (kno : Int32) {T : TT} {d : Nat} (hT : TCl l f X b0 Z rf kno T (d + 1)) (hd : d + 1 ≤ 100) {most : Nat} (hm : 200 ≤ most) (hm2 : most ≤ 1200) {O : List Op} (hO : O.length = d) (hp : ¬ ptm O = true) {i pend lb fi : Nat} {ln : List Int32} {E : List Ev} {Y : List Rf} {W : WW} (hW : mono W) {at_ beh tok : Int32} {num : Int64} {let_ : Int32} (plc : Int32) {sz pt : Int32} {kf nf ff mf pf : Nat → Int32} {bf : Nat → Int64} {nsz ntx : Int32} {txf frf nxf fsf : Nat → Int32} {vbd : Int32} {vrf : Nat → Int32} {wf stf : Nat → Int32} (kpf : Nat → Int32) (hY : 2 * Y.length ≤ i) (hk : TKP l i at_ beh tok num let_ wf) (h3 : (tkn l i).1 = 3) (hE : E.length + pend ≤ 2 * i) (hV : 2 * (E.foldl ap b0).2.1.length ≤ i + 400) (hK : (E.foldl ap b0).2.2 = Y) (hD : DTP X b0 Z i E Y W sz pt kf nf ff mf pf bf nsz ntx txf frf nxf fsf vbd vrf stf) : wp (p_MoReader_named pure_n T (nI most) (nI l.length) at_ beh tok (nI (d + 1)) num let_ (nI Y.length) plc vbd kno 0 20 rf sz pt 404300 kf 404300 nf 404300 ff 404300 mf 404300 pf 404300 bf nsz ntx 90000 txf 404301 frf 404300 nxf 1024 fsf 4096 f 4096 wf 4200 stf 4200 vrf 4096 kpf) (PQ l X b0 Z (1, most, O, i, ln, lb, fi, E, none) i (d + 1) pend Y plc W (GP O (if O = [] then (tkn l i).2.1 else fi) most)) := by
  have hl4 := hM.1
  obtain ⟨l1, l2, l3, l4, l5, l6⟩ := tk_len l hk.1
  have l4 := l4 (by omega)
  have hk0 := hk
  obtain ⟨k1, k2, rfl, hR⟩ := hk
  obtain ⟨t1, t2, ⟨w, t3, t4, t5⟩, t6⟩ := hR
  have tw := t5 (Or.inr h3)
  have wl : w.length ≤ (tkn l i).2.2.1 - (tkn l i).2.1 := by rw [tw]; exact l5
  have st : stq l (1, most, O, i, ln, lb, fi, E, none) = (2, most, (most, 0, 0, [], 0, 0) :: O, (tkn l i).2.2.1, (tkn l i).2.2.2.1, (tkn l i).2.2.1, (if O = [] then (tkn l i).2.1 else fi), E, none) := by
    rw [stq_n l (by decide), stp1]
    unfold st1
    rw [if_neg (show ¬ (O.length = 100 ∨ ptm O = true) from fun z => z.elim (fun z => by omega) hp), if_pos h3]
  have lk := ml_look hM (i := (tkn l i).2.2.1) (by omega) at_ (nI (tkn l i).2.2.1) tok (nI (d + 1)) num (nI Y.length) plc vbd kno 0 let_
  have N := fun (n1 : ¬ ((tkn l (tkn l i).2.2.1).2.1 = (tkn l i).2.2.1 ∧ (tkn l (tkn l i).2.2.1).1 = 40)) (n2 : ¬ ((tkn l (tkn l i).2.2.1).2.1 = (tkn l i).2.2.1 ∧ (tkn l i).2.2.2.1 = [45] ∧ (tkn l (tkn l i).2.2.1).1 = 2)) => pq_rq (rq_1' st) (Nat.le_refl _) (m_n91 hM hZ hr kno hT hd hm hm2 hO (fi := if O = [] then (tkn l i).2.1 else fi) hW plc kpf hY hk0 h3 hE hV hK hD n1 n2)
  obtain ⟨dg1, dg2⟩ := tk_dg hM l3
  unfold p_MoReader_named
  refine wp_bs lk ?_
  by_cases c40 : mb l (tkn l i).2.2.1 = 40
  · -- a compound
    refine wp_it c40 (pq_again ?_ pq_z pq_5)
    obtain ⟨e1, e2⟩ := (tk_40 hM l3).mp c40
    obtain ⟨q1, q2, q3, q4, q5, q6⟩ := tk_len l l3
    have q4 := q4 (by omega)
    have st2 : stq l (2, most, (most, 0, 0, [], 0, 0) :: O, (tkn l i).2.2.1, (tkn l i).2.2.2.1, (tkn l i).2.2.1, (if O = [] then (tkn l i).2.1 else fi), E, none) = (1, 999, (most, 0, 4, (tkn l i).2.2.2.1, 0, 0 + 1) :: O, (tkn l (tkn l i).2.2.1).2.2.1, (tkn l i).2.2.2.1, (tkn l i).2.2.1, (if O = [] then (tkn l i).2.1 else fi), E, none) := by
      rw [stq_2]
      unfold st2q
      rw [if_pos ⟨e1, e2⟩]
    unfold p_MoReader_compound
    subst t3
    refine wp_bind (dt_name hW hD (by omega) t4 (j' := (tkn l i).2.2.1) (by omega) _ _ _ _ _ _ _ _ _ _) ?_
    rintro ⟨x, nsz', ntx', txf', frf', nxf', fsf'⟩ hD1
    dsimp only at hD1 ⊢
    refine wp_bind (rr_scan hM hk0 _ _ _ _ _ _) ?_
    rintro ⟨at1, beh1, tok1, num1, let1, wf1⟩ hk1
    dsimp only at hk1 ⊢
    rw [tw] at hD1
    exact m_cmp hM hZ hr kno hT hd hO (w := (tkn l i).2.2.2.1) (x := x) (Y := Y) hW (i0 := i) plc pure_n (tkn l i).2.2.1 0 most (tkn l i).2.2.2.1 (tkn l i).2.2.1 E Y at1 beh1 tok1 num1 let1 0 sz pt kf nf ff mf pf bf nsz' ntx' txf' frf' nxf' fsf' vbd vrf wf1 stf kpf (by have := pure_ge; omega) (rq_trans (rq_1' st) (rq_1' st2)) (by omega) (by decide) ⟨[], by rw [List.append_nil], rfl⟩ (by omega) hk1 (by omega) (by omega) (by omega) hK (dt_j hD1 (by omega))
  have n1 : ¬ ((tkn l (tkn l i).2.2.1).2.1 = (tkn l i).2.2.1 ∧ (tkn l (tkn l i).2.2.1).1 = 40) := fun z => c40 ((tk_40 hM l3).mpr z)
  refine wp_if c40 ?_
  subst t3
  have hwl := t4.1
  by_cases c1 : w.length = 1
  · refine wp_it (by rw [c1]; rfl) (wp_ck (by decide) ?_)
    have e0 : wf (0 : Int32).toNatClampNeg = w.getD 0 0 := t4.2.2.1 0 (by omega)
    rw [e0]
    match w, c1 with
    | [b], _ =>
      by_cases c45 : b = 45
      · refine wp_it c45 (wp_bs lk (wp_bs (ml_D (mb_bok hM _)) ?_))
        have ew : (tkn l i).2.2.2.1 = [45] := by rw [← tw, c45]
        by_cases cd : cD (mb l (tkn l i).2.2.1) = true
        · -- an integer below 0
          obtain ⟨x1, x2⟩ := dg1 cd
          refine wp_if (b1_f.mpr cd) (wp_bind (rr_scan hM hk0 _ _ _ _ _ _) ?_)
          rintro ⟨at1, beh1, tok1, num1, let1, wf1⟩ hk1
          dsimp only at hk1 ⊢
          obtain ⟨q1, q2, q3, q4, q5, q6⟩ := tk_len l l3
          have q4 := q4 (by omega)
          have hk2 := hk1.2.2.2
          by_cases c2 : (tkn l (tkn l i).2.2.1).1 = 2
          · obtain ⟨y, r', sz', kf', mf', bf', e1, e2, e3, e4⟩ := dt_int hW hD (by omega) (-num1)
            have en : num1 = lN (tkn l (tkn l i).2.2.1).2.2.2.2 := hk2.2.1 c2
            refine wp_it (by rw [hk2.1, c2]; rfl) (wp_bs e1 (wp_bind (rr_scan hM hk1 _ _ _ _ _ _) ?_))
            rintro ⟨at3, beh3, tok3, num3, let3, wf3⟩ hk3
            dsimp only at hk3 ⊢
            have st2 : stq l (2, most, (most, 0, 0, [], 0, 0) :: O, (tkn l i).2.2.1, (tkn l i).2.2.2.1, (tkn l i).2.2.1, (if O = [] then (tkn l i).2.1 else fi), E, none) = (3, most, (most, 0, 0, [], 0, 0) :: O, (tkn l (tkn l i).2.2.1).2.2.1, (tkn l i).2.2.2.1, (tkn l i).2.2.1, (if O = [] then (tkn l i).2.1 else fi), E ++ [(some (-num1), [], 0)], none) := by
              rw [stq_2, en]
              unfold st2q
              rw [if_neg n1, if_pos (show (tkn l (tkn l i).2.2.1).2.1 = (tkn l i).2.2.1 ∧ (tkn l i).2.2.2.1 = [45] ∧ (tkn l (tkn l i).2.2.1).1 = 2 from ⟨x1, ew, c2⟩)]
            refine wp_some (pq_ok (rq_trans (rq_1' st) (rq_1' st2)) ⟨rfl, rfl, (most, 0, 0, [], 0, 0), rfl, rfl, Nat.zero_le _, rfl⟩ (by omega) hk3 ?_ ?_ ?_ (by rw [e2, hK]) (dt_j e4 (by omega)))
            · rw [List.length_append, List.length_singleton]
              omega
            · rw [List.length_append, List.length_singleton]
              omega
            · rw [e3]
              omega
          · -- one that is too great
            have c6 : (tkn l (tkn l i).2.2.1).1 = 6 := x2.elim (fun z => absurd z c2) id
            unfold p_MoReader_bad
            refine wp_if (by rw [hk2.1]; exact fun z => c2 ((rt_eq hk2.2.2.2 (y := 2) (by decide)).mp z)) (wp_bs rfl (wp_some ?_))
            rw [hk1.2.1]
            have cb : bgn (tkn l (tkn l i).2.2.1) = true := by
              unfold bgn cbg sop
              rw [if_neg (by omega), if_neg (by omega), if_neg (by omega), decide_eq_true (by omega)]
              rfl
            have lv : (lvl (tkn l i).2.2.2.1).2.2.2 = 200 := by rw [ew]; decide
            have st2 : stq l (2, most, (most, 0, 0, [], 0, 0) :: O, (tkn l i).2.2.1, (tkn l i).2.2.2.1, (tkn l i).2.2.1, (if O = [] then (tkn l i).2.1 else fi), E, none) = (1, 200, (most, 0, 2, (tkn l i).2.2.2.1, 200, 0) :: O, (tkn l i).2.2.1, (tkn l i).2.2.2.1, (tkn l i).2.2.1, (if O = [] then (tkn l i).2.1 else fi), E, none) := by
              rw [stq_2]
              unfold st2q
              rw [if_neg n1, if_neg (fun z => c2 z.2.2), lv, if_pos (show 0 < 200 ∧ 200 ≤ (most, 0, 0, ([] : List Int32), 0, 0).1 ∧ bgn (tkn l (tkn l i).2.2.1) = true from ⟨by decide, hm, cb⟩)]
            have st3 : (stq l (1, 200, (most, 0, 2, (tkn l i).2.2.2.1, 200, 0) :: O, (tkn l i).2.2.1, (tkn l i).2.2.2.1, (tkn l i).2.2.1, (if O = [] then (tkn l i).2.1 else fi), E, none)).2.2.2.2.2.2.2.2 = some (tkn l (tkn l i).2.2.1).2.1 := by
              rw [stq_n l (by decide), stp1]
              unfold st1
              by_cases z : ((most, 0, 2, (tkn l i).2.2.2.1, 200, 0) :: O).length = 100 ∨ ptm ((most, 0, 2, (tkn l i).2.2.2.1, 200, 0) :: O) = true
              · rw [if_pos z]
              · rw [if_neg z, if_neg (by omega), if_neg (by omega), if_neg (by omega), if_neg (by omega), if_neg (by omega)]
            exact pq_bad (rq_trans (rq_1' st) (rq_trans (rq_1' st2) (rq_1 l _))) st3 (by omega) (fd_of hD k1)
        · exact wp_it (b1_0 cd) (N n1 (fun z => dg2 cd ⟨z.1, z.2.2⟩))
      · exact wp_if c45 (N n1 (fun z => c45 (by have := z.2.1; rw [← tw] at this; injection this)))
  · exact wp_if (fun z => c1 ((nI_eq (a := w.length) (b := 1) (by omega) (by omega)).mp z)) (N n1 (fun z => c1 (by rw [tw, z.2.1]; rfl)))
/-! ===== the reference reads: lists ===== -/
theorem l_253 (n : Nat) {L : Nat} (hL : L ≤ 4096) {kp wd0 : Nat → Int32} (hb : ∀ k, k < L → bok (kp k)) (opn plc vbd : Int32) (bf : Nat → Int64) (vrf : Nat → Int32) (at_ beh tok : Int32) (num : Int64) (nsz ntx : Int32) (txf frf nxf fsf : Nat → Int32) (x sz pt top : Int32) (kf nf ff mf pf stf : Nat → Int32) : ∀ (m i f : Nat) (wd : Nat → Int32), i + m = L → m < f → (∀ k, k < i → wd k = kp k) → ∃ wd', p_MoReader_list_253 n 4096 4096 opn plc vbd bf vrf at_ beh tok num (nI L) kp nsz ntx txf frf nxf fsf x sz pt top kf nf ff mf pf stf f (nI i) wd = some ((0, x, at_, beh, tok, opn, num, nI L, top, plc, vbd, 0, sz, pt, kf, nf, ff, mf, pf, bf, nsz, ntx, txf, frf, nxf, fsf, wd', stf, vrf, kp), 0, 0) ∧ (∀ k, k < L → wd' k = kp k) := by
  intro m
  induction m with
  | zero =>
    intro i f wd hi hf hk
    obtain ⟨f, rfl⟩ : ∃ z, f = z + 1 := ⟨f - 1, by omega⟩
    obtain rfl : i = L := by omega
    refine ⟨wd, ?_, hk⟩
    rw [p_MoReader_list_253, if_pos (nI_le (Nat.le_refl _) (by omega))]
  | succ m ih =>
    intro i f wd hi hf hk
    obtain ⟨f, rfl⟩ : ∃ z, f = z + 1 := ⟨f - 1, by omega⟩
    rw [p_MoReader_list_253, if_neg (nI_ge (by omega) (by omega)), ck_t (ixb_t (by omega) (by omega)), ck_t (ixb_t (by omega) (by omega)), nI_1, nI_clamp (by omega), nar_bok (hb i (by omega))]
    refine ih (i + 1) f _ (by omega) (by omega) (fun k hk2 => ?_)
    by_cases q : k = i
    · subst q
      rw [pk_us]
    · rw [pk_un q]
      exact hk k (by omega)
theorem l_253b (n : Nat) (opn plc vbd : Int32) (bf : Nat → Int64) (vrf : Nat → Int32) (at_ beh tok : Int32) (num : Int64) (let_ : Int32) (kp : Nat → Int32) (nsz ntx : Int32) (txf frf nxf fsf : Nat → Int32) (x sz pt top : Int32) (kf nf ff mf pf stf : Nat → Int32) : ∀ (f : Nat) (i : Int32) (wd : Nat → Int32), p_MoReader_list_253_28 n 4096 4096 opn plc vbd bf vrf at_ beh tok num let_ kp nsz ntx txf frf nxf fsf x sz pt top ff pf stf kf nf mf f i wd = p_MoReader_list_253 n 4096 4096 opn plc vbd bf vrf at_ beh tok num let_ kp nsz ntx txf frf nxf fsf x sz pt top kf nf ff mf pf stf f i wd := by
  intro f
  induction f with
  | zero => intro i wd; rfl
  | succ f ih => intro i wd; rw [p_MoReader_list_253_28, p_MoReader_list_253]; simp only [ih]
theorem l_198b (n : Nat) (mark opn plc vbd : Int32) (bf : Nat → Int64) (vrf : Nat → Int32) (at_ beh tok : Int32) (num : Int64) (let_ : Int32) (kp : Nat → Int32) (x12 nsz ntx : Int32) (txf frf nxf fsf w12 : Nat → Int32) : ∀ (f : Nat) (x sz pt top : Int32) (kf nf ff mf pf stf : Nat → Int32), p_MoReader_list_198_26 n mark 404300 404300 404300 404300 404300 4096 4200 4096 opn plc vbd bf vrf at_ beh tok num let_ kp x12 nsz ntx txf frf nxf fsf w12 f x sz pt top ff pf stf kf nf mf = p_MoReader_list_198 n mark 404300 404300 404300 404300 404300 4096 4200 4096 opn plc vbd bf vrf at_ beh tok num let_ kp x12 nsz ntx txf frf nxf fsf w12 f x sz pt top kf nf ff mf pf stf := by
  intro f
  induction f with
  | zero => intro x sz pt top kf nf ff mf pf stf; rfl
  | succ f ih => intro x sz pt top kf nf ff mf pf stf; rw [p_MoReader_list_198_26, p_MoReader_list_198]; simp only [ih, l_253b]
theorem rep_app (E : List Ev) (e : Ev) (q : Nat) : E ++ [e] ++ List.replicate q e = E ++ List.replicate (q + 1) e := by
  rw [List.append_assoc, List.replicate_succ]
  rfl
/-- the cells of a list -/
theorem l_198 {l : List Int32} {f : Nat → Int32} (hM : TM l f) {X : X0} {b0 : Bs} {Z : Nat} (hZ : Z + 3 * l.length + 20 ≤ 80000) {rf : Nat → Int32} (hr : ∀ j, j < 20 → rf j = nI (RL.getD j 0)) (kno : Int32) {L : Nat} (hL : L ≤ 4096) {kp : Nat → Int32} (hb : ∀ k, k < L → bok (kp k)) (opn plc : Int32) {Y A : List Rf} {W : WW} (hW : mono W) {j : Nat} (at_ beh tok : Int32) (num : Int64) (w12 : Nat → Int32) (x12 : Int32) {nsz ntx : Int32} {txf frf nxf fsf : Nat → Int32} {vbd : Int32} {vrf : Nat → Int32} {bf : Nat → Int64} (hY : Y.length + A.length ≤ 4100) : ∀ (q fu y : Nat) (rt' : Rf) (E : List Ev) (sz pt : Int32) (kf nf ff mf pf stf : Nat → Int32), q ≤ A.length → q < fu → E.length + q ≤ 10000 → (E.foldl ap b0).2.2 = Y ++ A.take q ++ [rt'] → DTP X b0 Z j E (Y ++ A.take q) (wA (wV y rt') (wA (wN [46] x12) W)) sz pt kf nf ff mf pf bf nsz ntx txf frf nxf fsf vbd vrf stf → ∃ y2 r2 sz2 pt2 kf2 nf2 ff2 mf2 pf2 stf2 wd', p_MoReader_list_198 pure_n (nI Y.length) 404300 404300 404300 404300 404300 4096 4200 4096 opn plc vbd bf vrf at_ beh tok num (nI L) kp x12 nsz ntx txf frf nxf fsf w12 fu (nI y) sz pt (nI (Y.length + q)) kf nf ff mf pf stf = some ((0, nI y2, at_, beh, tok, opn, num, nI L, nI Y.length, plc, vbd, 0, sz2, pt2, kf2, nf2, ff2, mf2, pf2, bf, nsz, ntx, txf, frf, nxf, fsf, wd', stf2, vrf, kp), 0, 0) ∧ (∀ k, k < L → wd' k = kp k) ∧ ((E ++ List.replicate q (none, [46], 2)).foldl ap b0).2.2 = Y ++ [r2] ∧ ((E ++ List.replicate q (none, [46], 2)).foldl ap b0).2.1 = (E.foldl ap b0).2.1 ∧ DTP X b0 Z j (E ++ List.replicate q (none, [46], 2)) Y (wA (wV y2 r2) W) sz2 pt2 kf2 nf2 ff2 mf2 pf2 bf nsz ntx txf frf nxf fsf vbd vrf stf2 := by
  have hpn := pure_ge
  intro q
  induction q with
  | zero =>
    intro fu y rt' E sz pt kf nf ff mf pf stf hq hfu hE hK hD
    obtain ⟨fu, rfl⟩ : ∃ z, fu = z + 1 := ⟨fu - 1, by omega⟩
    obtain ⟨wd', e1, e2⟩ := l_253 pure_n hL (wd0 := w12) hb opn plc vbd bf vrf at_ beh tok num nsz ntx txf frf nxf fsf (nI y) sz pt (nI Y.length) kf nf ff mf pf stf L 0 pure_n w12 (by omega) (by omega) (fun k hk => absurd hk (Nat.not_lt_zero k))
    rw [nI_0] at e1
    rw [List.take_zero, List.append_nil] at hK hD
    refine ⟨y, rt', sz, pt, kf, nf, ff, mf, pf, stf, wd', ?_, e2, ?_, ?_, ?_⟩
    · rw [p_MoReader_list_198, Nat.add_zero, if_pos (nI_le (Nat.le_refl _) (by omega)), e1]
    · rw [List.replicate_zero, List.append_nil]
      exact hK
    · rw [List.replicate_zero, List.append_nil]
    · rw [List.replicate_zero, List.append_nil]
      exact dt_W hD (fun TR M h => ⟨h.1, h.2.2⟩)
  | succ q ih =>
    intro fu y rt' E sz pt kf nf ff mf pf stf hq hfu hE hK hD
    obtain ⟨fu, rfl⟩ : ∃ z, fu = z + 1 := ⟨fu - 1, by omega⟩
    have lA : (Y ++ A.take (q + 1)).length = Y.length + (q + 1) := by rw [List.length_append, List.length_take]; omega
    have D2 := dt_push hD
    have lB : (Y ++ A.take (q + 1) ++ [rt']).length = Y.length + (q + 1) + 1 := by rw [List.length_append, lA, List.length_singleton]
    obtain ⟨y2, r2, sz2, pt2, kf2, nf2, ff2, mf2, pf2, e1, e2, e3, e4⟩ := dt_comp hW D2 (by omega) hK (k := 2) (by omega) (by decide) (by omega)
    rw [lB, show Y.length + (q + 1) + 1 - 2 = Y.length + q by omega] at e1 e2 e4
    have eT : (Y ++ A.take (q + 1) ++ [rt']).take (Y.length + q) = Y ++ A.take q := by
      rw [List.append_assoc, List.take_append, List.take_of_length_le (by omega), Nat.add_sub_cancel_left, List.take_append_of_le_length (by rw [List.length_take]; omega), List.take_take, Nat.min_eq_left (by omega)]
    rw [eT] at e2 e4
    have D3 : DTP X b0 Z j (E ++ [(none, [46], 2)]) (Y ++ A.take q) (wA (wV y2 r2) (wA (wN [46] x12) W)) sz2 pt2 kf2 nf2 ff2 mf2 pf2 bf nsz ntx txf frf nxf fsf vbd vrf (upd stf (Y ++ A.take (q + 1)).length (nI y)) := by
      have D2' : DTP X b0 Z j E (Y ++ A.take (q + 1) ++ [rt']) (wA (wN [46] x12) (wA (wN [46] x12) W)) sz pt kf nf ff mf pf bf nsz ntx txf frf nxf fsf vbd vrf (upd stf (Y ++ A.take (q + 1)).length (nI y)) := dt_W D2 (fun TR M h => ⟨h.1, h⟩)
      obtain ⟨y3, r3, sz3, pt3, kf3, nf3, ff3, mf3, pf3, f1, f2, f3, f4⟩ := dt_comp (mono_A (mono_N _ _) hW) D2' (by omega) hK (k := 2) (by omega) (by decide) (by omega)
      rw [lB, show Y.length + (q + 1) + 1 - 2 = Y.length + q by omega] at f1 f2 f4
      rw [eT] at f2 f4
      have ee := f1.symm.trans e1
      injection ee with ee
      simp only [Prod.mk.injEq] at ee
      obtain ⟨g1, g2, g3, g4, g5, g6, g7, g8⟩ := ee
      have er : r3 = r2 := by
        have := f2.symm.trans e2
        have := List.append_cancel_left this
        injection this
      have ey : y3 = y2 := by
        have b1 := dt_y f4 (by rw [List.length_append, List.length_singleton]; omega)
        have b2 := dt_y e4 (by rw [List.length_append, List.length_singleton]; omega)
        exact (nI_eq (by omega) (by omega)).mp g1
      subst g2 g3 g4 g5 g6 g7 g8 er ey
      exact f4
    have := ih fu y2 r2 (E ++ [(none, [46], 2)]) sz2 pt2 kf2 nf2 ff2 mf2 pf2 (upd stf (Y ++ A.take (q + 1)).length (nI y)) (by omega) (by omega) (by rw [List.length_append, List.length_singleton]; omega) e2 D3
    rw [rep_app, e3] at this
    obtain ⟨y4, r4, sz4, pt4, kf4, nf4, ff4, mf4, pf4, stf4, wd', h1, h2⟩ := this
    refine ⟨y4, r4, sz4, pt4, kf4, nf4, ff4, mf4, pf4, stf4, wd', ?_, h2⟩
    rw [p_MoReader_list_198, if_neg (nI_ge (by omega) (by omega)), ck_t (ixb_t (by omega) (by omega)), nI_clamp (n := Y.length + (q + 1)) (by omega), show Y.length + (q + 1) = Y.length + q + 1 by omega, nI_pred, show Y.length + q + 1 = Y.length + (q + 1) by omega, ← lA, show (2 : Int32) = nI 2 from rfl, e1, Option.bind_some]
    exact h1
/-! ===== the reference reads: lists, their end ===== -/
theorem dt_name0 {X : X0} {b0 : Bs} {Z j : Nat} {E : List Ev} {Y : List Rf} {W : WW} (hW : mono W) {sz pt : Int32} {kf nf ff mf pf : Nat → Int32} {bf : Nat → Int64} {nsz ntx : Int32} {txf frf nxf fsf : Nat → Int32} {vbd : Int32} {vrf : Nat → Int32} {stf : Nat → Int32} (h : DTP X b0 Z j E Y W sz pt kf nf ff mf pf bf nsz ntx txf frf nxf fsf vbd vrf stf) (hZ : Z + 3 * j + 20 ≤ 80000) {w : List Int32} (hx : w ∈ X.1) {wf : Nat → Int32} (hw : WD w 4096 wf) (hl : w.length ≤ 10) (an aa beh tok opn : Int32) (num : Int64) (top plc kno rnk : Int32) : wp (p_MoReader_name pure_n an aa beh tok opn num (nI w.length) top plc vbd kno rnk nsz ntx 90000 txf 404301 frf 404300 nxf 1024 fsf 4096 wf) (fun (x, nsz', ntx', txf', frf', nxf', fsf') => DTP X b0 Z j E Y (wA (wN w x) W) sz pt kf nf ff mf pf bf nsz' ntx' txf' frf' nxf' fsf' vbd vrf stf) := by
  obtain ⟨TR, M, P, ⟨d1, d2, d3, ⟨U, d4⟩, d5, d6, d7, d8⟩, h2, h3, h4, h5, h6, h7⟩ := h
  refine wp_mono (mr_name d2 hw (by omega) an aa beh tok opn num top plc vbd kno rnk) ?_
  rintro ⟨x, nsz', ntx', txf', frf', nxf', fsf'⟩ ⟨U2, a1, a2, a3⟩
  have : U2 = [] := by
    rcases a3 with z | z
    · exact z
    · exfalso
      have nd := a1.2
      rw [z, List.nodup_append] at nd
      exact nd.2.2 w (by rw [d4]; exact List.mem_append_left _ hx) w (by simp) rfl
  subst this
  rw [List.append_nil] at a1 a2
  exact ⟨TR, M, P, ⟨d1, a1, d3, ⟨U, d4⟩, d5, d6, d7, d8⟩, h2, h3, h4, h5, h6, a2, h7⟩
theorem dt_one {X : X0} {b0 : Bs} {Z j j' : Nat} {E : List Ev} {Y : List Rf} {W : WW} (hW : mono W) {sz pt : Int32} {kf nf ff mf pf : Nat → Int32} {bf : Nat → Int64} {nsz ntx : Int32} {txf frf nxf fsf : Nat → Int32} {vbd : Int32} {vrf : Nat → Int32} {stf : Nat → Int32} (h : DTP X b0 Z j E Y W sz pt kf nf ff mf pf bf nsz ntx txf frf nxf fsf vbd vrf stf) (hZ : Z + 3 * j' ≤ 80000) {c : Int32} (hc : bok c) (wf : Nat → Int32) (hj : j + 1 ≤ j') (an aa beh tok opn : Int32) (num : Int64) (let_ top plc kno rnk : Int32) : wp (p_MoReader_one pure_n c an aa beh tok opn num let_ top plc vbd kno rnk nsz ntx 90000 txf 404301 frf 404300 nxf 1024 fsf 4096 wf) (fun (x, let', nsz', ntx', txf', frf', nxf', fsf', wf') => DTP X b0 Z j' E Y (wA (wN [c] x) W) sz pt kf nf ff mf pf bf nsz' ntx' txf' frf' nxf' fsf' vbd vrf stf) := by
  obtain ⟨g, g1, g2⟩ := ml_letter (wd_nil wf) (by rw [List.length_nil]; omega) hc an aa beh tok opn num top plc vbd kno rnk
  rw [List.length_nil, nI_0, List.nil_append] at g1
  rw [List.nil_append] at g2
  unfold p_MoReader_one
  refine wp_bs g1 (wp_bind (dt_name hW h (by omega) g2 (j' := j') (by rw [List.length_singleton]; omega) an aa beh tok opn num top plc kno rnk) ?_)
  rintro ⟨x, nsz', ntx', txf', frf', nxf', fsf'⟩ a
  exact wp_some a
theorem l_129 (n : Nat) {L : Nat} (hL : L ≤ 4096) (an top kno x2 opn top6 plc vbd rnk sz pt nsz ntx : Int32) (kf nf ff mf pf : Nat → Int32) (bf : Nat → Int64) (txf frf nxf fsf stf vrf : Nat → Int32) (at_ beh tok : Int32) (num : Int64) {wf : Nat → Int32} (hb : ∀ k, k < L → bok (wf k)) : ∀ (m i f : Nat) (kp : Nat → Int32), i + m = L → m < f → (∀ k, k < i → kp k = wf k) → ∃ kp', p_MoReader_list_129 n an top kno 404300 404300 404300 404300 404300 90000 404301 404300 1024 4096 4200 4096 x2 opn top6 plc vbd rnk sz pt nsz ntx kf nf ff mf pf bf txf frf nxf fsf stf vrf at_ beh tok num (nI L) wf f (nI i) kp = p_MoReader_list_129 n an top kno 404300 404300 404300 404300 404300 90000 404301 404300 1024 4096 4200 4096 x2 opn top6 plc vbd rnk sz pt nsz ntx kf nf ff mf pf bf txf frf nxf fsf stf vrf at_ beh tok num (nI L) wf 1 (nI L) kp' ∧ (∀ k, k < L → kp' k = wf k) := by
  intro m
  induction m with
  | zero =>
    intro i f kp hi hf hk
    obtain ⟨f, rfl⟩ : ∃ z, f = z + 1 := ⟨f - 1, by omega⟩
    obtain rfl : i = L := by omega
    refine ⟨kp, ?_, hk⟩
    have c : nI i ≤ nI i := nI_le (Nat.le_refl _) (by omega)
    rw [p_MoReader_list_129, p_MoReader_list_129, if_pos c, if_pos c]
  | succ m ih =>
    intro i f kp hi hf hk
    obtain ⟨f, rfl⟩ : ∃ z, f = z + 1 := ⟨f - 1, by omega⟩
    obtain ⟨kp', e1, e2⟩ := ih (i + 1) f (upd kp i (wf i)) (by omega) (by omega) (fun k hk2 => by
      by_cases q : k = i
      · subst q
        rw [pk_us]
      · rw [pk_un q]
        exact hk k (by omega))
    refine ⟨kp', ?_, e2⟩
    rw [← e1]
    conv => lhs; rw [p_MoReader_list_129]
    rw [if_neg (nI_ge (by omega) (by omega)), ck_t (ixb_t (by omega) (by omega)), ck_t (ixb_t (by omega) (by omega)), nI_1, nI_clamp (by omega), nar_bok (hb i (by omega))]
theorem l_98 {l : List Int32} {f : Nat → Int32} (hM : TM l f) {X : X0} {b0 : Bs} {Z : Nat} (hZ : Z + 3 * l.length + 20 ≤ 80000) {rf : Nat → Int32} (hr : ∀ j, j < 20 → rf j = nI (RL.getD j 0)) (kno : Int32) (h93 : [91, 93] ∈ X.1) {d : Nat} {most : Nat} {O : List Op} {Y A : List Rf} {pend fi : Nat} {W : WW} (hW : mono W) {s : Ps} {i0 : Nat} (plc : Int32) {j p nx : Nat} (hp : A.length = p) {ln : List Int32} {lb : Nat} {E E1 : List Ev} {x2 at_ beh tok : Int32} {num : Int64} {let_ : Int32} (rnk : Int32) {sz pt : Int32} {kf nf ff mf pf : Nat → Int32} {bf : Nat → Int64} {nsz ntx : Int32} {txf frf nxf fsf : Nat → Int32} {vbd : Int32} {vrf : Nat → Int32} {wf stf : Nat → Int32} (kpf : Nat → Int32) (hs : Rq l s (4, nx, (most, 0, 6, [46], 0, p) :: O, j, ln, lb, fi, E1, none)) (hi0 : i0 ≤ j) (hk : TKP l j at_ beh tok num let_ wf) (hE1 : E1.length + p + pend ≤ 2 * j) (hV : 2 * (E.foldl ap b0).2.1.length ≤ j + 401) (hY : 2 * (Y.length + p) ≤ j + 1) (hx : (x2 = -1 ∧ E1 = E ++ [(none, [91, 93], 0)] ∧ (E.foldl ap b0).2.2 = Y ++ A ∧ DTP X b0 Z j E (Y ++ A) W sz pt kf nf ff mf pf bf nsz ntx txf frf nxf fsf vbd vrf stf) ∨ (∃ yt rt', x2 = nI yt ∧ yt < 100000 ∧ E1 = E ∧ (E.foldl ap b0).2.2 = Y ++ A ++ [rt'] ∧ DTP X b0 Z j E (Y ++ A) (wA (wV yt rt') W) sz pt kf nf ff mf pf bf nsz ntx txf frf nxf fsf vbd vrf stf)) : wp (p_MoReader_list_98 pure_n (nI l.length) (nI Y.length) kno 404300 404300 404300 404300 404300 90000 404301 404300 1024 4096 f 4096 4200 4096 x2 at_ beh tok (nI (d + 1)) num let_ (nI (Y.length + p)) plc vbd rnk sz pt nsz ntx kf nf ff mf pf bf txf frf nxf fsf wf stf vrf kpf) (PQ l X b0 Z s i0 (d + 1) pend Y plc W (GP O fi most)) := by
  have hl4 := hM.1
  have hpn := pure_ge
  obtain ⟨l1, l2, l3, l4, l5, l6⟩ := tk_len l hk.1
  have hk2 := hk.2.2.2
  have hj := hk.1
  have sp4 : stq l (4, nx, (most, 0, 6, [46], 0, p) :: O, j, ln, lb, fi, E1, none) = st4 (tkn l j) nx (most, 0, 6, [46], 0, p) O j ln lb fi E1 := by
    rw [stq_n l (by decide), stp4]
  unfold p_MoReader_list_98
  by_cases c93 : (tkn l j).1 = 93
  · have l4 := l4 (by omega)
    refine wp_it (by rw [hk2.1, c93]; rfl) (wp_bind (rr_scan hM hk _ _ _ _ _ _) ?_)
    rintro ⟨at8, beh8, tok8, num8, let8, wf8⟩ hk8
    dsimp only at hk8 ⊢
    have hk8' := hk8
    obtain ⟨u1, u2, u3, v1, v2, ⟨w8, v3, v4, v5⟩, v6⟩ := hk8
    subst v3
    have hw8 := v4.1
    obtain ⟨kp', e1, e2⟩ := l_129 pure_n hw8 (nI l.length) (nI Y.length) kno x2 (nI (d + 1)) (nI (Y.length + p)) plc vbd rnk sz pt nsz ntx kf nf ff mf pf bf txf frf nxf fsf stf vrf at8 beh8 tok8 num8 (wf := wf8) (fun k hk => v4.2.2.2 k hk) w8.length 0 pure_n kpf (by omega) (by omega) (fun k hk => absurd hk (Nat.not_lt_zero k))
    rw [nI_0] at e1
    rw [e1, p_MoReader_list_129, if_pos (nI_le (Nat.le_refl _) (by omega))]
    have hb' : ∀ k, k < w8.length → bok (kp' k) := fun k hk => by rw [e2 k hk]; exact v4.2.2.2 k hk
    have st : stq l (4, nx, (most, 0, 6, [46], 0, p) :: O, j, ln, lb, fi, E1, none) = (3, nx, (most, 0, 6, [46], 0, p) :: O, (tkn l j).2.2.1, ln, lb, fi, E1 ++ List.replicate p (none, [46], 2), none) := by
      rw [sp4]
      unfold st4
      rw [if_neg (by simp), if_neg (by simp), if_neg (by simp), if_neg (by simp), if_neg (by simp), if_pos c93]
    -- behind the cells
    have FIN : ∀ (wd' : Nat → Int32) (y2 : Nat) (r2 : Rf) (sz2 pt2 : Int32) (kf2 nf2 ff2 mf2 pf2 stf2 : Nat → Int32) (nsz2 ntx2 : Int32) (txf2 frf2 nxf2 fsf2 : Nat → Int32), (∀ k, k < w8.length → wd' k = kp' k) → ((E1 ++ List.replicate p (none, [46], 2)).foldl ap b0).2.2 = Y ++ [r2] → ((E1 ++ List.replicate p (none, [46], 2)).foldl ap b0).2.1 = (E.foldl ap b0).2.1 → DTP X b0 Z (tkn l j).2.2.1 (E1 ++ List.replicate p (none, [46], 2)) Y (wA (wV y2 r2) W) sz2 pt2 kf2 nf2 ff2 mf2 pf2 bf nsz2 ntx2 txf2 frf2 nxf2 fsf2 vbd vrf stf2 → PQ l X b0 Z s i0 (d + 1) pend Y plc W (GP O fi most) ((0, nI y2, at8, beh8, tok8, nI (d + 1), num8, nI w8.length, nI Y.length, plc, vbd, 0, sz2, pt2, kf2, nf2, ff2, mf2, pf2, bf, nsz2, ntx2, txf2, frf2, nxf2, fsf2, wd', stf2, vrf, kp'), 0, 0) := fun wd' y2 r2 sz2 pt2 kf2 nf2 ff2 mf2 pf2 stf2 nsz2 ntx2 txf2 frf2 nxf2 fsf2 h1 h2 h3 h4 => by
      refine pq_ok (rq_trans hs (rq_1' st)) ⟨rfl, rfl, (most, 0, 6, [46], 0, p), rfl, rfl, Nat.zero_le _, rfl⟩ (by omega) ⟨u1, u2, u3, v1, v2, ⟨w8, rfl, ⟨v4.1, v4.2.1, fun k hk => ?_, fun k hk => ?_⟩, v5⟩, v6⟩ ?_ ?_ ?_ h2 h4
      · rw [h1 k hk, e2 k hk]
        exact v4.2.2.1 k hk
      · rw [h1 k hk]
        exact hb' k hk
      · rw [List.length_append, List.length_replicate]
        omega
      · rw [List.length_append, List.length_replicate]
        omega
      · rw [h3]
        omega
    have tkA : (Y ++ A.take p) = Y ++ A := by rw [List.take_of_length_le (by omega)]
    rcases hx with ⟨rfl, hE, hK, hD⟩ | ⟨yt, rt', rfl, hyt, hE, hK, hD⟩
    · have hEl : E.length + 1 = E1.length := by rw [hE, List.length_append, List.length_singleton]
      refine wp_it rfl ?_
      obtain ⟨g, g1, g2⟩ := ml_letter (wd_nil wf8) (by rw [List.length_nil]; omega) (show bok 91 by unfold bok; decide) (nI l.length) at8 beh8 tok8 (nI (d + 1)) num8 (nI (Y.length + p)) plc vbd kno rnk
      obtain ⟨g', g3, g4⟩ := ml_letter g2 (by rw [List.length_append, List.length_nil, List.length_singleton]; omega) (show bok 93 by unfold bok; decide) (nI l.length) at8 beh8 tok8 (nI (d + 1)) num8 (nI (Y.length + p)) plc vbd kno rnk
      rw [List.length_nil, nI_0] at g1
      refine wp_bs g1 (wp_bs g3 (wp_bind (dt_name0 hW hD (by omega) h93 g4 (by decide) _ _ _ _ _ _ _ _ _ _) ?_))
      rintro ⟨xE, nsz', ntx', txf', frf', nxf', fsf'⟩ hD1
      dsimp only at hD1 ⊢
      obtain ⟨y, r', sz', kf', nf', mf', a1, a2, a3, a4⟩ := dt_atom hW hD1 (by omega)
      refine wp_bs a1 (wp_bind (dt_one (mono_A (mono_V _ _) hW) a4 (j' := (tkn l j).2.2.1) (by omega) (show bok 46 by unfold bok; decide) _ (by omega) _ _ _ _ _ _ _ _ _ _ _) ?_)
      rintro ⟨xD, let', nsz2, ntx2, txf2, frf2, nxf2, fsf2, wf'⟩ hD2
      dsimp only at hD2 ⊢
      have hyb := dt_y a4 (by rw [List.length_append, List.length_singleton]; omega)
      have hD3 := dt_W (W' := wA (wV y r') (wA (wN [46] xD) W)) hD2 (fun TR M h => ⟨h.2.1, h.1, h.2.2⟩)
      rw [← tkA] at hD3
      rw [l_198b]
      obtain ⟨y2, r2, sz2, pt2, kf2, nf2, ff2, mf2, pf2, stf2, wd', b1', b2, b3, b4, b5⟩ := l_198 hM hZ hr kno hw8 hb' (nI (d + 1)) plc (Y := Y) (A := A) hW at8 beh8 tok8 num8 wf' xD (by omega) p pure_n y r' (E ++ [(none, [91, 93], 0)]) sz' pt kf' nf' ff mf' pf stf (by omega) (by omega) (by rw [List.length_append, List.length_singleton]; omega) (by rw [a2, hK, tkA]) hD3
      rw [← hE] at b3 b4 b5
      exact wp_of b1' (FIN wd' y2 r2 sz2 pt2 kf2 nf2 ff2 mf2 pf2 stf2 nsz2 ntx2 txf2 frf2 nxf2 fsf2 b2 b3 (by rw [b4, hE, a3]) b5)
    · refine wp_if (nm1 (by omega)) (wp_bind (dt_one (mono_A (mono_V _ _) hW) hD (j' := (tkn l j).2.2.1) (by omega) (show bok 46 by unfold bok; decide) _ (by omega) _ _ _ _ _ _ _ _ _ _ _) ?_)
      rintro ⟨xD, let', nsz2, ntx2, txf2, frf2, nxf2, fsf2, wf'⟩ hD2
      dsimp only at hD2 ⊢
      have hD3 := dt_W (W' := wA (wV yt rt') (wA (wN [46] xD) W)) hD2 (fun TR M h => ⟨h.2.1, h.1, h.2.2⟩)
      rw [← tkA] at hD3
      obtain ⟨y2, r2, sz2, pt2, kf2, nf2, ff2, mf2, pf2, stf2, wd', b1', b2, b3, b4, b5⟩ := l_198 hM hZ hr kno hw8 hb' (nI (d + 1)) plc (Y := Y) (A := A) hW at8 beh8 tok8 num8 wf' xD (by omega) p pure_n yt rt' E sz pt kf nf ff mf pf stf (by omega) (by omega) (by rw [hE] at hE1; omega) (by rw [hK, tkA]) hD3
      rw [← hE] at b3 b4 b5
      exact wp_of b1' (FIN wd' y2 r2 sz2 pt2 kf2 nf2 ff2 mf2 pf2 stf2 nsz2 ntx2 txf2 frf2 nxf2 fsf2 b2 b3 (by rw [b4, hE]) b5)
  · unfold p_MoReader_bad
    refine wp_if (by rw [hk2.1]; exact fun z => c93 ((rt_eq hk2.2.2.2 (y := 93) (by decide)).mp z)) (wp_bs rfl (wp_some ?_))
    rw [hk.2.1]
    have st : (stq l (4, nx, (most, 0, 6, [46], 0, p) :: O, j, ln, lb, fi, E1, none)).2.2.2.2.2.2.2.2 = some (tkn l j).2.1 := by
      rw [sp4]
      unfold st4
      rw [if_neg (by simp), if_neg (by simp), if_neg (by simp), if_neg (by simp), if_neg (by simp), if_neg c93]
    refine pq_bad (rq_trans hs (rq_1 l _)) st (by omega) ?_
    rcases hx with ⟨_, _, _, hD⟩ | ⟨_, _, _, _, _, _, hD⟩
    · exact fd_of hD hj
    · exact fd_of hD hj
theorem m_l36 {l : List Int32} {f : Nat → Int32} (hM : TM l f) {X : X0} {b0 : Bs} {Z : Nat} (hZ : Z + 3 * l.length + 20 ≤ 80000) {rf : Nat → Int32} (hr : ∀ j, j < 20 → rf j = nI (RL.getD j 0)) (kno : Int32) (h93 : [91, 93] ∈ X.1) {T : TT} {d : Nat} (hT : TCl l f X b0 Z rf kno T (d + 1)) (hd : d + 1 ≤ 100) {most : Nat} {O : List Op} (hO : O.length = d) {Y : List Rf} {pend fi : Nat} {W : WW} (hW : mono W) {s : Ps} {i0 : Nat} (plc : Int32) : ∀ (fu j p nx : Nat) (ln : List Int32) (lb : Nat) (E : List Ev) (A : List Rf) (x3 at_ beh tok : Int32) (num : Int64) (let_ rnk : Int32) (sz pt : Int32) (kf nf ff mf pf : Nat → Int32) (bf : Nat → Int64) (nsz ntx : Int32) (txf frf nxf fsf : Nat → Int32) (vbd : Int32) (vrf : Nat → Int32) (wf stf kpf : Nat → Int32), l.length - j < fu → Rq l s (4, nx, (most, 0, 5, [46], 0, p) :: O, j, ln, lb, fi, E, none) → i0 ≤ j → A.length = p → 2 * (Y.length + p) ≤ j + 1 → TKP l j at_ beh tok num let_ wf → E.length + (pend + p + 1) ≤ 2 * j → 2 * (E.foldl ap b0).2.1.length ≤ j + 401 → (E.foldl ap b0).2.2 = Y ++ A → DTP X b0 Z j E (Y ++ A) W sz pt kf nf ff mf pf bf nsz ntx txf frf nxf fsf vbd vrf stf → wp (p_MoReader_list_36 pure_n (nI l.length) (nI Y.length) kno 20 rf 404300 404300 404300 404300 404300 404300 90000 404301 404300 1024 4096 f 4096 4200 4200 4096 T fu x3 at_ beh tok (nI (d + 1)) num let_ (nI (Y.length + p)) plc vbd rnk sz pt nsz ntx kf nf ff mf pf bf txf frf nxf fsf wf stf vrf kpf) (PQ l X b0 Z s i0 (d + 1) pend Y plc W (GP O fi most)) := by
  have hl4 := hM.1
  intro fu
  induction fu with
  | zero => intro j p nx ln lb E A x3 at_ beh tok num let_ rnk sz pt kf nf ff mf pf bf nsz ntx txf frf nxf fsf vbd vrf wf stf kpf h; exact absurd h (Nat.not_lt_zero _)
  | succ fu ih =>
    intro j p nx ln lb E A x3 at_ beh tok num let_ rnk sz pt kf nf ff mf pf bf nsz ntx txf frf nxf fsf vbd vrf wf stf kpf hfu hs hj lA hY hk hE hV hK hD
    have lYA : (Y ++ A).length = Y.length + p := by rw [List.length_append, lA]
    obtain ⟨l1, l2, l3, l4, l5, l6⟩ := tk_len l hk.1
    have hk2 := hk.2.2.2
    have hjl := hk.1
    have sp4 : stq l (4, nx, (most, 0, 5, [46], 0, p) :: O, j, ln, lb, fi, E, none) = st4 (tkn l j) nx (most, 0, 5, [46], 0, p) O j ln lb fi E := by
      rw [stq_n l (by decide), stp4]
    rw [p_MoReader_list_36]
    by_cases c44 : (tkn l j).1 = 44
    · have l4 := l4 (by omega)
      refine wp_it (by rw [hk2.1, c44]; rfl) (wp_bind (rr_scan hM hk _ _ _ _ _ _) ?_)
      rintro ⟨at1, beh1, tok1, num1, let1, wf1⟩ hk1
      dsimp only at hk1 ⊢
      have st : stq l (4, nx, (most, 0, 5, [46], 0, p) :: O, j, ln, lb, fi, E, none) = (1, 999, (most, 0, 5, [46], 0, p + 1) :: O, (tkn l j).2.2.1, ln, lb, fi, E, none) := by
        rw [sp4]
        unfold st4
        rw [if_neg (by simp), if_neg (by simp), if_neg (by simp), if_neg (by simp), if_pos rfl, if_pos c44]
      have TC := hT 999 ((most, 0, 5, [46], 0, p + 1) :: O) (tkn l j).2.2.1 (pend + (p + 1) + 1) ln lb fi E (Y ++ A) W at1 beh1 tok1 num1 let1 plc rnk sz pt kf nf ff mf pf bf nsz ntx txf frf nxf fsf vbd vrf wf1 stf kpf (by decide) (by decide) (by rw [List.length_cons, hO]) (by rw [ptm_c]; simp) (by omega) hW hk1 (by omega) (by omega) hK (dt_j hD (by omega))
      rw [if_neg (show ¬ (most, 0, 5, [46], 0, p + 1) :: O = [] by simp), lYA] at TC
      refine pq_then TC (rq_trans hs (rq_1' st)) ?_ (by intros; rfl)
      intro r at' beh' tok' opn' num' let' top' plc' vbd' rnk' sz' pt' kf' nf' ff' mf' pf' bf' nsz2 ntx2 txf2 frf2 nxf2 fsf2 wf' stf' vrf' kpf' s' y r' b1' b2 b3 b4 b5 b6 b7 b8 b9 b10 b11 b12 b13 b14
      obtain ⟨md2, nx2, O2, i2, ln2, lb2, fi2, E2, br2⟩ := s'
      obtain ⟨g1, g2, g3⟩ := b3
      dsimp only at b2 b4 b10 b11 b12 b13 b14 g1 g2 g3 ⊢
      rw [if_neg (by simp)] at g1
      rw [lYA] at b9
      subst b2 b5 b7 b8 b9 g1 g2 g3
      have hi2 := b10.1
      rw [al00, if_pos rfl]
      refine wp_ck (ixb_t (by omega) (by omega)) ?_
      rw [nI_clamp (by omega), nI_1]
      have D2 := dt_push (W := W) b14
      rw [lYA, List.append_assoc] at D2
      rw [List.append_assoc] at b13
      exact ih i2 (p + 1) nx2 ln2 lb2 E2 (A ++ [r']) (nI y) at' beh' tok' num' let' rnk' sz' pt' kf' nf' ff' mf' pf' bf' nsz2 ntx2 txf2 frf2 nxf2 fsf2 vbd' vrf' wf' (upd stf' (Y.length + p) (nI y)) kpf' (by omega) b1' (by omega) (by rw [List.length_append, List.length_singleton, lA]) (by omega) b10 (by omega) b12 b13 D2
    refine wp_if (by rw [hk2.1]; exact fun z => c44 ((rt_eq hk2.2.2.2 (y := 44) (by decide)).mp z)) ?_
    by_cases c124 : (tkn l j).1 = 124
    · have l4 := l4 (by omega)
      refine wp_it (by rw [hk2.1, c124]; rfl) (wp_bind (rr_scan hM hk _ _ _ _ _ _) ?_)
      rintro ⟨at1, beh1, tok1, num1, let1, wf1⟩ hk1
      dsimp only at hk1 ⊢
      have st : stq l (4, nx, (most, 0, 5, [46], 0, p) :: O, j, ln, lb, fi, E, none) = (1, 999, (most, 0, 6, [46], 0, p) :: O, (tkn l j).2.2.1, ln, lb, fi, E, none) := by
        rw [sp4]
        unfold st4
        rw [if_neg (by simp), if_neg (by simp), if_neg (by simp), if_neg (by simp), if_pos rfl, if_neg c44, if_pos c124]
      have TC := hT 999 ((most, 0, 6, [46], 0, p) :: O) (tkn l j).2.2.1 (pend + p) ln lb fi E (Y ++ A) W at1 beh1 tok1 num1 let1 plc rnk sz pt kf nf ff mf pf bf nsz ntx txf frf nxf fsf vbd vrf wf1 stf kpf (by decide) (by decide) (by rw [List.length_cons, hO]) (by rw [ptm_c]; simp) (by omega) hW hk1 (by omega) (by omega) hK (dt_j hD (by omega))
      rw [if_neg (show ¬ (most, 0, 6, [46], 0, p) :: O = [] by simp), lYA] at TC
      refine pq_then TC (rq_trans hs (rq_1' st)) ?_ (by intros; rfl)
      intro r at' beh' tok' opn' num' let' top' plc' vbd' rnk' sz' pt' kf' nf' ff' mf' pf' bf' nsz2 ntx2 txf2 frf2 nxf2 fsf2 wf' stf' vrf' kpf' s' y r' b1' b2 b3 b4 b5 b6 b7 b8 b9 b10 b11 b12 b13 b14
      obtain ⟨md2, nx2, O2, i2, ln2, lb2, fi2, E2, br2⟩ := s'
      obtain ⟨g1, g2, g3⟩ := b3
      dsimp only at b2 b4 b10 b11 b12 b13 b14 g1 g2 g3 ⊢
      rw [if_neg (by simp)] at g1
      rw [lYA] at b9
      subst b2 b5 b7 b8 b9 g1 g2 g3
      rw [al00, if_pos rfl]
      exact l_98 hM hZ hr kno h93 hW plc' lA rnk' kpf' b1' (by omega) b10 (by omega) b12 (by omega) (Or.inr ⟨y, r', rfl, b6, rfl, b13, b14⟩)
    · refine wp_if (by rw [hk2.1]; exact fun z => c124 ((rt_eq hk2.2.2.2 (y := 124) (by decide)).mp z)) ?_
      have st : stq l (4, nx, (most, 0, 5, [46], 0, p) :: O, j, ln, lb, fi, E, none) = (4, nx, (most, 0, 6, [46], 0, p) :: O, j, ln, lb, fi, E ++ [(none, [91, 93], 0)], none) := by
        rw [sp4]
        unfold st4
        rw [if_neg (by simp), if_neg (by simp), if_neg (by simp), if_neg (by simp), if_pos rfl, if_neg c44, if_neg c124]
      exact l_98 hM hZ hr kno h93 hW plc lA rnk kpf (rq_trans hs (rq_1' st)) hj hk (by rw [List.length_append, List.length_singleton]; omega) hV hY (Or.inl ⟨rfl, rfl, hK, hD⟩)
theorem m_list {l : List Int32} {f : Nat → Int32} (hM : TM l f) {X : X0} {b0 : Bs} {Z : Nat} (hZ : Z + 3 * l.length + 20 ≤ 80000) {rf : Nat → Int32} (hr : ∀ j, j < 20 → rf j = nI (RL.getD j 0)) (kno : Int32) (h93 : [91, 93] ∈ X.1) {T : TT} {d : Nat} (hT : TCl l f X b0 Z rf kno T (d + 1)) (hd : d + 1 ≤ 100) {most : Nat} {O : List Op} (hO : O.length = d) (hp : ¬ ptm O = true) {i pend lb fi : Nat} {ln : List Int32} {E : List Ev} {Y : List Rf} {W : WW} (hW : mono W) {at_ beh tok : Int32} {num : Int64} {let_ : Int32} (plc rnk : Int32) {sz pt : Int32} {kf nf ff mf pf : Nat → Int32} {bf : Nat → Int64} {nsz ntx : Int32} {txf frf nxf fsf : Nat → Int32} {vbd : Int32} {vrf : Nat → Int32} {wf stf : Nat → Int32} (kpf : Nat → Int32) (hY : 2 * Y.length ≤ i) (hk : TKP l i at_ beh tok num let_ wf) (h3 : (tkn l i).1 = 91) (hE : E.length + pend ≤ 2 * i) (hV : 2 * (E.foldl ap b0).2.1.length ≤ i + 400) (hK : (E.foldl ap b0).2.2 = Y) (hD : DTP X b0 Z i E Y W sz pt kf nf ff mf pf bf nsz ntx txf frf nxf fsf vbd vrf stf) : wp (p_MoReader_list pure_n T (nI l.length) at_ beh tok (nI (d + 1)) num let_ (nI Y.length) plc vbd kno rnk 20 rf sz pt 404300 kf 404300 nf 404300 ff 404300 mf 404300 pf 404300 bf nsz ntx 90000 txf 404301 frf 404300 nxf 1024 fsf 4096 f 4096 wf 4200 stf 4200 vrf 4096 kpf) (PQ l X b0 Z (1, most, O, i, ln, lb, fi, E, none) i (d + 1) pend Y plc W (GP O (if O = [] then (tkn l i).2.1 else fi) most)) := by
  have hl4 := hM.1
  obtain ⟨l1, l2, l3, l4, l5, l6⟩ := tk_len l hk.1
  have l4 := l4 (by omega)
  have st : stq l (1, most, O, i, ln, lb, fi, E, none) = (1, 999, (most, 0, 5, [46], 0, 1) :: O, (tkn l i).2.2.1, ln, lb, (if O = [] then (tkn l i).2.1 else fi), E, none) := by
    rw [stq_n l (by decide), stp1]
    unfold st1
    rw [if_neg (show ¬ (O.length = 100 ∨ ptm O = true) from fun z => z.elim (fun z => by omega) hp), if_neg (by omega), if_neg (by omega), if_neg (by omega), if_neg (by omega), if_pos h3]
  unfold p_MoReader_list
  refine wp_bind (rr_scan hM hk _ _ _ _ _ _) ?_
  rintro ⟨at1, beh1, tok1, num1, let1, wf1⟩ hk1
  dsimp only at hk1 ⊢
  have TC := hT 999 ((most, 0, 5, [46], 0, 1) :: O) (tkn l i).2.2.1 (pend + 1 + 1) ln lb (if O = [] then (tkn l i).2.1 else fi) E Y W at1 beh1 tok1 num1 let1 plc rnk sz pt kf nf ff mf pf bf nsz ntx txf frf nxf fsf vbd vrf wf1 stf kpf (by decide) (by decide) (by rw [List.length_cons, hO]) (by rw [ptm_c]; simp) (by omega) hW hk1 (by omega) (by omega) hK (dt_j hD (by omega))
  rw [if_neg (show ¬ (most, 0, 5, [46], 0, 1) :: O = [] by simp)] at TC
  refine pq_then TC (rq_1' st) ?_ (by intros; rfl)
  intro r at' beh' tok' opn' num' let' top' plc' vbd' rnk' sz' pt' kf' nf' ff' mf' pf' bf' nsz2 ntx2 txf2 frf2 nxf2 fsf2 wf' stf' vrf' kpf' s' y r' b1' b2 b3 b4 b5 b6 b7 b8 b9 b10 b11 b12 b13 b14
  obtain ⟨md2, nx2, O2, i2, ln2, lb2, fi2, E2, br2⟩ := s'
  obtain ⟨g1, g2, g3⟩ := b3
  dsimp only at b2 b4 b10 b11 b12 b13 b14 g1 g2 g3 ⊢
  rw [if_neg (by simp)] at g1
  subst b2 b5 b7 b8 b9 g1 g2
  have hi2 := b10.1
  rw [al00, if_pos rfl]
  refine wp_ck (ixb_t (by omega) (by omega)) ?_
  rw [nI_clamp (by omega), nI_1]
  have D2 := dt_push (W := W) b14
  rw [← g3]
  exact m_l36 hM hZ hr kno h93 hT hd hO (Y := Y) (pend := pend) (fi := fi2) hW plc' pure_n i2 1 nx2 ln2 lb2 E2 [r'] (nI y) at' beh' tok' num' let' rnk' sz' pt' kf' nf' ff' mf' pf' bf' nsz2 ntx2 txf2 frf2 nxf2 fsf2 vbd' vrf' wf' (upd stf' Y.length (nI y)) kpf' (by have := pure_ge; omega) b1' (by omega) rfl (by omega) b10 (by omega) b12 b13 D2
/-! ===== the reference reads: operators of two sides ===== -/
theorem rr_scan2 {l : List Int32} {f : Nat → Int32} (hM : TM l f) {i : Nat} (hi : i ≤ l.length) (at_ tok opn : Int32) (num : Int64) (let_ top plc vbd kno rnk : Int32) (wf : Nat → Int32) : wp (p_MoReader_scan pure_n (nI l.length) at_ (nI i) tok opn num let_ top plc vbd kno rnk 4096 f 4096 wf) (fun (at', beh', tok', num', let', wf') => TKP l i at' beh' tok' num' let' wf') := by
  refine wp_mono (ms_scan hM at_ tok opn num let_ top plc vbd kno rnk wf hi) ?_
  rintro ⟨at', beh', tok', num', let', wf'⟩ ⟨a1, a2, a3, a4, a5⟩
  exact ⟨hi, a1, a2, a3, a4, a5, tk_kind l _⟩
def rgt (lv : Nat) : Nat := if lv = 1100 ∨ lv = 1050 ∨ lv = 1000 then lv else lv - 1
def lft (lv : Nat) : Nat := if lv = 500 ∨ lv = 400 then lv else lv - 1
theorem lv_lr (w : List Int32) (h : 0 < (lvl w).1) : (lvl w).2.1 = lft (lvl w).1 ∧ (lvl w).2.2.1 = rgt (lvl w).1 ∧ 200 ≤ rgt (lvl w).1 := by
  have tb : ∀ j, j < 24 → 0 < (KL.getD j (0, 0, 0, 0)).1 → (KL.getD j (0, 0, 0, 0)).2.1 = lft (KL.getD j (0, 0, 0, 0)).1 ∧ (KL.getD j (0, 0, 0, 0)).2.2.1 = rgt (KL.getD j (0, 0, 0, 0)).1 ∧ 200 ≤ rgt (KL.getD j (0, 0, 0, 0)).1 := by decide
  unfold lvl at h ⊢
  by_cases q : KT.idxOf w < 24
  · exact tb _ q h
  · rw [List.getD_eq_getElem?_getD, List.getElem?_eq_none (by show 24 ≤ _; omega)] at h
    exact absurd h (by decide)
theorem nI_m1 {a : Nat} (h : 1 ≤ a) : nI a - 1 = nI (a - 1) := pk_sub (b := 1) h
/-- what is read behind an operator; KK: the next round -/
theorem m_118 {l : List Int32} {f : Nat → Int32} (hM : TM l f) {X : X0} {b0 : Bs} {Z : Nat} (hZ : Z + 3 * l.length + 20 ≤ 80000) {rf : Nat → Int32} (hr : ∀ j, j < 20 → rf j = nI (RL.getD j 0)) (kno : Int32) {T : TT} {d : Nat} (hT : TCl l f X b0 Z rf kno T (d + 1)) (hd : d + 1 ≤ 100) {most : Nat} {O : List Op} (hO : O.length = d) {Y : List Rf} {pend fi : Nat} {W : WW} (hW : mono W) {s : Ps} {i0 : Nat} (plc : Int32) {w : List Int32} (hw : 0 < (lvl w).1) {KK : Int32 → Int32 → Int32 → Int32 → Int32 → Int32 → Int64 → Int32 → Int32 → Int32 → Int32 → Int32 → Int32 → Int32 → Int32 → Int32 → (Nat → Int32) → (Nat → Int32) → (Nat → Int32) → (Nat → Int32) → (Nat → Int32) → (Nat → Int64) → (Nat → Int32) → (Nat → Int32) → (Nat → Int32) → (Nat → Int32) → (Nat → Int32) → (Nat → Int32) → (Nat → Int32) → (Nat → Int32) → Option ((Nat × Int32 × Int32 × Int32 × Int32 × Int32 × Int64 × Int32 × Int32 × Int32 × Int32 × Int32 × Int32 × Int32 × (Nat → Int32) × (Nat → Int32) × (Nat → Int32) × (Nat → Int32) × (Nat → Int32) × (Nat → Int64) × Int32 × Int32 × (Nat → Int32) × (Nat → Int32) × (Nat → Int32) × (Nat → Int32) × (Nat → Int32) × (Nat → Int32) × (Nat → Int32) × (Nat → Int32)) × Nat × Nat)} {j j1 nx : Nat} (hKK : ∀ (j2 nx : Nat) (o : Op) (ln : List Int32) (lb : Nat) (E : List Ev) (y : Nat) (r' : Rf) (at_ beh tok : Int32) (num : Int64) (let_ rnk : Int32) (sz pt : Int32) (kf nf ff mf pf : Nat → Int32) (bf : Nat → Int64) (nsz ntx : Int32) (txf frf nxf fsf : Nat → Int32) (vbd : Int32) (vrf : Nat → Int32) (wf stf kpf : Nat → Int32), j < j2 → Rq l s (3, nx, o :: O, j2, ln, lb, fi, E, none) → o.1 = most → o.2.1 = (lvl w).1 → TKP l j2 at_ beh tok num let_ wf → E.length + pend ≤ 2 * j2 → 2 * (E.foldl ap b0).2.1.length ≤ j2 + 401 → (E.foldl ap b0).2.2 = Y ++ [r'] → y < 100000 → DTP X b0 Z j2 E Y (wA (wV y r') W) sz pt kf nf ff mf pf bf nsz ntx txf frf nxf fsf vbd vrf stf → wp (KK (nI (lvl w).1) (nI y) at_ beh tok (nI (d + 1)) num let_ (nI Y.length) plc vbd rnk sz pt nsz ntx kf nf ff mf pf bf txf frf nxf fsf wf stf vrf kpf) (PQ l X b0 Z s i0 d pend Y plc W (GT O fi))) {lev pa : Nat} {ln : List Int32} {lb : Nat} {E : List Ev} {y : Nat} {r' : Rf} {x at_ tok : Int32} {num : Int64} {rnk : Int32} {let10 : Int32} {sz pt : Int32} {kf nf ff mf pf : Nat → Int32} {bf : Nat → Int64} {nsz ntx : Int32} {txf frf nxf fsf : Nat → Int32} {vbd : Int32} {vrf : Nat → Int32} {w10 stf : Nat → Int32} (kpf : Nat → Int32) (hs : Rq l s (1, (lvl w).2.2.1, (most, lev, 1, w, (lvl w).1, pa) :: O, j1, ln, lb, fi, E, none)) (hj : j < j1) (hj1 : j1 ≤ l.length) (hE : E.length + (pend + 1) ≤ 2 * j1) (hV : 2 * (E.foldl ap b0).2.1.length ≤ j1 + 400) (hY : 2 * (Y.length + 1) ≤ j1) (hK : (E.foldl ap b0).2.2 = Y ++ [r']) (hD : DTP X b0 Z j1 E Y (wA (wV y r') (wA (wN w x) W)) sz pt kf nf ff mf pf bf nsz ntx txf frf nxf fsf vbd vrf stf) : wp (p_MoReader_term_118 pure_n (nI l.length) kno 20 rf 404300 404300 404300 404300 404300 404300 90000 404301 404300 1024 4096 f 4096 4200 4200 4096 T (nI y) at_ (nI j1) tok (nI (d + 1)) num (nI Y.length) plc vbd rnk sz pt kf nf ff mf pf bf stf vrf kpf (nI (lvl w).1) KK nsz ntx let10 txf frf nxf fsf w10 x) (PQ l X b0 Z s i0 d pend Y plc W (GT O fi)) := by
  have hl4 := hM.1
  obtain ⟨v1, v2, v3⟩ := lv_lr w hw
  have vl := lvl_lt w
  unfold p_MoReader_term_118
  refine wp_bind (rr_scan2 hM hj1 _ _ _ _ _ _ _ _ _ _ _) ?_
  rintro ⟨at1, beh1, tok1, num1, let1, wf1⟩ hk1
  dsimp only at hk1 ⊢
  refine wp_ck (ixb_t (by omega) (by omega)) ?_
  have D1 := dt_push hD
  have lY1 : (Y ++ [r']).length = Y.length + 1 := by rw [List.length_append, List.length_singleton]
  have G : wp (p_MoReader_term_181 pure_n (nI l.length) kno 20 rf 404300 404300 404300 404300 404300 404300 90000 404301 404300 1024 4096 f 4096 4200 4200 4096 T (nI y) (nI (d + 1)) (nI Y.length) plc vbd rnk sz pt kf nf ff mf pf bf stf vrf kpf (nI (lvl w).1) nsz ntx txf frf nxf fsf x at1 beh1 tok1 num1 let1 wf1 (fun w0 w1 w2 w3 w4 w5 w6 w7 w8 w9 w10 w11 w12 w13 w14 w15 w16 w17 w18 w19 w20 w21 w22 w23 w24 w25 w26 w27 w28 w29 => KK w0 w1 w2 w3 w4 w5 w6 w7 w8 w9 w10 w11 w12 w13 w14 w15 w16 w17 w18 w19 w20 w21 w22 w23 w24 w25 w26 w27 w28 w29) (nI (lvl w).2.2.1)) (PQ l X b0 Z s i0 d pend Y plc W (GT O fi)) := by
    unfold p_MoReader_term_181
    have TC := hT (lvl w).2.2.1 ((most, lev, 1, w, (lvl w).1, pa) :: O) j1 (pend + 1) ln lb fi E (Y ++ [r']) (wA (wN w x) W) at1 beh1 tok1 num1 let1 plc rnk sz pt kf nf ff mf pf bf nsz ntx txf frf nxf fsf vbd vrf wf1 (upd stf Y.length (nI y)) kpf (by omega) (by omega) (by rw [List.length_cons, hO]) (by rw [ptm_c]; simp) (by omega) (mono_A (mono_N _ _) hW) hk1 hE hV hK D1
    rw [if_neg (show ¬ (most, lev, 1, w, (lvl w).1, pa) :: O = [] by simp), lY1] at TC
    rw [nI_1, nI_clamp (n := Y.length) (by omega)]
    refine pq_then TC hs ?_ (by intros; rfl)
    intro r at' beh' tok' opn' num' let' top' plc' vbd' rnk' sz' pt' kf' nf' ff' mf' pf' bf' nsz2 ntx2 txf2 frf2 nxf2 fsf2 wf' stf' vrf' kpf' s' y2 r2 b1' b2 b3 b4 b5 b6 b7 b8 b9 b10 b11 b12 b13 b14
    obtain ⟨md2, nx2, O2, i2, ln2, lb2, fi2, E2, br2⟩ := s'
    obtain ⟨g1, g2, g3⟩ := b3
    dsimp only at b2 b4 b10 b11 b12 b13 b14 g1 g2 g3 ⊢
    rw [if_neg (by simp)] at g1
    rw [lY1] at b9
    subst b2 b5 b7 b8 b9 g1 g2 g3
    have hi2 := b10.1
    rw [al00, if_pos rfl]
    refine wp_ck (ixb_t (by omega) (by omega)) ?_
    have D2 := dt_push (W := wA (wN w x) W) b14
    rw [lY1] at D2
    rw [nI_clamp (n := Y.length + 1) (by omega)]
    have lY2 : (Y ++ [r'] ++ [r2]).length = Y.length + 2 := by rw [List.length_append, lY1, List.length_singleton]
    obtain ⟨y3, r3, sz3, pt3, kf3, nf3, ff3, mf3, pf3, e1, e2, e3, e4⟩ := dt_comp hW D2 (by omega) b13 (k := 2) (by omega) (by decide) (by omega)
    rw [lY2, Nat.add_sub_cancel] at e1 e2 e4
    rw [List.append_assoc, List.take_left' rfl] at e2 e4
    have st : stq l (4, nx2, (most, lev, 1, w, (lvl w).1, pa) :: O, i2, ln2, lb2, fi2, E2, none) = (3, nx2, (most, (lvl w).1, 1, w, (lvl w).1, pa) :: O, i2, ln2, lb2, fi2, E2 ++ [(none, w, 2)], none) := by
      rw [stq_n l (by decide), stp4]
      rfl
    refine wp_bs e1 ?_
    exact hKK i2 nx2 (most, (lvl w).1, 1, w, (lvl w).1, pa) ln2 lb2 (E2 ++ [(none, w, 2)]) y3 r3 at' beh' tok' num' let' rnk' sz3 pt3 kf3 nf3 ff3 mf3 pf3 bf' nsz2 ntx2 txf2 frf2 nxf2 fsf2 vbd' vrf' wf' _ kpf' (by omega) (rq_trans b1' (rq_1' st)) rfl rfl b10 (by rw [List.length_append, List.length_singleton]; omega) (by rw [e3]; exact b12) e2 (dt_y e4 (by rw [List.length_append, List.length_singleton]; omega)) e4
  rw [v2] at G
  unfold rgt at G
  by_cases c1 : (lvl w).1 = 1100
  · refine wp_it (by rw [c1]; rfl) ?_
    rw [if_pos (Or.inl c1)] at G
    exact G
  refine wp_if (nI_nn (b := 1100) c1 (by omega) (by omega)) ?_
  by_cases c2 : (lvl w).1 = 1050
  · refine wp_it (by rw [c2]; rfl) ?_
    rw [if_pos (Or.inr (Or.inl c2))] at G
    exact G
  refine wp_if (nI_nn (b := 1050) c2 (by omega) (by omega)) ?_
  by_cases c3 : (lvl w).1 = 1000
  · refine wp_it (by rw [c3]; rfl) ?_
    rw [if_pos (Or.inr (Or.inr c3))] at G
    exact G
  refine wp_if (nI_nn (b := 1000) c3 (by omega) (by omega)) ?_
  rw [if_neg (by omega)] at G
  rw [nI_m1 hw]
  exact G
theorem m_loop {l : List Int32} {f : Nat → Int32} (hM : TM l f) {X : X0} {b0 : Bs} {Z : Nat} (hZ : Z + 3 * l.length + 20 ≤ 80000) {rf : Nat → Int32} (hr : ∀ j, j < 20 → rf j = nI (RL.getD j 0)) (kno : Int32) {T : TT} {d : Nat} (hT : TCl l f X b0 Z rf kno T (d + 1)) (hd : d + 1 ≤ 100) {most : Nat} (hm2 : most ≤ 1200) {O : List Op} (hO : O.length = d) {Y : List Rf} {pend fi : Nat} {W : WW} (hW : mono W) {s : Ps} {i0 : Nat} (hY : 2 * Y.length ≤ i0) (plc : Int32) : ∀ (fu j nx : Nat) (o : Op) (ln : List Int32) (lb : Nat) (E : List Ev) (y : Nat) (r' : Rf) (at_ beh tok : Int32) (num : Int64) (let_ rnk : Int32) (sz pt : Int32) (kf nf ff mf pf : Nat → Int32) (bf : Nat → Int64) (nsz ntx : Int32) (txf frf nxf fsf : Nat → Int32) (vbd : Int32) (vrf : Nat → Int32) (wf stf kpf : Nat → Int32), l.length - j < fu → i0 < j → Rq l s (3, nx, o :: O, j, ln, lb, fi, E, none) → o.1 = most → o.2.1 ≤ 1200 → TKP l j at_ beh tok num let_ wf → E.length + pend ≤ 2 * j → 2 * (E.foldl ap b0).2.1.length ≤ j + 401 → (E.foldl ap b0).2.2 = Y ++ [r'] → y < 100000 → DTP X b0 Z j E Y (wA (wV y r') W) sz pt kf nf ff mf pf bf nsz ntx txf frf nxf fsf vbd vrf stf → wp (p_MoReader_term_44 pure_n (nI most) (nI l.length) kno 20 rf 404300 404300 404300 404300 404300 404300 90000 404301 404300 1024 4096 f 4096 4200 4200 4096 T fu (nI o.2.1) (nI y) at_ beh tok (nI (d + 1)) num let_ (nI Y.length) plc vbd rnk sz pt nsz ntx kf nf ff mf pf bf txf frf nxf fsf wf stf vrf kpf) (PQ l X b0 Z s i0 d pend Y plc W (GT O fi)) := by
  have hl4 := hM.1
  intro fu
  induction fu with
  | zero => intro j nx o ln lb E y r' at_ beh tok num let_ rnk sz pt kf nf ff mf pf bf nsz ntx txf frf nxf fsf vbd vrf wf stf kpf h; exact absurd h (Nat.not_lt_zero _)
  | succ fu ih =>
    intro j nx o ln lb E y r' at_ beh tok num let_ rnk sz pt kf nf ff mf pf bf nsz ntx txf frf nxf fsf vbd vrf wf stf kpf hfu hj hs ho1 ho2 hk hE hV hK hy hD
    obtain ⟨l1, l2, l3, l4, l5, l6⟩ := tk_len l hk.1
    have hk2 := hk.2.2.2
    have hjl := hk.1
    have sp3 : stq l (3, nx, o :: O, j, ln, lb, fi, E, none) = st3 (tkn l j) nx o O j ln lb fi E := by
      rw [stq_n l (by decide), stp3]
    -- at its end
    have EN : stq l (3, nx, o :: O, j, ln, lb, fi, E, none) = ((if O = [] then 5 else 4), nx, O, j, ln, lb, fi, E, none) → wp (p_MoReader_term_233 pure_n (nI o.2.1) (nI y) at_ beh tok (nI (d + 1)) num let_ (nI Y.length) plc vbd sz pt nsz ntx kf nf ff mf pf bf txf frf nxf fsf wf stf vrf kpf) (PQ l X b0 Z s i0 d pend Y plc W (GT O fi)) := fun st => by
      unfold p_MoReader_term_233
      rw [nI_pred]
      exact wp_some (pq_ok (rq_trans hs (rq_1' st)) ⟨rfl, rfl, rfl⟩ hj hk hE (by omega) hV hK hD)
    rw [p_MoReader_term_44]
    refine wp_bs (mr_rank hk2 hr _ _ _ _ _ _ _ _ _) ?_
    cases hsop : sop (tkn l j) with
    | none =>
      dsimp only
      have st : stq l (3, nx, o :: O, j, ln, lb, fi, E, none) = ((if O = [] then 5 else 4), nx, O, j, ln, lb, fi, E, none) := by
        rw [sp3]
        unfold st3
        rw [hsop]
      refine wp_if (by decide) (wp_if (by decide) ?_)
      unfold p_MoReader_term_75
      exact wp_it rfl (EN st)
    | some w =>
      dsimp only
      have hw : 0 < (lvl w).1 ∧ ((tkn l j).1 = 44 ∧ w = [44] ∨ (tkn l j).1 = 3 ∧ w = (tkn l j).2.2.2.1) := by
        unfold sop at hsop
        by_cases z : (tkn l j).1 = 44
        · rw [if_pos z] at hsop
          injection hsop with hsop
          subst hsop
          exact ⟨by decide, Or.inl ⟨z, rfl⟩⟩
        · rw [if_neg z] at hsop
          by_cases z2 : (tkn l j).1 = 3 ∧ (tkn l j).2.2.2.1 ≠ [44] ∧ 0 < (lvl (tkn l j).2.2.2.1).1
          · rw [if_pos z2] at hsop
            injection hsop with hsop
            subst hsop
            exact ⟨z2.2.2, Or.inr ⟨z2.1, rfl⟩⟩
          · rw [if_neg z2] at hsop
            cases hsop
      obtain ⟨hw0, hw⟩ := hw
      obtain ⟨v1, v2, v3⟩ := lv_lr w hw0
      have vl := lvl_lt w
      have l4 := l4 (by omega)
      -- the comparisons
      have CM : ∀ (KK : Int32 → Int32 → Int32 → Int32 → Int32 → Int32 → Int64 → Int32 → Int32 → Int32 → Int32 → Int32 → Int32 → Int32 → Int32 → Int32 → (Nat → Int32) → (Nat → Int32) → (Nat → Int32) → (Nat → Int32) → (Nat → Int32) → (Nat → Int64) → (Nat → Int32) → (Nat → Int32) → (Nat → Int32) → (Nat → Int32) → (Nat → Int32) → (Nat → Int32) → (Nat → Int32) → (Nat → Int32) → Option ((Nat × Int32 × Int32 × Int32 × Int32 × Int32 × Int64 × Int32 × Int32 × Int32 × Int32 × Int32 × Int32 × Int32 × (Nat → Int32) × (Nat → Int32) × (Nat → Int32) × (Nat → Int32) × (Nat → Int32) × (Nat → Int64) × Int32 × Int32 × (Nat → Int32) × (Nat → Int32) × (Nat → Int32) × (Nat → Int32) × (Nat → Int32) × (Nat → Int32) × (Nat → Int32) × (Nat → Int32)) × Nat × Nat)), KK = (fun w0 w1 w2 w3 w4 w5 w6 w7 w8 w9 w10 w11 w12 w13 w14 w15 w16 w17 w18 w19 w20 w21 w22 w23 w24 w25 w26 w27 w28 w29 => p_MoReader_term_44 pure_n (nI most) (nI l.length) kno 20 rf 404300 404300 404300 404300 404300 404300 90000 404301 404300 1024 4096 f 4096 4200 4200 4096 T fu w0 w1 w2 w3 w4 w5 w6 w7 w8 w9 w10 w11 w12 w13 w14 w15 w16 w17 w18 w19 w20 w21 w22 w23 w24 w25 w26 w27 w28 w29) → wp (p_MoReader_term_75 pure_n (nI most) (nI l.length) kno 20 rf 404300 404300 404300 404300 404300 404300 90000 404301 404300 1024 4096 f 4096 4200 4200 4096 T (nI o.2.1) (nI y) at_ beh tok (nI (d + 1)) num let_ (nI Y.length) plc vbd rnk sz pt nsz ntx kf nf ff mf pf bf txf frf nxf fsf wf stf vrf kpf (nI (lvl w).1) KK (nI (lvl w).2.1)) (PQ l X b0 Z s i0 d pend Y plc W (GT O fi)) := fun KK eK => by
        have NO : ¬ ((lvl w).1 ≤ o.1 ∧ o.2.1 ≤ (lvl w).2.1) → stq l (3, nx, o :: O, j, ln, lb, fi, E, none) = ((if O = [] then 5 else 4), nx, O, j, ln, lb, fi, E, none) := fun z => by
          rw [sp3]
          unfold st3
          rw [hsop]
          exact if_neg z
        unfold p_MoReader_term_75
        refine wp_if (nm1 (by omega)) ?_
        by_cases c1 : (lvl w).1 ≤ most
        · refine wp_if (nI_nlt c1 (by omega)) ?_
          by_cases c2 : o.2.1 ≤ (lvl w).2.1
          · refine wp_it (nI_le c2 (by omega)) ?_
            have st : stq l (3, nx, o :: O, j, ln, lb, fi, E, none) = (1, (lvl w).2.2.1, (most, o.2.1, 1, w, (lvl w).1, o.2.2.2.2.2) :: O, (tkn l j).2.2.1, ln, lb, fi, E, none) := by
              rw [sp3]
              unfold st3
              rw [hsop]
              dsimp only
              rw [if_pos (show (lvl w).1 ≤ o.1 ∧ o.2.1 ≤ (lvl w).2.1 from ⟨by omega, c2⟩), ho1]
            have hKK : ∀ (j2 nx : Nat) (o : Op) (ln : List Int32) (lb : Nat) (E : List Ev) (y : Nat) (r' : Rf) (at_ beh tok : Int32) (num : Int64) (let_ rnk : Int32) (sz pt : Int32) (kf nf ff mf pf : Nat → Int32) (bf : Nat → Int64) (nsz ntx : Int32) (txf frf nxf fsf : Nat → Int32) (vbd : Int32) (vrf : Nat → Int32) (wf stf kpf : Nat → Int32), j < j2 → Rq l s (3, nx, o :: O, j2, ln, lb, fi, E, none) → o.1 = most → o.2.1 = (lvl w).1 → TKP l j2 at_ beh tok num let_ wf → E.length + pend ≤ 2 * j2 → 2 * (E.foldl ap b0).2.1.length ≤ j2 + 401 → (E.foldl ap b0).2.2 = Y ++ [r'] → y < 100000 → DTP X b0 Z j2 E Y (wA (wV y r') W) sz pt kf nf ff mf pf bf nsz ntx txf frf nxf fsf vbd vrf stf → wp (KK (nI (lvl w).1) (nI y) at_ beh tok (nI (d + 1)) num let_ (nI Y.length) plc vbd rnk sz pt nsz ntx kf nf ff mf pf bf txf frf nxf fsf wf stf vrf kpf) (PQ l X b0 Z s i0 d pend Y plc W (GT O fi)) := by
              intro j2 nx o ln lb E y r' at_ beh tok num let_ rnk sz pt kf nf ff mf pf bf nsz ntx txf frf nxf fsf vbd vrf wf stf kpf z1 z2 z3 z4 z5 z6 z7 z8 z9 z10
              rw [eK, ← z4]
              exact ih j2 nx o ln lb E y r' at_ beh tok num let_ rnk sz pt kf nf ff mf pf bf nsz ntx txf frf nxf fsf vbd vrf wf stf kpf (by have := z5.1; omega) (by omega) z2 z3 (by omega) z5 z6 z7 z8 z9 z10
            rcases hw with ⟨w1, w2⟩ | ⟨w1, w2⟩
            · refine wp_it (by rw [hk2.1, w1]; rfl) ?_
              unfold p_MoReader_comma
              refine wp_assoc (wp_bind (dt_one (mono_A (mono_V _ _) hW) hD (j' := (tkn l j).2.2.1) (by omega) (show bok 44 by unfold bok; decide) _ (by omega) _ _ _ _ _ _ _ _ _ _ _) ?_)
              rintro ⟨x, let', nsz2, ntx2, txf2, frf2, nxf2, fsf2, wf'⟩ hD2
              dsimp only at hD2 ⊢
              rw [← w2] at hD2
              have hD3 := dt_W (W' := wA (wV y r') (wA (wN w x) W)) hD2 (fun TR M h => ⟨h.2.1, h.1, h.2.2⟩)
              rw [Option.bind_some, hk.2.2.1]
              exact m_118 hM hZ hr kno hT hd hO hW plc hw0 (nx := nx) hKK kpf (rq_trans hs (rq_1' st)) (by omega) l3 (by omega) (by omega) (by omega) hK hD3
            · refine wp_if (by rw [hk2.1]; exact fun z => by have := (rt_eq hk2.2.2.2 (y := 44) (by decide)).mp z; omega) ?_
              obtain ⟨_, _, ⟨w8, t3, t4, t5⟩, _⟩ := hk2
              have tw := t5 (Or.inr w1)
              subst t3
              have wl : w8.length ≤ (tkn l j).2.2.1 - (tkn l j).2.1 := by rw [tw]; exact l5
              refine wp_bind (dt_name (mono_A (mono_V _ _) hW) hD (by omega) t4 (j' := (tkn l j).2.2.1) (by omega) _ _ _ _ _ _ _ _ _ _) ?_
              rintro ⟨x, nsz2, ntx2, txf2, frf2, nxf2, fsf2⟩ hD2
              dsimp only at hD2 ⊢
              rw [tw, ← w2] at hD2
              have hD3 := dt_W (W' := wA (wV y r') (wA (wN w x) W)) hD2 (fun TR M h => ⟨h.2.1, h.1, h.2.2⟩)
              rw [hk.2.2.1]
              exact m_118 hM hZ hr kno hT hd hO hW plc hw0 (nx := nx) hKK kpf (rq_trans hs (rq_1' st)) (by omega) l3 (by omega) (by omega) (by omega) hK hD3
          · exact wp_if (nI_ge (by omega) (by omega)) (EN (NO (fun z => c2 z.2)))
        · exact wp_it (nI_lt (by omega) (by omega)) (EN (NO (fun z => c1 (by omega))))
      have C2 := CM _ rfl
      rw [v1] at C2
      unfold lft at C2
      by_cases c5 : (lvl w).1 = 500
      · refine wp_it (by rw [c5]; rfl) ?_
        rw [if_pos (Or.inl c5)] at C2
        exact C2
      refine wp_if (nI_nn (b := 500) c5 (by omega) (by omega)) ?_
      by_cases c4 : (lvl w).1 = 400
      · refine wp_it (by rw [c4]; rfl) ?_
        rw [if_pos (Or.inr c4)] at C2
        exact C2
      refine wp_if (nI_nn (b := 400) c4 (by omega) (by omega)) ?_
      rw [if_neg (by omega)] at C2
      rw [nI_m1 hw0]
      exact C2
