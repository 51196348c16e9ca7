/-! ===== the machine that looks for a term in itself ===== -/
abbrev Fs : Type := List (Av × Nat) × (Av → Nat) × List Av × Bool
def cu (col : Av → Nat) (a : Av) (k : Nat) : Av → Nat := fun z => if z = a then k else col z
def fsp (w : Av) (k : Nat) (t : List (Av × Nat)) (col : Av → Nat) (E : List Av) (a : Av) : Fs :=
  if a.1 ≠ none then ((w, k + 1) :: t, col, E, false)
  else if col a = 1 then ((w, k + 1) :: t, col, E, true)
  else if col a = 0 then ((a, 0) :: (w, k + 1) :: t, cu col a 1, a :: E, false)
  else ((w, k + 1) :: t, col, E, false)
def fst' (S : List Nd) (R : Av → Av) : Fs → Fs
  | ((w, k) :: t, col, E, false) => if k = (pav S w).length then (t, cu col w 2, E, false) else fsp w k t col E (R ((pav S w).getD k (none, 0)))
  | s => s
def fn' (S : List Nd) (R : Av → Av) : Nat → Fs → Fs
  | 0, s => s
  | m + 1, s => fn' S R m (fst' S R s)
def ffin (s : Fs) : Prop := s.1 = [] ∨ s.2.2.2 = true
theorem fst_fin {S : List Nd} {R : Av → Av} {s : Fs} (h : ffin s) : fst' S R s = s := by
  obtain ⟨p, c, E, f⟩ := s
  rcases h with h | h
  · dsimp only at h
    subst h
    rfl
  · dsimp only at h
    subst h
    cases p with
    | nil => rfl
    | cons x t => rfl
theorem fn_fin {S : List Nd} {R : Av → Av} : ∀ (k : Nat) {s : Fs}, ffin s → fn' S R k s = s := by
  intro k
  induction k with
  | zero => intro s _; rfl
  | succ k ih => intro s h; rw [fn', fst_fin h, ih h]
def fw : List (Av × Nat) → Nat
  | [] => 0
  | (_, k) :: t => (9 - k) + fw t
def FI (S : List Nd) (D : Av → Prop) (s : Fs) : Prop := s.2.2.1.Nodup ∧ (∀ a, a ∈ s.2.2.1 → D a ∧ a.1 = none ∧ s.2.1 a ≠ 0) ∧ s.1.length ≤ s.2.2.1.length ∧ (∀ p, p ∈ s.1 → p.1 ∈ s.2.2.1 ∧ p.2 ≤ (pav S p.1).length) ∧ (∀ a, s.2.1 a ≤ 2)
theorem fi_E {S : List Nd} {D : Av → Prop} (hD : DO S D) {s : Fs} (h : FI S D s) : s.2.2.1.length ≤ 200 + S.length := by
  obtain ⟨h4, h5, _⟩ := h
  have := nd_le (200 + S.length) (s.2.2.1.map (·.2)) ?_ ?_
  · rw [List.length_map] at this
    exact this
  · unfold List.Nodup at h4 ⊢
    rw [List.pairwise_map]
    refine h4.imp_of_mem (fun {a b} ha hb hab e => hab ?_)
    have e1 := (h5 a ha).2.1
    have e2 := (h5 b hb).2.1
    obtain ⟨a1, a2⟩ := a
    obtain ⟨b1, b2⟩ := b
    dsimp only at e e1 e2
    rw [e, e1, e2]
  · intro x hx
    obtain ⟨a, ha, rfl⟩ := List.mem_map.mp hx
    exact hD.1 a (h5 a ha).1 (h5 a ha).2.1
theorem fi_sp {S : List Nd} (h8 : D8 S) {D : Av → Prop} (hD : DO S D) {w : Av} {k : Nat} {t : List (Av × Nat)} {col : Av → Nat} {E : List Av} (h : FI S D ((w, k) :: t, col, E, false)) (hk : k < (pav S w).length) {a : Av} (Da : D a) : FI S D (fsp w k t col E a) ∧ ((fsp w k t col E a).2.2.2 = true ∨ 10 * (200 + S.length - (fsp w k t col E a).2.2.1.length) + fw (fsp w k t col E a).1 < 10 * (200 + S.length - E.length) + fw ((w, k) :: t)) := by
  have h0 := h
  obtain ⟨h1, h2, h3, h4, h5⟩ := h
  dsimp only at h1 h2 h3 h4 h5
  have l8 := pav_8 h8 w
  have hw := (h4 (w, k) (List.mem_cons_self ..)).1
  have same : ∀ f, FI S D ((w, k + 1) :: t, col, E, f) := fun f => ⟨h1, h2, h3, fun p hp => by
    rcases List.mem_cons.mp hp with rfl | hp
    · exact ⟨hw, hk⟩
    · exact h4 p (List.mem_cons_of_mem _ hp), h5⟩
  unfold fsp
  by_cases c1 : a.1 ≠ none
  · rw [if_pos c1]
    exact ⟨same false, Or.inr (by dsimp only [fw]; omega)⟩
  rw [if_neg c1]
  by_cases c2 : col a = 1
  · rw [if_pos c2]
    exact ⟨same true, Or.inl rfl⟩
  rw [if_neg c2]
  by_cases c3 : col a = 0
  · rw [if_pos c3]
    have u : FI S D ((a, 0) :: (w, k + 1) :: t, cu col a 1, a :: E, false) := by
      refine ⟨List.nodup_cons.mpr ⟨fun z => (h2 a z).2.2 c3, h1⟩, fun x hx => ?_, ?_, fun p hp => ?_, fun x => ?_⟩
      · rcases List.mem_cons.mp hx with rfl | hx
        · refine ⟨Da, by cases hq : x.1 with | none => rfl | some z => exact absurd (by rw [hq]; exact fun q => by cases q) c1, ?_⟩
          show cu col x 1 x ≠ 0
          unfold cu
          rw [if_pos rfl]
          exact Nat.one_ne_zero
        · obtain ⟨x1, x2, x3⟩ := h2 x hx
          refine ⟨x1, x2, ?_⟩
          show cu col a 1 x ≠ 0
          unfold cu
          by_cases q : x = a
          · rw [if_pos q]; exact Nat.one_ne_zero
          · rw [if_neg q]; exact x3
      · show (t.length + 1) + 1 ≤ E.length + 1
        rw [List.length_cons] at h3
        omega
      · rcases List.mem_cons.mp hp with rfl | hp
        · exact ⟨List.mem_cons_self .., Nat.zero_le _⟩
        · obtain ⟨x1, x2⟩ := (same false).2.2.2.1 p hp
          exact ⟨List.mem_cons_of_mem _ x1, x2⟩
      · show cu col a 1 x ≤ 2
        unfold cu
        by_cases q : x = a
        · rw [if_pos q]; decide
        · rw [if_neg q]; exact h5 x
    have := fi_E hD u
    dsimp only at this
    rw [List.length_cons] at this
    exact ⟨u, Or.inr (by dsimp only [fw]; rw [List.length_cons]; omega)⟩
  · rw [if_neg c3]
    exact ⟨same false, Or.inr (by dsimp only [fw]; omega)⟩
theorem fi_pop {S : List Nd} (h8 : D8 S) {D : Av → Prop} {w : Av} {k : Nat} {t : List (Av × Nat)} {col : Av → Nat} {E : List Av} (h : FI S D ((w, k) :: t, col, E, false)) : FI S D (t, cu col w 2, E, false) ∧ fw t < fw ((w, k) :: t) := by
  obtain ⟨h1, h2, h3, h4, h5⟩ := h
  dsimp only at h1 h2 h3 h4 h5
  have l8 := pav_8 h8 w
  have hk := (h4 (w, k) (List.mem_cons_self ..)).2
  dsimp only at hk
  rw [List.length_cons] at h3
  refine ⟨⟨h1, fun x hx => ?_, by show t.length ≤ E.length; omega, fun p hp => h4 p (List.mem_cons_of_mem _ hp), fun x => ?_⟩, by rw [fw]; omega⟩
  · obtain ⟨x1, x2, x3⟩ := h2 x hx
    refine ⟨x1, x2, ?_⟩
    show cu col w 2 x ≠ 0
    unfold cu
    by_cases q : x = w
    · rw [if_pos q]; decide
    · rw [if_neg q]; exact x3
  · show cu col w 2 x ≤ 2
    unfold cu
    by_cases q : x = w
    · rw [if_pos q]; exact Nat.le_refl _
    · rw [if_neg q]; exact h5 x
theorem fi_st {S : List Nd} (h8 : D8 S) {D : Av → Prop} (hD : DO S D) {R : Av → Av} (hR : ∀ z, D z → D (R z)) {s : Fs} (h : FI S D s) : FI S D (fst' S R s) ∧ (ffin s ∨ (fst' S R s).2.2.2 = true ∨ 10 * (200 + S.length - (fst' S R s).2.2.1.length) + fw (fst' S R s).1 < 10 * (200 + S.length - s.2.2.1.length) + fw s.1) := by
  by_cases q : ffin s
  · rw [fst_fin q]
    exact ⟨h, Or.inl q⟩
  · obtain ⟨p, col, E, f⟩ := s
    cases p with
    | nil => exact absurd (Or.inl rfl) q
    | cons p t =>
      cases f with
      | true => exact absurd (Or.inr rfl) q
      | false =>
        obtain ⟨w, k⟩ := p
        rw [fst']
        by_cases c : k = (pav S w).length
        · rw [if_pos c]
          obtain ⟨g1, g2⟩ := fi_pop h8 h
          exact ⟨g1, Or.inr (Or.inr (by dsimp only; omega))⟩
        · rw [if_neg c]
          obtain ⟨k1, k2⟩ := h.2.2.2.1 (w, k) (List.mem_cons_self ..)
          dsimp only at k1 k2
          have hk : k < (pav S w).length := by omega
          have Dw := (h.2.1 w k1).1
          have Da : D (R ((pav S w).getD k (none, 0))) := by
            refine hR _ (hD.2 w _ Dw ?_)
            rw [List.getD_eq_getElem?_getD, List.getElem?_eq_getElem hk]
            exact List.getElem_mem hk
          obtain ⟨g1, g2⟩ := fi_sp h8 hD h hk Da
          exact ⟨g1, Or.inr g2⟩
theorem fi_end {S : List Nd} (h8 : D8 S) {D : Av → Prop} (hD : DO S D) {R : Av → Av} (hR : ∀ z, D z → D (R z)) : ∀ (m : Nat) (s : Fs), FI S D s → 10 * (200 + S.length - s.2.2.1.length) + fw s.1 ≤ m → ffin (fn' S R m s) := by
  intro m
  induction m with
  | zero =>
    intro s h hm
    refine Or.inl ?_
    show s.1 = []
    obtain ⟨p, col, E, f⟩ := s
    cases p with
    | nil => rfl
    | cons p t =>
      obtain ⟨w, k⟩ := p
      have := (fi_pop (E := E) (col := col) h8 ⟨h.1, h.2.1, h.2.2.1, h.2.2.2.1, h.2.2.2.2⟩).2
      dsimp only at hm
      omega
  | succ m ih =>
    intro s h hm
    obtain ⟨g1, g2⟩ := fi_st h8 hD hR h
    rw [fn']
    rcases g2 with g2 | g2 | g2
    · rw [fst_fin g2, fn_fin m g2]
      exact g2
    · rw [fn_fin m (Or.inr g2)]
      exact Or.inr g2
    · exact ih _ g1 (by omega)
def FZ (a : Av) : Fs := if a.1 ≠ none then ([], fun _ => 0, [], false) else ([(a, 0)], cu (fun _ => 0) a 1, [a], false)
theorem fi_0 {S : List Nd} {D : Av → Prop} {a : Av} (Da : D a) : FI S D (FZ a) ∧ fw (FZ a).1 ≤ 9 := by
  unfold FZ
  by_cases c : a.1 ≠ none
  · rw [if_pos c]
    exact ⟨⟨List.nodup_nil, (fun x hx => by cases hx), Nat.le_refl _, (fun x hx => by cases hx), fun _ => Nat.zero_le _⟩, Nat.zero_le _⟩
  · rw [if_neg c]
    refine ⟨⟨List.nodup_cons.mpr ⟨List.not_mem_nil, List.nodup_nil⟩, fun x hx => ?_, Nat.le_refl _, fun p hp => ?_, fun x => ?_⟩, Nat.le_refl _⟩
    · obtain rfl := List.mem_singleton.mp hx
      refine ⟨Da, by cases hq : x.1 with | none => rfl | some z => exact absurd (by rw [hq]; exact fun q => by cases q) c, ?_⟩
      show cu (fun _ => 0) x 1 x ≠ 0
      unfold cu
      rw [if_pos rfl]
      exact Nat.one_ne_zero
    · obtain rfl := List.mem_singleton.mp hp
      exact ⟨List.mem_singleton.mpr rfl, Nat.zero_le _⟩
    · show cu (fun _ => 0) a 1 x ≤ 2
      unfold cu
      by_cases q : x = a
      · rw [if_pos q]; decide
      · rw [if_neg q]; exact Nat.zero_le _
/-! ===== the class looks for a term in itself ===== -/
def FC (S : List Nd) (s : Fs) (stf : Nat → Int32) (ss : Int32) (sq : Nat) (sef : Nat → Int32) (qs : Int32) (qn : Nat) (qf : Nat → Int32) : Prop := s.2.2.2 = false ∧ ∃ (pc : List (Nat × Nat)) (Sc : List Nat), s.1 = pc.map (fun p => (avc S p.1, p.2)) ∧ IN (pr pc) qs qn qf ∧ qn ≤ 100000 ∧ CF (200 + S.length) stf Sc ss sq sef ∧ (∀ c, c < 200 + S.length → (avc S c).1 = none → stf c = nI (s.2.1 (avc S c))) ∧ (∀ c, c < 200 + S.length → (avc S c).1 ≠ none → stf c = 0 ∨ stf c = 2)
abbrev Ft : Type := (Int32 × (Nat → Int32) × (Nat → Int32) × Int32 × Nat × (Nat → Int32) × Int32 × Nat × (Nat → Int32)) × Nat × Nat
def FP (S : List Nd) (s : Fs) (lk : Nat → Int32) (rc mu : Nat → Nat) (K sq qn : Nat) : Ft → Prop := fun ((r, lk', stf', ss', sq', sef', qs', qn', qf'), mq, sk) => r = b1 (! s.2.2.2) ∧ UF lk' (200 + S.length) rc mu K ∧ (∀ z, lk' z = 0 ↔ lk z = 0) ∧ (∃ Sc, CF (200 + S.length) stf' Sc ss' sq' sef') ∧ (∃ l, IN l qs' qn' qf') ∧ qn' ≤ 100000 ∧ wc (sq + qn) (sq' + qn') mq sk
theorem cf_set {N : Nat} {lk : Nat → Int32} {Jc : List Nat} {js : Int32} {jq : Nat} {jf : Nat → Int32} (h : CF N lk Jc js jq jf) {a : Nat} {v : Int32} (ha : lk a ≠ 0) (hv : v ≠ 0) : CF N (upd lk a v) Jc js jq jf := by
  obtain ⟨h1, h2, h3, h4, h5⟩ := h
  refine ⟨h1, h2, h3, h4, fun c => ?_⟩
  by_cases q : c = a
  · subst q
    rw [pk_us]
    exact ⟨fun _ => (h5 c).mp ha, fun _ => hv⟩
  · rw [pk_un q]
    exact h5 c
theorem ue_enter {N stn : Nat} (hN : N ≤ 20900) (hst : N ≤ stn) {stf : Nat → Int32} {Sc : List Nat} {ss : Int32} {sq : Nat} {sef : Nat → Int32} (h : CF N stf Sc ss sq sef) {pc : List (Nat × Nat)} {qs : Int32} {qn : Nat} {qf : Nat → Int32} (hq : IN (pr pc) qs qn qf) (hqn : qn ≤ 100000) (hpc : pc.length ≤ 20901) {x : Nat} (hx : x < N) (ex : stf x = 0) : wp (p_Unifier_enter (nI x) stn stf ss sq sef qs qn qf) (fun ((stf', ss', sq', sef', qs', qn', qf'), mq, sk) => stf' = upd stf x 1 ∧ CF N stf' (Sc ++ [x]) ss' sq' sef' ∧ IN (pr ((x, 0) :: pc)) qs' qn' qf' ∧ qn' ≤ 100000 ∧ wc (sq + qn) (sq' + qn') mq sk) := by
  have hl := cf_len h
  have lp := pr_len pc
  obtain ⟨h1, h2, h3, h4, h5⟩ := h
  have na : x ∉ Sc := fun z => (h5 x).mpr z ex
  have nd : (Sc ++ [x]).Nodup := by
    rw [List.nodup_append]
    refine ⟨h3, by simp, fun z hz y hy e => ?_⟩
    rw [List.mem_singleton] at hy
    subst hy e
    exact na hz
  have lt : ∀ c, c ∈ Sc ++ [x] → c < N := fun c hc => by
    rcases List.mem_append.mp hc with z | z
    · exact h4 c z
    · rw [List.mem_singleton] at z
      subst z
      exact hx
  have l2 := nd_le N _ nd lt
  rw [List.length_append, List.length_singleton] at l2
  unfold p_Unifier_enter
  refine wp_ck (ixb_t (by omega) (by omega)) (wp_bind (in_push (nI x) h1 (by rw [List.length_map]; omega)) ?_)
  rintro ⟨⟨js', jq', jf'⟩, mq1, sk1⟩ ⟨g1, g2, g3, g4⟩
  rw [List.length_map] at g4
  dsimp only
  refine wp_al (wp_bind (in_push (nI x) hq (by omega)) ?_)
  rintro ⟨⟨qs1, qn1, qf1⟩, mq2, sk2⟩ ⟨k1, k2, k3, k4⟩
  dsimp only
  refine wp_al (wp_bind (in_push 0 k1 (by rw [List.length_append, List.length_singleton]; omega)) ?_)
  rintro ⟨⟨qs2, qn2, qf2⟩, mq3, sk3⟩ ⟨m1, m2, m3, m4⟩
  rw [List.length_append, List.length_singleton] at m4
  dsimp only
  refine wp_al (wp_some ?_)
  dsimp only
  rw [nI_clamp (by omega)]
  refine ⟨rfl, ⟨by rw [List.map_append]; exact g1, by omega, nd, lt, fun c => ?_⟩, m1, by omega, by show 64 * (0 + mq3 + mq2 + mq1) + (sq + qn) ≤ jq' + qn2; omega, by show 0 + sk3 + sk2 + sk1 + 2 * (sq + qn) ≤ 2 * (jq' + qn2); omega⟩
  by_cases q : c = x
  · subst q
    rw [pk_us]
    exact ⟨fun _ => List.mem_append_right _ (List.mem_singleton.mpr rfl), fun _ => by decide⟩
  · rw [pk_un q, h5]
    exact ⟨fun z => List.mem_append_left _ z, fun z => by
      rcases List.mem_append.mp z with z | z
      · exact z
      · exact absurd (List.mem_singleton.mp z) q⟩
theorem usf_loop {T : List (List Int32)} {S : List Nd} (hS : S.length ≤ 20700) {nd : Int32} {sn : Nat} {sf : Nat → Int32} {vn : Nat} {vf : Nat → Int64} {fn : Nat} {ff : Nat → Int32} {tp : Int32} {tn : Nat} {tf : Nat → Int32} (h : CT T S nd sn sf vn vf fn ff tp tn tf) (h8 : D8 S) {B : Nat → Option Av} {bc : Nat → Int32} (hB : CBd S B bc) {rk : Nat → Nat} {μ : Av → Av} (hM : MU B rk μ) {D : Av → Prop} (hD : DO S D) (hμ : ∀ z, D z → D (μ z) ∧ fa B (μ z)) (hDc : ∀ c, D (avc S c) → c < 200 + S.length) (a b d e g i j : Int32) {ln stn : Nat} (hln : 200 + S.length ≤ ln) (hst : 200 + S.length ≤ stn) {rc mu : Nat → Nat} {K : Nat} (hK : K ≤ 50000) {ρ : Av → Av} (hr : ∀ c, c < 200 + S.length → avc S (rc c) = ρ (avc S c)) (hρ : ∀ z, D z → D (ρ z)) : ∀ (m f k : Nat) (s : Fs) (ss qs : Int32) (lk stf : Nat → Int32) (sq : Nat) (sef : Nat → Int32) (qn : Nat) (qf : Nat → Int32), ffin (fn' S (fun z => ρ (μ z)) m s) → FI S D s → FC S s stf ss sq sef qs qn qf → UF lk (200 + S.length) rc mu K → k + 2 * m < 1000000 → 2 * m < f → wp (p_Unifier_standsInNone_11 pure_n a b d e g i j sn sf fn ff tp tn tf 200 bc ln stn f (nI k) ss qs lk stf sq sef qn qf) (FP S (fn' S (fun z => ρ (μ z)) m s) lk rc mu K sq qn) := by
  have done : ∀ (f k : Nat) (s : Fs) (ss qs : Int32) (lk stf : Nat → Int32) (sq : Nat) (sef : Nat → Int32) (qn : Nat) (qf : Nat → Int32), s.1 = [] → FC S s stf ss sq sef qs qn qf → UF lk (200 + S.length) rc mu K → k < 1000000 → wp (p_Unifier_standsInNone_11 pure_n a b d e g i j sn sf fn ff tp tn tf 200 bc ln stn (f + 1) (nI k) ss qs lk stf sq sef qn qf) (FP S s lk rc mu K sq qn) := by
    intro f k s ss qs lk stf sq sef qn qf hs ⟨c0, pc, Sc, c1, c2, c3, c4, c5, c6⟩ hU hk
    have e : pc = [] := by
      rw [hs] at c1
      exact List.map_eq_nil_iff.mp c1.symm
    subst e
    have e1 : qs = 0 := c2.1
    rw [p_Unifier_standsInNone_11]
    unfold p_Ints_size
    refine wp_if (show ¬ 1000000 ≤ nI k from nI_ge (b := 1000000) (by omega) (by omega)) (wp_bs rfl (wp_it (by rw [e1]; decide) (wp_bs rfl (wp_it e1 (wp_some ?_)))))
    exact ⟨by rw [c0]; rfl, hU, fun _ => Iff.rfl, ⟨Sc, c4⟩, ⟨_, c2⟩, c3, wc_refl _⟩
  intro m
  induction m with
  | zero =>
    intro f k s ss qs lk stf sq sef qn qf hf hI hC hU hk hm
    obtain ⟨f, rfl⟩ : ∃ z, f = z + 1 := ⟨f - 1, by omega⟩
    rw [fn'] at hf ⊢
    refine done f k s ss qs lk stf sq sef qn qf ?_ hC hU (by omega)
    rcases hf with z | z
    · exact z
    · have := hC.1
      rw [this] at z
      cases z
  | succ m ih =>
    intro f k s ss qs lk stf sq sef qn qf hf hI hC hU hk hm
    obtain ⟨f, rfl⟩ : ∃ z, f = z + 1 := ⟨f - 1, by omega⟩
    have hE := fi_E hD hI
    have hC0 := hC
    obtain ⟨c0, pc, Sc, c1, c2, c3, c4, c5, c6⟩ := hC
    cases pc with
    | nil =>
      have fi : ffin s := Or.inl c1
      rw [fn_fin (m + 1) fi]
      exact done f k s ss qs lk stf sq sef qn qf c1 hC0 hU (by omega)
    | cons p t =>
      obtain ⟨c, n⟩ := p
      obtain ⟨pa, col, E, fl⟩ := s
      dsimp only at c0 c1 c5
      subst c0
      rw [List.map_cons] at c1
      subst c1
      have hp := hI.2.2.2.1 (avc S c, n) (List.mem_cons_self ..)
      have hEl := hI.2.2.1
      dsimp only at hp hEl hE
      rw [List.length_cons, List.length_map] at hEl
      obtain ⟨Dc, nc, colc⟩ := hI.2.1 _ hp.1
      dsimp only at colc
      have hc := hDc c Dc
      have l8 := pav_8 h8 (avc S c)
      have e1 : qs = nI (2 * (t.length + 1)) := by rw [c2.1, pr_len, List.length_cons]
      have c2' := c2
      rw [pr] at c2'
      obtain ⟨q1, q2⟩ := in_pop c2'
      obtain ⟨q3, q4⟩ := in_pop q2
      have lp := pr_len t
      rw [p_Unifier_standsInNone_11]
      unfold p_Ints_size
      refine wp_if (show ¬ 1000000 ≤ nI k from nI_ge (b := 1000000) (by omega) (by omega)) (wp_bs rfl (wp_if (by rw [e1]; exact (nI_ge (a := 0) (by omega) (by omega))) (wp_bs q1 (wp_bs q3 (wp_bs (ct_po h a b d e g i j hc) ?_)))))
      rw [fn', fst'] at hf ⊢
      rw [nI_1]
      have nz : stf c ≠ 0 := by
        rw [c5 c hc nc]
        have := hI.2.2.2.2 (avc S c)
        dsimp only at this
        exact nI_ne0 (by omega) (by omega)
      by_cases cl : n = (pav S (avc S c)).length
      · rw [if_pos cl] at hf ⊢
        refine wp_it (by rw [cl]) (wp_ck (ixb_t (by omega) (by omega)) ?_)
        rw [nI_clamp (by omega)]
        obtain ⟨g1, _⟩ := fi_pop h8 hI
        refine ih f (k + 1) _ ss _ lk _ sq sef qn qf hf g1 ⟨rfl, t, Sc, rfl, q4, c3, cf_set c4 nz (by decide), fun z hz nn' => ?_, fun z hz nn' => ?_⟩ hU (by omega) (by omega)
        · show upd stf c 2 z = nI (cu col (avc S c) 2 (avc S z))
          unfold cu
          by_cases q : z = c
          · subst q
            rw [pk_us, if_pos rfl]
            rfl
          · rw [pk_un q, if_neg (fun w => q (av_inj w nn'))]
            exact c5 z hz nn'
        · have q : z ≠ c := fun q => nn' (by rw [q]; exact nc)
          rw [pk_un q]
          exact c6 z hz nn'
      · rw [if_neg cl] at hf ⊢
        have hn : n < (pav S (avc S c)).length := by omega
        refine wp_if (fun z => cl ((nI_eq (by omega) (by omega)).mp z)) (wp_bind (in_push (nI c) q4 (by omega)) ?_)
        rintro ⟨⟨qs1, qn1, qf1⟩, mq1, sk1⟩ ⟨k1, k2, k3, k4⟩
        dsimp only
        refine wp_al (wp_bind (in_push (nI n + 1) k1 (by rw [List.length_append, List.length_singleton]; omega)) ?_)
        rintro ⟨⟨qs2, qn2, qf2⟩, mq2, sk2⟩ ⟨m1, m2, m3, m4⟩
        rw [List.length_append, List.length_singleton] at m4
        rw [nI_1] at m1
        have m1' : IN (pr ((c, n + 1) :: t)) qs2 qn2 qf2 := m1
        dsimp only
        obtain ⟨y, y1, y2⟩ := ct_pa h a b d e g i j hc hn
        have Dy : D (avc S y) := by
          obtain ⟨hy', ey⟩ := List.getElem?_eq_some_iff.mp y2
          refine hD.2 _ _ Dc ?_
          rw [← ey]
          exact List.getElem_mem hy'
        have ey : (pav S (avc S c)).getD n (none, 0) = avc S y := by rw [List.getD_eq_getElem?_getD, y2]; rfl
        rw [ey] at hf ⊢
        obtain ⟨x, lk', x1, x2, x3, x4, x5, x6, x7, _⟩ := ur_root hS hB hM a b d e g i j hln hK hU hr (hDc y Dy)
        have Dx : D (avc S x) := by rw [x3]; exact hρ _ (hμ _ Dy).1
        dsimp only at hf
        rw [← x3] at hf ⊢
        obtain ⟨g1, _⟩ := fi_sp h8 hD hI hn Dx
        refine wp_al (wp_bs y1 (wp_bs x1 (wp_ck (ixb_t (by omega) (by omega)) ?_)))
        rw [nI_clamp (by omega)]
        have FIN : ∀ (s' : Fs) (sq' qn' mq sk : Nat) (v : (Int32 × (Nat → Int32) × (Nat → Int32) × Int32 × Nat × (Nat → Int32) × Int32 × Nat × (Nat → Int32))) (mq' sk' : Nat), FP S s' lk' rc mu K sq' qn' (v, mq', sk') → wc (sq + qn2) (sq' + qn') mq sk → FP S s' lk rc mu K sq qn (v, mq' + mq + mq2 + mq1, sk' + sk + sk2 + sk1) := by
          rintro s' sq' qn' mq sk ⟨r, lk2, stf', ss', sq2, sef', qs', qn3, qf'⟩ mq' sk' ⟨w1, w2, w3, w4, w5, w6, w7, w8⟩ ⟨v1, v2⟩
          refine ⟨w1, w2, fun z => (w3 z).trans (x6 z), w4, w5, w6, ?_, ?_⟩
          · show 64 * (mq' + mq + mq2 + mq1) + (sq + qn) ≤ sq2 + qn3
            omega
          · show sk' + sk + sk2 + sk1 + 2 * (sq + qn) ≤ 2 * (sq2 + qn3)
            omega
        -- go on with the next part
        have NX : ∀ (stf2 : Nat → Int32) (ss2 : Int32) (sq2 : Nat) (sef2 : Nat → Int32) (Sc2 : List Nat) (qs3 : Int32) (qn3 : Nat) (qf3 : Nat → Int32) (f2 k2 : Nat), fsp (avc S c) n (t.map (fun p => (avc S p.1, p.2))) col E (avc S x) = ((avc S c, n + 1) :: t.map (fun p => (avc S p.1, p.2)), col, E, false) → CF (200 + S.length) stf2 Sc2 ss2 sq2 sef2 → (∀ c, c < 200 + S.length → (avc S c).1 = none → stf2 c = nI (col (avc S c))) → (∀ c, c < 200 + S.length → (avc S c).1 ≠ none → stf2 c = 0 ∨ stf2 c = 2) → IN (pr ((c, n + 1) :: t)) qs3 qn3 qf3 → qn3 ≤ 100000 → k2 ≤ k + 2 → f ≤ f2 + 1 → wp (p_Unifier_standsInNone_11 pure_n a b d e g i j sn sf fn ff tp tn tf 200 bc ln stn f2 (nI k2) ss2 qs3 lk' stf2 sq2 sef2 qn3 qf3) (FP S (fn' S (fun z => ρ (μ z)) m (fsp (avc S c) n (t.map (fun p => (avc S p.1, p.2))) col E (avc S x))) lk' rc mu K sq2 qn3) := by
          intro stf2 ss2 sq2 sef2 Sc2 qs3 qn3 qf3 f2 k2 eu z1 z2 z3 z4 z5 z6 z7
          rw [eu] at hf g1 ⊢
          exact ih f2 k2 _ ss2 qs3 lk' stf2 sq2 sef2 qn3 qf3 hf g1 ⟨rfl, (c, n + 1) :: t, Sc2, rfl, z4, z5, z1, z2, z3⟩ x5 (by omega) (by omega)
        by_cases ni : (avc S x).1 ≠ none
        · -- an integer
          have eu : fsp (avc S c) n (t.map (fun p => (avc S p.1, p.2))) col E (avc S x) = ((avc S c, n + 1) :: t.map (fun p => (avc S p.1, p.2)), col, E, false) := if_pos ni
          rcases c6 x x2 ni with z | z
          · refine wp_if (by rw [z]; decide) (wp_ck (ixb_t (by omega) (by omega)) (wp_it z (wp_bind (ue_enter (N := 200 + S.length) (by omega) hst c4 m1' (by omega) (by rw [List.length_cons]; omega) x2 z) ?_)))
            rintro ⟨⟨stf3, ss3, sq3, sef3, qs3, qn3, qf3⟩, mq3, sk3⟩ ⟨rfl, w2, w3, w4, w5⟩
            dsimp only
            rw [pr] at w3
            obtain ⟨r1, r2⟩ := in_pop w3
            obtain ⟨r3, r4⟩ := in_pop r2
            have e3 : qs3 = nI (2 * (t.length + 2)) := by
              rw [w3.1, List.length_append, List.length_append, pr_len, List.length_cons]
              congr 1
            obtain ⟨f, rfl⟩ : ∃ z, f = z + 1 := ⟨f - 1, by omega⟩
            have px : (pav S (avc S x)).length = 0 := by
              unfold pav
              rw [if_neg (fun q => ni q.1)]
              rfl
            refine wp_al (wp_mono (P := FP S (fn' S (fun z => ρ (μ z)) m (fsp (avc S c) n (t.map (fun p => (avc S p.1, p.2))) col E (avc S x))) lk' rc mu K sq3 qn3) ?_ (fun v hv => FIN _ sq3 qn3 mq3 sk3 v.1 v.2.1 v.2.2 hv w5))
            rw [p_Unifier_standsInNone_11]
            unfold p_Ints_size
            refine wp_if (show ¬ 1000000 ≤ nI (k + 1) from nI_ge (b := 1000000) (by omega) (by omega)) (wp_bs rfl (wp_if (by rw [e3]; exact (nI_ge (a := 0) (by omega) (by omega))) (wp_bs r1 (wp_bs r3 (wp_bs (ct_po h a b d e g i j x2) (wp_it (by rw [px]) (wp_ck (ixb_t (by omega) (by omega)) ?_)))))))
            rw [nI_clamp (by omega), nI_1]
            refine NX _ ss3 sq3 sef3 _ _ qn3 qf3 f (k + 1 + 1) eu (cf_set w2 (by rw [pk_us]; decide) (by decide)) (fun u hu nu => ?_) (fun u hu nu => ?_) r4 w4 (by omega) (by omega)
            · have q : u ≠ x := fun q => ni (by rw [← q]; exact nu)
              rw [pk_un q, pk_un q]
              exact c5 u hu nu
            · by_cases q : u = x
              · subst q
                rw [pk_us]
                exact Or.inr rfl
              · rw [pk_un q, pk_un q]
                exact c6 u hu nu
          · refine wp_if (by rw [z]; decide) (wp_ck (ixb_t (by omega) (by omega)) (wp_if (by rw [z]; decide) ?_))
            have G := NX stf ss sq sef Sc qs2 qn2 qf2 f (k + 1) eu c4 c5 c6 m1' (by omega) (by omega) (by omega)
            refine wp_mono G (fun v hv => ?_)
            have := FIN _ sq qn2 0 0 v.1 v.2.1 v.2.2 hv (wc_refl _)
            exact this
        · have nn' : (avc S x).1 = none := by
            cases hq : (avc S x).1 with
            | none => rfl
            | some z => exact absurd (by rw [hq]; exact fun q => by cases q) ni
          have es := c5 x x2 nn'
          have le2 := hI.2.2.2.2 (avc S x)
          dsimp only at le2
          by_cases d1 : col (avc S x) = 1
          · have eu : fsp (avc S c) n (t.map (fun p => (avc S p.1, p.2))) col E (avc S x) = ((avc S c, n + 1) :: t.map (fun p => (avc S p.1, p.2)), col, E, true) := by
              unfold fsp
              rw [if_neg ni, if_pos d1]
            refine wp_it (by rw [es, d1]; rfl) (wp_some ?_)
            rw [eu, fn_fin m (Or.inr rfl)]
            exact FIN _ sq qn2 0 0 _ 0 0 ⟨rfl, x5, fun _ => Iff.rfl, ⟨Sc, c4⟩, ⟨_, m1'⟩, by omega, wc_refl _⟩ (wc_refl _)
          · refine wp_if (fun z => d1 ((nI_eq (b := 1) (by omega) (by omega)).mp (by rw [← es]; exact z))) (wp_ck (ixb_t (by omega) (by omega)) ?_)
            by_cases d0 : col (avc S x) = 0
            · have eu : fsp (avc S c) n (t.map (fun p => (avc S p.1, p.2))) col E (avc S x) = ((avc S x, 0) :: (avc S c, n + 1) :: t.map (fun p => (avc S p.1, p.2)), cu col (avc S x) 1, avc S x :: E, false) := by
                unfold fsp
                rw [if_neg ni, if_neg d1, if_pos d0]
              have z : stf x = 0 := by rw [es, d0]; rfl
              refine wp_it z (wp_bind (ue_enter (N := 200 + S.length) (by omega) hst c4 m1' (by omega) (by rw [List.length_cons]; omega) x2 z) ?_)
              rintro ⟨⟨stf3, ss3, sq3, sef3, qs3, qn3, qf3⟩, mq3, sk3⟩ ⟨rfl, w2, w3, w4, w5⟩
              dsimp only
              rw [eu] at hf g1 ⊢
              refine wp_al (wp_mono (ih f (k + 1) _ ss3 qs3 lk' _ sq3 sef3 qn3 qf3 hf g1 ⟨rfl, (x, 0) :: (c, n + 1) :: t, _, rfl, w3, w4, w2, fun u hu nu => ?_, fun u hu nu => ?_⟩ x5 (by omega) (by omega)) (fun v hv => FIN _ sq3 qn3 mq3 sk3 v.1 v.2.1 v.2.2 hv w5))
              · show upd stf x 1 u = nI (cu col (avc S x) 1 (avc S u))
                unfold cu
                by_cases q : u = x
                · subst q
                  rw [pk_us, if_pos rfl]
                  rfl
                · rw [pk_un q, if_neg (fun w => q (av_inj w nu))]
                  exact c5 u hu nu
              · have q : u ≠ x := fun q => nu (by rw [q]; exact nn')
                rw [pk_un q]
                exact c6 u hu nu
            · have eu : fsp (avc S c) n (t.map (fun p => (avc S p.1, p.2))) col E (avc S x) = ((avc S c, n + 1) :: t.map (fun p => (avc S p.1, p.2)), col, E, false) := by
                unfold fsp
                rw [if_neg ni, if_neg d1, if_neg d0]
              refine wp_if (fun z => d0 ((nI_eq (b := 0) (by omega) (by omega)).mp (by rw [← es]; exact z))) ?_
              have G := NX stf ss sq sef Sc qs2 qn2 qf2 f (k + 1) eu c4 c5 c6 m1' (by omega) (by omega) (by omega)
              refine wp_mono G (fun v hv => ?_)
              have := FIN _ sq qn2 0 0 v.1 v.2.1 v.2.2 hv (wc_refl _)
              exact this
/-! ===== the reference looks for a term in itself ===== -/
def RQ (ML : Nat) (cof : Nat → Int32) (Pr : List Nat) (pai : Int32) (ptf : Nat → Int32) : Prop := pai = nI Pr.length ∧ la (Pr.map nI) ptf ∧ Pr.Nodup ∧ (∀ x, x ∈ Pr → x < ML) ∧ ∀ x, x < 404300 → (cof x ≠ 0 ↔ x ∈ Pr)
theorem rq_len {ML : Nat} {up : Nat → Int32} {Jr : List Nat} {tou : Int32} {tuf : Nat → Int32} (h : RQ ML up Jr tou tuf) : Jr.length ≤ ML := nd_le ML Jr h.2.2.1 h.2.2.2.1
theorem rq_paint (a b c d e g : Int32) {ML : Nat} (hM : ML ≤ 30000) {cof : Nat → Int32} {Pr : List Nat} {pai : Int32} {ptf : Nat → Int32} (h : RQ ML cof Pr pai ptf) {x : Nat} (hx : x < ML) (ex : cof x = 0) : ∃ pai' ptf', p_Mo_paint (nI x) 1 a b c d e g pai 404300 cof 404300 ptf = some (pai', upd cof x 1, ptf') ∧ RQ ML (upd cof x 1) (Pr ++ [x]) pai' ptf' := by
  have hl := rq_len h
  obtain ⟨h1, h2, h3, h4, h5⟩ := h
  have na : x ∉ Pr := fun z => (h5 x (by omega)).mpr z ex
  refine ⟨nI (Pr.length + 1), upd ptf Pr.length (nI x), ?_, ?_, ?_, ?_, fun c hc => ?_, fun c hc => ?_⟩
  · unfold p_Mo_paint
    rw [ck_t (ixb_t (by omega) (by omega)), h1, ck_t (ixb_t (by omega) (by omega)), nI_1, nI_clamp (by omega), nI_clamp (by omega)]
    rfl
  · rw [List.length_append, List.length_singleton]
  · rw [List.map_append]
    refine la_app h2 (fun j hj => ?_) ?_
    · rw [List.length_map] at hj
      exact pk_un (by omega)
    · rw [List.length_map]
      exact pk_us
  · rw [List.nodup_append]
    refine ⟨h3, by simp, fun z hz w hw e => ?_⟩
    rw [List.mem_singleton] at hw
    subst hw e
    exact na hz
  · rcases List.mem_append.mp hc with z | z
    · exact h4 c z
    · rw [List.mem_singleton] at z
      subst z
      exact hx
  · by_cases q : c = x
    · subst q
      rw [pk_us]
      exact ⟨fun _ => List.mem_append_right _ (List.mem_singleton.mpr rfl), fun _ => by decide⟩
    · rw [pk_un q, h5 c hc]
      exact ⟨fun z => List.mem_append_left _ z, fun z => by
        rcases List.mem_append.mp z with z | z
        · exact z
        · exact absurd (List.mem_singleton.mp z) q⟩
theorem rq_set {ML : Nat} {cof : Nat → Int32} {Pr : List Nat} {pai : Int32} {ptf : Nat → Int32} (h : RQ ML cof Pr pai ptf) {x : Nat} {v : Int32} (hx : x < 404300) (ex : cof x ≠ 0) (hv : v ≠ 0) : RQ ML (upd cof x v) Pr pai ptf := by
  obtain ⟨h1, h2, h3, h4, h5⟩ := h
  refine ⟨h1, h2, h3, h4, fun c hc => ?_⟩
  by_cases q : c = x
  · subst q
    rw [pk_us]
    exact ⟨fun _ => (h5 c hc).mp ex, fun _ => hv⟩
  · rw [pk_un q]
    exact h5 c hc
def FR2 (S : List Nd) (M : List Rf) (ndf : Nat → Int32) (B : Nat → Option Av) (s : Fs) (X : Int32) (tof cof : Nat → Int32) (pai : Int32) (ptf : Nat → Int32) : Prop := s.2.2.2 = false ∧ ∃ (px : List (Nat × Nat)) (Pr : List Nat), s.1 = px.map (fun p => (arx S M p.1, p.2)) ∧ (∀ p, p ∈ px → RG S M ndf B p.1) ∧ X = nI px.length - 1 ∧ la (pr px) tof ∧ RQ M.length cof Pr pai ptf ∧ (∀ x, RG S M ndf B x → (arx S M x).1 = none → cof x = nI (s.2.1 (arx S M x))) ∧ (∀ x, RG S M ndf B x → (arx S M x).1 ≠ none → cof x = 0 ∨ cof x = 2)
def FQ (M : List Rf) (s : Fs) : T5 → Prop := fun (r, pai', tof', cof', ptf') => r = b1 (! s.2.2.2) ∧ ∃ Pr, RQ M.length cof' Pr pai' ptf'
theorem rc_many {TR : List (List Int32)} {S : List Nd} {M : List Rf} {P : Nat} {sz pt : Int32} {kf nf ff mf pf : Nat → Int32} {bf : Nat → Int64} {V : List (List Int32)} {ndf br : Nat → Int32} {B : Nat → Option Av} {rk : Nat → Nat} {μ : Av → Av} (hC : RCx TR S M P sz pt kf nf ff mf pf bf V ndf br B rk μ) {x : Nat} (hx : x < M.length) : mf x = nI (pav S (arx S M x)).length ∧ ((pav S (arx S M x)).length ≠ 0 → kf x = 2) := by
  rcases rc_case hC hx with ⟨v, v1, v2, v3, v4, v5, v6⟩ | ⟨i, d, i1, i2, ⟨z, z1, z2, z3, z4, z5⟩ | ⟨z1, z2, z3, z4, z5, z6, z7, z8, _⟩⟩
  · have e : pav S (arx S M x) = [] := by
      rw [v3]
      unfold pav
      rw [if_neg (by have := hC.2.2.1; dsimp only; omega)]
    rw [e]
    exact ⟨v6, fun q => absurd rfl q⟩
  · have e : pav S (arx S M x) = [] := by
      rw [z2]
      unfold pav
      rw [if_neg (by intro q; cases q.1)]
    rw [e]
    exact ⟨z5, fun q => absurd rfl q⟩
  · rw [z7, List.length_map]
    exact ⟨z6, fun _ => z3⟩
theorem mf_loop {TR : List (List Int32)} {S : List Nd} {M : List Rf} {P : Nat} {sz pt : Int32} {kf nf ff mf pf : Nat → Int32} {bf : Nat → Int64} {V : List (List Int32)} {ndf br : Nat → Int32} {B : Nat → Option Av} {rk : Nat → Nat} {μ : Av → Av} (hC : RCx TR S M P sz pt kf nf ff mf pf bf V ndf br B rk μ) (h8 : D8 S) (hS : S.length ≤ 20700) (hM3 : M.length ≤ 30000) {D : Av → Prop} (hD : DO S D) (hμ : ∀ z, D z → D (μ z) ∧ fa B (μ z)) (a b c d e tou : Int32) {up : Nat → Int32} {ru mu : Nat → Nat} {K : Nat} (hK : K ≤ 50000) (hU : UG up (RG S M ndf B) ru mu K) {ρ : Av → Av} (hr : ∀ x, RG S M ndf B x → arx S M (ru x) = ρ (arx S M x)) (hρ : ∀ z, D z → D (ρ z)) : ∀ (m f : Nat) (s : Fs) (X pai : Int32) (tof cof ptf : Nat → Int32), ffin (fn' S (fun z => ρ (μ z)) m s) → FI S D s → FR2 S M ndf B s X tof cof pai ptf → 2 * m < f → wp (p_Mo_finite_31 pure_n a b c d e tou sz pt 404300 kf 404300 nf 404300 ff 404300 mf 404300 pf 4300 br 4300 ndf 404300 up 808600 404300 404300 f X pai tof cof ptf) (FQ M (fn' S (fun z => ρ (μ z)) m s)) := by
  have hml := hC.1.2.2.1
  have done : ∀ (f : Nat) (s : Fs) (X pai : Int32) (tof cof ptf : Nat → Int32), s.1 = [] → FR2 S M ndf B s X tof cof pai ptf → wp (p_Mo_finite_31 pure_n a b c d e tou sz pt 404300 kf 404300 nf 404300 ff 404300 mf 404300 pf 4300 br 4300 ndf 404300 up 808600 404300 404300 (f + 1) X pai tof cof ptf) (FQ M s) := by
    intro f s X pai tof cof ptf hs ⟨c0, px, Pr, c1, c2, c3, c4, c5, c6, c7⟩
    have e : px = [] := by
      rw [hs] at c1
      exact List.map_eq_nil_iff.mp c1.symm
    subst e
    rw [p_Mo_finite_31]
    exact wp_it (by rw [c3]; decide) (wp_some ⟨by rw [c0]; rfl, Pr, c5⟩)
  intro m
  induction m with
  | zero =>
    intro f s X pai tof cof ptf hf hI hF hm
    obtain ⟨f, rfl⟩ : ∃ z, f = z + 1 := ⟨f - 1, by omega⟩
    rw [fn'] at hf ⊢
    refine done f s X pai tof cof ptf ?_ hF
    rcases hf with z | z
    · exact z
    · have := hF.1
      rw [this] at z
      cases z
  | succ m ih =>
    intro f s X pai tof cof ptf hf hI hF hm
    obtain ⟨f, rfl⟩ : ∃ z, f = z + 1 := ⟨f - 1, by omega⟩
    have hE := fi_E hD hI
    have hF0 := hF
    obtain ⟨c0, px, Pr, c1, c2, c3, c4, c5, c6, c7⟩ := hF
    cases px with
    | nil =>
      have fi : ffin s := Or.inl c1
      rw [fn_fin (m + 1) fi]
      exact done f s X pai tof cof ptf c1 hF0
    | cons p t =>
      obtain ⟨x, n⟩ := p
      obtain ⟨pa, col, E, fl⟩ := s
      dsimp only at c0 c1 c6
      subst c0
      rw [List.map_cons] at c1
      subst c1
      have Gx : RG S M ndf B x := c2 (x, n) (List.mem_cons_self ..)
      have hx := Gx.1
      have hp := hI.2.2.2.1 (arx S M x, n) (List.mem_cons_self ..)
      have hEl := hI.2.2.1
      dsimp only at hp hEl hE
      rw [List.length_cons, List.length_map] at hEl
      obtain ⟨Dc, nc, colc⟩ := hI.2.1 _ hp.1
      dsimp only at colc
      have l8 := pav_8 h8 (arx S M x)
      rw [List.length_cons, nI_pred] at c3
      subst c3
      have c4' := c4
      rw [pr] at c4'
      obtain ⟨l1, l2, l3⟩ := la_top c4'
      rw [pr_len] at l1 l2
      obtain ⟨e1, e2⟩ := rc_many hC hx
      have e3 : (2 : Int32) * nI t.length = nI (2 * t.length) := pk_mul 2 t.length
      have e4 : (2 : Int32) * nI (t.length + 1) = nI (2 * (t.length + 1)) := pk_mul 2 (t.length + 1)
      have hcx : cof x ≠ 0 := by
        rw [c6 x Gx nc]
        have := hI.2.2.2.2 (arx S M x)
        dsimp only at this
        exact nI_ne0 (by omega) (by omega)
      rw [p_Mo_finite_31]
      rw [e3, nI_1, nI_1, e4, nI_1, nI_clamp (n := 2 * t.length) (by omega), nI_clamp (n := 2 * t.length + 1) (by omega), l1, l2, nI_clamp (n := x) (by omega), nI_clamp (n := 2 * (t.length + 1)) (by omega), nI_clamp (n := 2 * (t.length + 1) + 1) (by omega), e1, nI_1]
      refine wp_if (nI_pos (by omega)) (wp_ck (ixb_t (by omega) (by omega)) (wp_ck (ixb_t (by omega) (by omega)) (wp_ck (ixb_t (by omega) (by omega)) ?_)))
      rw [fn', fst'] at hf ⊢
      by_cases cl : n = (pav S (arx S M x)).length
      · rw [if_pos cl] at hf ⊢
        refine wp_it (by rw [cl]) (wp_ck (ixb_t (by omega) (by omega)) ?_)
        obtain ⟨g1, _⟩ := fi_pop h8 hI
        refine ih f _ _ pai tof _ ptf hf g1 ⟨rfl, t, Pr, rfl, fun p hp => c2 p (List.mem_cons_of_mem _ hp), sb1 _, l3, rq_set c5 (by omega) hcx (by decide), fun z hz nn' => ?_, fun z hz nn' => ?_⟩ (by omega)
        · show upd cof x 2 z = nI (cu col (arx S M x) 2 (arx S M z))
          unfold cu
          by_cases q : z = x
          · subst q
            rw [pk_us, if_pos rfl]
            rfl
          · rw [pk_un q, if_neg (fun w => q (rg_inj hC hz Gx w nn'))]
            exact c6 z hz nn'
        · have q : z ≠ x := fun q => nn' (by rw [q]; exact nc)
          show upd cof x 2 z = 0 ∨ upd cof x 2 z = 2
          rw [pk_un q]
          exact c7 z hz nn'
      · rw [if_neg cl] at hf ⊢
        have hn : n < (pav S (arx S M x)).length := by omega
        obtain ⟨y, y1, y2, y3⟩ := mr_pa hC hx hn
        have Dy : D (arx S M y) := by
          obtain ⟨hy', ey⟩ := List.getElem?_eq_some_iff.mp y3
          refine hD.2 _ _ Dc ?_
          rw [← ey]
          exact List.getElem_mem hy'
        have ey : (pav S (arx S M x)).getD n (none, 0) = arx S M y := by rw [List.getD_eq_getElem?_getD, y3]; rfl
        rw [ey] at hf ⊢
        obtain ⟨z, z1, z2, z3, z4, _⟩ := mr_root hC a b c d e tou pai sz pt hK hU hr y2
        have hz := z2.1
        have Dz : D (arx S M z) := by rw [z3]; exact hρ _ (hμ _ Dy).1
        dsimp only at hf
        rw [← z3] at hf ⊢
        obtain ⟨g1, _⟩ := fi_sp h8 hD hI hn Dz
        have la1 : la (pr ((x, n + 1) :: t)) (upd tof (2 * t.length + 1) (nI (n + 1))) := by
          show la (pr t ++ [nI x] ++ [nI (n + 1)]) _
          refine la_app (la_left c4') (fun j hj => ?_) ?_
          · rw [List.length_append, List.length_singleton, pr_len] at hj
            exact pk_un (by omega)
          · rw [List.length_append, List.length_singleton, pr_len]
            exact pk_us
        have la2 : la (pr ((z, 0) :: (x, n + 1) :: t)) (upd (upd (upd tof (2 * t.length + 1) (nI (n + 1))) (2 * (t.length + 1)) (nI z)) (2 * (t.length + 1) + 1) 0) := by
          show la (pr ((x, n + 1) :: t) ++ [nI z] ++ [nI 0]) _
          refine la_app (la_app (g := upd (upd tof (2 * t.length + 1) (nI (n + 1))) (2 * (t.length + 1)) (nI z)) la1 (fun j hj => ?_) ?_) (fun j hj => ?_) ?_
          · rw [pr_len, List.length_cons] at hj
            exact pk_un (by omega)
          · rw [pr_len, List.length_cons]
            exact pk_us
          · rw [List.length_append, List.length_singleton, pr_len, List.length_cons] at hj
            exact pk_un (by omega)
          · rw [List.length_append, List.length_singleton, pr_len, List.length_cons]
            exact pk_us
        have R1 : ∀ p, p ∈ (x, n + 1) :: t → RG S M ndf B p.1 := fun p hp => by
          rcases List.mem_cons.mp hp with rfl | hp
          · exact Gx
          · exact c2 p (List.mem_cons_of_mem _ hp)
        have R2 : ∀ p, p ∈ (z, 0) :: (x, n + 1) :: t → RG S M ndf B p.1 := fun p hp => by
          rcases List.mem_cons.mp hp with rfl | hp
          · exact z2
          · exact R1 p hp
        refine wp_if (fun q => cl ((nI_eq (by omega) (by omega)).mp q)) (wp_ck (ixb_t (by omega) (by omega)) (wp_it (e2 (by omega)) (wp_ck (ixb_t (by omega) (by omega)) (wp_ck (ixb_t (by omega) (by omega)) (wp_bs y1 (wp_bs z1 (wp_ck (ixb_t (by omega) (by omega)) ?_)))))))
        rw [nI_clamp (n := z) (by omega)]
        -- go on with the next part
        have NX : ∀ (tof2 cof2 : Nat → Int32) (Pr2 : List Nat) (pai2 : Int32) (ptf2 : Nat → Int32) (X2 : Int32) (f2 : Nat), fsp (arx S M x) n (t.map (fun p => (arx S M p.1, p.2))) col E (arx S M z) = ((arx S M x, n + 1) :: t.map (fun p => (arx S M p.1, p.2)), col, E, false) → X2 = nI t.length → la (pr ((x, n + 1) :: t)) tof2 → RQ M.length cof2 Pr2 pai2 ptf2 → (∀ x, RG S M ndf B x → (arx S M x).1 = none → cof2 x = nI (col (arx S M x))) → (∀ x, RG S M ndf B x → (arx S M x).1 ≠ none → cof2 x = 0 ∨ cof2 x = 2) → f ≤ f2 + 1 → wp (p_Mo_finite_31 pure_n a b c d e tou sz pt 404300 kf 404300 nf 404300 ff 404300 mf 404300 pf 4300 br 4300 ndf 404300 up 808600 404300 404300 f2 X2 pai2 tof2 cof2 ptf2) (FQ M (fn' S (fun z => ρ (μ z)) m (fsp (arx S M x) n (t.map (fun p => (arx S M p.1, p.2))) col E (arx S M z)))) := by
          intro tof2 cof2 Pr2 pai2 ptf2 X2 f2 eu w1 w2 w3 w4 w5 w6
          rw [eu] at hf g1 ⊢
          exact ih f2 _ X2 pai2 tof2 cof2 ptf2 hf g1 ⟨rfl, (x, n + 1) :: t, Pr2, rfl, R1, by rw [w1, List.length_cons, nI_pred], w2, w3, w4, w5⟩ (by omega)
        by_cases ni : (arx S M z).1 ≠ none
        · have eu : fsp (arx S M x) n (t.map (fun p => (arx S M p.1, p.2))) col E (arx S M z) = ((arx S M x, n + 1) :: t.map (fun p => (arx S M p.1, p.2)), col, E, false) := if_pos ni
          rcases c7 z z2 ni with w | w
          · obtain ⟨pai3, ptf3, v1, v2⟩ := rq_paint a b c d e tou hM3 c5 hz w
            refine wp_if (by rw [w]; decide) (wp_ck (ixb_t (by omega) (by omega)) (wp_if (by rw [w]; decide) (wp_bs v1 (wp_ck (ixb_t (by omega) (by omega)) (wp_ck (ixb_t (by omega) (by omega)) ?_)))))
            obtain ⟨f, rfl⟩ : ∃ z, f = z + 1 := ⟨f - 1, by omega⟩
            obtain ⟨k1, k2, k3⟩ := la_top (l := pr ((x, n + 1) :: t)) (x := nI z) (y := nI 0) la2
            rw [pr_len, List.length_cons] at k1 k2
            obtain ⟨e5, _⟩ := rc_many hC hz
            have px0 : (pav S (arx S M z)).length = 0 := by
              unfold pav
              rw [if_neg (fun q => ni q.1)]
              rfl
            rw [px0] at e5
            rw [p_Mo_finite_31]
            rw [e4, nI_1, nI_clamp (n := 2 * (t.length + 1)) (by omega), nI_clamp (n := 2 * (t.length + 1) + 1) (by omega), k1, k2, nI_clamp (n := z) (by omega)]
            refine wp_if (nI_pos (by omega)) (wp_ck (ixb_t (by omega) (by omega)) (wp_ck (ixb_t (by omega) (by omega)) (wp_ck (ixb_t (by omega) (by omega)) (wp_it e5.symm (wp_ck (ixb_t (by omega) (by omega)) ?_)))))
            refine NX _ _ _ pai3 ptf3 _ f eu (by rw [sb1, nI_pred]) k3 (rq_set v2 (by omega) (by rw [pk_us]; decide) (by decide)) (fun u hu nu => ?_) (fun u hu nu => ?_) (by omega)
            · have q : u ≠ z := fun q => ni (by rw [← q]; exact nu)
              rw [pk_un q, pk_un q]
              exact c6 u hu nu
            · by_cases q : u = z
              · subst q
                rw [pk_us]
                exact Or.inr rfl
              · rw [pk_un q, pk_un q]
                exact c7 u hu nu
          · exact wp_if (by rw [w]; decide) (wp_ck (ixb_t (by omega) (by omega)) (wp_it w (NX _ cof Pr pai ptf _ f eu rfl la1 c5 c6 c7 (by omega))))
        · have nn' : (arx S M z).1 = none := by
            cases hq : (arx S M z).1 with
            | none => rfl
            | some w => exact absurd (by rw [hq]; exact fun q => by cases q) ni
          have es := c6 z z2 nn'
          have le2 := hI.2.2.2.2 (arx S M z)
          dsimp only at le2
          by_cases d1 : col (arx S M z) = 1
          · have eu : fsp (arx S M x) n (t.map (fun p => (arx S M p.1, p.2))) col E (arx S M z) = ((arx S M x, n + 1) :: t.map (fun p => (arx S M p.1, p.2)), col, E, true) := by
              unfold fsp
              rw [if_neg ni, if_pos d1]
            refine wp_it (by rw [es, d1]; rfl) (wp_some ?_)
            rw [eu, fn_fin m (Or.inr rfl)]
            exact ⟨rfl, Pr, c5⟩
          · refine wp_if (fun w => d1 ((nI_eq (b := 1) (by omega) (by omega)).mp (by rw [← es]; exact w))) (wp_ck (ixb_t (by omega) (by omega)) ?_)
            by_cases d0 : col (arx S M z) = 0
            · have eu : fsp (arx S M x) n (t.map (fun p => (arx S M p.1, p.2))) col E (arx S M z) = ((arx S M z, 0) :: (arx S M x, n + 1) :: t.map (fun p => (arx S M p.1, p.2)), cu col (arx S M z) 1, arx S M z :: E, false) := by
                unfold fsp
                rw [if_neg ni, if_neg d1, if_pos d0]
              have w : cof z = 0 := by rw [es, d0]; rfl
              obtain ⟨pai3, ptf3, v1, v2⟩ := rq_paint a b c d e tou hM3 c5 hz w
              refine wp_if (by rw [w]; decide) (wp_bs v1 (wp_ck (ixb_t (by omega) (by omega)) (wp_ck (ixb_t (by omega) (by omega)) ?_)))
              rw [eu] at hf g1 ⊢
              refine ih f _ _ pai3 _ _ ptf3 hf g1 ⟨rfl, (z, 0) :: (x, n + 1) :: t, _, rfl, R2, by rw [List.length_cons, List.length_cons, nI_pred], la2, v2, fun u hu nu => ?_, fun u hu nu => ?_⟩ (by omega)
              · show upd cof z 1 u = nI (cu col (arx S M z) 1 (arx S M u))
                unfold cu
                by_cases q : u = z
                · subst q
                  rw [pk_us, if_pos rfl]
                  rfl
                · rw [pk_un q, if_neg (fun w => q (rg_inj hC hu z2 w nu))]
                  exact c6 u hu nu
              · have q : u ≠ z := fun q => nu (by rw [q]; exact nn')
                rw [pk_un q]
                exact c7 u hu nu
            · have d2 : col (arx S M z) = 2 := by omega
              have eu : fsp (arx S M x) n (t.map (fun p => (arx S M p.1, p.2))) col E (arx S M z) = ((arx S M x, n + 1) :: t.map (fun p => (arx S M p.1, p.2)), col, E, false) := by
                unfold fsp
                rw [if_neg ni, if_neg d1, if_neg d0]
              exact wp_it (by rw [es, d2]; rfl) (NX _ cof Pr pai ptf _ f eu rfl la1 c5 c6 c7 (by omega))
/-! ===== the class: room, binding, clearing ===== -/
theorem ud_cut {l : List Int32} {s : Int32} {N : Nat} {f : Nat → Int32} (h : IN l s N f) : p_Ints_cut 0 s = some 0 ∧ IN [] 0 N f := by
  have := in_cut h (k := 0) (Nat.zero_le _)
  rw [nI_0] at this
  exact this
theorem uc_35 (n : Nat) {N stn : Nat} (hN : N ≤ 20900) (hst : N ≤ stn) {ps js qs : Int32} (hp : p_Ints_cut 0 ps = some 0) (hj : p_Ints_cut 0 js = some 0) (hq : p_Ints_cut 0 qs = some 0) {Sc : List Nat} {ss : Int32} {sq : Nat} {sef : Nat → Int32} (hI : IN (Sc.map nI) ss sq sef) (hlt : ∀ c, c ∈ Sc → c < N) (lk : Nat → Int32) : ∀ (m i f : Nat) (stf : Nat → Int32), i + m = Sc.length → m < f → (∀ c, stf c ≠ 0 → c ∈ Sc.drop i) → ∃ stf', p_Unifier_clear_35 n stn ps js ss sq sef qs lk f (nI i) stf = some (lk, stf', 0, 0, 0, 0) ∧ ∀ c, stf' c = 0 := by
  have e1 : ss = nI Sc.length := by rw [hI.1, List.length_map]
  have hb : Sc.length < 2147483648 := by
    have a1 := hI.2.1
    have a2 := hI.2.2.2.1
    rw [List.length_map] at a1
    omega
  intro m
  induction m with
  | zero =>
    intro i f stf hi hf hd
    obtain ⟨f, rfl⟩ : ∃ z, f = z + 1 := ⟨f - 1, by omega⟩
    refine ⟨stf, ?_, fun c => ?_⟩
    · rw [p_Unifier_clear_35]
      unfold p_Ints_size
      rw [Option.bind_some, if_pos (by rw [e1]; exact nI_le (by omega) (by omega)), hj, Option.bind_some, (ud_cut hI).1, Option.bind_some, hp, Option.bind_some, hq, Option.bind_some]
    · by_cases q : stf c = 0
      · exact q
      · have := hd c q
        rw [List.drop_of_length_le (by omega)] at this
        cases this
  | succ m ih =>
    intro i f stf hi hf hd
    obtain ⟨f, rfl⟩ : ∃ z, f = z + 1 := ⟨f - 1, by omega⟩
    have hil : i < Sc.length := by omega
    have at1 := in_at hI (j := i) (by rw [List.length_map]; exact hil)
    have eg : (Sc.map nI).getD i 0 = nI Sc[i] := by rw [List.getD_eq_getElem?_getD, List.getElem?_map, List.getElem?_eq_getElem hil]; rfl
    rw [eg] at at1
    have hc := hlt Sc[i] (List.getElem_mem hil)
    rw [p_Unifier_clear_35]
    unfold p_Ints_size
    rw [Option.bind_some, if_neg (by rw [e1]; exact nI_ge (by omega) (by omega)), at1, Option.bind_some, ck_t (ixb_t (by omega) (by omega)), nI_1, nI_clamp (by omega)]
    refine ih (i + 1) f _ (by omega) (by omega) (fun c hc' => ?_)
    by_cases q : c = Sc[i]
    · subst q
      rw [pk_us] at hc'
      exact absurd rfl hc'
    · rw [pk_un q] at hc'
      have := hd c hc'
      rw [List.drop_eq_getElem_cons hil] at this
      rcases List.mem_cons.mp this with z | z
      · exact absurd z q
      · exact z
theorem uc_clear {N ln stn : Nat} (hN : N ≤ 20900) (hln : N ≤ ln) (hst : N ≤ stn) {lk stf : Nat → Int32} {Jc Sc : List Nat} {js ss : Int32} {jq sq : Nat} {jf sef : Nat → Int32} (hJ : CF N lk Jc js jq jf) (hS' : CF N stf Sc ss sq sef) {ps qs : Int32} (hp : p_Ints_cut 0 ps = some 0) (hq : p_Ints_cut 0 qs = some 0) : ∃ lk' stf', p_Unifier_clear pure_n ln lk stn stf ps js jq jf ss sq sef qs = some (lk', stf', 0, 0, 0, 0) ∧ (∀ c, lk' c = 0) ∧ ∀ c, stf' c = 0 := by
  have hl := cf_len hJ
  have hl2 := cf_len hS'
  obtain ⟨h1, h2, h3, h4, h5⟩ := hJ
  obtain ⟨s1, s2, s3, s4, s5⟩ := hS'
  have e1 : js = nI Jc.length := by rw [h1.1, List.length_map]
  have L : ∀ (m i f : Nat) (lk : Nat → Int32), i + m = Jc.length → m < f → (∀ c, lk c ≠ 0 → c ∈ Jc.drop i) → ∃ lk' stf', p_Unifier_clear_2 pure_n ln stn stf ps js jq jf ss sq sef qs f (nI i) lk = some (lk', stf', 0, 0, 0, 0) ∧ (∀ c, lk' c = 0) ∧ ∀ c, stf' c = 0 := by
    intro m
    induction m with
    | zero =>
      intro i f lk hi hf hd
      obtain ⟨f, rfl⟩ : ∃ z, f = z + 1 := ⟨f - 1, by omega⟩
      obtain ⟨stf', g1, g2⟩ := uc_35 pure_n hN hst hp (ud_cut h1).1 hq s1 s4 lk Sc.length 0 pure_n stf (by omega) (by have := pure_ge; omega) (fun c hc => by rw [List.drop_zero]; exact (s5 c).mp hc)
      rw [nI_0] at g1
      refine ⟨lk, stf', ?_, fun c => ?_, g2⟩
      · rw [p_Unifier_clear_2]
        unfold p_Ints_size
        rw [Option.bind_some, if_pos (by rw [e1]; exact nI_le (by omega) (by omega)), g1]
      · by_cases q : lk c = 0
        · exact q
        · have := hd c q
          rw [List.drop_of_length_le (by omega)] at this
          cases this
    | succ m ih =>
      intro i f lk hi hf hd
      obtain ⟨f, rfl⟩ : ∃ z, f = z + 1 := ⟨f - 1, by omega⟩
      have hil : i < Jc.length := by omega
      have at1 := in_at h1 (j := i) (by rw [List.length_map]; exact hil)
      have eg : (Jc.map nI).getD i 0 = nI Jc[i] := by rw [List.getD_eq_getElem?_getD, List.getElem?_map, List.getElem?_eq_getElem hil]; rfl
      rw [eg] at at1
      have hc := h4 Jc[i] (List.getElem_mem hil)
      rw [p_Unifier_clear_2]
      unfold p_Ints_size
      rw [Option.bind_some, if_neg (by rw [e1]; exact nI_ge (by omega) (by omega)), at1, Option.bind_some, ck_t (ixb_t (by omega) (by omega)), nI_1, nI_clamp (by omega)]
      refine ih (i + 1) f _ (by omega) (by omega) (fun c hc' => ?_)
      by_cases q : c = Jc[i]
      · subst q
        rw [pk_us] at hc'
        exact absurd rfl hc'
      · rw [pk_un q] at hc'
        have := hd c hc'
        rw [List.drop_eq_getElem_cons hil] at this
        rcases List.mem_cons.mp this with z | z
        · exact absurd z q
        · exact z
  have := L Jc.length 0 pure_n lk (by omega) (by have := pure_ge; omega) (fun c hc => by rw [List.drop_zero]; exact (h5 c).mp hc)
  rw [nI_0] at this
  unfold p_Unifier_clear
  exact this
theorem um_room {N : Nat} (hN : N ≤ 20900) (h2 : 200 ≤ N) (b d e g i j : Int32) {ln : Nat} (hl : ln ≤ 50000) {lk stf : Nat → Int32} (h0 : (∀ c, lk c = 0) ∧ ∀ c, stf c = 0) : wp (p_Unifier_makeRoom (nI N) b d e g i j ln lk ln stf) (fun ((ln', lk', stn', stf'), mq, sk) => stn' = ln' ∧ N ≤ ln' ∧ ln' ≤ 50000 ∧ (∀ c, lk' c = 0) ∧ (∀ c, stf' c = 0) ∧ wc (2 * ln) (2 * ln') mq sk) := by
  have e2 : (2 : Int32) * nI N = nI (2 * N) := pk_mul 2 N
  unfold p_Unifier_makeRoom p_Terms_nodes
  refine wp_bs rfl (wp_ite ⟨fun c => wp_some ?_, fun c => ?_⟩)
  · refine ⟨rfl, ?_, hl, h0.1, h0.2, wc_refl _⟩
    exact (nI_leI (by omega) (by omega)).mp c
  · have c' : ¬ N ≤ ln := fun z => c ((nI_leI (by omega) (by omega)).mpr z)
    simp only [Option.bind_some, e2]
    refine (wp_ck (nab_t (by omega) (by omega)) (wp_al ((wp_ck (nab_t (by omega) (by omega)) (wp_al (wp_some ?_))))))
    rw [nI_clamp (by omega)]
    exact ⟨rfl, (show N ≤ 2 * N by omega), (show 2 * N ≤ 50000 by omega), fun _ => rfl, fun _ => rfl, by show 64 * (0 + 1 + 1) + 2 * ln ≤ 2 * (2 * N); omega, by show 0 + 2 * N + 2 * N + 2 * (2 * ln) ≤ 2 * (2 * (2 * N)); omega⟩
/-- the bindings afterwards -/
def Bn (B : Nat → Option Av) (ρ : Av → Av) (n : Nat) : Nat → Option Av := fun v => if v < n ∧ B v = none ∧ ρ (none, v) ≠ (none, v) then some (ρ (none, v)) else B v
theorem ub_bind {S : List Nd} (hS : S.length ≤ 20700) {B : Nat → Option Av} {bc : Nat → Int32} (hB : CBd S B bc) (a d e g i j : Int32) {nv : Nat} (hv : nv ≤ 200) {ln : Nat} (hln : 200 + S.length ≤ ln) {rc mu : Nat → Nat} {K : Nat} (hK : K ≤ 50000) {ρ : Av → Av} (hr : ∀ c, c < 200 + S.length → avc S (rc c) = ρ (avc S c)) (hb : ∀ z, ¬ fa B z → ρ z = z) : ∀ (m v f : Nat) (bc lk : Nat → Int32), v + m = nv → m < f → CBd S (Bn B ρ v) bc → UF lk (200 + S.length) rc mu K → ∃ bc' lk', p_Unifier_bindJoined_2 pure_n a (nI nv) d e g i j 200 ln f (nI v) bc lk = some (bc', lk') ∧ CBd S (Bn B ρ nv) bc' ∧ UF lk' (200 + S.length) rc mu K ∧ ∀ z, lk' z = 0 ↔ lk z = 0 := by
  intro m
  induction m with
  | zero =>
    intro v f bc lk hv' hf hC hU
    obtain ⟨f, rfl⟩ : ∃ z, f = z + 1 := ⟨f - 1, by omega⟩
    obtain rfl : v = nv := by omega
    refine ⟨bc, lk, ?_, hC, hU, fun _ => Iff.rfl⟩
    rw [p_Unifier_bindJoined_2]
    unfold p_Terms_variables
    rw [Option.bind_some, if_pos (nI_le (Nat.le_refl _) (by omega))]
  | succ m ih =>
    intro v f bc lk hv' hf hC hU
    obtain ⟨f, rfl⟩ : ∃ z, f = z + 1 := ⟨f - 1, by omega⟩
    have hvN : v < 200 + S.length := by omega
    rw [p_Unifier_bindJoined_2]
    unfold p_Terms_variables
    rw [Option.bind_some, if_neg (nI_ge (by omega) (by omega)), ck_t (ixb_t (by omega) (by omega)), nI_1, nI_clamp (by omega)]
    have eB : Bn B ρ v v = B v := by unfold Bn; rw [if_neg (by omega)]
    have rv := hr v hvN
    rw [av_v (show v < 200 by omega)] at rv
    by_cases c : lk v = 0
    · rw [if_pos c]
      refine ih (v + 1) f bc lk (by omega) (by omega) (fun u hu => ?_) hU
      have : Bn B ρ (v + 1) u = Bn B ρ v u := by
        unfold Bn
        by_cases q : u = v
        · subst q
          have : ρ (none, u) = (none, u) := by rw [← rv, uf_0 hU (by omega) hvN c, av_v (by omega)]
          rw [if_neg (by intro z; exact z.2.2 this), if_neg (by omega)]
        · by_cases q2 : u < v ∧ B u = none ∧ ρ (none, u) ≠ (none, u)
          · rw [if_pos q2, if_pos ⟨by omega, q2.2⟩]
          · rw [if_neg q2, if_neg (fun z => q2 ⟨by omega, z.2⟩)]
      rw [this]
      exact hC u hu
    · rw [if_neg c]
      obtain ⟨r1, r2⟩ := uf_root hU _ v (Nat.le_refl _) hvN
      have nr : rc v ≠ v := fun z => c (by rw [← z]; exact r2)
      have nρ : ρ (none, v) ≠ (none, v) := fun z => by
        rw [z] at rv
        exact nr (av_inj (S := S) (by rw [rv, av_v (by omega)]) (by rw [rv]))
      have Bv : B v = none := by
        cases hq : B v with
        | none => rfl
        | some w =>
          exfalso
          refine nρ (hb _ (fun z => ?_))
          have := z ⟨rfl, by show v < 200; omega⟩
          rw [hq] at this
          cases this
      have bv : bc v = -1 := by
        rcases hC v (by omega) with ⟨_, z⟩ | ⟨_, _, _, z⟩
        · exact z
        · rw [eB, Bv] at z
          cases z
      obtain ⟨lk', l1, l2, l3⟩ := ur_loop pure_n hln (by omega) (mu v) 0 v pure_n lk hU (Nat.le_refl _) (by have := (hU v hvN).1; omega) (by have := (hU v hvN).1; have := pure_ge; omega) hvN
      rw [nI_0] at l1
      have mt : p_Terms_meant pure_n (nI v) a (nI nv) d e g i j 200 bc = some (nI v) := by
        unfold p_Terms_meant
        rw [show pure_n = 4999999 + 1 from rfl, p_Terms_meant_4, if_neg (by decide), if_neg (show ¬ 200 ≤ nI v from nI_ge (b := 200) (by omega) (by omega)), ck_t (ixb_t (by omega) (by omega)), nI_clamp (by omega), if_pos bv]
      have rt : p_Unifier_rootOf pure_n (nI v) a (nI nv) d e g i j 200 bc ln lk = some (nI (rc v), lk') := by
        unfold p_Unifier_rootOf
        rw [mt, Option.bind_some, l1]
      have bd : p_Terms_bind (nI v) (nI (rc v)) a (nI nv) d e g i j 200 bc = some (upd bc v (nI (rc v))) := by
        unfold p_Terms_bind
        rw [ck_t (ixb_t (by omega) (by omega)), nI_clamp (by omega)]
      rw [rt, Option.bind_some]
      dsimp only
      rw [bd, Option.bind_some]
      obtain ⟨bc', lk2, x1, x2, x3, x4⟩ := ih (v + 1) f (upd bc v (nI (rc v))) lk' (by omega) (by omega) (fun u hu => by
        by_cases q : u = v
        · subst q
          refine Or.inr ⟨rc u, r1, pk_us, ?_⟩
          unfold Bn
          rw [if_pos ⟨by omega, Bv, nρ⟩, rv]
        · rw [pk_un q]
          have : Bn B ρ (v + 1) u = Bn B ρ v u := by
            unfold Bn
            by_cases q2 : u < v ∧ B u = none ∧ ρ (none, u) ≠ (none, u)
            · rw [if_pos q2, if_pos ⟨by omega, q2.2⟩]
            · rw [if_neg q2, if_neg (fun z => q2 ⟨by omega, z.2⟩)]
          rw [this]
          exact hC u hu) l2
      exact ⟨bc', lk2, x1, x2, x3, fun z => (x4 z).trans (l3 z)⟩
theorem pure_g2 : 4000000 ≤ pure_n := nle rfl
theorem u_stands {T : List (List Int32)} {S : List Nd} (hS : S.length ≤ 20700) {nd : Int32} {sn : Nat} {sf : Nat → Int32} {vn : Nat} {vf : Nat → Int64} {fn : Nat} {ff : Nat → Int32} {tp : Int32} {tn : Nat} {tf : Nat → Int32} (h : CT T S nd sn sf vn vf fn ff tp tn tf) (h8 : D8 S) {B : Nat → Option Av} {bc : Nat → Int32} (hB : CBd S B bc) {rk : Nat → Nat} {μ : Av → Av} (hM : MU B rk μ) {D : Av → Prop} (hD : DO S D) (hμ : ∀ z, D z → D (μ z) ∧ fa B (μ z)) (hDc : ∀ c, D (avc S c) → c < 200 + S.length) (a b d e g i j : Int32) {ln stn : Nat} (hln : 200 + S.length ≤ ln) (hst : 200 + S.length ≤ stn) {rc mu : Nat → Nat} {K : Nat} (hK : K ≤ 50000) {ρ : Av → Av} (hr : ∀ c, c < 200 + S.length → avc S (rc c) = ρ (avc S c)) (hρ : ∀ z, D z → D (ρ z)) {lk stf : Nat → Int32} (hU : UF lk (200 + S.length) rc mu K) (h0 : ∀ c, stf c = 0) {ss qs : Int32} {sq qn : Nat} {sef qf : Nat → Int32} (hs : IN [] ss sq sef) (hsq : sq ≤ 50000) (hq : IN [] qs qn qf) (hqn : qn ≤ 100000) {x : Nat} (Dx : D (avc S x)) {m : Nat} (hf : ffin (fn' S (fun z => ρ (μ z)) m (FZ (ρ (μ (avc S x)))))) (hm : 2 * m + 2 < 1000000) : wp (p_Unifier_standsInNone pure_n (nI x) a b d e g i j sn sf fn ff tp tn tf 200 bc ln lk stn stf ss sq sef qs qn qf) (FP S (fn' S (fun z => ρ (μ z)) m (FZ (ρ (μ (avc S x))))) lk rc mu K sq qn) := by
  have pg := pure_g2
  obtain ⟨y, lk', x1, x2, x3, x4, x5, x6, x7, _⟩ := ur_root hS hB hM a b d e g i j hln hK hU hr (hDc x Dx)
  have Dy : D (avc S y) := by rw [x3]; exact hρ _ (hμ _ Dx).1
  rw [← x3] at hf ⊢
  have c4 : CF (200 + S.length) stf [] ss sq sef := ⟨hs, hsq, List.nodup_nil, (fun x h => by cases h), fun z => ⟨fun q => absurd (h0 z) q, fun q => by cases q⟩⟩
  have FIN : ∀ (s' : Fs) (sq' qn' mq sk : Nat) (v : (Int32 × (Nat → Int32) × (Nat → Int32) × Int32 × Nat × (Nat → Int32) × Int32 × Nat × (Nat → Int32))) (mq' sk' : Nat), FP S s' lk' rc mu K sq' qn' (v, mq', sk') → wc (sq + qn) (sq' + qn') mq sk → FP S s' lk rc mu K sq qn (v, mq' + mq, sk' + sk) := by
    rintro s' sq' qn' mq sk ⟨r, lk2, stf', ss', sq2, sef', qs', qn3, qf'⟩ mq' sk' ⟨w1, w2, w3, w4, w5, w6, w7, w8⟩ ⟨v1, v2⟩
    refine ⟨w1, w2, fun z => (w3 z).trans (x6 z), w4, w5, w6, ?_, ?_⟩
    · show 64 * (mq' + mq) + (sq + qn) ≤ sq2 + qn3
      omega
    · show sk' + sk + 2 * (sq + qn) ≤ 2 * (sq2 + qn3)
      omega
  unfold p_Unifier_standsInNone
  refine wp_bs x1 (wp_bind (ue_enter (N := 200 + S.length) (by omega) hst c4 (pc := []) hq hqn (Nat.zero_le _) x2 (h0 y)) ?_)
  rintro ⟨⟨stf3, ss3, sq3, sef3, qs3, qn3, qf3⟩, mq3, sk3⟩ ⟨rfl, w2, w3, w4, w5⟩
  dsimp only
  refine wp_al (wp_mono (P := FP S (fn' S (fun z => ρ (μ z)) m (FZ (avc S y))) lk' rc mu K sq3 qn3) ?_ (fun v hv => FIN _ sq3 qn3 mq3 sk3 v.1 v.2.1 v.2.2 hv w5))
  obtain ⟨I0, _⟩ := fi_0 (S := S) Dy
  by_cases ni : (avc S y).1 ≠ none
  · have eF : FZ (avc S y) = ([], fun _ => 0, [], false) := if_pos ni
    rw [eF] at hf I0 ⊢
    rw [pr] at w3
    obtain ⟨r1, r2⟩ := in_pop w3
    obtain ⟨r3, r4⟩ := in_pop r2
    have e3 : qs3 = nI 2 := w3.1
    have px : (pav S (avc S y)).length = 0 := by
      unfold pav
      rw [if_neg (fun q => ni q.1)]
      rfl
    obtain ⟨f, hfe⟩ : ∃ z, pure_n = z + 1 := ⟨pure_n - 1, by omega⟩
    have G := usf_loop hS h h8 hB hM hD hμ hDc a b d e g i j hln hst hK hr hρ m f 1 ([], fun _ => 0, [], false) ss3 _ lk' (upd (upd stf y 1) y 2) sq3 sef3 qn3 qf3 hf I0 ⟨rfl, [], _, rfl, r4, w4, cf_set w2 (by rw [pk_us]; decide) (by decide), fun u hu nu => ?_, fun u hu nu => ?_⟩ x5 (by omega) (by omega)
    · have key : p_Unifier_standsInNone_11 pure_n a b d e g i j sn sf fn ff tp tn tf 200 bc ln stn pure_n 0 ss3 qs3 lk' (upd stf y 1) sq3 sef3 qn3 qf3 = p_Unifier_standsInNone_11 pure_n a b d e g i j sn sf fn ff tp tn tf 200 bc ln stn f (nI 1) ss3 (nI (pr ([] : List (Nat × Nat))).length) lk' (upd (upd stf y 1) y 2) sq3 sef3 qn3 qf3 := by
        have : ∀ F, F = f + 1 → p_Unifier_standsInNone_11 pure_n a b d e g i j sn sf fn ff tp tn tf 200 bc ln stn F 0 ss3 qs3 lk' (upd stf y 1) sq3 sef3 qn3 qf3 = p_Unifier_standsInNone_11 pure_n a b d e g i j sn sf fn ff tp tn tf 200 bc ln stn f (nI 1) ss3 (nI (pr ([] : List (Nat × Nat))).length) lk' (upd (upd stf y 1) y 2) sq3 sef3 qn3 qf3 := by
          rintro F rfl
          rw [p_Unifier_standsInNone_11]
          unfold p_Ints_size
          rw [if_neg (by decide), Option.bind_some, if_neg (by rw [e3]; decide), r1, Option.bind_some]
          dsimp only
          rw [r3, Option.bind_some]
          dsimp only
          rw [ct_po h a b d e g i j x2, Option.bind_some, px, if_pos rfl, ck_t (ixb_t (by omega) (by omega)), nI_clamp (by omega)]
          rfl
        exact this _ hfe
      rw [key]
      exact G
    · have q : u ≠ y := fun q => ni (by rw [← q]; exact nu)
      rw [pk_un q, pk_un q, h0]
      rfl
    · by_cases q : u = y
      · subst q
        rw [pk_us]
        exact Or.inr rfl
      · rw [pk_un q, pk_un q]
        exact Or.inl (h0 u)
  · have nn' : (avc S y).1 = none := by
      cases hq : (avc S y).1 with
      | none => rfl
      | some z => exact absurd (by rw [hq]; exact fun q => by cases q) ni
    have eF : FZ (avc S y) = ([(avc S y, 0)], cu (fun _ => 0) (avc S y) 1, [avc S y], false) := if_neg ni
    rw [eF] at hf I0 ⊢
    have G := usf_loop hS h h8 hB hM hD hμ hDc a b d e g i j hln hst hK hr hρ m pure_n 0 _ ss3 qs3 lk' (upd stf y 1) sq3 sef3 qn3 qf3 hf I0 ⟨rfl, [(y, 0)], _, rfl, w3, w4, w2, fun u hu nu => ?_, fun u hu nu => ?_⟩ x5 (by omega) (by omega)
    · rw [nI_0] at G
      exact G
    · show upd stf y 1 u = nI (cu (fun _ => 0) (avc S y) 1 (avc S u))
      unfold cu
      by_cases q : u = y
      · subst q
        rw [pk_us, if_pos rfl]
        rfl
      · rw [pk_un q, if_neg (fun w => q (av_inj w nu)), h0]
        rfl
    · have q : u ≠ y := fun q => nu (by rw [q]; exact nn')
      rw [pk_un q]
      exact Or.inl (h0 u)
def UZ (ln : Nat) (lk stf : Nat → Int32) (ps : Int32) (pn : Nat) (pf : Nat → Int32) (js : Int32) (jq : Nat) (jf : Nat → Int32) (ss : Int32) (sq : Nat) (sef : Nat → Int32) (qs : Int32) (qn : Nat) (qf : Nat → Int32) : Prop := ln ≤ 50000 ∧ ((∀ c, lk c = 0) ∧ ∀ c, stf c = 0) ∧ IN [] ps pn pf ∧ pn ≤ 213000 ∧ IN [] js jq jf ∧ jq ≤ 50000 ∧ IN [] ss sq sef ∧ sq ≤ 50000 ∧ IN [] qs qn qf ∧ qn ≤ 100000
/-- does it end well -/
def ug (S : List Nd) (μ : Av → Av) (m : Nat) (a b : Av) : Bool := (! (un S μ false m (U0 a b)).2.2.2) && (! (fn' S (fun z => (un S μ false m (U0 a b)).1 (μ z)) m (FZ ((un S μ false m (U0 a b)).1 (μ a)))).2.2.2)
def MSP (S : List Nd) (B : Nat → Option Av) (μ : Av → Av) (bc : Nat → Int32) (nv m : Nat) (a b : Av) (W : Nat) : (Int32 × (Nat → Int32) × Nat × (Nat → Int32) × Nat × (Nat → Int32) × Int32 × Nat × (Nat → Int32) × Int32 × Nat × (Nat → Int32) × Int32 × Nat × (Nat → Int32) × Int32 × Nat × (Nat → Int32)) × Nat × Nat → Prop :=
  fun ((r, bc', ln', lk', stn', stf', ps', pn', pf', js', jq', jf', ss', sq', sef', qs', qn', qf'), mq, sk) => stn' = ln' ∧ UZ ln' lk' stf' ps' pn' pf' js' jq' jf' ss' sq' sef' qs' qn' qf' ∧ r = b1 (ug S μ m a b) ∧ (if ug S μ m a b = true then CBd S (Bn B (un S μ false m (U0 a b)).1 nv) bc' else bc' = bc) ∧ wc W (2 * ln' + pn' + jq' + sq' + qn') mq sk
/-! ===== the class: unify and same ===== -/
theorem cf_nil {N : Nat} {stf : Nat → Int32} (h0 : ∀ c, stf c = 0) {ss : Int32} {sq : Nat} {sef : Nat → Int32} (hs : IN [] ss sq sef) (hsq : sq ≤ 50000) : CF N stf [] ss sq sef := ⟨hs, hsq, List.nodup_nil, (fun x h => by cases h), fun z => ⟨fun q => absurd (h0 z) q, fun q => by cases q⟩⟩
theorem cf_iff {N : Nat} {lk lk' : Nat → Int32} {Jc : List Nat} {js : Int32} {jq : Nat} {jf : Nat → Int32} (h : CF N lk Jc js jq jf) (e : ∀ z, lk' z = 0 ↔ lk z = 0) : CF N lk' Jc js jq jf := ⟨h.1, h.2.1, h.2.2.1, h.2.2.2.1, fun c => (not_congr (e c)).trans (h.2.2.2.2 c)⟩
theorem in_z {l : List Int32} {s : Int32} {N : Nat} {f : Nat → Int32} (h : IN l s N f) : IN [] 0 N f := (ud_cut h).2
theorem u_makeSame {T : List (List Int32)} {S : List Nd} (hS : S.length ≤ 20700) {nd : Int32} {sn : Nat} {sf : Nat → Int32} {vn : Nat} {vf : Nat → Int64} {fn : Nat} {ff : Nat → Int32} {tp : Int32} {tn : Nat} {tf : Nat → Int32} (h : CT T S nd sn sf vn vf fn ff tp tn tf) (h8 : D8 S) {B : Nat → Option Av} {bc : Nat → Int32} (hB : CBd S B bc) {rk : Nat → Nat} {μ : Av → Av} (hM : MU B rk μ) {D : Av → Prop} (hD : DO S D) (hμ : ∀ z, D z → D (μ z) ∧ fa B (μ z)) (hDc : ∀ c, D (avc S c) → c < 200 + S.length) (hT : T.Nodup) (hTl : T.length < 65536) (d e g i j : Int32) {nv : Nat} (hnv : nv ≤ 200) {ln : Nat} {lk stf : Nat → Int32} {ps js ss qs : Int32} {pn jq sq qn : Nat} {pf jf sef qf : Nat → Int32} (hZ : UZ ln lk stf ps pn pf js jq jf ss sq sef qs qn qf) {x y : Nat} (Dx : D (avc S x)) (Dy : D (avc S y)) {m : Nat} (hm : m < 400000) (hf1 : ufin (un S μ false m (U0 (avc S x) (avc S y)))) (hUI : UI S B D (un S μ false m (U0 (avc S x) (avc S y)))) (hf2 : ffin (fn' S (fun z => (un S μ false m (U0 (avc S x) (avc S y))).1 (μ z)) m (FZ ((un S μ false m (U0 (avc S x) (avc S y))).1 (μ (avc S x)))))) : wp (p_Unifier_makeSame pure_n (nI x) (nI y) (nI (200 + S.length)) (nI nv) d e g i j sn sf vn vf fn ff tp tn tf 200 bc ln lk ln stf ps pn pf js jq jf ss sq sef qs qn qf) (MSP S B μ bc nv m (avc S x) (avc S y) (2 * ln + pn + jq + sq + qn)) := by
  have pg := pure_g2
  obtain ⟨z1, z2, z3, z4, z5, z6, z7, z8, z9, z10⟩ := hZ
  unfold p_Unifier_makeSame
  refine wp_bind (um_room (N := 200 + S.length) (by omega) (by omega) (nI nv) d e g i j z1 z2) ?_
  rintro ⟨⟨ln1, lk1, stn1, stf1⟩, mq1, sk1⟩ ⟨rfl, r2, r3, r4, r5, r6⟩
  dsimp only
  refine wp_al (wp_bind (u_joinAll hT hTl hS h h8 hB hM hD hμ hDc false (nI (200 + S.length)) (nI nv) d e g i j r2 r4 z5 z6 z3 z4 Dx Dy hf1 (by omega) (by omega)) ?_)
  rintro ⟨⟨r, lk2, ps2, pn2, pf2, js2, jq2, jf2⟩, mq2, sk2⟩ ⟨q1, q2⟩
  dsimp only
  have C0 : CF (200 + S.length) stf1 [] ss sq sef := cf_nil r5 z7 z8
  refine wp_al ?_
  rcases q1 with ⟨q1, rfl, hJ⟩ | ⟨q1, rfl, ⟨Jc, hJ⟩, ⟨l, hl⟩, hp2⟩
  · obtain ⟨_, tc, rc, mu, Jc, c1, c2, c3, c4, c5, c6, c7, c8⟩ := hJ
    have hJl := cf_len c7
    refine wp_if (by decide) (wp_bind (u_stands hS h h8 hB hM hD hμ hDc (nI (200 + S.length)) (nI nv) d e g i j r2 r2 (K := Jc.length) (by omega) c4 hUI.2.1 c2 r5 z7 z8 z9 z10 Dx hf2 (by omega)) ?_)
    rintro ⟨⟨r, lk3, stf3, ss3, sq3, sef3, qs3, qn3, qf3⟩, mq3, sk3⟩ ⟨rfl, v2, v3, ⟨Sc, v4⟩, ⟨l, v5⟩, v6, v7⟩
    dsimp only
    refine wp_al ?_
    have W : wc (2 * ln + pn + jq + sq + qn) (2 * stn1 + pn2 + jq2 + sq3 + qn3) (mq3 + mq2 + mq1) (sk3 + sk2 + sk1) := by
      obtain ⟨a1, a2⟩ := r6
      obtain ⟨b1, b2⟩ := q2
      obtain ⟨d1, d2⟩ := v7
      constructor <;> omega
    cases hfm : (fn' S (fun z => (un S μ false m (U0 (avc S x) (avc S y))).1 (μ z)) m (FZ ((un S μ false m (U0 (avc S x) (avc S y))).1 (μ (avc S x))))).2.2.2 with
    | true =>
      have eg : ug S μ m (avc S x) (avc S y) = false := by
        unfold ug
        rw [hfm, q1]
        rfl
      obtain ⟨lk4, stf4, k1, k2, k3⟩ := uc_clear (N := 200 + S.length) (by omega) r2 r2 (cf_iff c7 v3) v4 (ud_cut c5).1 (ud_cut v5).1
      refine wp_it rfl (wp_bs k1 (wp_some ?_))
      refine ⟨rfl, ⟨r3, ⟨k2, k3⟩, in_z c5, c6, in_z c7.1, c7.2.1, in_z v4.1, v4.2.1, in_z v5, v6⟩, by rw [eg]; rfl, by rw [eg, if_neg (by decide)], ?_⟩
      show wc _ _ (0 + mq3 + mq2 + mq1) (0 + sk3 + sk2 + sk1)
      rw [Nat.zero_add, Nat.zero_add]
      exact W
    | false =>
      have eg : ug S μ m (avc S x) (avc S y) = true := by
        unfold ug
        rw [hfm, q1]
        rfl
      have eB : Bn B (un S μ false m (U0 (avc S x) (avc S y))).1 0 = B := by
        funext v
        unfold Bn
        rw [if_neg (by omega)]
      obtain ⟨bc', lk4, b1', b2, b3, b4⟩ := ub_bind hS hB (nI (200 + S.length)) d e g i j hnv r2 (K := Jc.length) (by omega) c4 hUI.2.2.2.2.2.2.1 nv 0 pure_n bc lk3 (by omega) (by omega) (by rw [eB]; exact hB) v2
      rw [nI_0] at b1'
      obtain ⟨lk5, stf4, k1, k2, k3⟩ := uc_clear (N := 200 + S.length) (by omega) r2 r2 (cf_iff c7 (fun z => (b4 z).trans (v3 z))) v4 (ud_cut c5).1 (ud_cut v5).1
      have bj : p_Unifier_bindJoined pure_n (nI (200 + S.length)) (nI nv) d e g i j 200 bc stn1 lk3 = some (bc', lk4) := by
        unfold p_Unifier_bindJoined
        exact b1'
      refine wp_if (by decide) (wp_bs bj (wp_bs k1 (wp_some ?_)))
      refine ⟨rfl, ⟨r3, ⟨k2, k3⟩, in_z c5, c6, in_z c7.1, c7.2.1, in_z v4.1, v4.2.1, in_z v5, v6⟩, by rw [eg]; rfl, by rw [eg, if_pos rfl]; exact b2, ?_⟩
      show wc _ _ (0 + mq3 + mq2 + mq1) (0 + sk3 + sk2 + sk1)
      rw [Nat.zero_add, Nat.zero_add]
      exact W
  · have eg : ug S μ m (avc S x) (avc S y) = false := by
      unfold ug
      rw [q1]
      rfl
    obtain ⟨lk4, stf4, k1, k2, k3⟩ := uc_clear (N := 200 + S.length) (by omega) r2 r2 hJ C0 (ud_cut hl).1 (ud_cut z9).1
    refine wp_it rfl (wp_bs k1 (wp_some ?_))
    refine ⟨rfl, ⟨r3, ⟨k2, k3⟩, in_z hl, hp2, in_z hJ.1, hJ.2.1, in_z z7, z8, in_z z9, z10⟩, by rw [eg]; rfl, by rw [eg, if_neg (by decide)], ?_⟩
    show wc _ _ (0 + mq2 + mq1) (0 + sk2 + sk1)
    obtain ⟨a1, a2⟩ := r6
    obtain ⟨b1, b2⟩ := q2
    constructor <;> omega
def ASP (b : Bool) (sq : Nat) (sef : Nat → Int32) (qn : Nat) (qf : Nat → Int32) (W : Nat) : (Int32 × Nat × (Nat → Int32) × Nat × (Nat → Int32) × Int32 × Nat × (Nat → Int32) × Int32 × Nat × (Nat → Int32) × Int32 × Int32) × Nat × Nat → Prop :=
  fun ((r, ln', lk', stn', stf', ps', pn', pf', js', jq', jf', ss', qs'), mq, sk) => stn' = ln' ∧ UZ ln' lk' stf' ps' pn' pf' js' jq' jf' ss' sq sef qs' qn qf ∧ r = b1 b ∧ wc W (2 * ln' + pn' + jq' + sq + qn) mq sk
theorem u_areSame {T : List (List Int32)} {S : List Nd} (hS : S.length ≤ 20700) {nd : Int32} {sn : Nat} {sf : Nat → Int32} {vn : Nat} {vf : Nat → Int64} {fn : Nat} {ff : Nat → Int32} {tp : Int32} {tn : Nat} {tf : Nat → Int32} (h : CT T S nd sn sf vn vf fn ff tp tn tf) (h8 : D8 S) {B : Nat → Option Av} {bc : Nat → Int32} (hB : CBd S B bc) {rk : Nat → Nat} {μ : Av → Av} (hM : MU B rk μ) {D : Av → Prop} (hD : DO S D) (hμ : ∀ z, D z → D (μ z) ∧ fa B (μ z)) (hDc : ∀ c, D (avc S c) → c < 200 + S.length) (hT : T.Nodup) (hTl : T.length < 65536) (d e g i j : Int32) (nv : Int32) {ln : Nat} {lk stf : Nat → Int32} {ps js ss qs : Int32} {pn jq sq qn : Nat} {pf jf sef qf : Nat → Int32} (hZ : UZ ln lk stf ps pn pf js jq jf ss sq sef qs qn qf) {x y : Nat} (Dx : D (avc S x)) (Dy : D (avc S y)) {m : Nat} (hm : m < 400000) (hf1 : ufin (un S μ true m (U0 (avc S x) (avc S y)))) : wp (p_Unifier_areSame pure_n (nI x) (nI y) (nI (200 + S.length)) nv d e g i j sn sf vn vf fn ff tp tn tf 200 bc ln lk ln stf ps pn pf js jq jf ss sq sef qs) (ASP (! (un S μ true m (U0 (avc S x) (avc S y))).2.2.2) sq sef qn qf (2 * ln + pn + jq + sq + qn)) := by
  have pg := pure_g2
  obtain ⟨z1, z2, z3, z4, z5, z6, z7, z8, z9, z10⟩ := hZ
  unfold p_Unifier_areSame
  refine wp_bind (um_room (N := 200 + S.length) (by omega) (by omega) nv d e g i j z1 z2) ?_
  rintro ⟨⟨ln1, lk1, stn1, stf1⟩, mq1, sk1⟩ ⟨rfl, r2, r3, r4, r5, r6⟩
  dsimp only
  refine wp_al (wp_bind (u_joinAll hT hTl hS h h8 hB hM hD hμ hDc true (nI (200 + S.length)) nv d e g i j r2 r4 z5 z6 z3 z4 Dx Dy hf1 (by omega) (by omega)) ?_)
  rintro ⟨⟨r, lk2, ps2, pn2, pf2, js2, jq2, jf2⟩, mq2, sk2⟩ ⟨q1, q2⟩
  dsimp only
  have C0 : CF (200 + S.length) stf1 [] ss sq sef := cf_nil r5 z7 z8
  refine wp_al ?_
  have key : r = b1 (! (un S μ true m (U0 (avc S x) (avc S y))).2.2.2) ∧ (∃ Jc, CF (200 + S.length) lk2 Jc js2 jq2 jf2) ∧ (∃ l, IN l ps2 pn2 pf2) ∧ pn2 ≤ 213000 := by
    rcases q1 with ⟨q1, rfl, hJ⟩ | ⟨q1, rfl, hJ, hl, hp2⟩
    · obtain ⟨_, tc, rc, mu, Jc, c1, c2, c3, c4, c5, c6, c7, c8⟩ := hJ
      exact ⟨by rw [q1]; rfl, ⟨Jc, c7⟩, ⟨_, c5⟩, c6⟩
    · exact ⟨by rw [q1]; rfl, hJ, hl, hp2⟩
  obtain ⟨rfl, ⟨Jc, hJ⟩, ⟨l, hl⟩, hp2⟩ := key
  obtain ⟨lk4, stf4, k1, k2, k3⟩ := uc_clear (N := 200 + S.length) (by omega) r2 r2 hJ C0 (ud_cut hl).1 (ud_cut z9).1
  refine wp_bs k1 (wp_ck (zab_b _) (wp_some ?_))
  refine ⟨rfl, ⟨r3, ⟨k2, k3⟩, in_z hl, hp2, in_z hJ.1, hJ.2.1, in_z z7, z8, in_z z9, z10⟩, rfl, ?_⟩
  show wc _ _ (0 + mq2 + mq1) (0 + sk2 + sk1)
  obtain ⟨a1, a2⟩ := r6
  obtain ⟨b1, b2⟩ := q2
  constructor <;> omega
/-! ===== the reference: finite, clearing, binding ===== -/
theorem m_finite {TR : List (List Int32)} {S : List Nd} {M : List Rf} {P : Nat} {sz pt : Int32} {kf nf ff mf pf : Nat → Int32} {bf : Nat → Int64} {V : List (List Int32)} {ndf br : Nat → Int32} {B : Nat → Option Av} {rk : Nat → Nat} {μ : Av → Av} (hC : RCx TR S M P sz pt kf nf ff mf pf bf V ndf br B rk μ) (h8 : D8 S) (hS : S.length ≤ 20700) (hM3 : M.length ≤ 30000) {D : Av → Prop} (hD : DO S D) (hμ : ∀ z, D z → D (μ z) ∧ fa B (μ z)) (a b c d e tou : Int32) {up : Nat → Int32} {ru mu : Nat → Nat} {K : Nat} (hK : K ≤ 50000) (hU : UG up (RG S M ndf B) ru mu K) {ρ : Av → Av} (hr : ∀ x, RG S M ndf B x → arx S M (ru x) = ρ (arx S M x)) (hρ : ∀ z, D z → D (ρ z)) {cof : Nat → Int32} (h0 : ∀ x, x < 404300 → cof x = 0) (tof ptf : Nat → Int32) {x : Nat} (hx : x < M.length) (Dx : D (arx S M x)) {m : Nat} (hf : ffin (fn' S (fun z => ρ (μ z)) m (FZ (ρ (μ (arx S M x)))))) (hm : 2 * m + 2 < 1000000) : wp (p_Mo_finite pure_n (nI x) a b c d e tou 0 sz pt 404300 kf 404300 nf 404300 ff 404300 mf 404300 pf 4300 br 4300 ndf 404300 up 808600 tof 404300 cof 404300 ptf) (FQ M (fn' S (fun z => ρ (μ z)) m (FZ (ρ (μ (arx S M x)))))) := by
  have pg := pure_g2
  have hml := hC.1.2.2.1
  obtain ⟨y, y1, y2, y3, y4, _⟩ := mr_root hC a b c d e tou 0 sz pt hK hU hr hx
  have hy := y2.1
  have Dy : D (arx S M y) := by rw [y3]; exact hρ _ (hμ _ Dx).1
  rw [← y3] at hf ⊢
  have Q0 : RQ M.length cof [] 0 ptf := ⟨rfl, la_nil _, List.nodup_nil, (fun x h => by cases h), fun z hz => ⟨fun q => absurd (h0 z hz) q, fun q => by cases q⟩⟩
  obtain ⟨pai3, ptf3, v1, v2⟩ := rq_paint a b c d e tou hM3 Q0 hy (h0 y (by omega))
  unfold p_Mo_finite
  refine wp_bs y1 (wp_ck (by decide) (wp_ck (by decide) (wp_ck (by decide) ?_)))
  have eu : upd (upd tof (0 : Int32).toNatClampNeg (nI y)) (1 : Int32).toNatClampNeg 0 (0 : Int32).toNatClampNeg = nI y := by
    rw [pk_un (by decide)]
    exact pk_us
  rw [eu]
  refine wp_bs v1 ?_
  dsimp only
  have la2 : la (pr [(y, 0)]) (upd (upd tof (0 : Int32).toNatClampNeg (nI y)) (1 : Int32).toNatClampNeg 0) := by
    show la ([] ++ [nI y] ++ [nI 0]) _
    refine la_app (la_app (g := upd tof 0 (nI y)) (la_nil tof) (fun j hj => absurd hj (by simp)) ?_) (fun j hj => ?_) ?_
    · exact pk_us
    · rw [List.length_append, List.length_singleton, List.length_nil] at hj
      exact pk_un (by show ¬ j = 1; omega)
    · exact pk_us
  obtain ⟨I0, _⟩ := fi_0 (S := S) Dy
  by_cases ni : (arx S M y).1 ≠ none
  · have eF : FZ (arx S M y) = ([], fun _ => 0, [], false) := if_pos ni
    rw [eF] at hf I0 ⊢
    obtain ⟨k1, k2, k3⟩ := la_top (l := []) (x := nI y) (y := nI 0) la2
    obtain ⟨e5, _⟩ := rc_many hC hy
    have px0 : (pav S (arx S M y)).length = 0 := by
      unfold pav
      rw [if_neg (fun q => ni q.1)]
      rfl
    rw [px0] at e5
    obtain ⟨f, hfe⟩ : ∃ z, pure_n = z + 1 := ⟨pure_n - 1, by omega⟩
    have G := mf_loop hC h8 hS hM3 hD hμ a b c d e tou hK hU hr hρ m f ([], fun _ => 0, [], false) (-1) pai3 (upd (upd tof (0 : Int32).toNatClampNeg (nI y)) (1 : Int32).toNatClampNeg 0) (upd (upd cof y 1) y 2) ptf3 hf I0 ⟨rfl, [], _, rfl, (fun p hp => by cases hp), by decide, la_nil _, rq_set v2 (by omega) (by rw [pk_us]; decide) (by decide), fun u hu nu => ?_, fun u hu nu => ?_⟩ (by omega)
    · have key : ∀ F, F = f + 1 → p_Mo_finite_31 pure_n a b c d e tou sz pt 404300 kf 404300 nf 404300 ff 404300 mf 404300 pf 4300 br 4300 ndf 404300 up 808600 404300 404300 F 0 pai3 (upd (upd tof (0 : Int32).toNatClampNeg (nI y)) (1 : Int32).toNatClampNeg 0) (upd cof y 1) ptf3 = p_Mo_finite_31 pure_n a b c d e tou sz pt 404300 kf 404300 nf 404300 ff 404300 mf 404300 pf 4300 br 4300 ndf 404300 up 808600 404300 404300 f (-1) pai3 (upd (upd tof (0 : Int32).toNatClampNeg (nI y)) (1 : Int32).toNatClampNeg 0) (upd (upd cof y 1) y 2) ptf3 := by
        rintro F rfl
        rw [p_Mo_finite_31]
        generalize upd (upd tof (0 : Int32).toNatClampNeg (nI y)) (1 : Int32).toNatClampNeg 0 = tg at *
        have c0 : (2 * (0 : Int32)).toNatClampNeg = 0 := by decide
        have c1 : (2 * (0 : Int32) + 1).toNatClampNeg = 1 := by decide
        have k1' : tg 1 = nI 0 := k1
        have k2' : tg 0 = nI y := k2
        rw [if_neg (by decide), ck_t (by decide), ck_t (by decide), c0, c1, k1', k2', nI_clamp (n := y) (by omega), ck_t (ixb_t (by omega) (by omega)), if_pos e5.symm, ck_t (ixb_t (by omega) (by omega))]
        rfl
      rw [key _ hfe]
      exact G
    · have q : u ≠ y := fun q => ni (by rw [← q]; exact nu)
      rw [pk_un q, pk_un q, h0 u (by have := hu.1; omega)]
      rfl
    · by_cases q : u = y
      · subst q
        rw [pk_us]
        exact Or.inr rfl
      · rw [pk_un q, pk_un q]
        exact Or.inl (h0 u (by have := hu.1; omega))
  · have nn' : (arx S M y).1 = none := by
      cases hq : (arx S M y).1 with
      | none => rfl
      | some z => exact absurd (by rw [hq]; exact fun q => by cases q) ni
    have eF : FZ (arx S M y) = ([(arx S M y, 0)], cu (fun _ => 0) (arx S M y) 1, [arx S M y], false) := if_neg ni
    rw [eF] at hf I0 ⊢
    refine mf_loop hC h8 hS hM3 hD hμ a b c d e tou hK hU hr hρ m pure_n _ 0 pai3 _ (upd cof y 1) ptf3 hf I0 ⟨rfl, [(y, 0)], _, rfl, fun p hp => ?_, (show (0 : Int32) = nI 1 - 1 by decide), la2, v2, fun u hu nu => ?_, fun u hu nu => ?_⟩ (by omega)
    · rw [show p = (y, 0) from List.mem_singleton.mp hp]
      exact y2
    · show upd cof y 1 u = nI (cu (fun _ => 0) (arx S M y) 1 (arx S M u))
      unfold cu
      by_cases q : u = y
      · subst q
        rw [pk_us, if_pos rfl]
        rfl
      · rw [pk_un q, if_neg (fun w => q (rg_inj hC hu y2 w nu)), h0 u (by have := hu.1; omega)]
        rfl
    · have q : u ≠ y := fun q => nu (by rw [q]; exact nn')
      rw [pk_un q]
      exact Or.inl (h0 u (by have := hu.1; omega))
theorem m_part {ML : Nat} (hM : ML ≤ 30000) {up : Nat → Int32} {Jr : List Nat} {tou : Int32} {tuf : Nat → Int32} (h : RF ML up Jr tou tuf) {cof : Nat → Int32} (h0 : ∀ x, x < 404300 → cof x = 0) (a b c d e g : Int32) : ∃ up' cof', p_Mo_part_ pure_n a b c d e tou g 404300 up 404300 tuf 404300 cof = some (0, up', cof') ∧ (∀ x, x < 404300 → up' x = -1) ∧ ∀ x, x < 404300 → cof' x = 0 := by
  have pg := pure_g2
  have hl := rf_len h
  obtain ⟨h1, h2, h3, h4, h5⟩ := h
  subst h1
  have L : ∀ (m i f : Nat) (up cof : Nat → Int32), i + m = Jr.length → m < f → (∀ x, x < 404300 → up x ≠ -1 → x ∈ Jr.drop i) → (∀ x, x < 404300 → cof x = 0) → ∃ up' cof', p_Mo_part__2 pure_n (nI Jr.length) 404300 404300 tuf 404300 f (nI i) up cof = some (0, up', cof') ∧ (∀ x, x < 404300 → up' x = -1) ∧ ∀ x, x < 404300 → cof' x = 0 := by
    intro m
    induction m with
    | zero =>
      intro i f up cof hi hf hd hc
      obtain ⟨f, rfl⟩ : ∃ z, f = z + 1 := ⟨f - 1, by omega⟩
      refine ⟨up, cof, by rw [p_Mo_part__2, if_pos (nI_le (by omega) (by omega))], fun x hx => ?_, hc⟩
      by_cases q : up x = -1
      · exact q
      · have := hd x hx q
        rw [List.drop_of_length_le (by omega)] at this
        cases this
    | succ m ih =>
      intro i f up cof hi hf hd hc
      obtain ⟨f, rfl⟩ : ∃ z, f = z + 1 := ⟨f - 1, by omega⟩
      have hil : i < Jr.length := by omega
      have et : tuf i = nI Jr[i] := by
        rw [h2 i (by rw [List.length_map]; exact hil), List.getD_eq_getElem?_getD, List.getElem?_map, List.getElem?_eq_getElem hil]
        rfl
      have hj := h4 Jr[i] (List.getElem_mem hil)
      rw [p_Mo_part__2, if_neg (nI_ge (by omega) (by omega)), ck_t (ixb_t (by omega) (by omega)), nI_clamp (n := i) (by omega), et, ck_t (ixb_t (by omega) (by omega)), ck_t (ixb_t (by omega) (by omega)), ck_t (ixb_t (by omega) (by omega)), nI_1, nI_clamp (n := Jr[i]) (by omega)]
      refine ih (i + 1) f _ _ (by omega) (by omega) (fun x hx hq => ?_) (fun x hx => ?_)
      · by_cases q : x = Jr[i]
        · subst q
          rw [pk_us] at hq
          exact absurd rfl hq
        · rw [pk_un q] at hq
          have := hd x hx hq
          rw [List.drop_eq_getElem_cons hil] at this
          rcases List.mem_cons.mp this with z | z
          · exact absurd z q
          · exact z
      · by_cases q : x = Jr[i]
        · subst q
          rw [pk_us]
          rfl
        · rw [pk_un q]
          exact hc x hx
  have := L Jr.length 0 pure_n up cof (by omega) (by omega) (fun x hx hq => by rw [List.drop_zero]; exact (h5 x hx).mp hq) h0
  rw [nI_0] at this
  unfold p_Mo_part_
  exact this
theorem pr_at : ∀ (L : List (Nat × Nat)) (k : Nat) (p : Nat × Nat) (f : Nat → Int32), L.reverse[k]? = some p → la (pr L) f → f (2 * k) = nI p.1 ∧ f (2 * k + 1) = nI p.2 := by
  intro L
  induction L with
  | nil =>
    intro k p f e _
    rw [List.reverse_nil] at e
    cases e
  | cons q t ih =>
    intro k p f e h
    obtain ⟨q1, q2⟩ := q
    rw [List.reverse_cons] at e
    obtain ⟨l1, l2, l3⟩ := la_top h
    rw [pr_len] at l1 l2
    by_cases c : k < t.length
    · rw [List.getElem?_append_left (by rw [List.length_reverse]; exact c)] at e
      exact ih k p f e l3
    · obtain ⟨hk, _⟩ := List.getElem?_eq_some_iff.mp e
      rw [List.length_append, List.length_reverse, List.length_singleton] at hk
      obtain rfl : k = t.length := by omega
      rw [List.getElem?_append_right (by rw [List.length_reverse]; exact Nat.le_refl _), List.length_reverse, Nat.sub_self] at e
      obtain rfl : (q1, q2) = p := by injection e
      exact ⟨l2, l1⟩
/-- the bindings are written -/
theorem m_219 (n : Nat) (y0 : Int32) (tuf ptf tof : Nat → Int32) (a : Int32) (uf cf : Nat → Int32) {L : List (Nat × Nat)} (hL : ∀ p, p ∈ L → p.1 < 200) (hl : L.length ≤ 200) (hla : la (pr L) tof) (br : Nat → Int32) : ∀ (m k f : Nat) (bk : Nat → Int32), k + m = L.length → m < f → (∀ u, bk u = br u ∨ ∃ r, (u, r) ∈ L ∧ bk u = nI r) → (∀ j u r, j < k → L.reverse[j]? = some (u, r) → ∃ r', (u, r') ∈ L ∧ bk u = nI r') → ∃ b', p_Mo_unify_219_41 n 4300 808600 y0 tuf ptf (nI (2 * L.length)) tof a uf cf f (nI (2 * k)) bk = some (1, y0, a, 0, b', uf, tuf, tof, cf, ptf) ∧ (∀ u, b' u = br u ∨ ∃ r, (u, r) ∈ L ∧ b' u = nI r) ∧ ∀ u r, (u, r) ∈ L → ∃ r', (u, r') ∈ L ∧ b' u = nI r' := by
  intro m
  induction m with
  | zero =>
    intro k f bk hk hf h1 h2
    obtain ⟨f, rfl⟩ : ∃ z, f = z + 1 := ⟨f - 1, by omega⟩
    refine ⟨bk, by rw [p_Mo_unify_219_41, if_pos (nI_le (by omega) (by omega))], h1, fun u r hu => ?_⟩
    obtain ⟨j, hj, ej⟩ := List.getElem_of_mem (List.mem_reverse.mpr hu)
    rw [List.length_reverse] at hj
    exact h2 j u r (by omega) (by rw [List.getElem?_eq_getElem (by rw [List.length_reverse]; exact hj), ej])
  | succ m ih =>
    intro k f bk hk hf h1 h2
    obtain ⟨f, rfl⟩ : ∃ z, f = z + 1 := ⟨f - 1, by omega⟩
    have hkl : k < L.reverse.length := by rw [List.length_reverse]; omega
    have ek := List.getElem?_eq_getElem hkl
    generalize hp : L.reverse[k] = p at ek
    obtain ⟨u, r⟩ := p
    have hm : (u, r) ∈ L := by
      rw [← List.mem_reverse, ← hp]
      exact List.getElem_mem hkl
    have hu := hL _ hm
    dsimp only at hu
    obtain ⟨e1, e2⟩ := pr_at L k _ tof ek hla
    dsimp only at e1 e2
    have e3 : nI (2 * k) + 2 = nI (2 * (k + 1)) := by
      show nI (2 * k) + nI 2 = _
      rw [nI_add]
      congr 1
    rw [p_Mo_unify_219_41, if_neg (nI_ge (by omega) (by omega)), ck_t (ixb_t (by omega) (by omega)), nI_1, ck_t (ixb_t (by omega) (by omega)), nI_clamp (n := 2 * k) (by omega), nI_clamp (n := 2 * k + 1) (by omega), e1, e2, ck_t (ixb_t (by omega) (by omega)), nI_clamp (n := u) (by omega), e3]
    refine ih (k + 1) f _ (by omega) (by omega) (fun w => ?_) (fun j w r' hj ej => ?_)
    · by_cases q : w = u
      · subst q
        exact Or.inr ⟨r, hm, pk_us⟩
      · rw [pk_un q]
        exact h1 w
    · by_cases q : w = u
      · subst q
        exact ⟨r, hm, pk_us⟩
      · rw [pk_un q]
        refine h2 j w r' ?_ ej
        by_cases q2 : j = k
        · subst q2
          rw [ek] at ej
          injection ej with ej
          injection ej with ej
          exact absurd ej.symm q
        · omega
/-! ===== the reference: unify and same ===== -/
def RBd (S : List Nd) (M : List Rf) (nv : Nat) (B : Nat → Option Av) (br : Nat → Int32) : Prop := ∀ v, v < nv → (B v = none ∧ br v = -1) ∨ ∃ y, y < M.length ∧ br v = nI y ∧ B v = some (arx S M y)
def LQ (S : List Nd) (M : List Rf) (B : Nat → Option Av) (ρ : Av → Av) (v : Nat) (L : List (Nat × Nat)) : Prop := (∀ u r, (u, r) ∈ L → u < v ∧ B u = none ∧ ρ (none, u) ≠ (none, u) ∧ r < M.length ∧ arx S M r = ρ (none, u)) ∧ ∀ u, u < v → B u = none → ρ (none, u) ≠ (none, u) → ∃ r, (u, r) ∈ L
theorem m_113 {TR : List (List Int32)} {S : List Nd} {M : List Rf} {P : Nat} {sz pt : Int32} {kf nf ff mf pf : Nat → Int32} {bf : Nat → Int64} {V : List (List Int32)} {ndf br : Nat → Int32} {B : Nat → Option Av} {rk : Nat → Nat} {μ : Av → Av} (hC : RCx TR S M P sz pt kf nf ff mf pf bf V ndf br B rk μ) (hM3 : M.length ≤ 30000) (a b c d y0 tou : Int32) {up : Nat → Int32} {ru mu : Nat → Nat} {K : Nat} (hK : K ≤ 50000) (hU : UG up (RG S M ndf B) ru mu K) {ρ : Av → Av} (hr : ∀ x, RG S M ndf B x → arx S M (ru x) = ρ (arx S M x)) (tuf ptf cof : Nat → Int32) : ∀ (m v f : Nat) (tof : Nat → Int32) (L : List (Nat × Nat)), v + m = V.length → m < f → LQ S M B ρ v L → L.length ≤ v → la (pr L) tof → ∃ tof' L', p_Mo_unify_113_37 pure_n a b c d sz pt 404300 kf 404300 nf (nI V.length) 4300 br 4300 ndf 404300 404300 808600 404300 y0 tou up tuf ptf cof f (nI v) (nI (2 * L.length)) tof = (p_Mo_part_ pure_n y0 a b c d tou 0 404300 up 404300 tuf 404300 cof).bind (fun (t4, u4, c4) => p_Mo_unify_219_41 pure_n 4300 808600 y0 tuf ptf (nI (2 * L'.length)) tof' t4 u4 c4 pure_n 0 br) ∧ LQ S M B ρ V.length L' ∧ L'.length ≤ V.length ∧ la (pr L') tof' := by
  have hV := hC.2.2.1
  have hml := hC.1.2.2.1
  intro m
  induction m with
  | zero =>
    intro v f tof L hv hf hL hl hla
    obtain ⟨f, rfl⟩ : ∃ z, f = z + 1 := ⟨f - 1, by omega⟩
    obtain rfl : v = V.length := by omega
    exact ⟨tof, L, by rw [p_Mo_unify_113_37, if_pos (nI_le (Nat.le_refl _) (by omega))], hL, hl, hla⟩
  | succ m ih =>
    intro v f tof L hv hf hL hl hla
    obtain ⟨f, rfl⟩ : ∃ z, f = z + 1 := ⟨f - 1, by omega⟩
    have skip : (B v = none → ρ (none, v) = (none, v)) → LQ S M B ρ (v + 1) L := fun h => ⟨fun u r hu => by
      obtain ⟨h1, h2⟩ := hL.1 u r hu
      exact ⟨by omega, h2⟩, fun u hu h1 h2 => by
      by_cases q : u = v
      · subst q
        exact absurd (h h1) h2
      · exact hL.2 u (by omega) h1 h2⟩
    rw [p_Mo_unify_113_37, if_neg (nI_ge (by omega) (by omega)), ck_t (ixb_t (by omega) (by omega)), nI_clamp (n := v) (by omega), nI_1]
    obtain ⟨x, x1, x2⟩ := hC.2.2.2.1 v (by omega)
    obtain ⟨hx, _⟩ := List.getElem?_eq_some_iff.mp x2
    have ax : arx S M x = (none, v) := by rw [arx_of x2]; exact av_v (show v < 200 by omega)
    rcases hC.2.2.2.2.1 v (by omega) with ⟨b1', b2⟩ | ⟨y, b1', b2, b3⟩
    · have Gx : RG S M ndf B x := ⟨hx, fun _ => by rw [ax]; exact b1', fun _ => by rw [ax]; exact x1⟩
      have mx := rg_mu hC Gx
      obtain ⟨x', r1, r2, r3, r4, r5⟩ := mr_root hC y0 a b c d tou 0 sz pt hK hU hr hx
      rw [mx, ax] at r3
      have hx' := r2.1
      rw [if_pos b2, ck_t (ixb_t (by omega) (by omega)), x1, if_neg (nm1 (by omega)), ck_t (ixb_t (by omega) (by omega)), r1, Option.bind_some, ck_t (ixb_t (by omega) (by omega))]
      by_cases q : x' = x
      · subst q
        rw [if_pos rfl]
        rw [ax] at r3
        exact ih (v + 1) f tof L (by omega) (by omega) (skip (fun _ => r3.symm)) (by omega) hla
      · have nρ : ρ (none, v) ≠ (none, v) := fun z => q (rg_inj hC r2 Gx (by rw [r3, z, ax]) (by rw [r3, z]))
        rw [if_neg (fun z => q ((nI_eq (by omega) (by omega)).mp z)), ck_t (ixb_t (by omega) (by omega)), nI_1, ck_t (ixb_t (by omega) (by omega)), nI_1, nI_clamp (by omega), nI_clamp (by omega)]
        have e2 : 2 * L.length + 1 + 1 = 2 * ((v, x') :: L).length := by rw [List.length_cons]; omega
        rw [e2]
        refine ih (v + 1) f _ ((v, x') :: L) (by omega) (by omega) ⟨fun u r hu => ?_, fun u hu h1 h2 => ?_⟩ (by rw [List.length_cons]; omega) ?_
        · rcases List.mem_cons.mp hu with z | z
          · injection z with z1 z2
            subst z1 z2
            exact ⟨by omega, b1', nρ, hx', r3⟩
          · obtain ⟨h1, h2⟩ := hL.1 u r z
            exact ⟨by omega, h2⟩
        · by_cases q : u = v
          · subst q
            exact ⟨x', List.mem_cons_self ..⟩
          · obtain ⟨r, hr'⟩ := hL.2 u (by omega) h1 h2
            exact ⟨r, List.mem_cons_of_mem _ hr'⟩
        · show la (pr L ++ [nI v] ++ [nI x']) _
          refine la_app (la_app (g := upd tof (2 * L.length) (nI v)) hla (fun j hj => ?_) ?_) (fun j hj => ?_) ?_
          · rw [pr_len] at hj
            exact pk_un (by omega)
          · rw [pr_len]
            exact pk_us
          · rw [List.length_append, List.length_singleton, pr_len] at hj
            exact pk_un (by omega)
          · rw [List.length_append, List.length_singleton, pr_len]
            exact pk_us
    · rw [if_neg (by rw [b2]; exact nm1 (by omega))]
      exact ih (v + 1) f tof L (by omega) (by omega) (skip (fun z => by rw [b3] at z; cases z)) (by omega) hla
theorem clr_loop {ML : Nat} (hM : ML ≤ 30000) {Pr : List Nat} {ptf : Nat → Int32} (hp : la (Pr.map nI) ptf) (hlt : ∀ x, x ∈ Pr → x < ML) (hl : Pr.length ≤ ML) {R : Type} (F : Nat → Int32 → (Nat → Int32) → Option R) (G : (Nat → Int32) → Option R) (hF : ∀ f i cof, F (f + 1) i cof = if nI Pr.length ≤ i then G cof else ck (ixb i 404300) (ck (ixb (ptf i.toNatClampNeg) 404300) (F f (i + 1) (upd cof (ptf i.toNatClampNeg).toNatClampNeg (vp_nar .byte 0))))) : ∀ (m i f : Nat) (cof : Nat → Int32), i + m = Pr.length → m < f → (∀ x, x < 404300 → cof x ≠ 0 → x ∈ Pr.drop i) → ∃ cof', F f (nI i) cof = G cof' ∧ ∀ x, x < 404300 → cof' x = 0 := by
  intro m
  induction m with
  | zero =>
    intro i f cof hi hf hd
    obtain ⟨f, rfl⟩ : ∃ z, f = z + 1 := ⟨f - 1, by omega⟩
    refine ⟨cof, by rw [hF, if_pos (nI_le (by omega) (by omega))], fun x hx => ?_⟩
    by_cases q : cof x = 0
    · exact q
    · have := hd x hx q
      rw [List.drop_of_length_le (by omega)] at this
      cases this
  | succ m ih =>
    intro i f cof hi hf hd
    obtain ⟨f, rfl⟩ : ∃ z, f = z + 1 := ⟨f - 1, by omega⟩
    have hil : i < Pr.length := by omega
    have et : ptf i = nI Pr[i] := by
      rw [hp i (by rw [List.length_map]; exact hil), List.getD_eq_getElem?_getD, List.getElem?_map, List.getElem?_eq_getElem hil]
      rfl
    have hj := hlt Pr[i] (List.getElem_mem hil)
    rw [hF, if_neg (nI_ge (by omega) (by omega)), ck_t (ixb_t (by omega) (by omega)), nI_clamp (n := i) (by omega), et, ck_t (ixb_t (by omega) (by omega)), nI_1, nI_clamp (n := Pr[i]) (by omega)]
    refine ih (i + 1) f _ (by omega) (by omega) (fun x hx hq => ?_)
    by_cases q : x = Pr[i]
    · subst q
      rw [pk_us] at hq
      exact absurd rfl hq
    · rw [pk_un q] at hq
      have := hd x hx hq
      rw [List.drop_eq_getElem_cons hil] at this
      rcases List.mem_cons.mp this with z | z
      · exact absurd z q
      · exact z
abbrev T10 : Type := Int32 × Int32 × Int32 × Int32 × (Nat → Int32) × (Nat → Int32) × (Nat → Int32) × (Nat → Int32) × (Nat → Int32) × (Nat → Int32)
def MUP (S : List Nd) (M : List Rf) (B : Nat → Option Av) (μ : Av → Av) (br : Nat → Int32) (nv m : Nat) (a b : Av) : T10 → Prop := fun (r, thr', tou', pai', br', up', tuf', tof', cof', ptf') => r = b1 (ug S μ m a b) ∧ thr' = 0 ∧ tou' = 0 ∧ pai' = 0 ∧ (∀ x, x < 404300 → up' x = -1) ∧ (∀ x, x < 404300 → cof' x = 0) ∧ (if ug S μ m a b = true then RBd S M nv (Bn B (un S μ false m (U0 a b)).1 nv) br' else br' = br)
theorem m_unify {TR : List (List Int32)} {S : List Nd} {M : List Rf} {P : Nat} {sz pt : Int32} {kf nf ff mf pf : Nat → Int32} {bf : Nat → Int64} {V : List (List Int32)} {ndf br : Nat → Int32} {B : Nat → Option Av} {rk : Nat → Nat} {μ : Av → Av} (hC : RCx TR S M P sz pt kf nf ff mf pf bf V ndf br B rk μ) (h8 : D8 S) (hS : S.length ≤ 20700) (hM3 : M.length ≤ 30000) {D : Av → Prop} (hD : DO S D) (hμ : ∀ z, D z → D (μ z) ∧ fa B (μ z)) (thr a b c d : Int32) (g1 g2 g3 g4 g5 : Int32) (g6 : Int64) (g7 g8 g9 g10 g11 : Int32) {up cof : Nat → Int32} (tuf tof ptf : Nat → Int32) (hup : ∀ x, x < 404300 → up x = -1) (hco : ∀ x, x < 404300 → cof x = 0) {rgf : Nat → Int32} {ga gb : Nat} (hga : ga < 8) (hgb : gb < 8) {x y : Nat} (ex : rgf ga = nI x) (ey : rgf gb = nI y) (hx : x < M.length) (hy : y < M.length) (Dx : D (arx S M x)) (Dy : D (arx S M y)) {m : Nat} (hm : m < 400000) (hf1 : ufin (un S μ false m (U0 (arx S M x) (arx S M y)))) (hUI : UI S B D (un S μ false m (U0 (arx S M x) (arx S M y)))) (hf2 : ffin (fn' S (fun z => (un S μ false m (U0 (arx S M x) (arx S M y))).1 (μ z)) m (FZ ((un S μ false m (U0 (arx S M x) (arx S M y))).1 (μ (arx S M x)))))) : wp (p_Mo_unify pure_n (nI ga) (nI gb) thr a b c d 0 0 sz pt 404300 kf 404300 nf 404300 ff 404300 mf 404300 pf 404300 bf g1 g2 g3 g4 g5 g6 g7 g8 g9 (nI V.length) g10 g11 8 rgf 4300 br 4300 ndf 404300 up 404300 tuf 808600 tof 404300 cof 404300 ptf) (MUP S M B μ br V.length m (arx S M x) (arx S M y)) := by
  have pg := pure_g2
  have hV := hC.2.2.1
  have hno : ∀ g, g < 8 → p_Mo_none (nI g) = some 0 := fun g hg => by
    unfold p_Mo_none
    rw [if_neg (nI_pos (by omega)), if_pos (show nI g ≤ 7 from nI_le (b := 7) (by omega) (by omega))]
  unfold p_Mo_unify p_Mo_unify_20
  refine wp_bs (hno ga hga) (wp_it rfl (wp_bs (hno gb hgb) (wp_it rfl (wp_it (by decide) (wp_ck (ixb_t hga (by omega)) (wp_ck (ixb_t hgb (by omega)) ?_))))))
  rw [nI_clamp (n := ga) (by omega), nI_clamp (n := gb) (by omega), ex, ey]
  refine wp_bind (m_classes hC h8 hS hM3 hD hμ false 0 a b c d 0 (tuf := tuf) (tof := tof) hup hx hy Dx Dy hf1 (by omega)) ?_
  rintro ⟨r, tou1, up1, tuf1, tof1⟩ hR
  dsimp only at hR ⊢
  rcases hR with ⟨q1, rfl, top, hJ⟩ | ⟨q1, rfl, Jr, hJ⟩
  · obtain ⟨_, tx, ru, mu, Jr, c1, c2, c3, c4, c5, c6, c7, c8, c9⟩ := hJ
    have hJl := rf_len c8
    refine wp_if (by decide) (wp_ck (ixb_t hga (by omega)) (wp_bind (m_finite hC h8 hS hM3 hD hμ 0 a b c d tou1 (K := Jr.length) (by omega) c3 c5 hUI.2.1 hco tof1 ptf hx Dx hf2 (by omega)) ?_))
    rintro ⟨r, pai2, tof2, cof2, ptf2⟩ ⟨rfl, Pr, p1, p2, p3, p4, p5⟩
    dsimp only
    have hPl : Pr.length ≤ M.length := nd_le _ Pr p3 p4
    subst p1
    cases hfm : (fn' S (fun z => (un S μ false m (U0 (arx S M x) (arx S M y))).1 (μ z)) m (FZ ((un S μ false m (U0 (arx S M x) (arx S M y))).1 (μ (arx S M x))))).2.2.2 with
    | true =>
      have eg : ug S μ m (arx S M x) (arx S M y) = false := by
        unfold ug
        rw [hfm, q1]
        rfl
      refine wp_it rfl ?_
      obtain ⟨cof3, k1, k2⟩ := clr_loop hM3 p2 p4 hPl (fun f i cf => p_Mo_unify_74_23 pure_n a b c d 4300 br 404300 404300 808600 404300 404300 0 tou1 up1 tuf1 (nI Pr.length) tof2 ptf2 f i cf) (fun cf => p_Mo_unify_113_25 pure_n a b c d 4300 br 404300 404300 808600 404300 0 tou1 up1 tuf1 ptf2 cf pure_n 0 0 tof2) (fun f i cf => by first | (dsimp only; rw [p_Mo_unify_74_23]) | rw [p_Mo_unify_74_23]) Pr.length 0 pure_n cof2 (by omega) (by omega) (fun z hz hq => by rw [List.drop_zero]; exact (p5 z hz).mp hq)
      try dsimp only at k1
      rw [nI_0] at k1
      rw [k1]
      obtain ⟨up4, cof4, w1, w2, w3⟩ := m_part hM3 c8 k2 0 a b c d 0
      have f1 : pure_n = 4999999 + 1 := rfl
      have key : ∀ n2 : Nat, p_Mo_unify_113_25 n2 a b c d 4300 br 404300 404300 808600 404300 0 tou1 up1 tuf1 ptf2 cof3 (4999999 + 1) 0 0 tof2 = (p_Mo_part_ n2 0 a b c d tou1 0 404300 up1 404300 tuf1 404300 cof3).bind (fun (t4, u4, c4) => p_Mo_unify_219_28 n2 4300 808600 0 tuf1 ptf2 0 tof2 t4 u4 c4 n2 0 br) := fun n2 => by rw [p_Mo_unify_113_25]
      rw [show p_Mo_unify_113_25 pure_n a b c d 4300 br 404300 404300 808600 404300 0 tou1 up1 tuf1 ptf2 cof3 pure_n 0 0 tof2 = _ from key pure_n]
      refine wp_bs w1 ?_
      dsimp only
      have key2 : ∀ n2 : Nat, p_Mo_unify_219_28 n2 4300 808600 0 tuf1 ptf2 0 tof2 0 up4 cof4 (4999999 + 1) 0 br = some (0, 0, 0, 0, br, up4, tuf1, tof2, cof4, ptf2) := fun n2 => by rw [p_Mo_unify_219_28, if_pos (by decide)]
      rw [show p_Mo_unify_219_28 pure_n 4300 808600 0 tuf1 ptf2 0 tof2 0 up4 cof4 pure_n 0 br = _ from key2 pure_n]
      exact wp_some ⟨by rw [eg]; rfl, rfl, rfl, rfl, w2, w3, by rw [eg, if_neg (by decide)]⟩
    | false =>
      have eg : ug S μ m (arx S M x) (arx S M y) = true := by
        unfold ug
        rw [hfm, q1]
        rfl
      refine wp_if (by decide) ?_
      obtain ⟨cof3, k1, k2⟩ := clr_loop hM3 p2 p4 hPl (fun f i cf => p_Mo_unify_74_35 pure_n a b c d sz pt 404300 kf 404300 nf (nI V.length) 4300 br 4300 ndf 404300 404300 808600 404300 404300 0 tou1 up1 tuf1 (nI Pr.length) tof2 ptf2 f i cf) (fun cf => p_Mo_unify_113_37 pure_n a b c d sz pt 404300 kf 404300 nf (nI V.length) 4300 br 4300 ndf 404300 404300 808600 404300 0 tou1 up1 tuf1 ptf2 cf pure_n 0 0 tof2) (fun f i cf => by first | (dsimp only; rw [p_Mo_unify_74_35]) | rw [p_Mo_unify_74_35]) Pr.length 0 pure_n cof2 (by omega) (by omega) (fun z hz hq => by rw [List.drop_zero]; exact (p5 z hz).mp hq)
      try dsimp only at k1
      rw [nI_0] at k1
      rw [k1]
      obtain ⟨tof3, L, n1, n2, n3, n4⟩ := m_113 hC hM3 a b c d 0 tou1 (K := Jr.length) (by omega) c3 c5 tuf1 ptf2 cof3 V.length 0 pure_n tof2 [] (by omega) (by omega) ⟨(fun u r hu => by cases hu), fun u hu => absurd hu (by omega)⟩ (Nat.le_refl _) (la_nil _)
      rw [List.length_nil, Nat.mul_zero, nI_0] at n1
      rw [n1]
      obtain ⟨up4, cof4, w1, w2, w3⟩ := m_part hM3 c8 k2 0 a b c d 0
      refine wp_bs w1 ?_
      dsimp only
      obtain ⟨b', u1, u2, u3⟩ := m_219 pure_n 0 tuf1 ptf2 tof3 0 up4 cof4 (L := L) (fun p hp => by have := (n2.1 p.1 p.2 hp).1; omega) (by omega) n4 br L.length 0 pure_n br (by omega) (by omega) (fun u => Or.inl rfl) (fun j u r hj => absurd hj (by omega))
      rw [Nat.mul_zero, nI_0] at u1
      rw [u1]
      refine wp_some ⟨by rw [eg]; rfl, rfl, rfl, rfl, w2, w3, ?_⟩
      rw [eg, if_pos rfl]
      intro v hv
      by_cases q : v < V.length ∧ B v = none ∧ (un S μ false m (U0 (arx S M x) (arx S M y))).1 (none, v) ≠ (none, v)
      · obtain ⟨r, hr'⟩ := n2.2 v hv q.2.1 q.2.2
        obtain ⟨r', e1, e2⟩ := u3 v r hr'
        obtain ⟨_, _, _, e3, e4⟩ := n2.1 v r' e1
        refine Or.inr ⟨r', e3, e2, ?_⟩
        unfold Bn
        rw [if_pos q, e4]
      · have eB : Bn B (un S μ false m (U0 (arx S M x) (arx S M y))).1 V.length v = B v := if_neg q
        have eb : b' v = br v := by
          rcases u2 v with z | ⟨r, z1, _⟩
          · exact z
          · obtain ⟨z2, z3, z4, _⟩ := n2.1 v r z1
            exact absurd ⟨z2, z3, z4⟩ q
        rw [eB, eb]
        exact hC.2.2.2.2.1 v hv
  · have eg : ug S μ m (arx S M x) (arx S M y) = false := by
      unfold ug
      rw [q1]
      rfl
    refine wp_it rfl ?_
    have key0 : ∀ n2 : Nat, p_Mo_unify_74 n2 a b c d 0 4300 br 404300 404300 808600 404300 404300 ptf 0 tou1 up1 tuf1 tof1 (4999999 + 1) 0 cof = p_Mo_unify_113 n2 a b c d 4300 br 404300 404300 808600 404300 ptf 0 tou1 up1 tuf1 cof n2 0 0 tof1 := fun n2 => by rw [p_Mo_unify_74, if_pos (by decide)]
    rw [show p_Mo_unify_74 pure_n a b c d 0 4300 br 404300 404300 808600 404300 404300 ptf 0 tou1 up1 tuf1 tof1 pure_n 0 cof = _ from key0 pure_n]
    have key : ∀ n2 : Nat, p_Mo_unify_113 n2 a b c d 4300 br 404300 404300 808600 404300 ptf 0 tou1 up1 tuf1 cof (4999999 + 1) 0 0 tof1 = (p_Mo_part_ n2 0 a b c d tou1 0 404300 up1 404300 tuf1 404300 cof).bind (fun (t4, u4, c4) => p_Mo_unify_219 n2 4300 808600 ptf 0 tuf1 0 tof1 t4 u4 c4 n2 0 br) := fun n2 => by rw [p_Mo_unify_113]
    rw [show p_Mo_unify_113 pure_n a b c d 4300 br 404300 404300 808600 404300 ptf 0 tou1 up1 tuf1 cof pure_n 0 0 tof1 = _ from key pure_n]
    obtain ⟨up4, cof4, w1, w2, w3⟩ := m_part hM3 hJ hco 0 a b c d 0
    refine wp_bs w1 ?_
    dsimp only
    have key2 : ∀ n2 : Nat, p_Mo_unify_219 n2 4300 808600 ptf 0 tuf1 0 tof1 0 up4 cof4 (4999999 + 1) 0 br = some (0, 0, 0, 0, br, up4, tuf1, tof1, cof4, ptf) := fun n2 => by rw [p_Mo_unify_219, if_pos (by decide)]
    rw [show p_Mo_unify_219 pure_n 4300 808600 ptf 0 tuf1 0 tof1 0 up4 cof4 pure_n 0 br = _ from key2 pure_n]
    exact wp_some ⟨by rw [eg]; rfl, rfl, rfl, rfl, w2, w3, by rw [eg, if_neg (by decide)]⟩
def MSQ (r0 : Bool) : Int32 × Int32 × Int32 × (Nat → Int32) × (Nat → Int32) × (Nat → Int32) × (Nat → Int32) → Prop := fun (r, thr', tou', up', tuf', tof', cof') => r = b1 r0 ∧ thr' = 0 ∧ tou' = 0 ∧ (∀ x, x < 404300 → up' x = -1) ∧ (∀ x, x < 404300 → cof' x = 0)
theorem m_same {TR : List (List Int32)} {S : List Nd} {M : List Rf} {P : Nat} {sz pt : Int32} {kf nf ff mf pf : Nat → Int32} {bf : Nat → Int64} {V : List (List Int32)} {ndf br : Nat → Int32} {B : Nat → Option Av} {rk : Nat → Nat} {μ : Av → Av} (hC : RCx TR S M P sz pt kf nf ff mf pf bf V ndf br B rk μ) (h8 : D8 S) (hS : S.length ≤ 20700) (hM3 : M.length ≤ 30000) {D : Av → Prop} (hD : DO S D) (hμ : ∀ z, D z → D (μ z) ∧ fa B (μ z)) (thr a b c d pai : Int32) {up cof : Nat → Int32} (tuf tof : Nat → Int32) (hup : ∀ x, x < 404300 → up x = -1) (hco : ∀ x, x < 404300 → cof x = 0) {rgf : Nat → Int32} {ga gb : Nat} (hga : ga < 8) (hgb : gb < 8) {x y : Nat} (ex : rgf ga = nI x) (ey : rgf gb = nI y) (hx : x < M.length) (hy : y < M.length) (Dx : D (arx S M x)) (Dy : D (arx S M y)) {m : Nat} (hm : m < 400000) (hf1 : ufin (un S μ true m (U0 (arx S M x) (arx S M y)))) : wp (p_Mo_same pure_n (nI ga) (nI gb) thr a b c d 0 pai sz pt 404300 kf 404300 nf 404300 ff 404300 mf 404300 pf 404300 bf 8 rgf 4300 br 4300 ndf 404300 up 404300 tuf 808600 tof 404300 cof) (MSQ (! (un S μ true m (U0 (arx S M x) (arx S M y))).2.2.2)) := by
  have pg := pure_g2
  have hno : ∀ g, g < 8 → p_Mo_none (nI g) = some 0 := fun g hg => by
    unfold p_Mo_none
    rw [if_neg (nI_pos (by omega)), if_pos (show nI g ≤ 7 from nI_le (b := 7) (by omega) (by omega))]
  unfold p_Mo_same p_Mo_same_20
  refine wp_bs (hno ga hga) (wp_it rfl (wp_bs (hno gb hgb) (wp_it rfl (wp_it (by decide) (wp_ck (ixb_t hga (by omega)) (wp_ck (ixb_t hgb (by omega)) ?_))))))
  rw [nI_clamp (n := ga) (by omega), nI_clamp (n := gb) (by omega), ex, ey]
  refine wp_bind (m_classes hC h8 hS hM3 hD hμ true 0 a b c d pai (tuf := tuf) (tof := tof) hup hx hy Dx Dy hf1 (by omega)) ?_
  rintro ⟨r, tou1, up1, tuf1, tof1⟩ hR
  have key : r = b1 (! (un S μ true m (U0 (arx S M x) (arx S M y))).2.2.2) ∧ ∃ Jr, RF M.length up1 Jr tou1 tuf1 := by
    rcases hR with ⟨q1, rfl, top, hJ⟩ | ⟨q1, rfl, hJ⟩
    · obtain ⟨_, tx, ru, mu, Jr, c1, c2, c3, c4, c5, c6, c7, c8, c9⟩ := hJ
      exact ⟨by rw [q1]; rfl, Jr, c8⟩
    · exact ⟨by rw [q1]; rfl, hJ⟩
  obtain ⟨rfl, Jr, hJ⟩ := key
  obtain ⟨up4, cof4, w1, w2, w3⟩ := m_part hM3 hJ hco 0 a b c d pai
  exact wp_bs w1 (wp_ck (zab_b _) (wp_some ⟨rfl, rfl, rfl, w2, w3⟩))
/-! ===== ranks, what is met, and both unify ===== -/
def mn (B : Nat → Option Av) : Nat → Av → Av
  | 0, a => a
  | n + 1, a => if isV a then (match B a.2 with | none => a | some b => mn B n b) else a
theorem mn_nv (B : Nat → Option Av) {a : Av} (h : ¬ isV a) : ∀ n, mn B n a = a := fun n => by
  cases n with
  | zero => rfl
  | succ n => rw [mn, if_neg h]
theorem mn_ir {B : Nat → Option Av} {rk : Nat → Nat} (h1 : ∀ v b, v < 200 → B v = some b → 1 ≤ rk v ∧ (isV b → rk b.2 < rk v)) : ∀ (n m : Nat) (a : Av), (isV a → rk a.2 < n) → (isV a → rk a.2 < m) → mn B n a = mn B m a := by
  intro n
  induction n with
  | zero =>
    intro m a h2 h3
    have nv : ¬ isV a := fun q => absurd (h2 q) (by omega)
    rw [mn_nv B nv, mn_nv B nv]
  | succ n ih =>
    intro m a h2 h3
    by_cases q : isV a
    · cases m with
      | zero => exact absurd (h3 q) (by omega)
      | succ m =>
        rw [mn, mn, if_pos q, if_pos q]
        cases hb : B a.2 with
        | none => rfl
        | some b =>
          obtain ⟨_, g2⟩ := h1 a.2 b q.2 hb
          have := h2 q
          have := h3 q
          exact ih m b (fun z => by have := g2 z; omega) (fun z => by have := g2 z; omega)
    · rw [mn_nv B q, mn_nv B q]
theorem mu_of {B : Nat → Option Av} {rk : Nat → Nat} (h1 : ∀ v b, v < 200 → B v = some b → 1 ≤ rk v ∧ (isV b → rk b.2 < rk v)) (h2 : ∀ v, rk v ≤ 200) : MU B rk (mn B 201) := by
  refine ⟨fun a h => mn_nv B h 201, fun v hv hb => ?_, fun v b hv hb => ?_, h2⟩
  · rw [mn, if_pos ⟨rfl, hv⟩, hb]
  · refine ⟨?_, h1 v b hv hb⟩
    rw [mn, if_pos ⟨rfl, hv⟩, hb]
    have := h2 v
    exact mn_ir h1 200 201 b (fun z => by have := (h1 v b hv hb).2 z; omega) (fun z => by have := (h1 v b hv hb).2 z; omega)
def cb (B : Nat → Option Av) : Nat := ((List.range 200).filter (fun v => (B v).isSome)).length
theorem cb_le (B : Nat → Option Av) : cb B ≤ 200 := by
  have := List.length_filter_le (fun v => (B v).isSome) (List.range 200)
  rw [List.length_range] at this
  exact this
theorem fl_mono (p q : Nat → Bool) : ∀ l : List Nat, (∀ x, x ∈ l → p x = true → q x = true) → (l.filter p).length ≤ (l.filter q).length ∧ ((∃ x, x ∈ l ∧ q x = true ∧ p x = false) → (l.filter p).length + 1 ≤ (l.filter q).length) := by
  intro l
  induction l with
  | nil =>
    intro _
    exact ⟨Nat.le_refl _, fun ⟨x, hx, _⟩ => by cases hx⟩
  | cons a l ih =>
    intro h
    obtain ⟨i1, i2⟩ := ih (fun x hx => h x (List.mem_cons_of_mem _ hx))
    have ha := h a (List.mem_cons_self ..)
    rw [List.filter_cons, List.filter_cons]
    cases hp : p a with
    | true =>
      rw [ha hp, if_pos rfl, if_pos rfl, List.length_cons, List.length_cons]
      refine ⟨by omega, fun ⟨x, hx, h1, h2⟩ => ?_⟩
      rcases List.mem_cons.mp hx with rfl | hx
      · rw [hp] at h2
        cases h2
      · have := i2 ⟨x, hx, h1, h2⟩
        omega
    | false =>
      rw [if_neg (by decide)]
      cases hq : q a with
      | true =>
        rw [if_pos rfl, List.length_cons]
        exact ⟨by omega, fun _ => by omega⟩
      | false =>
        rw [if_neg (by decide)]
        refine ⟨i1, fun ⟨x, hx, h1, h2⟩ => ?_⟩
        rcases List.mem_cons.mp hx with rfl | hx
        · rw [hq] at h1
          cases h1
        · exact i2 ⟨x, hx, h1, h2⟩
def BK (B : Nat → Option Av) (rk : Nat → Nat) : Prop := (∀ v b, v < 200 → B v = some b → 1 ≤ rk v ∧ (isV b → rk b.2 < rk v)) ∧ ∀ v, rk v ≤ cb B
theorem bk_mu {B : Nat → Option Av} {rk : Nat → Nat} (h : BK B rk) : MU B rk (mn B 201) := mu_of h.1 (fun v => Nat.le_trans (h.2 v) (cb_le B))
theorem bk_n {B : Nat → Option Av} {rk : Nat → Nat} (h : BK B rk) {ρ : Av → Av} (hi : ∀ z, ρ (ρ z) = ρ z) (hf : ∀ a, fa B a → fa B (ρ a)) {nv : Nat} (hnv : nv ≤ 200) : ∃ rk', BK (Bn B ρ nv) rk' := by
  by_cases c : ∃ v, v < nv ∧ B v = none ∧ ρ (none, v) ≠ (none, v)
  · refine ⟨fun v => if v < nv ∧ B v = none ∧ ρ (none, v) ≠ (none, v) then 1 else if (B v).isSome = true then rk v + 1 else 0, ?_, ?_⟩
    · intro v b hv hb
      dsimp only
      unfold Bn at hb
      by_cases q : v < nv ∧ B v = none ∧ ρ (none, v) ≠ (none, v)
      · rw [if_pos q] at hb ⊢
        obtain rfl : ρ (none, v) = b := by injection hb
        refine ⟨Nat.le_refl _, fun z => ?_⟩
        have f1 : fa B (ρ (none, v)) := hf _ (fun _ => q.2.1)
        have e : ρ (none, v) = (none, (ρ (none, v)).2) := Prod.ext z.1 rfl
        have n1 : ρ (none, (ρ (none, v)).2) = (none, (ρ (none, v)).2) := by rw [← e]; exact hi _
        rw [if_neg (fun w => w.2.2 n1), f1 z, if_neg (by decide)]
        exact Nat.zero_lt_one
      · rw [if_neg q] at hb ⊢
        obtain ⟨g1, g2⟩ := h.1 v b hv hb
        rw [hb, if_pos (show (some b).isSome = true from rfl)]
        refine ⟨by omega, fun z => ?_⟩
        have := g2 z
        split
        · omega
        · split <;> omega
    · intro v
      dsimp only
      have key : cb B + 1 ≤ cb (Bn B ρ nv) := by
        obtain ⟨w, w1, w2, w3⟩ := c
        refine (fl_mono (fun v => (B v).isSome) (fun v => (Bn B ρ nv v).isSome) (List.range 200) (fun x _ hx => ?_)).2 ⟨w, List.mem_range.mpr (by omega), ?_, ?_⟩
        · try dsimp only at hx ⊢
          unfold Bn
          by_cases q : x < nv ∧ B x = none ∧ ρ (none, x) ≠ (none, x)
          · rw [if_pos q]
            rfl
          · rw [if_neg q]
            exact hx
        · try dsimp only
          unfold Bn
          rw [if_pos ⟨w1, w2, w3⟩]
          rfl
        · try dsimp only
          rw [w2]
          rfl
      have := h.2 v
      split
      · omega
      · split <;> omega
  · refine ⟨rk, ?_⟩
    have : Bn B ρ nv = B := by
      funext v
      unfold Bn
      rw [if_neg (fun q => c ⟨v, q⟩)]
    rw [this]
    exact h
theorem hm_of {B : Nat → Option Av} {rk : Nat → Nat} {μ : Av → Av} (hM : MU B rk μ) {D : Av → Prop} (hB : ∀ v b, v < 200 → B v = some b → D b) : ∀ z, D z → D (μ z) ∧ fa B (μ z) := by
  obtain ⟨m1, m2, m3, m4⟩ := hM
  have L : ∀ (n : Nat) (z : Av), (isV z → rk z.2 ≤ n) → D z → D (μ z) ∧ fa B (μ z) := by
    intro n
    induction n with
    | zero =>
      intro z hr hz
      by_cases q : isV z
      · have e : z = (none, z.2) := by rw [← q.1]
        cases hb : B z.2 with
        | none =>
          have : μ z = z := by rw [e]; exact m2 _ q.2 hb
          rw [this]
          exact ⟨hz, fun _ => hb⟩
        | some b =>
          have := (m3 z.2 b q.2 hb).2.1
          have := hr q
          omega
      · rw [m1 z q]
        exact ⟨hz, fun w => absurd w q⟩
    | succ n ih =>
      intro z hr hz
      by_cases q : isV z
      · have e : z = (none, z.2) := by rw [← q.1]
        cases hb : B z.2 with
        | none =>
          have : μ z = z := by rw [e]; exact m2 _ q.2 hb
          rw [this]
          exact ⟨hz, fun _ => hb⟩
        | some b =>
          obtain ⟨g1, g2, g3⟩ := m3 z.2 b q.2 hb
          have r := hr q
          have : μ z = μ b := by
            have := g1
            rw [← e] at this
            exact this
          rw [this]
          exact ih b (fun w => by have := g3 w; omega) (hB _ b q.2 hb)
      · rw [m1 z q]
        exact ⟨hz, fun w => absurd w q⟩
  exact fun z hz => L 200 z (fun _ => m4 _) hz
/-- what may be met: what the reference has -/
def Dm (S : List Nd) (M : List Rf) (a : Av) : Prop := ∃ x, x < M.length ∧ arx S M x = a
theorem dm_do {TR : List (List Int32)} {S : List Nd} {M : List Rf} {P : Nat} {sz pt : Int32} {kf nf ff mf pf : Nat → Int32} {bf : Nat → Int64} {V : List (List Int32)} {ndf br : Nat → Int32} {B : Nat → Option Av} {rk : Nat → Nat} {μ : Av → Av} (hC : RCx TR S M P sz pt kf nf ff mf pf bf V ndf br B rk μ) : DO S (Dm S M) := by
  have hV := hC.2.2.1
  constructor
  · rintro a ⟨x, hx, rfl⟩ hn
    rcases rc_case hC hx with ⟨v, v1, v2, v3, _⟩ | ⟨i, d, i1, i2, ⟨z, z1, z2, _⟩ | ⟨z1, z2, _⟩⟩
    · rw [v3]
      show v < 200 + S.length
      omega
    · rw [z2] at hn
      cases hn
    · rw [z2]
      obtain ⟨hi, _⟩ := List.getElem?_eq_some_iff.mp i2
      show 200 + i < 200 + S.length
      omega
  · rintro a b ⟨x, hx, rfl⟩ hb
    obtain ⟨k, hk, ek⟩ := List.getElem_of_mem hb
    obtain ⟨y, _, y2, y3⟩ := mr_pa hC hx hk
    rw [List.getElem?_eq_getElem hk, ek] at y3
    injection y3 with y3
    exact ⟨y, y2, y3.symm⟩
theorem dm_c {S : List Nd} {D : Av → Prop} (hD : DO S D) : ∀ c, D (avc S c) → c < 200 + S.length := fun c hc => by
  by_cases q : (avc S c).1 = none
  · have := hD.1 _ hc q
    rw [av_snd q] at this
    exact this
  · by_cases w : c < 200 + S.length
    · exact w
    · exfalso
      apply q
      unfold avc
      rw [if_neg (by omega), List.getD_eq_getElem?_getD, List.getElem?_eq_none (by omega)]
      rfl
theorem ct_8 {T : List (List Int32)} {S : List Nd} {nd : Int32} {sn : Nat} {sf : Nat → Int32} {vn : Nat} {vf : Nat → Int64} {fn : Nat} {ff : Nat → Int32} {ps : Int32} {pn : Nat} {pf : Nat → Int32} (h : CT T S nd sn sf vn vf fn ff ps pn pf) : D8 S := fun i d e => by
  rcases (h.2.2.2.2.2.2.2.2.2.2 i d e).1 with ⟨z, _, z2, _⟩ | ⟨_, _, z3, _⟩
  · rw [z2]
    exact Nat.zero_le _
  · exact z3
/-! ===== registers; part ===== -/
theorem i32_lt {x y : Int32} : x < y ↔ x.toInt < y.toInt := Int32.lt_iff_toInt_lt
theorem i32_le {x y : Int32} : x ≤ y ↔ x.toInt ≤ y.toInt := Int32.le_iff_toInt_le
theorem reg_case (r : Int32) : (∃ g, g < 8 ∧ r = nI g ∧ p_UB_checkRegister r = some (0, 0, 0) ∧ p_Mo_none r = some 0) ∨ (p_UB_checkRegister r = some (1, 1, 6) ∧ p_Mo_none r = some 1) := by
  by_cases c : r < 0
  · refine Or.inr ⟨?_, ?_⟩
    · unfold p_UB_checkRegister
      rw [if_pos c]
      rfl
    · unfold p_Mo_none
      rw [if_pos c]
  · by_cases d : nI 8 ≤ r
    · have e8 : (nI 8).toInt = 8 := by decide
      have e7 : (7 : Int32).toInt = 7 := by decide
      have e88 : (8 : Int32).toInt = 8 := by decide
      rw [i32_le, e8] at d
      refine Or.inr ⟨?_, ?_⟩
      · unfold p_UB_checkRegister
        rw [if_neg c, if_neg (by rw [i32_lt, e88]; omega)]
        rfl
      · unfold p_Mo_none
        rw [if_neg c, if_neg (by rw [i32_le, e7]; omega)]
    · obtain ⟨g, g1, g2, _⟩ := pk_mu c d (by decide)
      subst g2
      refine Or.inl ⟨g, g1, rfl, ub_check g1, ?_⟩
      unfold p_Mo_none
      rw [if_neg (nI_pos (by omega)), if_pos (show nI g ≤ 7 from nI_le (b := 7) (by omega) (by omega))]
/-- registers of both sides -/
def RGS (S : List Nd) (M : List Rf) (rgc rgr : Nat → Int32) : Prop := ∀ g, g < 8 → ∃ c y, rgc g = nI c ∧ rgr g = nI y ∧ y < M.length ∧ avc S c = arx S M y
theorem rgs_upd {S : List Nd} {M : List Rf} {rgc rgr : Nat → Int32} (h : RGS S M rgc rgr) (t : Nat) {c y : Nat} (hy : y < M.length) (e : avc S c = arx S M y) : RGS S M (upd rgc t (nI c)) (upd rgr t (nI y)) := fun g hg => by
  by_cases q : g = t
  · subst q
    exact ⟨c, y, pk_us, pk_us, hy, e⟩
  · rw [pk_un q, pk_un q]
    exact h g hg
theorem i_part (i : Int32) (n : Nat) (hn : n ≤ 8) (h1 : 1 ≤ i) : (¬ i ≤ nI n) ∨ ∃ k, k < n ∧ i ≤ nI n ∧ i - 1 = nI k := by
  by_cases c : i ≤ nI n
  · refine Or.inr ?_
    have e1 : (1 : Int32).toInt = 1 := by decide
    have e0 : (0 : Int32).toInt = 0 := by decide
    have l1 := nI_lt (a := n) (b := n + 1) (by omega) (by omega)
    rw [i32_le] at h1
    have c' := c
    rw [i32_le] at c'
    rw [i32_lt] at l1
    obtain ⟨j, j1, j2, _⟩ := pk_mu (x := i) (L := n + 1) (by rw [i32_lt]; omega) (by rw [i32_le]; omega) (by omega)
    subst j2
    cases j with
    | zero =>
      rw [nI_0] at h1
      rw [e0, e1] at h1
      omega
    | succ k => exact ⟨k, by omega, c, nI_pred k⟩
  · exact Or.inl c
theorem j_part {TR : List (List Int32)} {S : List Nd} {M : List Rf} {P : Nat} {sz pt : Int32} {kf nf ff mf pf : Nat → Int32} {bf : Nat → Int64} {V : List (List Int32)} {ndf br : Nat → Int32} {B : Nat → Option Av} {rk : Nat → Nat} {μ : Av → Av} (hC : RCx TR S M P sz pt kf nf ff mf pf bf V ndf br B rk μ) {T : List (List Int32)} (hS : S.length ≤ 20700) {nd : Int32} {sn : Nat} {sf : Nat → Int32} {vn : Nat} {vf : Nat → Int64} {fn : Nat} {fif : Nat → Int32} {tp : Int32} {tn : Nat} {tf : Nat → Int32} (h : CT T S nd sn sf vn vf fn fif tp tn tf) {bc : Nat → Int32} (hB : CBd S B bc) {rgc rgr : Nat → Int32} (hR : RGS S M rgc rgr) (to x i mks plc vs lk tsy nb pb vb thr a b c d e g : Int32) : ∃ xc rgc' mq sk thr' rgr', p_UB_part pure_n to x i mks plc nd vs lk tsy nb pb vb sn sf fn fif tp tn tf 200 bc 8 rgc = some ((xc, rgc'), mq, sk) ∧ p_Mo_part_III pure_n to x i thr a b c d e g sz pt 404300 kf 404300 nf 404300 ff 404300 mf 404300 pf 8 rgr 4300 br 4300 ndf = some (thr', rgr') ∧ mq ≤ 1 ∧ sk ≤ 6 ∧ RGS S M rgc' rgr' ∧ ((xc = 0 ∧ thr' = 0) ∨ (xc = 1 ∧ thr' = 1) ∨ (xc = 4 ∧ thr' = 2)) := by
  have pg := pure_g2
  have hml := hC.1.2.2.1
  have h20 : p_Mo_part_III_20 pure_n to x i a b c d e g sz pt 404300 kf 404300 nf 404300 ff 404300 mf 404300 pf 8 rgr 4300 br 4300 ndf = some (1, rgr) := by
    unfold p_Mo_part_III_20 p_Mo_part_III_25
    rw [if_neg (by decide)]
  unfold p_UB_part p_Mo_part_III
  rcases reg_case to with ⟨gt, t1, t2, t3, t4⟩ | ⟨t3, t4⟩
  · rw [t3, t4, Option.bind_some, Option.bind_some]
    dsimp only
    rw [al00, if_pos rfl, if_pos rfl]
    rcases reg_case x with ⟨gx, x1, x2, x3, x4⟩ | ⟨x3, x4⟩
    · rw [x3, x4, Option.bind_some, Option.bind_some]
      dsimp only
      rw [al00, if_pos rfl, if_pos rfl]
      by_cases c1 : 1 ≤ i
      · rw [if_pos c1, if_pos c1]
        unfold p_Mo_part_III_25
        rw [if_pos (by decide)]
        subst x2 t2
        obtain ⟨cx, yx, r1, r2, r3, r4⟩ := hR gx x1
        have hcx := dm_c (dm_do hC) cx ⟨yx, r3, r4.symm⟩
        obtain ⟨c', m1, m2, m3, m4, _⟩ := cme_loop pure_n (by omega) hB hC.2.2.2.2.2.1 200 0 cx pure_n (by omega) hcx (fun _ => hC.2.2.2.2.2.1.2.2.2 cx) (by omega)
        rw [nI_0] at m1
        have mt : p_Terms_meant pure_n (nI cx) nd vs lk tsy nb pb vb 200 bc = some (nI c') := by
          unfold p_Terms_meant
          exact m1
        obtain ⟨y', n1, n2, n3, _⟩ := mm_meant hC 0 a b c d e g sz pt r3
        have hy' := n2.1
        have ea : avc S c' = arx S M y' := by rw [m3, n3, r4]
        have em := rc_many hC hy'
        rw [← ea] at em
        have l8 := pav_8 (ct_8 h) (avc S c')
        rw [ck_t (ixb_t x1 (by omega)), ck_t (ixb_t x1 (by omega)), nI_clamp (n := gx) (by omega), r1, r2, mt, n1, Option.bind_some, Option.bind_some, ct_po h nd vs lk tsy nb pb vb m2, Option.bind_some, ck_t (ixb_t (by omega) (by omega)), nI_clamp (n := y') (by omega), em.1]
        rcases i_part i (pav S (avc S c')).length l8 c1 with q | ⟨k, k1, k2, k3⟩
        · rw [if_neg q, if_neg q]
          refine ⟨4, rgc, 1, 6, 2, rgr, rfl, ?_, Nat.le_refl _, Nat.le_refl _, hR, Or.inr (Or.inr ⟨rfl, rfl⟩)⟩
          by_cases q2 : kf y' = 2
          · rw [if_pos q2, ck_t (ixb_t (by omega) (by omega))]
          · rw [if_neg q2]
        · rw [if_pos k2, if_pos k2, if_pos (em.2 (by omega)), ck_t (ixb_t (by omega) (by omega)), k3]
          obtain ⟨u, u1, u2⟩ := ct_pa h nd vs lk tsy nb pb vb m2 k1
          obtain ⟨w, w1, w2, w3⟩ := mr_pa hC hy' (k := k) (by rw [← ea]; exact k1)
          rw [u1, w1, Option.bind_some, Option.bind_some, ck_t (ixb_t t1 (by omega)), ck_t (ixb_t t1 (by omega)), nI_clamp (n := gt) (by omega)]
          refine ⟨0, _, 0, 0, 0, _, rfl, rfl, Nat.zero_le _, Nat.zero_le _, rgs_upd hR gt w2 ?_, Or.inl ⟨rfl, rfl⟩⟩
          rw [ea, w3] at u2
          injection u2 with u2
          exact u2.symm
      · rw [if_neg c1, if_neg c1, h20]
        exact ⟨1, rgc, 1, 6, 1, rgr, rfl, rfl, Nat.le_refl _, Nat.le_refl _, hR, Or.inr (Or.inl ⟨rfl, rfl⟩)⟩
    · rw [x3, x4, Option.bind_some, Option.bind_some, h20]
      exact ⟨1, rgc, 1, 6, 1, rgr, rfl, rfl, Nat.le_refl _, Nat.le_refl _, hR, Or.inr (Or.inl ⟨rfl, rfl⟩)⟩
  · rw [t3, t4, Option.bind_some, Option.bind_some, h20]
    exact ⟨1, rgc, 1, 6, 1, rgr, rfl, rfl, Nat.le_refl _, Nat.le_refl _, hR, Or.inr (Or.inl ⟨rfl, rfl⟩)⟩
/-! ===== both unify, both compare ===== -/
theorem rb_D {TR : List (List Int32)} {S : List Nd} {M : List Rf} {P : Nat} {sz pt : Int32} {kf nf ff mf pf : Nat → Int32} {bf : Nat → Int64} {V : List (List Int32)} {ndf br : Nat → Int32} {B : Nat → Option Av} {rk : Nat → Nat} {μ : Av → Av} (hC : RCx TR S M P sz pt kf nf ff mf pf bf V ndf br B rk μ) (hBV : ∀ v, V.length ≤ v → B v = none) : ∀ v b, v < 200 → B v = some b → Dm S M b := fun v b _ hb => by
  by_cases q : v < V.length
  · rcases hC.2.2.2.2.1 v q with ⟨z, _⟩ | ⟨y, y1, _, y3⟩
    · rw [z] at hb
      cases hb
    · rw [y3] at hb
      injection hb with hb
      exact ⟨y, y1, hb⟩
  · rw [hBV v (by omega)] at hb
    cases hb
theorem un_lim : ∃ m, 210000 ≤ m ∧ m < 400000 := ⟨250000, by decide, by decide⟩
def JU (S : List Nd) (M : List Rf) (nv : Nat) (W : Nat) : (Nat × Int32 × (Nat → Int32) × Nat × (Nat → Int32) × Nat × (Nat → Int32) × Int32 × Nat × (Nat → Int32) × Int32 × Nat × (Nat → Int32) × Int32 × Nat × (Nat → Int32) × Int32 × Nat × (Nat → Int32)) × Nat × Nat → T10 → Prop :=
  fun ((xc, r, bc', ln', lk', stn', stf', ps', pn', pf', js', jq', jf', ss', sq', sef', qs', qn', qf'), mq, sk) (r2, thr', tou', pai', br', up', _, _, cof', _) => stn' = ln' ∧ UZ ln' lk' stf' ps' pn' pf' js' jq' jf' ss' sq' sef' qs' qn' qf' ∧ tou' = 0 ∧ pai' = 0 ∧ (∀ x, x < 404300 → up' x = -1) ∧ (∀ x, x < 404300 → cof' x = 0) ∧ (∃ m k, wc W (2 * ln' + pn' + jq' + sq' + qn') m k ∧ mq ≤ m + 1 ∧ sk ≤ k + 6) ∧ ((xc = 0 ∧ thr' = 0 ∧ r2 = r ∧ (r = 0 ∨ r = 1)) ∨ (xc = 1 ∧ thr' = 1)) ∧ ∃ B' rk', BK B' rk' ∧ CBd S B' bc' ∧ RBd S M nv B' br' ∧ ∀ v, nv ≤ v → B' v = none
theorem b1_or (b : Bool) : b1 b = 0 ∨ b1 b = 1 := by cases b <;> decide
theorem j_unify {TR : List (List Int32)} {S : List Nd} {M : List Rf} {P : Nat} {sz pt : Int32} {kf nf ff mf pf : Nat → Int32} {bf : Nat → Int64} {V : List (List Int32)} {ndf br : Nat → Int32} {B : Nat → Option Av} {rk : Nat → Nat} {μ : Av → Av} (hC : RCx TR S M P sz pt kf nf ff mf pf bf V ndf br B rk μ) (hBK : BK B rk) (hBV : ∀ v, V.length ≤ v → B v = none) {T : List (List Int32)} (hT : T.Nodup) (hTl : T.length < 65536) (hS : S.length ≤ 20700) (hM3 : M.length ≤ 30000) {sn : Nat} {sf : Nat → Int32} {vn : Nat} {vf : Nat → Int64} {fn : Nat} {fif : Nat → Int32} {tp : Int32} {tn : Nat} {tf : Nat → Int32} (h : CT T S (nI (200 + S.length)) sn sf vn vf fn fif tp tn tf) {bc : Nat → Int32} (hB : CBd S B bc) {rgc rgr : Nat → Int32} (hR : RGS S M rgc rgr) {ln : Nat} {lk stf : Nat → Int32} {ps js ss qs : Int32} {pn jq sq qn : Nat} {pif jf sef qf : Nat → Int32} (hZ : UZ ln lk stf ps pn pif js jq jf ss sq sef qs qn qf) {up cof : Nat → Int32} (hup : ∀ x, x < 404300 → up x = -1) (hco : ∀ x, x < 404300 → cof x = 0) (tuf tof ptf : Nat → Int32) (x y mks plc lck tsy nb pb vb thr a b c d : Int32) (g1 g2 g3 g4 g5 : Int32) (g6 : Int64) (g7 g8 g9 g10 g11 : Int32) : wp (p_UB_unify pure_n x y mks plc (nI (200 + S.length)) (nI V.length) lck tsy nb pb vb sn sf vn vf fn fif tp tn tf 200 bc ln lk ln stf ps pn pif js jq jf ss sq sef qs qn qf 8 rgc) (fun v => wp (p_Mo_unify pure_n x y thr a b c d 0 0 sz pt 404300 kf 404300 nf 404300 ff 404300 mf 404300 pf 404300 bf g1 g2 g3 g4 g5 g6 g7 g8 g9 (nI V.length) g10 g11 8 rgr 4300 br 4300 ndf 404300 up 404300 tuf 808600 tof 404300 cof 404300 ptf) (JU S M V.length (2 * ln + pn + jq + sq + qn) v)) := by
  have h15 : p_Mo_unify_15 pure_n x y a b c d 0 0 sz pt 404300 kf 404300 nf 404300 ff 404300 mf 404300 pf 404300 bf (nI V.length) 8 rgr 4300 br 4300 ndf 404300 up 404300 tuf 808600 tof 404300 cof 404300 ptf = some (0, 1, 0, 0, br, up, tuf, tof, cof, ptf) := by
    unfold p_Mo_unify_15 p_Mo_unify_20
    rw [if_neg (by decide)]
  have BAD : JU S M V.length (2 * ln + pn + jq + sq + qn) ((1, 0, bc, ln, lk, ln, stf, ps, pn, pif, js, jq, jf, ss, sq, sef, qs, qn, qf), 1, 6) (0, 1, 0, 0, br, up, tuf, tof, cof, ptf) := ⟨rfl, hZ, rfl, rfl, hup, hco, ⟨0, 0, wc_refl _, Nat.le_refl _, Nat.le_refl _⟩, Or.inr ⟨rfl, rfl⟩, B, rk, hBK, hB, hC.2.2.2.2.1, hBV⟩
  rcases reg_case x with ⟨ga, x1, x2, x3, x4⟩ | ⟨x3, x4⟩
  · rcases reg_case y with ⟨gb, y1, y2, y3, y4⟩ | ⟨y3, y4⟩
    · obtain ⟨cx, zx, r1, r2, r3, r4⟩ := hR ga x1
      obtain ⟨cy, zy, s1, s2, s3, s4⟩ := hR gb y1
      obtain ⟨m, hm1, hm2⟩ := un_lim
      have hD := dm_do hC
      have hM := hC.2.2.2.2.2.1
      have h8 := ct_8 h
      have hμ := hm_of hM (rb_D hC hBV)
      have Dx : Dm S M (avc S cx) := ⟨zx, r3, r4.symm⟩
      have Dy : Dm S M (avc S cy) := ⟨zy, s3, s4.symm⟩
      obtain ⟨f1, U1⟩ := ui_end h8 hD hμ false m (U0 (avc S cx) (avc S cy)) (ui_0 Dx Dy) (by show 1 + 9 * (200 + S.length - 0) ≤ m; omega)
      obtain ⟨i1, i2⟩ := fi_0 (S := S) (D := Dm S M) (a := (un S μ false m (U0 (avc S cx) (avc S cy))).1 (μ (avc S cx))) (U1.2.1 _ (hμ _ Dx).1)
      have f2 := fi_end h8 hD (R := fun z => (un S μ false m (U0 (avc S cx) (avc S cy))).1 (μ z)) (fun z hz => U1.2.1 _ (hμ z hz).1) m _ i1 (by omega)
      have CL := u_makeSame hS h h8 hB hM hD hμ (dm_c hD) hT hTl lck tsy nb pb vb (nv := V.length) hC.2.2.1 hZ Dx Dy hm2 f1 U1 f2
      subst x2 y2
      unfold p_UB_unify
      refine wp_bs x3 ?_
      dsimp only
      rw [al00, if_pos rfl]
      refine wp_bs y3 ?_
      dsimp only
      rw [al00, if_pos rfl, nI_clamp (n := ga) (by omega), nI_clamp (n := gb) (by omega), r1, s1]
      refine wp_ck (ixb_t x1 (by omega)) (wp_ck (ixb_t y1 (by omega)) (wp_bind CL ?_))
      rintro ⟨⟨r, bc', ln', lk', stn', stf', ps', pn', pf', js', jq', jf', ss', sq', sef', qs', qn', qf'⟩, mq, sk⟩ ⟨k1, k2, k3, k4, k5⟩
      dsimp only
      refine wp_al (wp_ck (by rw [k3]; cases ug S μ m (avc S cx) (avc S cy) <;> rfl) (wp_some ?_))
      rw [r4] at f1 f2 U1 k3 k4 Dx
      rw [s4] at f1 f2 U1 k3 k4 Dy
      refine wp_mono (m_unify hC h8 hS hM3 hD hμ thr a b c d g1 g2 g3 g4 g5 g6 g7 g8 g9 g10 g11 tuf tof ptf hup hco x1 y1 r2 s2 r3 s3 Dx Dy hm2 f1 U1 f2) ?_
      rintro ⟨r2', thr', tou', pai', br', up', tuf', tof', cof', ptf'⟩ ⟨w1, w2, w3, w4, w5, w6, w7⟩
      refine ⟨k1, k2, w3, w4, w5, w6, ⟨mq, sk, k5, by show 0 + mq ≤ mq + 1; omega, by show 0 + sk ≤ sk + 6; omega⟩, Or.inl ⟨rfl, w2, by rw [w1, k3], by rw [k3]; exact b1_or _⟩, ?_⟩
      cases hu : ug S μ m (arx S M zx) (arx S M zy) with
      | true =>
        rw [hu, if_pos rfl] at k4 w7
        obtain ⟨rk', q⟩ := bk_n hBK U1.1 U1.2.2.2.2.2.1 (nv := V.length) hC.2.2.1
        exact ⟨_, rk', q, k4, w7, fun v hv => by
          unfold Bn
          rw [if_neg (by omega)]
          exact hBV v hv⟩
      | false =>
        rw [hu, if_neg (by decide)] at k4 w7
        subst k4 w7
        exact ⟨B, rk, hBK, hB, hC.2.2.2.2.1, hBV⟩
    · unfold p_UB_unify p_Mo_unify
      refine wp_bs x3 ?_
      dsimp only
      rw [al00, if_pos rfl]
      refine wp_bs y3 (wp_al (wp_if (by decide) (wp_some ?_)))
      refine wp_bs x4 (wp_it rfl (wp_bs y4 (wp_if (by decide) ?_)))
      rw [h15]
      exact wp_some BAD
  · unfold p_UB_unify p_Mo_unify
    refine wp_bs x3 (wp_al (wp_if (by decide) (wp_some ?_)))
    refine wp_bs x4 (wp_if (by decide) ?_)
    rw [h15]
    exact wp_some BAD
abbrev T7 : Type := Int32 × Int32 × Int32 × (Nat → Int32) × (Nat → Int32) × (Nat → Int32) × (Nat → Int32)
def JS (sq : Nat) (sef : Nat → Int32) (qn : Nat) (qf : Nat → Int32) (W : Nat) : (Nat × Int32 × Nat × (Nat → Int32) × Nat × (Nat → Int32) × Int32 × Nat × (Nat → Int32) × Int32 × Nat × (Nat → Int32) × Int32 × Int32) × Nat × Nat → T7 → Prop :=
  fun ((xc, r, ln', lk', stn', stf', ps', pn', pf', js', jq', jf', ss', qs'), mq, sk) (r2, thr', tou', up', _, _, cof') => stn' = ln' ∧ UZ ln' lk' stf' ps' pn' pf' js' jq' jf' ss' sq sef qs' qn qf ∧ tou' = 0 ∧ (∀ x, x < 404300 → up' x = -1) ∧ (∀ x, x < 404300 → cof' x = 0) ∧ (∃ m k, wc W (2 * ln' + pn' + jq' + sq + qn) m k ∧ mq ≤ m + 1 ∧ sk ≤ k + 6) ∧ ((xc = 0 ∧ thr' = 0 ∧ r2 = r ∧ (r = 0 ∨ r = 1)) ∨ (xc = 1 ∧ thr' = 1))
theorem j_same {TR : List (List Int32)} {S : List Nd} {M : List Rf} {P : Nat} {sz pt : Int32} {kf nf ff mf pf : Nat → Int32} {bf : Nat → Int64} {V : List (List Int32)} {ndf br : Nat → Int32} {B : Nat → Option Av} {rk : Nat → Nat} {μ : Av → Av} (hC : RCx TR S M P sz pt kf nf ff mf pf bf V ndf br B rk μ) (hBV : ∀ v, V.length ≤ v → B v = none) {T : List (List Int32)} (hT : T.Nodup) (hTl : T.length < 65536) (hS : S.length ≤ 20700) (hM3 : M.length ≤ 30000) {sn : Nat} {sf : Nat → Int32} {vn : Nat} {vf : Nat → Int64} {fn : Nat} {fif : Nat → Int32} {tp : Int32} {tn : Nat} {tf : Nat → Int32} (h : CT T S (nI (200 + S.length)) sn sf vn vf fn fif tp tn tf) {bc : Nat → Int32} (hB : CBd S B bc) {rgc rgr : Nat → Int32} (hR : RGS S M rgc rgr) {ln : Nat} {lk stf : Nat → Int32} {ps js ss qs : Int32} {pn jq sq qn : Nat} {pif jf sef qf : Nat → Int32} (hZ : UZ ln lk stf ps pn pif js jq jf ss sq sef qs qn qf) {up cof : Nat → Int32} (hup : ∀ x, x < 404300 → up x = -1) (hco : ∀ x, x < 404300 → cof x = 0) (tuf tof : Nat → Int32) (x y mks plc vs lck tsy nb pb vb thr a b c d pai : Int32) : wp (p_UB_same pure_n x y mks plc (nI (200 + S.length)) vs lck tsy nb pb vb sn sf vn vf fn fif tp tn tf 200 bc ln lk ln stf ps pn pif js jq jf ss sq sef qs 8 rgc) (fun v => wp (p_Mo_same pure_n x y thr a b c d 0 pai sz pt 404300 kf 404300 nf 404300 ff 404300 mf 404300 pf 404300 bf 8 rgr 4300 br 4300 ndf 404300 up 404300 tuf 808600 tof 404300 cof) (JS sq sef qn qf (2 * ln + pn + jq + sq + qn) v)) := by
  have h15 : p_Mo_same_15 pure_n x y a b c d 0 pai sz pt 404300 kf 404300 nf 404300 ff 404300 mf 404300 pf 404300 bf 8 rgr 4300 br 4300 ndf 404300 up 404300 tuf 808600 tof 404300 cof = some (0, 1, 0, up, tuf, tof, cof) := by
    unfold p_Mo_same_15 p_Mo_same_20
    rw [if_neg (by decide)]
  have BAD : JS sq sef qn qf (2 * ln + pn + jq + sq + qn) ((1, 0, ln, lk, ln, stf, ps, pn, pif, js, jq, jf, ss, qs), 1, 6) (0, 1, 0, up, tuf, tof, cof) := ⟨rfl, hZ, rfl, hup, hco, ⟨0, 0, wc_refl _, Nat.le_refl _, Nat.le_refl _⟩, Or.inr ⟨rfl, rfl⟩⟩
  rcases reg_case x with ⟨ga, x1, x2, x3, x4⟩ | ⟨x3, x4⟩
  · rcases reg_case y with ⟨gb, y1, y2, y3, y4⟩ | ⟨y3, y4⟩
    · obtain ⟨cx, zx, r1, r2, r3, r4⟩ := hR ga x1
      obtain ⟨cy, zy, s1, s2, s3, s4⟩ := hR gb y1
      obtain ⟨m, hm1, hm2⟩ := un_lim
      have hD := dm_do hC
      have hM := hC.2.2.2.2.2.1
      have h8 := ct_8 h
      have hμ := hm_of hM (rb_D hC hBV)
      have Dx : Dm S M (avc S cx) := ⟨zx, r3, r4.symm⟩
      have Dy : Dm S M (avc S cy) := ⟨zy, s3, s4.symm⟩
      obtain ⟨f1, U1⟩ := ui_end h8 hD hμ true m (U0 (avc S cx) (avc S cy)) (ui_0 Dx Dy) (by show 1 + 9 * (200 + S.length - 0) ≤ m; omega)
      have CL := u_areSame hS h h8 hB hM hD hμ (dm_c hD) hT hTl lck tsy nb pb vb vs hZ Dx Dy hm2 f1
      subst x2 y2
      unfold p_UB_same
      refine wp_bs x3 ?_
      dsimp only
      rw [al00, if_pos rfl]
      refine wp_bs y3 ?_
      dsimp only
      rw [al00, if_pos rfl, nI_clamp (n := ga) (by omega), nI_clamp (n := gb) (by omega), r1, s1]
      refine wp_ck (ixb_t x1 (by omega)) (wp_ck (ixb_t y1 (by omega)) (wp_bind CL ?_))
      rintro ⟨⟨r, ln', lk', stn', stf', ps', pn', pf', js', jq', jf', ss', qs'⟩, mq, sk⟩ ⟨k1, k2, k3, k5⟩
      dsimp only
      refine wp_al (wp_ck (by rw [k3]; cases (un S μ true m (U0 (avc S cx) (avc S cy))).2.2.2 <;> rfl) (wp_some ?_))
      rw [r4] at f1 k3 Dx
      rw [s4] at f1 k3 Dy
      refine wp_mono (m_same hC h8 hS hM3 hD hμ thr a b c d pai tuf tof hup hco x1 y1 r2 s2 r3 s3 Dx Dy hm2 f1) ?_
      rintro ⟨r2', thr', tou', up', tuf', tof', cof'⟩ ⟨w1, w2, w3, w5, w6⟩
      exact ⟨k1, k2, w3, w5, w6, ⟨mq, sk, k5, by show 0 + mq ≤ mq + 1; omega, by show 0 + sk ≤ sk + 6; omega⟩, Or.inl ⟨rfl, w2, by rw [w1, k3], by rw [k3]; exact b1_or _⟩⟩
    · unfold p_UB_same p_Mo_same
      refine wp_bs x3 ?_
      dsimp only
      rw [al00, if_pos rfl]
      refine wp_bs y3 (wp_al (wp_if (by decide) (wp_some ?_)))
      refine wp_bs x4 (wp_it rfl (wp_bs y4 (wp_if (by decide) ?_)))
      rw [h15]
      exact wp_some BAD
  · unfold p_UB_same p_Mo_same
    refine wp_bs x3 (wp_al (wp_if (by decide) (wp_some ?_)))
    refine wp_bs x4 (wp_if (by decide) ?_)
    rw [h15]
    exact wp_some BAD
/-! ===== the class's marks ===== -/
abbrev Mk : Type := (Nat → Int32) × (Nat → Int32)
def mk1 (m : Mk) : List Int32 := (List.range 8).map m.1 ++ (List.range 200).map m.2
def mkl (L : List Mk) : List Int32 := (L.map mk1).flatten
theorem mkl_len : ∀ L : List Mk, (mkl L).length = 208 * L.length := by
  intro L
  induction L with
  | nil => rfl
  | cons m L ih =>
    unfold mkl at ih ⊢
    rw [List.map_cons, List.flatten_cons, List.length_append, ih, List.length_cons]
    unfold mk1
    rw [List.length_append, List.length_map, List.length_map, List.length_range, List.length_range]
    omega
theorem mkl_app (L : List Mk) (m : Mk) : mkl (L ++ [m]) = mkl L ++ mk1 m := by
  unfold mkl
  rw [List.map_append, List.flatten_append, List.map_cons, List.map_nil, List.flatten_cons, List.flatten_nil, List.append_nil]
theorem rng_succ (f : Nat → Int32) (l : List Int32) (k : Nat) : l ++ (List.range (k + 1)).map f = l ++ (List.range k).map f ++ [f k] := by
  rw [List.range_succ, List.map_append, List.append_assoc]
  rfl
theorem pb_loop (n : Nat) (bc : Nat → Int32) {l : List Int32} (hl : l.length ≤ 100000) : ∀ (m i f : Nat) (s : Int32) (q : Nat) (g : Nat → Int32), i + m = 200 → m < f → IN (l ++ (List.range i).map bc) s q g → wp (p_Terms_pushBindings_2 n 200 bc f (nI i) s q g) (fun ((s', q', g'), mq, sk) => IN (l ++ (List.range 200).map bc) s' q' g' ∧ gw q q' (l.length + 200) mq sk) := by
  intro m
  induction m with
  | zero =>
    intro i f s q g hi hf hI
    obtain ⟨f, rfl⟩ : ∃ z, f = z + 1 := ⟨f - 1, by omega⟩
    obtain rfl : i = 200 := by omega
    rw [p_Terms_pushBindings_2]
    exact wp_it (by decide) (wp_some ⟨hI, gw_refl _ _⟩)
  | succ m ih =>
    intro i f s q g hi hf hI
    obtain ⟨f, rfl⟩ : ∃ z, f = z + 1 := ⟨f - 1, by omega⟩
    have ln : (l ++ (List.range i).map bc).length = l.length + i := by rw [List.length_append, List.length_map, List.length_range]
    rw [p_Terms_pushBindings_2]
    refine wp_if (show ¬ 200 ≤ nI i from nI_ge (b := 200) (by omega) (by omega)) (wp_ck (ixb_t (by omega) (by omega)) ?_)
    rw [nI_clamp (by omega), nI_1]
    refine wp_bind (in_push (bc i) hI (by omega)) ?_
    rintro ⟨⟨s1, q1, g1⟩, mq1, sk1⟩ ⟨h1, h2⟩
    rw [← rng_succ] at h1
    dsimp only
    refine wp_al (wp_mono (ih (i + 1) f s1 q1 g1 (by omega) (by omega) h1) ?_)
    rintro ⟨⟨s', q', g'⟩, mq, sk⟩ ⟨k1, k2⟩
    exact ⟨k1, gw_trans (gw_mono h2 (by omega)) k2 (Nat.le_refl _)⟩
theorem u_mark {L : List Mk} (hL : L.length ≤ 30) {sz : Int32} {q : Nat} {g : Nat → Int32} (hI : IN (mkl L) sz q g) (hq : q ≤ 20000) (rgc bc : Nat → Int32) (plc a b c d e i j : Int32) : wp (p_UB_mark pure_n (nI L.length) plc a b c d e i j 200 bc 8 rgc sz q g) (fun ((xc, r, mks', sz', q', g'), mq, sk) => q' ≤ 20000 ∧ (∃ m k, wc q q' m k ∧ mq ≤ m + 1 ∧ sk ≤ k + 6) ∧ ((L.length < 30 ∧ xc = 0 ∧ r = nI (L.length + 1) ∧ mks' = nI (L.length + 1) ∧ IN (mkl (L ++ [(rgc, bc)])) sz' q' g') ∨ (L.length = 30 ∧ xc = 3 ∧ mks' = nI L.length ∧ IN (mkl L) sz' q' g'))) := by
  have pg := pure_g2
  have ll := mkl_len L
  unfold p_UB_mark
  by_cases c30 : L.length < 30
  · refine wp_it (show nI L.length < 30 from nI_lt (b := 30) c30 (by omega)) ?_
    have Lp : ∀ (m k f : Nat) (s : Int32) (q1 : Nat) (g1 : Nat → Int32), k + m = 8 → m < f → IN (mkl L ++ (List.range k).map rgc) s q1 g1 → wp (p_UB_mark_19 pure_n (nI L.length) a b c d e i j 200 bc 8 rgc f (nI k) s q1 g1) (fun ((xc, r, mks', sz', q', g'), mq, sk) => xc = 0 ∧ r = nI (L.length + 1) ∧ mks' = nI (L.length + 1) ∧ IN (mkl L ++ (List.range 8).map rgc ++ (List.range 200).map bc) sz' q' g' ∧ gw q1 q' ((mkl L).length + 208) mq sk) := by
      intro m
      induction m with
      | zero =>
        intro k f s q1 g1 hk hf h1
        obtain ⟨f, rfl⟩ : ∃ z, f = z + 1 := ⟨f - 1, by omega⟩
        obtain rfl : k = 8 := by omega
        have ln : (mkl L ++ (List.range 8).map rgc).length = (mkl L).length + 8 := by rw [List.length_append, List.length_map, List.length_range]
        rw [p_UB_mark_19]
        unfold p_Terms_pushBindings
        refine wp_it (by decide) (wp_bind (pb_loop pure_n bc (l := mkl L ++ (List.range 8).map rgc) (by omega) 200 0 pure_n s q1 g1 (by omega) (by omega) (by rw [List.range_zero, List.map_nil, List.append_nil]; exact h1)) ?_)
        rintro ⟨⟨s', q', g'⟩, mq, sk⟩ ⟨k1, k2⟩
        dsimp only
        refine wp_al (wp_some ?_)
        refine ⟨rfl, nI_1 _, nI_1 _, k1, ?_⟩
        rw [ln] at k2
        show gw q1 q' _ (0 + mq) (0 + sk)
        rw [Nat.zero_add, Nat.zero_add]
        exact gw_mono k2 (by omega)
      | succ m ih =>
        intro k f s q1 g1 hk hf h1
        obtain ⟨f, rfl⟩ : ∃ z, f = z + 1 := ⟨f - 1, by omega⟩
        have ln : (mkl L ++ (List.range k).map rgc).length = (mkl L).length + k := by rw [List.length_append, List.length_map, List.length_range]
        rw [p_UB_mark_19]
        refine wp_if (show ¬ 8 ≤ nI k from nI_ge (b := 8) (by omega) (by omega)) (wp_ck (ixb_t (by omega) (by omega)) ?_)
        rw [nI_clamp (by omega), nI_1]
        refine wp_bind (in_push (rgc k) h1 (by omega)) ?_
        rintro ⟨⟨s1, q2, g2⟩, mq1, sk1⟩ ⟨h2, h3⟩
        rw [← rng_succ] at h2
        dsimp only
        refine wp_al (wp_mono (ih (k + 1) f s1 q2 g2 (by omega) (by omega) h2) ?_)
        rintro ⟨⟨xc, r, mks', s', q', g'⟩, mq, sk⟩ ⟨k1, k2, k3, k4, k5⟩
        exact ⟨k1, k2, k3, k4, gw_trans (gw_mono h3 (by omega)) k5 (Nat.le_refl _)⟩
    have G := Lp 8 0 pure_n sz q g (by omega) (by omega) (by rw [List.range_zero, List.map_nil, List.append_nil]; exact hI)
    rw [nI_0] at G
    refine wp_mono G ?_
    rintro ⟨⟨xc, r, mks', s', q', g'⟩, mq, sk⟩ ⟨k1, k2, k3, k4, k5, k6, k7⟩
    refine ⟨by omega, ⟨mq, sk, ⟨k5, k6⟩, by omega, by omega⟩, Or.inl ⟨c30, k1, k2, k3, ?_⟩⟩
    rw [mkl_app]
    unfold mk1
    rw [← List.append_assoc]
    exact k4
  · have e : L.length = 30 := by omega
    refine wp_if (show ¬ nI L.length < 30 from nI_nlt (b := 30) (by omega) (by omega)) (wp_als ?_)
    exact ⟨hq, ⟨0, 0, wc_refl _, Nat.le_refl _, Nat.le_refl _⟩, Or.inr ⟨e, rfl, rfl, hI⟩⟩
/-- popping a row -/
theorem pp_loop (n : Nat) {l : List Int32} (hl : l.length ≤ 100000) (h : Nat → Int32) {q : Nat} {g : Nat → Int32} : ∀ (m f : Nat) (X s : Int32) (bc : Nat → Int32), X = nI m - 1 → m ≤ 200 → m < f → IN (l ++ (List.range m).map h) s q g → (∀ v, m ≤ v → v < 200 → bc v = h v) → ∃ bc', p_Terms_popBindings_4 n 200 q g f X s bc = some (bc', nI l.length) ∧ IN l (nI l.length) q g ∧ ∀ v, v < 200 → bc' v = h v := by
  intro m
  induction m with
  | zero =>
    intro f X s bc hX _ hf hI hb
    obtain ⟨f, rfl⟩ : ∃ z, f = z + 1 := ⟨f - 1, by omega⟩
    rw [List.range_zero, List.map_nil, List.append_nil] at hI
    have e : s = nI l.length := hI.1
    subst hX e
    exact ⟨bc, by rw [p_Terms_popBindings_4, if_pos (by decide)], hI, fun v hv => hb v (by omega) hv⟩
  | succ m ih =>
    intro f X s bc hX h2 hf hI hb
    obtain ⟨f, rfl⟩ : ∃ z, f = z + 1 := ⟨f - 1, by omega⟩
    rw [nI_pred] at hX
    subst hX
    rw [rng_succ] at hI
    obtain ⟨p1, p2⟩ := in_pop hI
    rw [p_Terms_popBindings_4, if_neg (nI_pos (by omega)), p1, Option.bind_some]
    dsimp only
    rw [ck_t (ixb_t (by omega) (by omega)), nI_clamp (by omega), sb1]
    refine ih f _ _ _ rfl (by omega) (by omega) p2 (fun v hv hv2 => ?_)
    by_cases c : v = m
    · subst c
      exact pk_us
    · rw [pk_un c]
      exact hb v (by omega) hv2
theorem u_undo {L : List Mk} {rg1 bc1 : Nat → Int32} (hL : (L ++ [(rg1, bc1)]).length ≤ 30) {sz : Int32} {q : Nat} {g : Nat → Int32} (hI : IN (mkl (L ++ [(rg1, bc1)])) sz q g) (rgc bc : Nat → Int32) (plc a b c d e i j : Int32) : ∃ bc' rgc', p_UB_undo pure_n (nI (L.length + 1)) plc a b c d e i j 200 bc 8 rgc sz q g = some ((0, nI L.length, nI L.length, bc', rgc', nI (mkl L).length), 0, 0) ∧ IN (mkl L) (nI (mkl L).length) q g ∧ (∀ v, v < 200 → bc' v = bc1 v) ∧ ∀ v, v < 8 → rgc' v = rg1 v := by
  have pg := pure_g2
  have ll := mkl_len L
  rw [List.length_append, List.length_singleton] at hL
  rw [mkl_app] at hI
  unfold mk1 at hI
  rw [← List.append_assoc] at hI
  have ln : (mkl L ++ (List.range 8).map rg1).length = (mkl L).length + 8 := by rw [List.length_append, List.length_map, List.length_range]
  obtain ⟨bc', b1, b2, b3⟩ := pp_loop pure_n (l := mkl L ++ (List.range 8).map rg1) (by omega) bc1 200 pure_n 199 sz bc (by decide) (by omega) (by omega) hI (fun v h1 h2 => absurd h2 (by omega))
  have Lp : ∀ (m f : Nat) (X s : Int32) (rg : Nat → Int32), X = nI m - 1 → m ≤ 8 → m < f → IN (mkl L ++ (List.range m).map rg1) s q g → (∀ v, m ≤ v → v < 8 → rg v = rg1 v) → ∃ rgc', p_UB_undo_29 pure_n (nI (L.length + 1)) 8 q g bc' f X s rg = some ((0, nI L.length, nI L.length, bc', rgc', nI (mkl L).length), 0, 0) ∧ IN (mkl L) (nI (mkl L).length) q g ∧ ∀ v, v < 8 → rgc' v = rg1 v := by
    intro m
    induction m with
    | zero =>
      intro f X s rg hX _ hf h1 hb
      obtain ⟨f, rfl⟩ : ∃ z, f = z + 1 := ⟨f - 1, by omega⟩
      rw [List.range_zero, List.map_nil, List.append_nil] at h1
      have e : s = nI (mkl L).length := h1.1
      subst hX e
      exact ⟨rg, by rw [p_UB_undo_29, if_pos (by decide), nI_pred], h1, fun v hv => hb v (by omega) hv⟩
    | succ m ih =>
      intro f X s rg hX h2 hf h1 hb
      obtain ⟨f, rfl⟩ : ∃ z, f = z + 1 := ⟨f - 1, by omega⟩
      rw [nI_pred] at hX
      subst hX
      rw [rng_succ] at h1
      obtain ⟨p1, p2⟩ := in_pop h1
      rw [p_UB_undo_29, if_neg (nI_pos (by omega)), p1, Option.bind_some]
      dsimp only
      rw [ck_t (ixb_t (by omega) (by omega)), nI_clamp (by omega), sb1]
      refine ih f _ _ _ rfl (by omega) (by omega) p2 (fun v hv hv2 => ?_)
      by_cases c : v = m
      · subst c
        exact pk_us
      · rw [pk_un c]
        exact hb v (by omega) hv2
  obtain ⟨rgc', r1, r2, r3⟩ := Lp 8 pure_n 7 (nI (mkl L ++ (List.range 8).map rg1).length) rgc (by decide) (by omega) (by omega) b2 (fun v h1 h2 => absurd h2 (by omega))
  refine ⟨bc', rgc', ?_, r2, b3, r3⟩
  unfold p_UB_undo p_Terms_popBindings
  rw [if_neg (nI_ne0 (by omega) (by omega)), b1, Option.bind_some]
  exact r1
/-! ===== the reference's marks ===== -/
theorem vu_s {α : Type} (f : Nat → α) (k : Nat) (v : α) : va_up f k v k = v := by
  unfold va_up
  simp
theorem vu_n {α : Type} (f : Nat → α) {k j : Nat} (v : α) (h : j ≠ k) : va_up f k v j = f j := by
  unfold va_up
  simp [h]
theorem m_mark {k : Nat} (hk : k ≤ 30) {nv : Nat} (hv : nv ≤ 200) (thr a b c tou pai g1 g2 g3 g4 g5 : Int32) (g6 : Int64) (g7 g8 g9 g10 g11 : Int32) (rgr br : Nat → Int32) (G : Nat → Nat → Int32) (mr : Nat → Int32) : (k = 30 ∧ p_Mo_mark pure_n thr a b c (nI k) tou pai g1 g2 g3 g4 g5 g6 g7 g8 g9 (nI nv) g10 g11 8 rgr 4300 br 30 200 G 240 mr = some (0, 1, nI k, G, mr)) ∨ (k < 30 ∧ ∃ G' mr', p_Mo_mark pure_n thr a b c (nI k) tou pai g1 g2 g3 g4 g5 g6 g7 g8 g9 (nI nv) g10 g11 8 rgr 4300 br 30 200 G 240 mr = some (nI (k + 1), 0, nI (k + 1), G', mr') ∧ (∀ j, j ≠ k → G' j = G j) ∧ (∀ v, v < 200 → G' k v = if v < nv then br v else -1) ∧ (∀ j, j < 8 * k → mr' j = mr j) ∧ ∀ r, r < 8 → mr' (8 * k + r) = rgr r) := by
  have pg := pure_g2
  unfold p_Mo_mark p_Mo_fail
  by_cases c30 : k = 30
  · refine Or.inl ⟨c30, ?_⟩
    subst c30
    rw [if_pos (by decide), Option.bind_some]
  · refine Or.inr ⟨by omega, ?_⟩
    have e8 : (8 : Int32) * nI k = nI (8 * k) := pk_mul 8 k
    have L2 : ∀ (G' : Nat → Nat → Int32) (m r f : Nat) (mr1 : Nat → Int32), r + m = 8 → m < f → (∀ j, j < 8 * k → mr1 j = mr j) → (∀ u, u < r → mr1 (8 * k + u) = rgr u) → ∃ mr', p_Mo_mark_69 pure_n (nI k) 8 rgr 240 G' f (nI r) mr1 = some (nI (k + 1), 0, nI (k + 1), G', mr') ∧ (∀ j, j < 8 * k → mr' j = mr j) ∧ ∀ r, r < 8 → mr' (8 * k + r) = rgr r := by
      intro G' m
      induction m with
      | zero =>
        intro r f mr1 hr hf h1 h2
        obtain ⟨f, rfl⟩ : ∃ z, f = z + 1 := ⟨f - 1, by omega⟩
        obtain rfl : r = 8 := by omega
        exact ⟨mr1, by rw [p_Mo_mark_69, if_pos (by decide), nI_1], h1, h2⟩
      | succ m ih =>
        intro r f mr1 hr hf h1 h2
        obtain ⟨f, rfl⟩ : ∃ z, f = z + 1 := ⟨f - 1, by omega⟩
        rw [p_Mo_mark_69, if_neg (show ¬ 8 ≤ nI r from nI_ge (b := 8) (by omega) (by omega)), ck_t (ixb_t (by omega) (by omega)), e8, nI_add, ck_t (ixb_t (by omega) (by omega)), nI_clamp (n := r) (by omega), nI_clamp (n := 8 * k + r) (by omega), nI_1]
        refine ih (r + 1) f _ (by omega) (by omega) (fun j hj => ?_) (fun u hu => ?_)
        · rw [pk_un (by omega)]
          exact h1 j hj
        · by_cases q : u = r
          · subst q
            exact pk_us
          · rw [pk_un (by omega)]
            exact h2 u (by omega)
    have L1 : ∀ (m v f : Nat) (G1 : Nat → Nat → Int32), v + m = 200 → m < f → (∀ j, j ≠ k → G1 j = G j) → (∀ u, u < v → G1 k u = if u < nv then br u else -1) → ∃ G' mr', p_Mo_mark_22 pure_n (nI k) (nI nv) 8 rgr 4300 br 30 200 240 mr f (nI v) G1 = some (nI (k + 1), 0, nI (k + 1), G', mr') ∧ (∀ j, j ≠ k → G' j = G j) ∧ (∀ v, v < 200 → G' k v = if v < nv then br v else -1) ∧ (∀ j, j < 8 * k → mr' j = mr j) ∧ ∀ r, r < 8 → mr' (8 * k + r) = rgr r := by
      intro m
      induction m with
      | zero =>
        intro v f G1 hv' hf h1 h2
        obtain ⟨f, rfl⟩ : ∃ z, f = z + 1 := ⟨f - 1, by omega⟩
        obtain rfl : v = 200 := by omega
        obtain ⟨mr', q1, q2, q3⟩ := L2 G1 8 0 pure_n mr (by omega) (by omega) (fun _ _ => rfl) (fun u hu => absurd hu (by omega))
        rw [nI_0] at q1
        exact ⟨G1, mr', by rw [p_Mo_mark_22, if_pos (by decide), q1], h1, h2, q2, q3⟩
      | succ m ih =>
        intro v f G1 hv' hf h1 h2
        obtain ⟨f, rfl⟩ : ∃ z, f = z + 1 := ⟨f - 1, by omega⟩
        rw [p_Mo_mark_22, if_neg (show ¬ 200 ≤ nI v from nI_ge (b := 200) (by omega) (by omega)), ck_t (ixb_t (by omega) (by omega)), nI_clamp (n := k) (by omega), nI_clamp (n := v) (by omega), nI_1]
        by_cases q : nv ≤ v
        · rw [if_pos (nI_le q (by omega)), ck_t (ixb_t (by omega) (by omega))]
          refine ih (v + 1) f _ (by omega) (by omega) (fun j hj => by rw [vu_n _ _ hj]; exact h1 j hj) (fun u hu => ?_)
          rw [vu_s]
          by_cases q2 : u = v
          · subst q2
            rw [pk_us, if_neg (by omega)]
          · rw [pk_un q2]
            exact h2 u (by omega)
        · rw [if_neg (nI_ge (by omega) (by omega)), ck_t (ixb_t (by omega) (by omega)), ck_t (ixb_t (by omega) (by omega))]
          refine ih (v + 1) f _ (by omega) (by omega) (fun j hj => by rw [vu_n _ _ hj]; exact h1 j hj) (fun u hu => ?_)
          rw [vu_s]
          by_cases q2 : u = v
          · subst q2
            rw [pk_us, if_pos (by omega)]
          · rw [pk_un q2]
            exact h2 u (by omega)
    obtain ⟨G', mr', q1, q2⟩ := L1 200 0 pure_n G (by omega) (by omega) (fun _ _ => rfl) (fun u hu => absurd hu (by omega))
    rw [nI_0] at q1
    refine ⟨G', mr', ?_, q2⟩
    rw [if_neg (show ¬ nI k = 30 from fun z => c30 ((nI_eq (b := 30) (by omega) (by omega)).mp z))]
    exact q1
theorem m_undo {k : Nat} (hk : k < 30) {nv : Nat} (hv : nv ≤ 200) (thr a b c tou pai g1 g2 g3 g4 g5 : Int32) (g6 : Int64) (g7 g8 g9 g10 g11 : Int32) (rgr br : Nat → Int32) (G : Nat → Nat → Int32) (mr : Nat → Int32) : ∃ rgr' br', p_Mo_undo pure_n thr a b c (nI (k + 1)) tou pai g1 g2 g3 g4 g5 g6 g7 g8 g9 (nI nv) g10 g11 8 rgr 4300 br 30 200 G 240 mr = some (nI k, 0, nI k, rgr', br') ∧ (∀ v, v < nv → br' v = G k v) ∧ ∀ r, r < 8 → rgr' r = mr (8 * k + r) := by
  have pg := pure_g2
  have e8 : (8 : Int32) * nI k = nI (8 * k) := pk_mul 8 k
  have L2 : ∀ (br' : Nat → Int32) (m r f : Nat) (rg : Nat → Int32), r + m = 8 → m < f → (∀ u, u < r → rg u = mr (8 * k + u)) → ∃ rgr', p_Mo_undo_66 pure_n (nI (k + 1)) 8 240 mr br' f (nI r) rg = some (nI k, 0, nI k, rgr', br') ∧ ∀ r, r < 8 → rgr' r = mr (8 * k + r) := by
    intro br' m
    induction m with
    | zero =>
      intro r f rg hr hf h1
      obtain ⟨f, rfl⟩ : ∃ z, f = z + 1 := ⟨f - 1, by omega⟩
      obtain rfl : r = 8 := by omega
      exact ⟨rg, by rw [p_Mo_undo_66, if_pos (by decide), nI_pred], h1⟩
    | succ m ih =>
      intro r f rg hr hf h1
      obtain ⟨f, rfl⟩ : ∃ z, f = z + 1 := ⟨f - 1, by omega⟩
      rw [p_Mo_undo_66, if_neg (show ¬ 8 ≤ nI r from nI_ge (b := 8) (by omega) (by omega)), nI_pred, e8, nI_add, ck_t (ixb_t (by omega) (by omega)), ck_t (ixb_t (by omega) (by omega)), nI_clamp (n := r) (by omega), nI_clamp (n := 8 * k + r) (by omega), nI_1]
      refine ih (r + 1) f _ (by omega) (by omega) (fun u hu => ?_)
      by_cases q : u = r
      · subst q
        exact pk_us
      · rw [pk_un q]
        exact h1 u (by omega)
  have L1 : ∀ (m v f : Nat) (b1 : Nat → Int32), v + m = nv → m < f → (∀ u, u < v → b1 u = G k u) → ∃ rgr' br', p_Mo_undo_30 pure_n (nI (k + 1)) (nI nv) 8 rgr 4300 30 200 G 240 mr f (nI v) b1 = some (nI k, 0, nI k, rgr', br') ∧ (∀ v, v < nv → br' v = G k v) ∧ ∀ r, r < 8 → rgr' r = mr (8 * k + r) := by
    intro m
    induction m with
    | zero =>
      intro v f b1 hv' hf h1
      obtain ⟨f, rfl⟩ : ∃ z, f = z + 1 := ⟨f - 1, by omega⟩
      obtain rfl : v = nv := by omega
      obtain ⟨rgr', q1, q2⟩ := L2 b1 8 0 pure_n rgr (by omega) (by omega) (fun u hu => absurd hu (by omega))
      rw [nI_0] at q1
      exact ⟨rgr', b1, by rw [p_Mo_undo_30, if_pos (nI_le (Nat.le_refl _) (by omega)), q1], h1, q2⟩
    | succ m ih =>
      intro v f b1 hv' hf h1
      obtain ⟨f, rfl⟩ : ∃ z, f = z + 1 := ⟨f - 1, by omega⟩
      rw [p_Mo_undo_30, if_neg (nI_ge (by omega) (by omega)), nI_pred, ck_t (ixb_t (by omega) (by omega)), ck_t (ixb_t (by omega) (by omega)), ck_t (ixb_t (by omega) (by omega)), nI_clamp (n := k) (by omega), nI_clamp (n := v) (by omega), nI_1]
      refine ih (v + 1) f _ (by omega) (by omega) (fun u hu => ?_)
      by_cases q : u = v
      · subst q
        exact pk_us
      · rw [pk_un q]
        exact h1 u (by omega)
  obtain ⟨rgr', br', q1, q2⟩ := L1 nv 0 pure_n br (by omega) (by omega) (fun u hu => absurd hu (by omega))
  rw [nI_0] at q1
  refine ⟨rgr', br', ?_, q2⟩
  unfold p_Mo_undo
  rw [if_neg (nI_ne0 (by omega) (by omega))]
  exact q1
/-! ===== end, word, count ===== -/
theorem j_end {l : List Int32} {s : Int32} {N : Nat} {f f2 : Nat → Int32} (hB : BY l s N f) (hT : TM l f2) (x mks plc thr a b c d e : Int32) : (p_UB_end x mks plc s = some ((1, 0, s), 1, 6) ∧ p_Mo_end x thr (nI l.length) a b c d e = some (0, 1, nI l.length)) ∨ ∃ k, k ≤ l.length ∧ p_UB_end x mks plc s = some ((0, nI k, nI k), 0, 0) ∧ p_Mo_end x thr (nI l.length) a b c d e = some (nI k, 0, nI k) ∧ BY (l.take k) (nI k) N f ∧ TM (l.take k) f2 := by
  have hl := hT.1
  have es : s = nI l.length := hB.1
  unfold p_UB_end p_Mo_end p_Mo_fail p_Bytes_size
  by_cases c0 : x < 0
  · refine Or.inl ⟨?_, ?_⟩
    · rw [if_pos c0]
      rfl
    · rw [if_pos c0]
      rfl
  · by_cases c1 : x ≤ nI l.length
    · have l1 := nI_lt (a := l.length) (b := l.length + 1) (by omega) (by omega)
      have c1' := c1
      rw [i32_le] at c1'
      rw [i32_lt] at l1
      obtain ⟨k, k1, rfl, _⟩ := pk_mu (x := x) (L := l.length + 1) c0 (by rw [i32_le]; omega) (by omega)
      have lt : (l.take k).length = k := by rw [List.length_take]; omega
      have B1 : BY (l.take k) (nI k) N f := by
        have := hB
        rw [← List.take_append_drop k l] at this
        have := by_take this
        rw [lt] at this
        exact this
      have ct : p_Bytes_cut (nI k) s = some (nI k) := by
        unfold p_Bytes_cut
        rw [if_neg c0, es]
        by_cases q : k = l.length
        · rw [q, if_pos (nI_le (Nat.le_refl _) (by omega))]
        · rw [if_neg (nI_ge (by omega) (by omega))]
      refine Or.inr ⟨k, by omega, ?_, ?_, B1, ⟨by omega, la_take hT.2.1 k, fun j hj => hT.2.2 j (by omega)⟩⟩
      · rw [if_neg c0, Option.bind_some, if_pos (by rw [es]; exact c1), ct]
        rfl
      · rw [if_neg c0, if_pos c1]
    · refine Or.inl ⟨?_, ?_⟩
      · rw [if_neg c0, Option.bind_some, if_neg (by rw [es]; exact c1)]
        rfl
      · rw [if_neg c0, if_neg c1]
        rfl
theorem j_word {l : List Int32} {s : Int32} {N : Nat} {f f2 : Nat → Int32} (hB : BY l s N f) (hT : TM l f2) (x mks plc num thr a b c d e : Int32) : (p_UB_word pure_n x mks plc num s N f = some ((3, 0), 1, 6) ∧ p_Mo_word pure_n x thr a b (nI l.length) c d e 4096 f2 = some (0, 1)) ∨ ∃ v, p_UB_word pure_n x mks plc num s N f = some ((0, v), 0, 0) ∧ p_Mo_word pure_n x thr a b (nI l.length) c d e 4096 f2 = some (v, 0) := by
  have pg := pure_g2
  have hl := hT.1
  have es : s = nI l.length := hB.1
  unfold p_UB_word p_Mo_word p_Mo_fail p_Bytes_size p_Printer_result
  rw [Option.bind_some]
  by_cases c0 : x < 0
  · refine Or.inl ⟨?_, ?_⟩
    · rw [if_pos c0]
      rfl
    · rw [if_pos c0]
      rfl
  · by_cases c1 : x < nI l.length
    · have c1' := c1
      rw [i32_lt] at c1'
      obtain ⟨k, k1, rfl, _⟩ := pk_mu (x := x) (L := l.length) c0 (by rw [i32_le]; omega) (by omega)
      have e8 : nI k + 8 = nI (k + 8) := nI_add k 8
      have L : ∀ (m i f1 f3 : Nat) (acc : Int64), i + m = 8 → m < f1 → m < f3 → ∃ v, p_UB_word_33 pure_n (nI k) s N f f1 (nI i) acc = some ((0, v), 0, 0) ∧ p_Mo_word_29 pure_n (nI k) (nI l.length) 4096 f2 f3 (nI (k + i)) acc = some (v, 0) := by
        intro m
        induction m with
        | zero =>
          intro i f1 f3 acc hi h1 h3
          obtain ⟨f1, rfl⟩ : ∃ z, f1 = z + 1 := ⟨f1 - 1, by omega⟩
          obtain ⟨f3, rfl⟩ : ∃ z, f3 = z + 1 := ⟨f3 - 1, by omega⟩
          obtain rfl : i = 8 := by omega
          exact ⟨acc, by rw [p_UB_word_33, if_pos (by decide)], by rw [p_Mo_word_29, e8, if_pos (nI_le (Nat.le_refl _) (by omega))]⟩
        | succ m ih =>
          intro i f1 f3 acc hi h1 h3
          obtain ⟨f1, rfl⟩ : ∃ z, f1 = z + 1 := ⟨f1 - 1, by omega⟩
          obtain ⟨f3, rfl⟩ : ∃ z, f3 = z + 1 := ⟨f3 - 1, by omega⟩
          rw [p_UB_word_33, if_neg (show ¬ 8 ≤ nI i from nI_ge (b := 8) (by omega) (by omega)), p_Mo_word_29, e8, if_neg (nI_ge (by omega) (by omega)), nI_add, nI_1, nI_1]
          by_cases q : k + i < l.length
          · rw [(by_at hB q).1, Option.bind_some, if_neg (nI_ge q (by omega)), ck_t (ixb_t (by omega) (by omega)), nI_clamp (by omega), hT.2.1 _ q]
            exact ih (i + 1) f1 f3 _ (by omega) (by omega) (by omega)
          · rw [by_at0 hB (by omega) (by omega), Option.bind_some, if_pos (nI_le (by omega) (by omega))]
            exact ih (i + 1) f1 f3 _ (by omega) (by omega) (by omega)
      obtain ⟨v, v1, v2⟩ := L 8 0 pure_n pure_n 0 (by omega) (by omega) (by omega)
      rw [nI_0] at v1
      rw [Nat.add_zero] at v2
      refine Or.inr ⟨v, ?_, ?_⟩
      · rw [if_neg c0, Option.bind_some, if_pos (by rw [es]; exact c1)]
        exact v1
      · rw [if_neg c0, if_pos c1]
        exact v2
    · refine Or.inl ⟨?_, ?_⟩
      · rw [if_neg c0, Option.bind_some, if_neg (by rw [es]; exact c1)]
        rfl
      · rw [if_neg c0, if_neg c1]
        rfl
theorem j_count {nv : Nat} (hv : nv ≤ 200) {bc br : Nat → Int32} (hb : ∀ v, v < nv → (bc v = -1 ↔ br v = -1)) (what mks plc tsz nd lck tsy nb pb vb num rsz thr c d e g1 g2 g3 g4 g5 : Int32) (g6 : Int64) (g7 g8 g9 g10 g11 : Int32) : (p_UB_count pure_n what mks plc tsz nd (nI nv) lck tsy nb pb vb 200 bc num rsz = some ((1, 0), 1, 6) ∧ p_Mo_count pure_n what thr tsz plc rsz c d e g1 g2 g3 g4 g5 g6 g7 g8 g9 (nI nv) g10 g11 4300 br = some (0, 1)) ∨ ∃ v, p_UB_count pure_n what mks plc tsz nd (nI nv) lck tsy nb pb vb 200 bc num rsz = some ((0, v), 0, 0) ∧ p_Mo_count pure_n what thr tsz plc rsz c d e g1 g2 g3 g4 g5 g6 g7 g8 g9 (nI nv) g10 g11 4300 br = some (v, 0) := by
  have pg := pure_g2
  have L : ∀ (m v f1 f3 : Nat) (acc : Int32), v + m = nv → m < f1 → m < f3 → ∃ z, p_Terms_boundVariables_4 pure_n (nI nv) 200 bc f1 (nI v) acc = some z ∧ p_Mo_count_9 pure_n what tsz plc rsz c d e (nI nv) 4300 br f3 (nI v) acc = (if what = 0 then (some (tsz, (0 : Int32))) else (if what = 1 then (some (rsz, (0 : Int32))) else (if what = 2 then (some (plc, (0 : Int32))) else (if what = 3 then (some (z, (0 : Int32))) else some (0, 1))))) := by
    intro m
    induction m with
    | zero =>
      intro v f1 f3 acc hi h1 h3
      obtain ⟨f1, rfl⟩ : ∃ z, f1 = z + 1 := ⟨f1 - 1, by omega⟩
      obtain ⟨f3, rfl⟩ : ∃ z, f3 = z + 1 := ⟨f3 - 1, by omega⟩
      obtain rfl : v = nv := by omega
      refine ⟨acc, by rw [p_Terms_boundVariables_4, if_pos (nI_le (Nat.le_refl _) (by omega))], ?_⟩
      rw [p_Mo_count_9, if_pos (nI_le (Nat.le_refl _) (by omega))]
      rfl
    | succ m ih =>
      intro v f1 f3 acc hi h1 h3
      obtain ⟨f1, rfl⟩ : ∃ z, f1 = z + 1 := ⟨f1 - 1, by omega⟩
      obtain ⟨f3, rfl⟩ : ∃ z, f3 = z + 1 := ⟨f3 - 1, by omega⟩
      rw [p_Terms_boundVariables_4, if_neg (nI_ge (by omega) (by omega)), p_Mo_count_9, if_neg (nI_ge (by omega) (by omega)), ck_t (ixb_t (by omega) (by omega)), ck_t (ixb_t (by omega) (by omega)), nI_clamp (by omega), nI_1]
      by_cases q : bc v = -1
      · rw [if_pos q, if_pos ((hb v (by omega)).mp q)]
        exact ih (v + 1) f1 f3 acc (by omega) (by omega) (by omega)
      · rw [if_neg q, if_neg (fun z => q ((hb v (by omega)).mpr z))]
        exact ih (v + 1) f1 f3 _ (by omega) (by omega) (by omega)
  obtain ⟨z, z1, z2⟩ := L nv 0 pure_n pure_n 0 (by omega) (by omega) (by omega)
  rw [nI_0] at z1 z2
  unfold p_UB_count p_Mo_count p_Terms_boundVariables p_Printer_result p_Bytes_size
  rw [z1, z2]
  by_cases q0 : what = 0
  · rw [if_pos q0, if_pos q0]
    exact Or.inr ⟨tsz, rfl, rfl⟩
  rw [if_neg q0, if_neg q0]
  by_cases q1 : what = 1
  · rw [if_pos q1, if_pos q1]
    exact Or.inr ⟨rsz, rfl, rfl⟩
  rw [if_neg q1, if_neg q1]
  by_cases q2 : what = 2
  · rw [if_pos q2, if_pos q2]
    exact Or.inr ⟨plc, rfl, rfl⟩
  rw [if_neg q2, if_neg q2]
  by_cases q3 : what = 3
  · rw [if_pos q3, if_pos q3]
    exact Or.inr ⟨z, rfl, rfl⟩
  rw [if_neg q3, if_neg q3]
  exact Or.inl ⟨rfl, rfl⟩
theorem b_iff {S : List Nd} (hS : S.length ≤ 20700) {M : List Rf} (hM : M.length ≤ 30000) {nv : Nat} (hnv : nv ≤ 200) {B : Nat → Option Av} {bc br : Nat → Int32} (h1 : CBd S B bc) (h2 : RBd S M nv B br) : ∀ v, v < nv → (bc v = -1 ↔ br v = -1) := fun v hv => by
  rcases h1 v (by omega) with ⟨a1, a2⟩ | ⟨c, a1, a2, a3⟩
  · rcases h2 v hv with ⟨b1, b2⟩ | ⟨y, b1, b2, b3⟩
    · rw [a2, b2]
    · rw [a1] at b3
      cases b3
  · rcases h2 v hv with ⟨b1, b2⟩ | ⟨y, b1, b2, b3⟩
    · rw [a3] at b1
      cases b1
    · rw [a2, b2]
      exact ⟨fun z => absurd z (nm1 (by omega)), fun z => absurd z (nm1 (by omega))⟩
/-! ===== the class's reset ===== -/
theorem ar_fill (v : Int32) {k : Nat} (hk : k ≤ 4000) (f : Nat → Int32) : ∃ g, p_Arrays_fill pure_n v k f = some g ∧ ∀ j, j < k → g j = v := by
  have pg := pure_g2
  have L : ∀ (m i F : Nat) (g : Nat → Int32), i + m = k → m < F → (∀ j, j < i → g j = v) → ∃ g', p_Arrays_fill_5 pure_n v k F (nI i) g = some g' ∧ ∀ j, j < k → g' j = v := by
    intro m
    induction m with
    | zero =>
      intro i F g hi hF hg
      obtain ⟨F, rfl⟩ : ∃ z, F = z + 1 := ⟨F - 1, by omega⟩
      obtain rfl : i = k := by omega
      exact ⟨g, by rw [p_Arrays_fill_5, if_pos (show Int32.ofNat i ≤ nI i from nI_le (a := i) (Nat.le_refl _) (by omega))], hg⟩
    | succ m ih =>
      intro i F g hi hF hg
      obtain ⟨F, rfl⟩ : ∃ z, F = z + 1 := ⟨F - 1, by omega⟩
      rw [p_Arrays_fill_5, if_neg (show ¬ Int32.ofNat k ≤ nI i from nI_ge (b := k) (by omega) (by omega)), ck_t (ixb_t (by omega) (by omega)), nI_clamp (by omega), nI_1]
      refine ih (i + 1) F _ (by omega) (by omega) (fun j hj => ?_)
      by_cases q : j = i
      · subst q
        exact pk_us
      · rw [pk_un q]
        exact hg j (by omega)
  obtain ⟨g, g1, g2⟩ := L k 0 pure_n f (by omega) (by omega) (fun j hj => absurd hj (by omega))
  rw [nI_0] at g1
  unfold p_Arrays_fill
  exact ⟨g, g1, g2⟩
def SE : List Nd := [(none, [91, 93], [])]
theorem u_reset {U : List (List Int32)} {p : List Int32} {ts : Int32} {tn : Nat} {tf : Nat → Int32} {es : Int32} {en : Nat} {ef : Nat → Int32} {os : Int32} {on : Nat} {of nf : Nat → Int32} (hNC : NC (KT ++ U) p ts tn tf es en ef os on of nf) {S1 : List Nd} {nd : Int32} {sn : Nat} {sf : Nat → Int32} {vn : Nat} {vf : Nat → Int64} {fn : Nat} {ff : Nat → Int32} {ps : Int32} {pn : Nat} {pf : Nat → Int32} (hCT : CT (KT ++ U) (SE ++ S1) nd sn sf vn vf fn ff ps pn pf) {l : List Int32} {mz : Int32} {mn' : Nat} {mf : Nat → Int32} (hmk : IN l mz mn' mf) (mks plc sb vs lck tsy nb pb vb : Int32) (bc rgc : Nat → Int32) : ∃ es' os' nf' bc' rg' p', p_UB_reset pure_n mks plc ts sb tn tf es en ef os on of 128 nf nd vs lck tsy nb pb vb ps 200 bc 8 rgc mz = some (0, es', os', nf', 201, 0, 0, 0, bc', rg', 0) ∧ NC KT p' ts tn tf es' en ef os' on of nf' ∧ CT KT SE (nI (200 + SE.length)) sn sf vn vf fn ff 0 pn pf ∧ (∀ v, v < 200 → bc' v = -1) ∧ (∀ g, g < 8 → rg' g = 200) ∧ IN [] 0 mn' mf := by
  have pg := pure_g2
  obtain ⟨rg', r1, r2⟩ := ar_fill 200 (k := 8) (by omega) rgc
  obtain ⟨bc', b1', b2⟩ := ar_fill (-1) (k := 200) (by omega) bc
  obtain ⟨c1, c2⟩ := ct_back (S := SE) hCT hNC.2.2.2.2.2 (by decide) (fun i d e _ => by
    cases i with
    | zero =>
      have : d = (none, [91, 93], []) := by
        have e' : some ((none, [91, 93], []) : Nd) = some d := e
        exact (Option.some.inj e').symm
      subst this
      exact ⟨0, by decide, rfl⟩
    | succ i => cases e)
  obtain ⟨⟨es', os', nf'⟩, n1, n2⟩ := nc_forget pure_n sb (by omega) hNC (k := 24) (by rw [List.length_append]; exact Nat.le_add_right_of_le (by decide))
  have ek : (KT ++ U).take 24 = KT := List.take_left' (by decide)
  dsimp only at n2
  rw [ek] at n2
  have e0 : nI (pl SE).length = 0 := rfl
  rw [e0] at c1 c2
  refine ⟨es', os', nf', bc', rg', _, ?_, n2, c1, b2, r2, (ud_cut hmk).2⟩
  unfold p_UB_reset p_Terms_forgetAll p_Names_forgetAll
  rw [r1, Option.bind_some, c2, Option.bind_some, b1', Option.bind_some, Option.bind_some]
  dsimp only
  rw [show p_Names_forgetFrom pure_n 24 ts sb tn tf es en ef os on of 128 nf = some (es', os', nf') from n1, Option.bind_some]
  dsimp only
  rw [Option.bind_some]
  dsimp only
  rw [(ud_cut hmk).1, Option.bind_some]
/-! ===== the reference's reset ===== -/
theorem mc_clear (a b : Int32) (from_ first : Nat → Int32) : ∃ from' first', p_MoNames_clear pure_n a b 404301 from_ 1024 first = some (0, 0, from', first') ∧ from' 0 = 0 ∧ ∀ r, r < 1024 → first' r = -1 := by
  have pg := pure_g2
  have L : ∀ (m i F : Nat) (g : Nat → Int32), i + m = 1024 → m < F → (∀ j, j < i → g j = -1) → ∃ g', p_MoNames_clear_19 pure_n from_ 1024 F (nI i) g = some (0, 0, upd from_ 0 0, g') ∧ ∀ j, j < 1024 → g' j = -1 := by
    intro m
    induction m with
    | zero =>
      intro i F g hi hF hg
      obtain ⟨F, rfl⟩ : ∃ z, F = z + 1 := ⟨F - 1, by omega⟩
      obtain rfl : i = 1024 := by omega
      exact ⟨g, by rw [p_MoNames_clear_19, if_pos (by decide)]; rfl, hg⟩
    | succ m ih =>
      intro i F g hi hF hg
      obtain ⟨F, rfl⟩ : ∃ z, F = z + 1 := ⟨F - 1, by omega⟩
      rw [p_MoNames_clear_19, if_neg (show ¬ 1024 ≤ nI i from nI_ge (b := 1024) (by omega) (by omega)), ck_t (ixb_t (by omega) (by omega)), nI_clamp (by omega), nI_1]
      refine ih (i + 1) F _ (by omega) (by omega) (fun j hj => ?_)
      by_cases q : j = i
      · subst q
        exact pk_us
      · rw [pk_un q]
        exact hg j (by omega)
  obtain ⟨g, g1, g2⟩ := L 1024 0 pure_n first (by omega) (by omega) (fun j hj => absurd hj (by omega))
  rw [nI_0] at g1
  unfold p_MoNames_clear
  rw [ck_t (by decide)]
  exact ⟨_, g, g1, pk_us, g2⟩
theorem m_reset (thr tap pla res mks tou pai sz pt nsz ntx g1 g2 g3 g4 g5 : Int32) (g6 : Int64) (g7 g8 g9 g10 g11 g12 : Int32) (kf nf ff mf pf : Nat → Int32) (bf : Nat → Int64) (txf frf nxf fsf rgr : Nat → Int32) : wp (p_Mo_reset pure_n thr tap pla res mks tou pai sz pt 404300 kf 404300 nf 404300 mf nsz ntx 90000 txf 404301 frf 404300 nxf 1024 fsf g1 g2 g3 g4 g5 g6 g7 g8 g9 g10 g11 g12 8 rgr) (fun ((thr', mks', sz', pt', kf', nf', mf', nsz', ntx', txf', frf', nxf', fsf', vbd', rgr'), mq, sk) => mq = 1 ∧ sk = 2 ∧ thr' = 0 ∧ mks' = 0 ∧ vbd' = 0 ∧ RT [[91, 93]] SE [(false, 0)] 0 sz' pt' kf' nf' ff mf' pf bf ∧ MM [[91, 93]] nsz' ntx' txf' frf' nxf' fsf' ∧ ∀ g, g < 8 → rgr' g = nI 0) := by
  have pg := pure_g2
  obtain ⟨from', first', c1, c2, c3⟩ := mc_clear nsz ntx frf fsf
  have N0 : MN [] 0 0 txf from' nxf first' := ⟨rfl, rfl, la_nil _, fun i hi => by
    obtain rfl : i = 0 := by
      rw [List.length_nil] at hi
      omega
    rw [c2]
    rfl, (fun i hi => absurd hi (by simp)), fun r hr => c3 r hr, by decide⟩
  have W : WD [91, 93] 2 (upd (upd (fun _ => 0) (0 : Int32).toNatClampNeg (vp_nar .byte 91)) (1 : Int32).toNatClampNeg (vp_nar .byte 93)) := by
    refine ⟨by decide, by decide, fun j hj => ?_, fun j hj => ?_⟩
    · have hj' : j < 2 := hj
      cases j with
      | zero => rfl
      | succ j =>
        cases j with
        | zero => rfl
        | succ j => omega
    · have hj' : j < 2 := hj
      cases j with
      | zero => rfl
      | succ j =>
        cases j with
        | zero => rfl
        | succ j => omega
  unfold p_Mo_reset
  refine wp_bs c1 ?_
  dsimp only
  refine wp_al (wp_ck (by decide) (wp_ck (by decide) (wp_bind (mn_of pure_n N0 W (by omega) (by decide)) ?_)))
  rintro ⟨r, sz', tx', text', from2, next', first2⟩ ⟨T', a1, a2, a3⟩
  have eT : T' = [[91, 93]] := by
    rcases a3 with rfl | ⟨rfl, _⟩
    · obtain ⟨j, hj, _⟩ := a2
      exact absurd hj (by simp)
    · rfl
  subst eT
  have R0' : RT [[91, 93]] [] [] 0 0 0 kf nf ff mf pf bf := ⟨rfl, rfl, by decide, by decide, (fun x r e => by cases e), (fun x y i e => by cases e)⟩
  obtain ⟨kf', nf', mf', b1', b2, _⟩ := mt_atom R0' (by decide) a2
  dsimp only
  refine wp_bs b1' ?_
  dsimp only
  have L : ∀ (m i F : Nat) (g : Nat → Int32), i + m = 8 → m < F → (∀ j, j < i → g j = nI 0) → ∃ g', p_Mo_reset_67 pure_n 8 sz' tx' text' from2 next' first2 (nI ([] : List Rf).length) (nI (([] : List Rf).length + 1)) kf' nf' mf' F (nI i) g = some ((0, 0, nI (([] : List Rf).length + 1), 0, kf', nf', mf', sz', tx', text', from2, next', first2, 0, g'), 0, 0) ∧ ∀ j, j < 8 → g' j = nI 0 := by
    intro m
    induction m with
    | zero =>
      intro i F g hi hF hg
      obtain ⟨F, rfl⟩ : ∃ z, F = z + 1 := ⟨F - 1, by omega⟩
      obtain rfl : i = 8 := by omega
      exact ⟨g, by rw [p_Mo_reset_67, if_pos (by decide)], hg⟩
    | succ m ih =>
      intro i F g hi hF hg
      obtain ⟨F, rfl⟩ : ∃ z, F = z + 1 := ⟨F - 1, by omega⟩
      rw [p_Mo_reset_67, if_neg (show ¬ 8 ≤ nI i from nI_ge (b := 8) (by omega) (by omega)), ck_t (ixb_t (by omega) (by omega)), nI_clamp (by omega), nI_1]
      refine ih (i + 1) F _ (by omega) (by omega) (fun j hj => ?_)
      by_cases q : j = i
      · subst q
        exact pk_us
      · rw [pk_un q]
        exact hg j (by omega)
  obtain ⟨g', q1, q2⟩ := L 8 0 pure_n rgr (by omega) (by omega) (fun j hj => absurd hj (by omega))
  rw [nI_0] at q1
  rw [q1]
  exact wp_some ⟨rfl, rfl, rfl, rfl, rfl, b2, ⟨a1, by decide⟩, q2⟩
/-! ===== what is printed ===== -/
def bt (b : Int32) : Int32 := b.toInt8.toInt32
/-- the class keeps 4097 bytes of what is printed -/
def CO (O : List Int32) (s : Int32) (N : Nat) (f : Nat → Int32) : Prop := BY (O.take 4097) s N f ∧ N ≤ 16384
/-- the reference 4096, and that there are more -/
def RO (O : List Int32) (n ov : Int32) (f : Nat → Int32) : Prop := n = nI (O.take 4096).length ∧ ov = (if 4096 < O.length then 1 else 0) ∧ TM (O.take 4096) f
theorem co_add (b num : Int32) {O : List Int32} {s : Int32} {N : Nat} {f : Nat → Int32} (h : CO O s N f) : wp (p_Printer_add b num s N f) (fun ((s', N', g), mq, sk) => CO (O ++ [bt b]) s' N' g ∧ wc N N' mq sk) := by
  obtain ⟨h1, h2⟩ := h
  have lt : (O.take 4097).length = min 4097 O.length := List.length_take
  have es : s = nI (O.take 4097).length := h1.1
  unfold p_Printer_add p_Bytes_size
  by_cases c : O.length ≤ 4096
  · have e1 : O.take 4097 = O := List.take_of_length_le (by omega)
    have e2 : (O ++ [bt b]).take 4097 = O ++ [bt b] := List.take_of_length_le (by rw [List.length_append, List.length_singleton]; omega)
    rw [e1] at h1 es
    refine wp_bs rfl (wp_if (by rw [es]; exact (show ¬ 4096 < nI O.length from nI_nlt (a := 4096) (by omega) (by omega))) (wp_bind (by_addL b h1 (by omega)) ?_))
    rintro ⟨⟨s', N', g⟩, mq, sk⟩ ⟨k1, k2, k3, k4⟩
    dsimp only
    refine wp_al (wp_some ⟨⟨by rw [e2]; exact k1, ?_⟩, ?_, ?_⟩)
    · show N' ≤ 16384
      omega
    · show 64 * (0 + mq) + N ≤ N'
      omega
    · show 0 + sk + 2 * N ≤ 2 * N'
      omega
  · have l2 : (O.take 4097).length = 4097 := by omega
    rw [l2] at es
    have e2 : (O ++ [bt b]).take 4097 = O.take 4097 := List.take_append_of_le_length (by omega)
    refine wp_bs rfl (wp_it (by rw [es]; decide) (wp_some ⟨⟨by rw [e2]; exact h1, h2⟩, wc_refl _⟩))
theorem ro_put (b ord : Int32) {O : List Int32} {n ov : Int32} {f : Nat → Int32} (h : RO O n ov f) : ∃ n' ov' f', p_MoPaper_put b n ov ord 4096 f = some (n', ov', f') ∧ RO (O ++ [bt b]) n' ov' f' := by
  obtain ⟨h1, h2, h3⟩ := h
  have lt : (O.take 4096).length = min 4096 O.length := List.length_take
  have la' : (O ++ [bt b]).length = O.length + 1 := by rw [List.length_append, List.length_singleton]
  unfold p_MoPaper_put p_MoPaper_put_15
  by_cases c : O.length < 4096
  · have e1 : O.take 4096 = O := List.take_of_length_le (by omega)
    have e2 : (O ++ [bt b]).take 4096 = O ++ [bt b] := List.take_of_length_le (by omega)
    rw [e1] at h1 h3
    rw [if_neg (by omega)] at h2
    subst h1 h2
    refine ⟨nI (O.length + 1), 0, upd f O.length (bt b), ?_, by rw [e2, la'], by rw [if_neg (by omega)], ?_⟩
    · rw [if_neg (show ¬ nI O.length = 4096 from fun z => absurd ((nI_eq (b := 4096) (by omega) (by omega)).mp z) (by omega)), if_pos rfl, ck_t (ixb_t (by omega) (by omega)), nI_1, nI_clamp (by omega), nar_bok (bok_b b)]
      rfl
    · rw [e2]
      refine ⟨by omega, la_app h3.2.1 (fun j hj => pk_un (by omega)) pk_us, fun j hj => ?_⟩
      by_cases q : j = O.length
      · subst q
        rw [pk_us]
        exact bok_b b
      · rw [pk_un q]
        exact h3.2.2 j (by omega)
  · have l2 : (O.take 4096).length = 4096 := by omega
    have e2 : (O ++ [bt b]).take 4096 = O.take 4096 := List.take_append_of_le_length (by omega)
    rw [l2] at h1
    subst h1
    refine ⟨nI 4096, 1, f, ?_, by rw [e2, l2], by rw [if_pos (by omega)], by rw [e2]; exact h3⟩
    rw [if_pos (by decide), if_neg (by decide)]
