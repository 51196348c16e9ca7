/-! ===== variables in the order of their print ===== -/
def nvx (O : List Nat) (v : Nat) : List Nat := if v ∈ O then O else O ++ [v]
theorem ix_app (O : List Nat) (v u : Nat) : (O ++ [v]).idxOf u = if u ∈ O then O.idxOf u else [v].idxOf u + O.length := List.idxOf_append
def NOc (O : List Nat) (num : Int32) (nuf : Nat → Int32) : Prop := num = nI O.length ∧ O.Nodup ∧ (∀ v, v ∈ O → v < 200) ∧ ∀ v, v < 200 → nuf v = if v ∈ O then nI (O.idxOf v) else -1
def NOr (O : List Nat) (ord : Int32) (sef : Nat → Int32) : Prop := ord = nI O.length ∧ la (O.map nI) sef
theorem noc_len {O : List Nat} {num : Int32} {nuf : Nat → Int32} (h : NOc O num nuf) : O.length ≤ 200 := nd_le 200 O h.2.1 h.2.2.1
theorem noc_of {O : List Nat} {num : Int32} {nuf : Nat → Int32} (h : NOc O num nuf) {v : Nat} (hv : v < 200) : ∃ num' nuf', p_Printer_numberOf (nI v) num 200 nuf = some (nI (O.idxOf v), num', nuf') ∧ NOc (nvx O v) num' nuf' := by
  have hl := noc_len h
  obtain ⟨h1, h2, h3, h4⟩ := h
  unfold p_Printer_numberOf nvx
  rw [ck_t (ixb_t hv (by omega)), nI_clamp (by omega), h4 v hv]
  by_cases c : v ∈ O
  · have := List.idxOf_lt_length_of_mem c
    rw [if_pos c, if_neg (nm1 (by omega)), ck_t (ixb_t hv (by omega)), if_pos c]
    exact ⟨num, nuf, rfl, h1, h2, h3, h4⟩
  · rw [if_neg c, if_pos rfl, ck_t (ixb_t hv (by omega)), ck_t (ixb_t hv (by omega)), if_neg c, pk_us, h1, nI_1, List.idxOf_eq_length c]
    refine ⟨_, _, rfl, by rw [List.length_append, List.length_singleton], ?_, ?_, fun u hu => ?_⟩
    · rw [List.nodup_append]
      refine ⟨h2, by simp, fun x hx y hy e => ?_⟩
      rw [List.mem_singleton] at hy
      subst hy e
      exact c hx
    · intro u hu
      rcases List.mem_append.mp hu with z | z
      · exact h3 u z
      · rw [List.mem_singleton] at z
        subst z
        exact hv
    · by_cases q : u = v
      · subst q
        rw [pk_us, if_pos (List.mem_append_right _ (List.mem_singleton.mpr rfl)), ix_app, if_neg c, List.idxOf_cons_self, Nat.zero_add]
      · rw [pk_un q, h4 u hu]
        by_cases m : u ∈ O
        · rw [if_pos m, if_pos (List.mem_append_left _ m), ix_app, if_pos m]
        · rw [if_neg m, if_neg (fun z => by
            rcases List.mem_append.mp z with z | z
            · exact m z
            · exact q (List.mem_singleton.mp z))]
theorem nor_of {O : List Nat} {ord : Int32} {sef : Nat → Int32} (h : NOr O ord sef) (hO : O.length ≤ 200) (hlt : ∀ v, v ∈ O → v < 200) {v : Nat} (hv : v < 200) (n : Nat) (a ov : Int32) (of : Nat → Int32) (sn : Nat) (hsn : 4200 ≤ sn) : ∀ (m i f : Nat), i + m = O.length → m < f → v ∉ O.take i → p_MoPaper_variable_2 n (nI v) a ov ord 4096 of sn sef f (nI i) = p_MoPaper_variable_26 n (nI v) a ov ord 4096 of sn sef (nI (O.idxOf v)) := by
  obtain ⟨h1, h2⟩ := h
  subst h1
  intro m
  induction m with
  | zero =>
    intro i f hi hf hn
    obtain ⟨f, rfl⟩ : ∃ z, f = z + 1 := ⟨f - 1, by omega⟩
    rw [List.take_of_length_le (by omega)] at hn
    rw [p_MoPaper_variable_2, if_pos (nI_le (by omega) (by omega)), List.idxOf_eq_length hn, show i = O.length by omega]
  | succ m ih =>
    intro i f hi hf hn
    obtain ⟨f, rfl⟩ : ∃ z, f = z + 1 := ⟨f - 1, by omega⟩
    have hil : i < O.length := by omega
    have et : sef i = nI O[i] := by
      rw [h2 i (by rw [List.length_map]; exact hil), List.getD_eq_getElem?_getD, List.getElem?_map, List.getElem?_eq_getElem hil]
      rfl
    have hlo := hlt O[i] (List.getElem_mem hil)
    rw [p_MoPaper_variable_2, if_neg (nI_ge (by omega) (by omega)), ck_t (ixb_t (by omega) (by omega)), nI_clamp (by omega), et]
    by_cases q : O[i] = v
    · have e : O.idxOf v = i := by
        conv => lhs; rw [← List.take_append_drop i O]
        rw [List.idxOf_append, if_neg hn, List.drop_eq_getElem_cons hil, q, List.idxOf_cons_self, List.length_take]
        omega
      rw [q, if_pos rfl, e]
    · rw [if_neg (fun z => q ((nI_eq (by omega) (by omega)).mp z)), nI_1]
      refine ih (i + 1) f (by omega) (by omega) (fun z => ?_)
      rw [List.take_add_one, List.getElem?_eq_getElem hil] at z
      rcases List.mem_append.mp z with z | z
      · exact hn z
      · have : v = O[i] := by
          have z' : v ∈ [O[i]] := z
          exact List.mem_singleton.mp z'
        exact q this.symm
/-! ===== long numbers ===== -/
theorem l_ti {a : Nat} (h : a < 9223372036854775808) : (lN a).toInt = (a : Int) := by
  show (Int64.ofNat a).toInt = (a : Int)
  exact Int64.toInt_ofNat_of_lt (by omega)
theorem l_le {a b : Nat} (ha : a < 9223372036854775808) (hb : b < 9223372036854775808) : lN a ≤ lN b ↔ a ≤ b := by
  rw [Int64.le_iff_toInt_le, l_ti ha, l_ti hb]
  omega
theorem l_lt {a b : Nat} (ha : a < 9223372036854775808) (hb : b < 9223372036854775808) : lN a < lN b ↔ a < b := by
  rw [Int64.lt_iff_toInt_lt, l_ti ha, l_ti hb]
  omega
theorem l_eq {a b : Nat} (ha : a < 9223372036854775808) (hb : b < 9223372036854775808) : lN a = lN b ↔ a = b := by
  rw [← Int64.toInt_inj, l_ti ha, l_ti hb]
  omega
theorem l_div {a b : Nat} (ha : a < 9223372036854775808) (hb : b < 9223372036854775808) : lN a / lN b = lN (a / b) := by
  have hab : a / b < 9223372036854775808 := Nat.lt_of_le_of_lt (Nat.div_le_self a b) ha
  apply Int64.toInt_inj.mp
  rw [Int64.toInt_div, l_ti ha, l_ti hb, l_ti hab, ← Int.ofNat_tdiv]
  generalize a / b = c at *
  rw [Int.bmod_def]
  split <;> omega
theorem l_ge (a b : Int64) : 0 ≤ lg_cmp a b ↔ b ≤ a := lg_cmp_ge a b
theorem l_ge0 (a b : Int64) : lg_cmp a b ≤ 0 ↔ a ≤ b := lg_cmp_le a b
/-! ===== digits ===== -/
def dgs (u : Nat) : Nat → List Int32
  | 0 => []
  | k + 1 => if 10 ^ k ≤ u ∨ k = 0 then bt (nI (48 + u / 10 ^ k % 10)) :: dgs u k else dgs u k
def unt (k : Nat) : Int64 := lN (10 ^ k / 10)
theorem p10 {k : Nat} (h : k ≤ 16) : 10 ^ k ≤ 10000000000000000 := Nat.pow_le_pow_right (by decide) h
theorem unt_s (k : Nat) : unt (k + 1) = lN (10 ^ k) := by
  unfold unt
  rw [Nat.pow_succ, Nat.mul_div_cancel _ (by decide)]
theorem unt_d {k : Nat} (h : k ≤ 16) : unt (k + 1) / 10 = unt k := by
  have := p10 h
  rw [unt_s]
  show lN (10 ^ k) / lN 10 = _
  rw [l_div (by omega) (by decide)]
  rfl
theorem dg_b {u k : Nat} (hu : u < 10000000000000000) (hk : k ≤ 16) : (48 + ((lN u / unt (k + 1)) - (lN u / unt (k + 1)) / 10 * 10)).toInt32 = nI (48 + u / 10 ^ k % 10) := by
  have h1 := p10 hk
  have h2 : u / 10 ^ k ≤ u := Nat.div_le_self _ _
  rw [unt_s, l_div (by omega) (by omega)]
  generalize u / 10 ^ k = q at *
  have e1 : lN q / 10 = lN (q / 10) := by
    show lN q / lN 10 = _
    rw [l_div (by omega) (by decide)]
  rw [e1]
  have e2 : lN (q / 10) * 10 = lN (q / 10 * 10) := lN_mul' (q / 10) 10
  rw [e2, lN_sub' (by omega)]
  have e3 : (48 : Int64) + lN (q - q / 10 * 10) = lN (48 + (q - q / 10 * 10)) := lN_add' 48 _
  rw [e3, show (lN (48 + (q - q / 10 * 10))).toInt32 = nI (48 + (q - q / 10 * 10)) from lN_i _]
  congr 2
  omega
theorem co_num (n : Nat) (num : Int32) {number : Int64} {u : Nat} (hu : u < 10000000000000000) (hA : (if 0 < number then number else -number) = lN u) : ∀ (k f : Nat) (O : List Int32) (s : Int32) (N : Nat) (g : Nat → Int32), k ≤ 16 → k < f → CO O s N g → wp (p_Printer_addNumber_22 n number num f (unt k) s N g) (fun ((s', N', g'), mq, sk) => CO (O ++ dgs u k) s' N' g' ∧ wc N N' mq sk) := by
  intro k
  induction k with
  | zero =>
    intro f O s N g hk hf hC
    obtain ⟨f, rfl⟩ : ∃ z, f = z + 1 := ⟨f - 1, by omega⟩
    rw [p_Printer_addNumber_22]
    refine wp_it (by rw [l_ge0]; decide) (wp_some ?_)
    rw [dgs, List.append_nil]
    exact ⟨hC, wc_refl _⟩
  | succ k ih =>
    intro f O s N g hk hf hC
    obtain ⟨f, rfl⟩ : ∃ z, f = z + 1 := ⟨f - 1, by omega⟩
    have h1 := p10 (k := k) (by omega)
    have h0 : 0 < 10 ^ k := Nat.pow_pos (by decide)
    have nz : ¬ unt (k + 1) = 0 := by
      rw [unt_s]
      exact fun z => absurd ((l_eq (b := 0) (by omega) (by decide)).mp z) (by omega)
    rw [p_Printer_addNumber_22, hA, dg_b hu (by omega), unt_d (by omega), dgs]
    refine wp_if (by rw [l_ge0, unt_s]; exact fun z => absurd ((l_le (b := 0) (by omega) (by decide)).mp z) (by omega)) ?_
    have ADD : wp (ck (decide (¬ unt (k + 1) = 0)) ((p_Printer_add (nI (48 + u / 10 ^ k % 10)) num s N g).bind (fun ((a_draft_size_6, a_draft_items_n_6, a_draft_items_f_6), mk6, sk6) => al mk6 sk6 (p_Printer_addNumber_22 n number num f (unt k) a_draft_size_6 a_draft_items_n_6 a_draft_items_f_6)))) (fun ((s', N', g'), mq, sk) => CO (O ++ bt (nI (48 + u / 10 ^ k % 10)) :: dgs u k) s' N' g' ∧ wc N N' mq sk) := by
      refine wp_ck (decide_eq_true nz) (wp_bind (co_add _ num hC) ?_)
      rintro ⟨⟨s1, N1, g1⟩, mq1, sk1⟩ ⟨k1, k2⟩
      dsimp only
      refine wp_al (wp_mono (ih f _ s1 N1 g1 (by omega) (by omega) k1) ?_)
      rintro ⟨⟨s', N', g'⟩, mq, sk⟩ ⟨x1, x2⟩
      rw [List.append_assoc, List.singleton_append] at x1
      exact ⟨x1, wc_trans k2 x2⟩
    by_cases c : 10 ^ k ≤ u
    · rw [if_pos (Or.inl c)]
      exact wp_it (by rw [l_ge, unt_s]; exact (l_le (by omega) (by omega)).mpr c) ADD
    · refine wp_if (by rw [l_ge, unt_s]; exact fun z => c ((l_le (by omega) (by omega)).mp z)) ?_
      by_cases q : k = 0
      · rw [if_pos (Or.inr q)]
        refine wp_it ?_ ADD
        rw [lg_cmp_eq, unt_s, q]
        rfl
      · rw [if_neg (show ¬ (10 ^ k ≤ u ∨ k = 0) from fun z => z.elim c q)]
        refine wp_if ?_ (ih f O s N g (by omega) (by omega) hC)
        rw [lg_cmp_eq, unt_s]
        intro z
        have e := (l_eq (b := 1) (by omega) (by decide)).mp z
        obtain ⟨j, rfl⟩ : ∃ j, k = j + 1 := ⟨k - 1, by omega⟩
        rw [Nat.pow_succ] at e
        have : 0 < 10 ^ j := Nat.pow_pos (by decide)
        omega
theorem ro_50 (n : Nat) (ord : Int32) {u : Nat} (hu : u < 10000000000000000) : ∀ (k f : Nat) (O : List Int32) (a ov : Int32) (of : Nat → Int32), k ≤ 16 → k < f → RO O a ov of → (∀ j, 0 < j → j < k → 10 ^ j ≤ u) → ∃ a' ov' of', p_MoPaper_number_50 n (lN u) ord 4096 f (unt k) a ov of = some (a', ov', of') ∧ RO (O ++ dgs u k) a' ov' of' := by
  intro k
  induction k with
  | zero =>
    intro f O a ov of hk hf hC _
    obtain ⟨f, rfl⟩ : ∃ z, f = z + 1 := ⟨f - 1, by omega⟩
    rw [p_MoPaper_number_50, if_pos (by rw [l_ge0]; decide), dgs, List.append_nil]
    exact ⟨_, _, _, rfl, hC⟩
  | succ k ih =>
    intro f O a ov of hk hf hC hj
    obtain ⟨f, rfl⟩ : ∃ z, f = z + 1 := ⟨f - 1, by omega⟩
    have h1 := p10 (k := k) (by omega)
    have h0 : 0 < 10 ^ k := Nat.pow_pos (by decide)
    have nz : ¬ unt (k + 1) = 0 := by
      rw [unt_s]
      exact fun z => absurd ((l_eq (b := 0) (by omega) (by decide)).mp z) (by omega)
    have cc : 10 ^ k ≤ u ∨ k = 0 := by
      by_cases q : k = 0
      · exact Or.inr q
      · exact Or.inl (hj k (by omega) (by omega))
    obtain ⟨a1, ov1, of1, p1, p2⟩ := ro_put (nI (48 + u / 10 ^ k % 10)) ord hC
    rw [p_MoPaper_number_50, dg_b hu (by omega), unt_d (by omega), dgs, if_neg (by rw [l_ge0, unt_s]; exact fun z => absurd ((l_le (b := 0) (by omega) (by decide)).mp z) (by omega)), ck_t (decide_eq_true nz), p1, Option.bind_some, if_pos cc]
    obtain ⟨a2, ov2, of2, q1, q2⟩ := ih f _ a1 ov1 of1 (by omega) (by omega) p2 (fun j h1 h2 => hj j h1 (by omega))
    rw [List.append_assoc, List.singleton_append] at q2
    exact ⟨a2, ov2, of2, q1, q2⟩
theorem dgs_up {u : Nat} : ∀ (i k : Nat), 0 < k → u < 10 ^ k → dgs u (k + i) = dgs u k := by
  intro i
  induction i with
  | zero => intro k _ _; rfl
  | succ i ih =>
    intro k hk hu
    have : 10 ^ k ≤ 10 ^ (k + i) := Nat.pow_le_pow_right (by decide) (by omega)
    rw [← Nat.add_assoc, dgs, if_neg (by omega), ih k hk hu]
theorem ro_28 (ord : Int32) {u : Nat} (hu : u < 10000000000000000) {O : List Int32} {a ov : Int32} {of : Nat → Int32} (hC : RO O a ov of) : ∀ (m j f : Nat), j + m = 15 → m < f → (∀ i, 0 < i → i ≤ j → 10 ^ i ≤ u) → ∃ a' ov' of', p_MoPaper_number_28 pure_n (lN u) ord 4096 a ov of f (lN (10 ^ j)) = some (a', ov', of') ∧ RO (O ++ dgs u 16) a' ov' of' := by
  have pg := pure_g2
  have stop : ∀ (j : Nat), j ≤ 15 → u < 10 ^ (j + 1) → (∀ i, 0 < i → i ≤ j → 10 ^ i ≤ u) → ∃ a' ov' of', p_MoPaper_number_50 pure_n (lN u) ord 4096 pure_n (lN (10 ^ j)) a ov of = some (a', ov', of') ∧ RO (O ++ dgs u 16) a' ov' of' := fun j hj hlt hh => by
    obtain ⟨a', ov', of', q1, q2⟩ := ro_50 pure_n ord hu (j + 1) pure_n O a ov of (by omega) (by omega) hC (fun i h1 h2 => hh i h1 (by omega))
    rw [unt_s] at q1
    refine ⟨a', ov', of', q1, ?_⟩
    have := dgs_up (u := u) (16 - (j + 1)) (j + 1) (by omega) hlt
    rw [show j + 1 + (16 - (j + 1)) = 16 by omega] at this
    rw [this]
    exact q2
  intro m
  induction m with
  | zero =>
    intro j f hj hf hh
    obtain ⟨f, rfl⟩ : ∃ z, f = z + 1 := ⟨f - 1, by omega⟩
    obtain rfl : j = 15 := by omega
    have nz : ¬ lN (10 ^ 15) = 0 := fun z => absurd ((l_eq (b := 0) (by decide) (by decide)).mp z) (by decide)
    have le9 : u / 10 ^ 15 ≤ 9 := by
      have : u / 10 ^ 15 < 10 := (Nat.div_lt_iff_lt_mul (by decide)).mpr (by omega)
      omega
    rw [p_MoPaper_number_28, ck_t (decide_eq_true nz), l_div (by omega) (by decide), if_pos (by rw [l_ge0]; exact (l_le (b := 9) (by omega) (by decide)).mpr le9)]
    exact stop 15 (by omega) (by omega) hh
  | succ m ih =>
    intro j f hj hf hh
    obtain ⟨f, rfl⟩ : ∃ z, f = z + 1 := ⟨f - 1, by omega⟩
    have h1 := p10 (k := j) (by omega)
    have h0 : 0 < 10 ^ j := Nat.pow_pos (by decide)
    have h2 : u / 10 ^ j ≤ u := Nat.div_le_self _ _
    have nz : ¬ lN (10 ^ j) = 0 := fun z => absurd ((l_eq (b := 0) (by omega) (by decide)).mp z) (by omega)
    rw [p_MoPaper_number_28, ck_t (decide_eq_true nz), l_div (by omega) (by omega)]
    by_cases c : u / 10 ^ j ≤ 9
    · rw [if_pos (by rw [l_ge0]; exact (l_le (b := 9) (by omega) (by decide)).mpr c)]
      refine stop j (by omega) ?_ hh
      have : u < 10 * 10 ^ j := (Nat.div_lt_iff_lt_mul h0).mp (by omega)
      rw [Nat.pow_succ]
      omega
    · rw [if_neg (by rw [l_ge0]; exact fun z => c ((l_le (b := 9) (by omega) (by decide)).mp z))]
      have e : lN (10 ^ j) * 10 = lN (10 ^ (j + 1)) := by
        rw [Nat.pow_succ]
        exact lN_mul' _ 10
      rw [e]
      refine ih (j + 1) f (by omega) (by omega) (fun i g1 g2 => ?_)
      by_cases q : i = j + 1
      · subst q
        have : 10 * 10 ^ j ≤ u := (Nat.le_div_iff_mul_le h0).mp (by omega)
        rw [Nat.pow_succ]
        omega
      · exact hh i g1 (by omega)
/-! ===== numbers with their sign ===== -/
theorem an_eq (n : Nat) (number : Int64) (num : Int32) : ∀ (f : Nat) (x : Int64) (s : Int32) (N : Nat) (g : Nat → Int32), p_Printer_addNumber_22_11 n number num f x s N g = p_Printer_addNumber_22 n number num f x s N g := by
  intro f
  induction f with
  | zero => intro x s N g; rfl
  | succ f ih =>
    intro x s N g
    rw [p_Printer_addNumber_22_11, p_Printer_addNumber_22]
    simp only [ih]
theorem n5_eq (n : Nat) (v : Int64) (ord : Int32) (on : Nat) : ∀ (f : Nat) (x : Int64) (a ov : Int32) (of : Nat → Int32), p_MoPaper_number_50_13 n v ord on f x a ov of = p_MoPaper_number_50 n (-v) ord on f x a ov of := by
  intro f
  induction f with
  | zero => intro x a ov of; rfl
  | succ f ih =>
    intro x a ov of
    rw [p_MoPaper_number_50_13, p_MoPaper_number_50]
    simp only [ih]
theorem n2_eq (n : Nat) (v : Int64) (ord : Int32) (on : Nat) (a ov : Int32) (of : Nat → Int32) : ∀ (f : Nat) (x : Int64), p_MoPaper_number_28_10 n v ord on a ov of f x = p_MoPaper_number_28 n (-v) ord on a ov of f x := by
  intro f
  induction f with
  | zero => intro x; rfl
  | succ f ih =>
    intro x
    rw [p_MoPaper_number_28_10, p_MoPaper_number_28]
    simp only [ih, n5_eq]
/-- a number below 10 ^ 16, or one taken from nought -/
def NB (z : Int64) : Prop := ∃ u, u < 10000000000000000 ∧ (z = lN u ∨ z = -(lN u))
def nmb (z : Int64) : List Int32 := if 0 ≤ z.toInt then dgs z.toInt.toNat 16 else 45 :: dgs (-z.toInt).toNat 16
theorem l_neg {u : Nat} (h : u < 10000000000000000) : (-(lN u)).toInt = -(u : Int) := by
  rw [Int64.toInt_neg, l_ti (by omega), Int.bmod_def]
  split <;> omega
theorem nb_case {z : Int64} (h : NB z) : (∃ u, u < 10000000000000000 ∧ z = lN u ∧ 0 ≤ z ∧ nmb z = dgs u 16) ∨ (∃ u, u < 10000000000000000 ∧ -z = lN u ∧ ¬ 0 ≤ z ∧ nmb z = 45 :: dgs u 16) := by
  obtain ⟨u, hu, e⟩ := h
  have P : ∀ w, w < 10000000000000000 → z = lN w → ∃ u, u < 10000000000000000 ∧ z = lN u ∧ 0 ≤ z ∧ nmb z = dgs u 16 := fun w hw e => by
    refine ⟨w, hw, e, ?_, ?_⟩
    · rw [Int64.le_iff_toInt_le, e, l_ti (by omega)]
      show (0 : Int) ≤ _
      omega
    · unfold nmb
      rw [e, l_ti (by omega), if_pos (by omega), Int.toNat_natCast]
  rcases e with e | e
  · exact Or.inl (P u hu e)
  · by_cases q : u = 0
    · subst q
      exact Or.inl (P 0 (by decide) (by rw [e]; rfl))
    · refine Or.inr ⟨u, hu, by rw [e, Int64.neg_neg], ?_, ?_⟩
      · rw [Int64.le_iff_toInt_le, e, l_neg hu]
        show ¬ (0 : Int) ≤ _
        omega
      · unfold nmb
        rw [e, l_neg hu, if_neg (by omega), Int.neg_neg, Int.toNat_natCast]
theorem co_number {z : Int64} (hz : NB z) (num : Int32) {O : List Int32} {s : Int32} {N : Nat} {g : Nat → Int32} (hC : CO O s N g) : wp (p_Printer_addNumber pure_n z num s N g) (fun ((s', N', g'), mq, sk) => CO (O ++ nmb z) s' N' g' ∧ wc N N' mq sk) := by
  have pg := pure_g2
  have e16 : (1000000000000000 : Int64) = unt 16 := by decide
  unfold p_Printer_addNumber
  rcases nb_case hz with ⟨u, hu, e, hs, en⟩ | ⟨u, hu, e, hs, en⟩
  · rw [en]
    refine wp_it ((l_ge z 0).mpr hs) ?_
    rw [e16]
    refine co_num pure_n num hu ?_ 16 pure_n O s N g (Nat.le_refl _) (by omega) hC
    by_cases q : 0 < z
    · rw [if_pos q, e]
    · rw [if_neg q]
      rw [Int64.lt_iff_toInt_lt, e, l_ti (by omega)] at q
      have q' : ¬ (0 : Int) < (u : Int) := q
      obtain rfl : u = 0 := by omega
      rw [e]
      rfl
  · rw [en]
    refine wp_if (fun w => hs ((l_ge z 0).mp w)) (wp_bind (co_add 45 num hC) ?_)
    rintro ⟨⟨s1, N1, g1⟩, mq1, sk1⟩ ⟨k1, k2⟩
    dsimp only
    rw [an_eq, e16]
    refine wp_al (wp_mono (co_num pure_n num hu ?_ 16 pure_n _ s1 N1 g1 (Nat.le_refl _) (by omega) k1) ?_)
    · rw [if_neg (fun w => hs (Int64.le_of_lt w)), e]
    · rintro ⟨⟨s', N', g'⟩, mq, sk⟩ ⟨x1, x2⟩
      rw [List.append_assoc, List.singleton_append] at x1
      exact ⟨x1, wc_trans k2 x2⟩
theorem ro_number {z : Int64} (hz : NB z) (ord : Int32) {O : List Int32} {a ov : Int32} {of : Nat → Int32} (hC : RO O a ov of) : ∃ a' ov' of', p_MoPaper_number pure_n z a ov ord 4096 of = some (a', ov', of') ∧ RO (O ++ nmb z) a' ov' of' := by
  have pg := pure_g2
  have e1 : (1 : Int64) = lN (10 ^ 0) := by decide
  unfold p_MoPaper_number p_MoPaper_number_12
  rcases nb_case hz with ⟨u, hu, e, hs, en⟩ | ⟨u, hu, e, hs, en⟩
  · rw [en, if_pos ((l_ge z 0).mpr hs), if_pos ((l_ge z 0).mpr hs), e, e1]
    exact ro_28 ord hu hC 15 0 pure_n (by omega) (by omega) (fun i h1 h2 => by omega)
  · obtain ⟨a1, ov1, of1, p1, p2⟩ := ro_put 45 ord hC
    rw [en, if_neg (fun w => hs ((l_ge z 0).mp w)), p1, Option.bind_some]
    dsimp only
    rw [if_neg (fun w => hs ((l_ge z 0).mp w)), n2_eq, e, e1]
    obtain ⟨a2, ov2, of2, q1, q2⟩ := ro_28 ord hu p2 15 0 pure_n (by omega) (by omega) (fun i h1 h2 => by omega)
    rw [List.append_assoc, List.singleton_append] at q2
    exact ⟨a2, ov2, of2, q1, q2⟩
/-! ===== names as they are printed ===== -/
def qtd : List Int32 → List Int32
  | [] => []
  | b :: t => if b = 39 then 39 :: 39 :: qtd t else b :: qtd t
def pln (w : List Int32) : Bool := if w = [] then false else if w = [33] ∨ w = [59] then true else if w = [91, 93] then true else if w = [46] then false else if cS (w.headD 0) = true then w.all cW else w.all cY
def nmx (w : List Int32) : List Int32 := if pln w = true then qtd w else 39 :: (qtd w ++ [39])
theorem bt_and {b : Int32} (hb : bok b) : bt (b &&& 255) = b := all_b (fun b => bt (b &&& 255) = b) (by decide +kernel) hb
theorem bt_bok {b : Int32} (hb : bok b) : bt b = b := hb
theorem nm_byte {l : List Int32} {s : Int32} {N : Nat} {f : Nat → Int32} (h : BY l s N f) {i : Nat} (hi : i < l.length) (sb : Int32) : p_Names_byteAt (nI i) s sb N f = some (f i &&& 255) ∧ bok (f i) := by
  obtain ⟨rfl, h1, _, h3, _, h5⟩ := h
  refine ⟨?_, h5 i hi⟩
  unfold p_Names_byteAt
  rw [if_neg (nI_pos (by omega)), if_neg (nI_ge hi (by omega)), ck_t (ixb_t (by omega) (by omega)), nI_clamp (by omega)]
theorem nm_byte0 {l : List Int32} {s : Int32} {N : Nat} {f : Nat → Int32} (h : BY l s N f) {i : Nat} (hi : ¬ i < l.length) (hi2 : i < 2147483648) (sb : Int32) : p_Names_byteAt (nI i) s sb N f = some 0 := by
  obtain ⟨rfl, h1, _, h3, _, h5⟩ := h
  unfold p_Names_byteAt
  rw [if_neg (nI_pos (by omega)), if_pos (nI_le (by omega) (by omega))]
theorem co_33 (n : Nat) (num sb : Int32) {T : List (List Int32)} {p : List Int32} {ts : Int32} {tn : Nat} {tf : Nat → Int32} {es : Int32} {en : Nat} {ef : Nat → Int32} {os : Int32} {on : Nat} {of nf : Nat → Int32} (hN : NC T p ts tn tf es en ef os on of nf) {k : Nat} (hk : k < T.length) : ∀ (u : List Int32) (i f : Nat) (O : List Int32) (s : Int32) (N : Nat) (g : Nat → Int32), seg u tf i → i + u.length = off T (k + 1) → u.length < f → CO O s N g → wp (p_Printer_addName_33 n (nI k) num ts sb tn tf es en ef f (nI i) s N g) (fun ((s', N', g'), mq, sk) => CO (O ++ qtd u) s' N' g' ∧ wc N N' mq sk) := by
  obtain ⟨h1, h2, h3, h4, h5, h6⟩ := hN
  have ho : off T (k + 1) ≤ (T.flatten ++ p).length := by
    have := off_le (T := T) (show k + 1 ≤ T.length from hk)
    rw [off_all (Nat.le_refl _)] at this
    rw [List.length_append]
    omega
  have hl : (T.flatten ++ p).length < 32768 := by
    rw [List.length_append]
    omega
  intro u
  induction u with
  | nil =>
    intro i f O s N g hs hi hf hC
    obtain ⟨f, rfl⟩ : ∃ z, f = z + 1 := ⟨f - 1, by omega⟩
    rw [List.length_nil] at hi
    rw [p_Printer_addName_33]
    refine wp_bs (nc_to h2 ts sb hk) (wp_it (nI_le (by omega) (by omega)) (wp_some ?_))
    rw [qtd, List.append_nil]
    exact ⟨hC, wc_refl _⟩
  | cons b u ih =>
    intro i f O s N g hs hi hf hC
    rw [List.length_cons] at hi hf
    obtain ⟨f, rfl⟩ : ∃ z, f = z + 1 := ⟨f - 1, by omega⟩
    obtain ⟨g1, g2⟩ := seg_cons hs
    obtain ⟨b1, b2⟩ := nm_byte h1 (i := i) (by omega) sb
    rw [g1] at b1 b2
    rw [p_Printer_addName_33]
    refine wp_bs (nc_to h2 ts sb hk) (wp_if (nI_ge (by omega) (by omega)) (wp_bs b1 (wp_bind (co_add _ num hC) ?_)))
    rintro ⟨⟨s1, N1, f1⟩, mq1, sk1⟩ ⟨k1, k2⟩
    rw [bt_and b2] at k1
    dsimp only
    refine wp_al (wp_bs b1 ?_)
    rw [nI_1, qtd]
    by_cases q : b = 39
    · rw [if_pos q]
      refine wp_it ((and_eq b2 39 (by decide)).mpr q) (wp_bind (co_add 39 num k1) ?_)
      rintro ⟨⟨s2, N2, f2⟩, mq2, sk2⟩ ⟨k3, k4⟩
      dsimp only
      refine wp_al (wp_mono (ih (i + 1) f _ s2 N2 f2 g2 (by omega) (by omega) k3) ?_)
      rintro ⟨⟨s', N', g'⟩, mq, sk⟩ ⟨x1, x2⟩
      rw [List.append_assoc, List.append_assoc, q] at x1
      exact ⟨x1, by have := wc_trans (wc_trans k2 k4) x2; rw [show mq + mq2 + mq1 = mq + (mq2 + mq1) by omega, show sk + sk2 + sk1 = sk + (sk2 + sk1) by omega]; exact this⟩
    · rw [if_neg q]
      refine wp_if (fun z => q ((and_eq b2 39 (by decide)).mp z)) (wp_mono (ih (i + 1) f _ s1 N1 f1 g2 (by omega) (by omega) k1) ?_)
      rintro ⟨⟨s', N', g'⟩, mq, sk⟩ ⟨x1, x2⟩
      rw [List.append_assoc] at x1
      exact ⟨x1, wc_trans k2 x2⟩
theorem co_3317 (n : Nat) (num sb : Int32) {T : List (List Int32)} {p : List Int32} {ts : Int32} {tn : Nat} {tf : Nat → Int32} {es : Int32} {en : Nat} {ef : Nat → Int32} {os : Int32} {on : Nat} {of nf : Nat → Int32} (hN : NC T p ts tn tf es en ef os on of nf) {k : Nat} (hk : k < T.length) : ∀ (u : List Int32) (i f : Nat) (O : List Int32) (s : Int32) (N : Nat) (g : Nat → Int32), seg u tf i → i + u.length = off T (k + 1) → u.length < f → CO O s N g → wp (p_Printer_addName_33_17 n (nI k) num ts sb tn tf es en ef f (nI i) s N g) (fun ((s', N', g'), mq, sk) => CO (O ++ (qtd u ++ [39])) s' N' g' ∧ wc N N' mq sk) := by
  obtain ⟨h1, h2, h3, h4, h5, h6⟩ := hN
  have ho : off T (k + 1) ≤ (T.flatten ++ p).length := by
    have := off_le (T := T) (show k + 1 ≤ T.length from hk)
    rw [off_all (Nat.le_refl _)] at this
    rw [List.length_append]
    omega
  have hl : (T.flatten ++ p).length < 32768 := by
    rw [List.length_append]
    omega
  intro u
  induction u with
  | nil =>
    intro i f O s N g hs hi hf hC
    obtain ⟨f, rfl⟩ : ∃ z, f = z + 1 := ⟨f - 1, by omega⟩
    rw [List.length_nil] at hi
    rw [p_Printer_addName_33_17]
    refine wp_bs (nc_to h2 ts sb hk) (wp_it (nI_le (by omega) (by omega)) (wp_bind (co_add 39 num hC) ?_))
    rintro ⟨⟨s1, N1, f1⟩, mq1, sk1⟩ ⟨k1, k2⟩
    dsimp only
    refine wp_al (wp_some ?_)
    rw [qtd, List.nil_append]
    exact ⟨k1, wc_trans k2 (wc_refl _)⟩
  | cons b u ih =>
    intro i f O s N g hs hi hf hC
    rw [List.length_cons] at hi hf
    obtain ⟨f, rfl⟩ : ∃ z, f = z + 1 := ⟨f - 1, by omega⟩
    obtain ⟨g1, g2⟩ := seg_cons hs
    obtain ⟨b1, b2⟩ := nm_byte h1 (i := i) (by omega) sb
    rw [g1] at b1 b2
    rw [p_Printer_addName_33_17]
    refine wp_bs (nc_to h2 ts sb hk) (wp_if (nI_ge (by omega) (by omega)) (wp_bs b1 (wp_bind (co_add _ num hC) ?_)))
    rintro ⟨⟨s1, N1, f1⟩, mq1, sk1⟩ ⟨k1, k2⟩
    rw [bt_and b2] at k1
    dsimp only
    refine wp_al (wp_bs b1 ?_)
    rw [nI_1, qtd]
    by_cases q : b = 39
    · rw [if_pos q]
      refine wp_it ((and_eq b2 39 (by decide)).mpr q) (wp_bind (co_add 39 num k1) ?_)
      rintro ⟨⟨s2, N2, f2⟩, mq2, sk2⟩ ⟨k3, k4⟩
      dsimp only
      refine wp_al (wp_mono (ih (i + 1) f _ s2 N2 f2 g2 (by omega) (by omega) k3) ?_)
      rintro ⟨⟨s', N', g'⟩, mq, sk⟩ ⟨x1, x2⟩
      rw [List.append_assoc, List.append_assoc, q] at x1
      exact ⟨x1, by have := wc_trans (wc_trans k2 k4) x2; rw [show mq + mq2 + mq1 = mq + (mq2 + mq1) by omega, show sk + sk2 + sk1 = sk + (sk2 + sk1) by omega]; exact this⟩
    · rw [if_neg q]
      refine wp_if (fun z => q ((and_eq b2 39 (by decide)).mp z)) (wp_mono (ih (i + 1) f _ s1 N1 f1 g2 (by omega) (by omega) k1) ?_)
      rintro ⟨⟨s', N', g'⟩, mq, sk⟩ ⟨x1, x2⟩
      rw [List.append_assoc] at x1
      exact ⟨x1, wc_trans k2 x2⟩
/-! is a name plain -/
theorem ip_80 (sb : Int32) {T : List (List Int32)} {p : List Int32} {ts : Int32} {tn : Nat} {tf : Nat → Int32} {es : Int32} {en : Nat} {ef : Nat → Int32} {os : Int32} {on : Nat} {of nf : Nat → Int32} (hN : NC T p ts tn tf es en ef os on of nf) {k : Nat} (hk : k < T.length) (sm : Bool) : ∀ (u : List Int32) (i f : Nat), seg u tf i → i + u.length = off T (k + 1) → u.length < f → p_Printer_isPlain_80 pure_n (nI k) ts sb tn tf es en ef (b1 sm) f (nI i) = some (b1 (if sm = true then u.all cW else u.all cY)) := by
  obtain ⟨h1, h2, h3, h4, h5, h6⟩ := hN
  have ho : off T (k + 1) ≤ (T.flatten ++ p).length := by
    have := off_le (T := T) (show k + 1 ≤ T.length from hk)
    rw [off_all (Nat.le_refl _)] at this
    rw [List.length_append]
    omega
  have hl : (T.flatten ++ p).length < 32768 := by
    rw [List.length_append]
    omega
  intro u
  induction u with
  | nil =>
    intro i f hs hi hf
    obtain ⟨f, rfl⟩ : ∃ z, f = z + 1 := ⟨f - 1, by omega⟩
    rw [List.length_nil] at hi
    rw [p_Printer_isPlain_80, nc_to h2 ts sb hk, Option.bind_some, if_pos (nI_le (by omega) (by omega))]
    cases sm <;> rfl
  | cons b u ih =>
    intro i f hs hi hf
    rw [List.length_cons] at hi hf
    obtain ⟨f, rfl⟩ : ∃ z, f = z + 1 := ⟨f - 1, by omega⟩
    obtain ⟨g1, g2⟩ := seg_cons hs
    obtain ⟨e1, e2⟩ := nm_byte h1 (i := i) (by omega) sb
    rw [g1] at e1 e2
    have I := ih (i + 1) f g2 (by omega) (by omega)
    rw [p_Printer_isPlain_80, nc_to h2 ts sb hk, Option.bind_some, if_neg (nI_ge (by omega) (by omega)), e1, Option.bind_some, let_Y e2, let_W e2, Option.bind_some, Option.bind_some, nI_1, I]
    cases sm with
    | true =>
      rw [if_neg (show ¬ b1 true = 0 by decide), if_pos rfl, if_pos rfl, List.all_cons]
      cases cW b <;> rfl
    | false =>
      rw [if_pos (show b1 false = 0 by decide)]
      show (if b1 (cY b) = 0 then some 0 else some (b1 (u.all cY))) = some (b1 (cY b && u.all cY))
      cases cY b <;> rfl
theorem ip_e (n : Nat) (name ts sb : Int32) (tn : Nat) (tf : Nat → Int32) (es : Int32) (en : Nat) (ef : Nat → Int32) (r : Int32) : ∀ (f : Nat) (x : Int32), p_Printer_isPlain_80_22 n name ts sb tn tf es en ef r f x = p_Printer_isPlain_80 n name ts sb tn tf es en ef r f x := by
  intro f
  induction f with
  | zero => intro x; rfl
  | succ f ih =>
    intro x
    rw [p_Printer_isPlain_80_22, p_Printer_isPlain_80]
    simp only [ih]
/-! ===== names, the class's side ===== -/
theorem pln_c {b : Int32} {u : List Int32} (n1 : b :: u ≠ [91, 93]) (n2 : b :: u ≠ [46]) : pln (b :: u) = if u = [] ∧ (b = 33 ∨ b = 59) then true else if cS b = true then (b :: u).all cW else (b :: u).all cY := by
  unfold pln
  rw [if_neg (show ¬ b :: u = [] from fun z => by cases z), if_neg (show ¬ b :: u = [91, 93] from n1), if_neg (show ¬ b :: u = [46] from n2)]
  by_cases q : u = [] ∧ (b = 33 ∨ b = 59)
  · rw [if_pos q, if_pos (by rcases q with ⟨rfl, rfl | rfl⟩; exact Or.inl rfl; exact Or.inr rfl)]
  · rw [if_neg q, if_neg (fun z => q (by rcases z with z | z <;> (injection z with z1 z2; subst z1 z2); exact ⟨rfl, Or.inl rfl⟩; exact ⟨rfl, Or.inr rfl⟩))]
    rfl
theorem kt_ne {T U : List (List Int32)} (hT : T = KT ++ U) (hN : T.Nodup) {k j : Nat} (hk : k < T.length) (hj : j < 24) (hkj : k ≠ j) : T.getD k [] ≠ KT.getD j [] := fun e => by
  have e1 : T[j]? = some (KT.getD j []) := by
    rw [hT, List.getElem?_append_left (show j < KT.length from hj), List.getD_eq_getElem?_getD, List.getElem?_eq_getElem (show j < KT.length from hj)]
    rfl
  have e2 : T[k]? = some (KT.getD j []) := by
    rw [List.getD_eq_getElem?_getD, List.getElem?_eq_getElem hk, Option.getD_some] at e
    rw [List.getElem?_eq_getElem hk, e]
  exact hkj ((List.getElem?_inj (i := k) (j := j) hk hN).mp (by rw [e1, e2]))
theorem ip_plain (num sb : Int32) {T U : List (List Int32)} (hT : T = KT ++ U) {p : List Int32} {ts : Int32} {tn : Nat} {tf : Nat → Int32} {es : Int32} {en : Nat} {ef : Nat → Int32} {os : Int32} {on : Nat} {of nf : Nat → Int32} (hN : NC T p ts tn tf es en ef os on of nf) {k : Nat} (hk : k < T.length) : p_Printer_isPlain pure_n (nI k) num ts sb tn tf es en ef = some (b1 (pln (T.getD k []))) := by
  have pg := pure_g2
  have hN' := hN
  obtain ⟨h1, h2, h3, h4, h5, h6⟩ := hN
  have hkl : T.length < 32768 := by omega
  have hl : (T.flatten ++ p).length < 32768 := by
    rw [List.length_append]
    omega
  have ho : off T (k + 1) ≤ (T.flatten ++ p).length := by
    have := off_le (T := T) (show k + 1 ≤ T.length from hk)
    rw [off_all (Nat.le_refl _)] at this
    rw [List.length_append]
    omega
  have hos := off_succ hk
  have sg := seg_at (k := k) h1.2.2.2.2.1 hk
  unfold p_Printer_isPlain
  rw [nc_from h2 ts sb (by omega), Option.bind_some]
  have by0 : ∃ r, p_Names_byteAt (nI (off T k)) ts sb tn tf = some r ∧ (∀ b u, T.getD k [] = b :: u → r = b &&& 255 ∧ bok b) := by
    by_cases q : off T k < (T.flatten ++ p).length
    · obtain ⟨e1, e2⟩ := nm_byte h1 q sb
      refine ⟨_, e1, fun b u e => ?_⟩
      rw [e] at sg
      rw [(seg_cons sg).1] at e2 ⊢
      exact ⟨rfl, e2⟩
    · refine ⟨_, nm_byte0 h1 q (by omega) sb, fun b u e => ?_⟩
      rw [e, List.length_cons] at hos
      omega
  obtain ⟨r, er, hr⟩ := by0
  rw [er, Option.bind_some]
  by_cases k0 : k = 0
  · subst k0
    rw [if_pos nI_0, hT]
    rfl
  rw [if_neg (nI_ne0 (by omega) (by omega))]
  by_cases k1 : k = 1
  · subst k1
    rw [if_pos (show nI 1 = 1 from rfl), hT]
    rfl
  rw [if_neg (show ¬ nI k = 1 from fun z => k1 ((nI_eq (b := 1) (by omega) (by omega)).mp z)), nc_to h2 ts sb hk, Option.bind_some]
  have n1 : T.getD k [] ≠ [91, 93] := kt_ne hT h6 (j := 0) hk (by decide) k0
  have n2 : T.getD k [] ≠ [46] := kt_ne hT h6 (j := 1) hk (by decide) k1
  cases hw : T.getD k [] with
  | nil =>
    rw [hw, List.length_nil] at hos
    rw [hos, if_pos (show nI (off T k) = nI (off T k + 0) from rfl)]
    rfl
  | cons b u =>
    rw [hw] at n1 n2 sg
    rw [hw, List.length_cons] at hos
    obtain ⟨rfl, hb⟩ := hr b u hw
    have LP : p_Printer_isPlain_80 pure_n (nI k) ts sb tn tf es en ef (b1 (cS b)) pure_n (nI (off T k)) = some (b1 (if cS b = true then (b :: u).all cW else (b :: u).all cY)) := ip_80 sb hN' hk (cS b) (b :: u) (off T k) pure_n sg (by rw [List.length_cons]; omega) (by rw [List.length_cons]; omega)
    rw [pln_c n1 n2, if_neg (fun z => absurd ((nI_eq (by omega) (by omega)).mp z) (by omega)), Option.bind_some, pk_sub (by omega), show off T (k + 1) - off T k = u.length + 1 by omega, let_S hb, Option.bind_some, Option.bind_some, LP, ip_e, LP]
    by_cases q : u = []
    · subst q
      rw [if_pos (show nI (([] : List Int32).length + 1) = 1 from rfl)]
      by_cases q1 : b = 33
      · rw [if_pos (show b &&& 255 = 33 from (and_eq hb 33 (by decide)).mpr q1), if_pos ⟨rfl, Or.inl q1⟩]
        rfl
      rw [if_neg (show ¬ b &&& 255 = 33 from fun z => q1 ((and_eq hb 33 (by decide)).mp z))]
      by_cases q2 : b = 59
      · rw [if_pos (show b &&& 255 = 59 from (and_eq hb 59 (by decide)).mpr q2), if_pos ⟨rfl, Or.inr q2⟩]
        rfl
      rw [if_neg (show ¬ b &&& 255 = 59 from fun z => q2 ((and_eq hb 59 (by decide)).mp z)), if_neg (show ¬ (([] : List Int32) = [] ∧ (b = 33 ∨ b = 59)) from fun z => z.2.elim q1 q2)]
    · have : 0 < u.length := List.length_pos_iff.mpr q
      rw [if_neg (show ¬ nI (u.length + 1) = 1 from fun z => absurd ((nI_eq (b := 1) (by omega) (by omega)).mp z) (by omega)), if_neg (show ¬ (u = [] ∧ (b = 33 ∨ b = 59)) from fun z => q z.1)]
theorem co_name (num sb : Int32) {T U : List (List Int32)} (hT : T = KT ++ U) {p : List Int32} {ts : Int32} {tn : Nat} {tf : Nat → Int32} {es : Int32} {en : Nat} {ef : Nat → Int32} {os : Int32} {on : Nat} {of nf : Nat → Int32} (hN : NC T p ts tn tf es en ef os on of nf) {k : Nat} (hk : k < T.length) {O : List Int32} {s : Int32} {N : Nat} {g : Nat → Int32} (hC : CO O s N g) : wp (p_Printer_addName pure_n (nI k) num ts sb tn tf es en ef s N g) (fun ((s', N', g'), mq, sk) => CO (O ++ nmx (T.getD k [])) s' N' g' ∧ wc N N' mq sk) := by
  have pg := pure_g2
  have sg := seg_at (k := k) hN.1.2.2.2.2.1 hk
  have hos := off_succ hk
  have hl : off T (k + 1) < 32768 := by
    have := off_le (T := T) (show k + 1 ≤ T.length from hk)
    rw [off_all (Nat.le_refl _)] at this
    have := hN.2.2.2.2.1
    omega
  unfold p_Printer_addName nmx
  refine wp_bs (ip_plain num sb hT hN hk) ?_
  cases pln (T.getD k []) with
  | true =>
    rw [if_pos (show true = true from rfl)]
    exact wp_if (by decide) (wp_bs (nc_from hN.2.1 ts sb (by omega)) (co_33 pure_n num sb hN hk _ (off T k) pure_n O s N g sg (by omega) (by omega) hC))
  | false =>
    rw [if_neg (show ¬ false = true by decide)]
    refine wp_it rfl (wp_bind (co_add 39 num hC) ?_)
    rintro ⟨⟨s1, N1, f1⟩, mq1, sk1⟩ ⟨k1, k2⟩
    dsimp only
    refine wp_al (wp_bs (nc_from hN.2.1 ts sb (by omega)) (wp_mono (co_3317 pure_n num sb hN hk _ (off T k) pure_n _ s1 N1 f1 sg (by omega) (by omega) k1) ?_))
    rintro ⟨⟨s', N', g'⟩, mq, sk⟩ ⟨x1, x2⟩
    rw [List.append_assoc] at x1
    exact ⟨x1, wc_trans k2 x2⟩
/-! ===== names, the reference's side ===== -/
theorem mn_at {T : List (List Int32)} {sz tx : Int32} {text from_ next first : Nat → Int32} (h : MN T sz tx text from_ next first) {k i : Nat} (hk : k < T.length) (hi : i < (T.getD k []).length) (a b : Int32) : p_MoNames_at (nI k) (nI i) a b 90000 text 404301 from_ = some ((T.getD k []).getD i 0) := by
  obtain ⟨_, _, h3, h4, _, _, h7⟩ := h
  have hos := off_succ hk
  have ho := off_le (T := T) (show k + 1 ≤ T.length from hk)
  rw [off_all (Nat.le_refl _)] at ho
  have sg := seg_at (T := T) (p := []) (k := k) (by rw [List.append_nil]; exact h3) hk
  unfold p_MoNames_at
  rw [ck_t (ixb_t (by omega) (by omega)), nI_clamp (n := k) (by omega), h4 k (by omega), nI_add, ck_t (ixb_t (by omega) (by omega)), nI_clamp (by omega), sg i hi]
theorem mn_len {T : List (List Int32)} {sz tx : Int32} {text from_ next first : Nat → Int32} (h : MN T sz tx text from_ next first) {k : Nat} (hk : k < T.length) (a b : Int32) : p_MoNames_length (nI k) a b 404301 from_ = some (nI (T.getD k []).length) := by
  obtain ⟨_, _, h3, h4, _, _, h7⟩ := h
  have hos := off_succ hk
  have ho := off_le (T := T) (show k + 1 ≤ T.length from hk)
  rw [off_all (Nat.le_refl _)] at ho
  unfold p_MoNames_length
  rw [nI_1, ck_t (ixb_t (by omega) (by omega)), ck_t (ixb_t (by omega) (by omega)), nI_clamp (by omega), nI_clamp (by omega), h4 (k + 1) (by omega), h4 k (by omega), pk_sub (by omega), show off T (k + 1) - off T k = (T.getD k []).length by omega]
theorem mns_loop (n : Nat) {T : List (List Int32)} {sz tx : Int32} {text from_ next first : Nat → Int32} (h : MN T sz tx text from_ next first) {k : Nat} (hk : k < T.length) (a b : Int32) {sx : Nat} (hs : sx < 26) (hl : (T.getD k []).length = (kn_byt.getD sx []).length) : ∀ (u v : List Int32) (i f : Nat), (T.getD k []).drop i = u → (kn_byt.getD sx []).drop i = v → i ≤ (T.getD k []).length → u.length < f → p_MoNames_spells_16 n (nI k) sx a b 90000 text 404301 from_ f (nI i) = some (if u = v then 1 else 0) := by
  have h17 := st_l17 sx hs
  intro u
  induction u with
  | nil =>
    intro v i f h1 h2 hi hf
    obtain ⟨f, rfl⟩ : ∃ z, f = z + 1 := ⟨f - 1, by omega⟩
    have := drop_n h1
    have hv : v = [] := by rw [← h2]; exact List.drop_of_length_le (by omega)
    rw [p_MoNames_spells_16, st_len sx hs, Option.bind_some, if_pos (nI_le (by omega) (by omega)), hv, if_pos rfl]
  | cons b u ih =>
    intro v i f h1 h2 hi hf
    rw [List.length_cons] at hf
    obtain ⟨f, rfl⟩ : ∃ z, f = z + 1 := ⟨f - 1, by omega⟩
    obtain ⟨e1, e2, e3⟩ := drop_c h1
    have hc := drop_gd (t := kn_byt.getD sx []) (i := i) (by omega)
    rw [p_MoNames_spells_16, st_len sx hs, Option.bind_some, if_neg (nI_ge (by omega) (by omega)), mn_at h hk e1, Option.bind_some, st_chr sx hs i (by omega), Option.bind_some, e2, ← h2, hc]
    by_cases q : b = (kn_byt.getD sx []).getD i 0
    · rw [if_pos q, nI_1, ih _ (i + 1) f e3 rfl (by omega) (by omega)]
      by_cases q2 : u = (kn_byt.getD sx []).drop (i + 1)
      · rw [if_pos q2, if_pos (by rw [q, q2])]
      · rw [if_neg q2, if_neg (fun z => q2 (List.cons.inj z).2)]
    · rw [if_neg q, if_neg (fun z => q (List.cons.inj z).1)]
theorem mn_spells {T : List (List Int32)} {sz tx : Int32} {text from_ next first : Nat → Int32} (h : MN T sz tx text from_ next first) {k : Nat} (hk : k < T.length) (a b : Int32) {sx : Nat} (hs : sx < 26) : p_MoNames_spells pure_n (nI k) sx a b 90000 text 404301 from_ = some (if T.getD k [] = kn_byt.getD sx [] then 1 else 0) := by
  have pg := pure_g2
  have h17 := st_l17 sx hs
  have hfl : (T.getD k []).length ≤ 80000 := by
    have hos := off_succ hk
    have ho := off_le (T := T) (show k + 1 ≤ T.length from hk)
    rw [off_all (Nat.le_refl _)] at ho
    have := h.2.2.2.2.2.2
    omega
  unfold p_MoNames_spells
  rw [ck_t (decide_eq_true (show sx < kn_n from hs)), mn_len h hk, Option.bind_some, st_len sx hs, Option.bind_some]
  by_cases q : (T.getD k []).length = (kn_byt.getD sx []).length
  · rw [if_pos (by rw [q])]
    show p_MoNames_spells_16 pure_n (nI k) sx a b 90000 text 404301 from_ pure_n (nI 0) = _
    rw [mns_loop pure_n h hk a b hs q _ _ 0 pure_n rfl rfl (by omega) (by rw [List.drop_zero]; omega), List.drop_zero, List.drop_zero]
  · rw [if_neg (fun z => q ((nI_eq (by omega) (by omega)).mp z)), if_neg (fun z => q (by rw [z]))]
theorem pl_113 (n : Nat) (x r : Int32) (K : Int32 → Option Int32) : p_MoPaper_plain_113 n x r K = (p_MoReader_symbol n r).bind (fun q => if q = 0 then some 0 else K (x + 1)) := by
  unfold p_MoPaper_plain_113 p_MoPaper_plain_127 p_MoPaper_plain_141 p_MoPaper_plain_148 p_MoPaper_plain_153
  repeat' split
  all_goals rfl
theorem pl_11337 (n : Nat) (x r : Int32) (K : Int32 → Option Int32) : p_MoPaper_plain_113_37 n x r K = (p_MoReader_symbol n r).bind (fun q => if q = 0 then some 0 else K (x + 1)) := by
  unfold p_MoPaper_plain_113_37 p_MoPaper_plain_127_38 p_MoPaper_plain_141_39 p_MoPaper_plain_148_36 p_MoPaper_plain_153_32
  repeat' split
  all_goals rfl
theorem pl_11354 (n : Nat) (x : Int32) (r : Int32) (K : Int32 → Option Int32) : p_MoPaper_plain_113_54 n x r K = if cG r = true ∨ cD r = true then K (x + 1) else some 0 := by
  have a1 : p_MoPaper_plain_148_53 n x (fun w => K w) = K (x + 1) := by
    unfold p_MoPaper_plain_148_53 p_MoPaper_plain_153_50
    rw [if_neg (by decide)]
  have a0 : p_MoPaper_plain_141_56 n x r (fun w => K w) = if r = 95 then K (x + 1) else some 0 := by
    unfold p_MoPaper_plain_141_56
    by_cases q : r = 95
    · rw [if_pos q, if_pos q]
      exact a1
    · rw [if_neg q, if_neg q]
      unfold p_MoPaper_plain_153_50
      rw [if_pos rfl]
  have a2 : p_MoPaper_plain_127_55 n x r (fun w => K w) = if r = 95 ∨ cD r = true then K (x + 1) else some 0 := by
    unfold p_MoPaper_plain_127_55 cD
    by_cases q1 : r < 48
    · rw [if_pos q1, a0, decide_eq_false (show ¬ 48 ≤ r from fun z => Int32.lt_irrefl (Int32.lt_of_le_of_lt z q1))]
      by_cases q : r = 95
      · rw [if_pos q, if_pos (Or.inl q)]
      · rw [if_neg q, if_neg (fun z => by rcases z with z | z; exact q z; cases z)]
    · rw [if_neg q1, decide_eq_true (show 48 ≤ r from Int32.not_lt.mp q1)]
      by_cases q2 : r ≤ 57
      · rw [if_pos q2, decide_eq_true q2, if_pos (show r = 95 ∨ (true && true) = true from Or.inr rfl)]
        exact a1
      · rw [if_neg q2, a0, decide_eq_false q2]
        by_cases q : r = 95
        · rw [if_pos q, if_pos (Or.inl q)]
        · rw [if_neg q, if_neg (fun z => by rcases z with z | z; exact q z; cases z)]
  unfold p_MoPaper_plain_113_54 cG
  by_cases q1 : r < 65
  · rw [if_pos q1, a2, decide_eq_false (show ¬ 65 ≤ r from fun z => Int32.lt_irrefl (Int32.lt_of_le_of_lt z q1)), Bool.false_and, Bool.false_or]
    simp only [beq_iff_eq]
  · rw [if_neg q1, decide_eq_true (show 65 ≤ r from Int32.not_lt.mp q1), Bool.true_and]
    by_cases q2 : r ≤ 90
    · rw [if_pos q2, decide_eq_true q2, if_pos (show (true || r == 95) = true ∨ cD r = true from Or.inl rfl)]
      exact a1
    · rw [if_neg q2, a2, decide_eq_false q2, Bool.false_or]
      simp only [beq_iff_eq]
theorem gd_mm {w : List Int32} {i : Nat} (h : i < w.length) : w.getD i 0 ∈ w := by
  rw [List.getD_eq_getElem?_getD, List.getElem?_eq_getElem h]
  exact List.getElem_mem h
theorem pl_84 {T : List (List Int32)} {sz tx : Int32} {text from_ next first : Nat → Int32} (h : MN T sz tx text from_ next first) {k : Nat} (hk : k < T.length) (a b : Int32) (hb : ∀ c, c ∈ T.getD k [] → bok c) : ∀ (u : List Int32) (i f : Nat), (T.getD k []).drop i = u → i ≤ (T.getD k []).length → u.length < f → p_MoPaper_plain_84 pure_n (nI k) a b 90000 text 404301 from_ (nI (T.getD k []).length) f (nI i) = some (b1 (u.all cY)) ∧ p_MoPaper_plain_84_29 pure_n (nI k) a b 90000 text 404301 from_ (nI (T.getD k []).length) f (nI i) = some (b1 (u.all cY)) ∧ p_MoPaper_plain_84_47 pure_n (nI k) a b 90000 text 404301 from_ (nI (T.getD k []).length) f (nI i) = some (b1 (u.all cW)) := by
  have hfl : (T.getD k []).length ≤ 80000 := by
    have hos := off_succ hk
    have ho := off_le (T := T) (show k + 1 ≤ T.length from hk)
    rw [off_all (Nat.le_refl _)] at ho
    have := h.2.2.2.2.2.2
    omega
  intro u
  induction u with
  | nil =>
    intro i f h1 hi hf
    obtain ⟨f, rfl⟩ : ∃ z, f = z + 1 := ⟨f - 1, by omega⟩
    have := drop_n h1
    rw [p_MoPaper_plain_84, p_MoPaper_plain_84_29, p_MoPaper_plain_84_47, if_pos (nI_le (by omega) (by omega)), if_pos (nI_le (by omega) (by omega)), if_pos (nI_le (by omega) (by omega))]
    exact ⟨rfl, rfl, rfl⟩
  | cons c u ih =>
    intro i f h1 hi hf
    rw [List.length_cons] at hf
    obtain ⟨f, rfl⟩ : ∃ z, f = z + 1 := ⟨f - 1, by omega⟩
    obtain ⟨e1, e2, e3⟩ := drop_c h1
    have hc : bok c := by
      rw [← e2]
      exact hb _ (gd_mm e1)
    obtain ⟨i1, i2, i3⟩ := ih (i + 1) f e3 (by omega) (by omega)
    have sy := ml_Y hc
    refine ⟨?_, ?_, ?_⟩
    · rw [p_MoPaper_plain_84, if_neg (nI_ge e1 (by omega)), mn_at h hk e1, Option.bind_some, e2]
      have e148 : p_MoPaper_plain_148 pure_n (nI i) c (fun w0 => p_MoPaper_plain_84 pure_n (nI k) a b 90000 text 404301 from_ (nI (T.getD k []).length) f w0) = (p_MoReader_symbol pure_n c).bind (fun q => if q = 0 then some 0 else p_MoPaper_plain_84 pure_n (nI k) a b 90000 text 404301 from_ (nI (T.getD k []).length) f (nI i + 1)) := rfl
      rw [e148, pl_113, sy, Option.bind_some, nI_1, i1, ite_self, ite_self, List.all_cons]
      cases cY c <;> rfl
    · rw [p_MoPaper_plain_84_29, if_neg (nI_ge e1 (by omega)), mn_at h hk e1, Option.bind_some, e2]
      have e148 : p_MoPaper_plain_148_36 pure_n (nI i) c (fun w0 => p_MoPaper_plain_84_29 pure_n (nI k) a b 90000 text 404301 from_ (nI (T.getD k []).length) f w0) = (p_MoReader_symbol pure_n c).bind (fun q => if q = 0 then some 0 else p_MoPaper_plain_84_29 pure_n (nI k) a b 90000 text 404301 from_ (nI (T.getD k []).length) f (nI i + 1)) := rfl
      rw [e148, pl_11337, sy, Option.bind_some, nI_1, i2, ite_self, ite_self, List.all_cons]
      cases cY c <;> rfl
    · rw [p_MoPaper_plain_84_47, if_neg (nI_ge e1 (by omega)), mn_at h hk e1, Option.bind_some, e2]
      have e148 : p_MoPaper_plain_148_53 pure_n (nI i) (fun w0 => p_MoPaper_plain_84_47 pure_n (nI k) a b 90000 text 404301 from_ (nI (T.getD k []).length) f w0) = p_MoPaper_plain_84_47 pure_n (nI k) a b 90000 text 404301 from_ (nI (T.getD k []).length) f (nI i + 1) := by
        unfold p_MoPaper_plain_148_53 p_MoPaper_plain_153_50
        rw [if_neg (by decide)]
      rw [e148, pl_11354, nI_1, i3, List.all_cons]
      unfold cW cS
      by_cases q1 : c < 97
      · rw [if_pos q1, decide_eq_false (show ¬ 97 ≤ c from fun z => Int32.lt_irrefl (Int32.lt_of_le_of_lt z q1)), Bool.false_and, Bool.false_or]
        cases cG c <;> cases cD c <;> rfl
      · rw [if_neg q1, decide_eq_true (show 97 ≤ c from Int32.not_lt.mp q1), Bool.true_and]
        by_cases q2 : c ≤ 122
        · rw [if_pos q2, decide_eq_true q2]
          rfl
        · rw [if_neg q2, decide_eq_false q2, Bool.false_or]
          cases cG c <;> cases cD c <;> rfl
/-! ===== names, the reference's side, printed ===== -/
theorem mp_plain {T : List (List Int32)} {sz tx : Int32} {text from_ next first : Nat → Int32} (h : MN T sz tx text from_ next first) {k : Nat} (hk : k < T.length) (a b : Int32) (hb : ∀ c, c ∈ T.getD k [] → bok c) : p_MoPaper_plain pure_n (nI k) a b 90000 text 404301 from_ = some (b1 (pln (T.getD k []))) := by
  have pg := pure_g2
  have hfl : (T.getD k []).length ≤ 80000 := by
    have hos := off_succ hk
    have ho := off_le (T := T) (show k + 1 ≤ T.length from hk)
    rw [off_all (Nat.le_refl _)] at ho
    have := h.2.2.2.2.2.2
    omega
  have s24 := mn_spells h hk a b (sx := 24) (by decide)
  have s23 := mn_spells h hk a b (sx := 23) (by decide)
  rw [show kn_byt.getD 24 [] = [91, 93] from rfl] at s24
  rw [show kn_byt.getD 23 [] = [46] from rfl] at s23
  obtain ⟨L1, L2, L3⟩ := pl_84 h hk a b hb _ 0 pure_n rfl (by omega) (by rw [List.drop_zero]; omega)
  rw [List.drop_zero] at L1 L2 L3
  unfold p_MoPaper_plain
  rw [mn_len h hk, Option.bind_some]
  by_cases q0 : T.getD k [] = []
  · rw [q0]
    rfl
  have hp : 0 < (T.getD k []).length := List.length_pos_iff.mpr q0
  have a0 := mn_at h hk hp a b
  rw [if_neg (nI_ne0 (by omega) (by omega))]
  have a0' : p_MoNames_at (nI k) 0 a b 90000 text 404301 from_ = some ((T.getD k []).getD 0 0) := a0
  rw [a0', Option.bind_some]
  have hd : (T.getD k []).headD 0 = (T.getD k []).getD 0 0 := by
    cases T.getD k [] <;> rfl
  have P38 : p_MoPaper_plain_38 pure_n (nI k) a b 90000 text 404301 from_ (nI (T.getD k []).length) ((T.getD k []).getD 0 0) = some (b1 (if T.getD k [] = [91, 93] then true else if T.getD k [] = [46] then false else if cS ((T.getD k []).getD 0 0) = true then (T.getD k []).all cW else (T.getD k []).all cY)) := by
    unfold p_MoPaper_plain_38
    rw [s24, Option.bind_some, s23, Option.bind_some]
    by_cases q1 : T.getD k [] = [91, 93]
    · rw [if_pos q1, if_neg (by decide), if_pos q1]
      rfl
    rw [if_neg q1, if_pos (show (0 : Int32) = 0 from rfl), if_neg q1]
    by_cases q2 : T.getD k [] = [46]
    · rw [if_pos q2, if_neg (by decide), if_pos q2]
      rfl
    rw [if_neg q2, if_pos (show (0 : Int32) = 0 from rfl), if_neg q2]
    have l1 : p_MoPaper_plain_84 pure_n (nI k) a b 90000 text 404301 from_ (nI (T.getD k []).length) pure_n 0 = _ := L1
    have l2 : p_MoPaper_plain_84_29 pure_n (nI k) a b 90000 text 404301 from_ (nI (T.getD k []).length) pure_n 0 = _ := L2
    have l3 : p_MoPaper_plain_84_47 pure_n (nI k) a b 90000 text 404301 from_ (nI (T.getD k []).length) pure_n 0 = _ := L3
    rw [l1, l2, l3]
    unfold cS
    by_cases c1 : (T.getD k []).getD 0 0 < 97
    · rw [if_pos c1, decide_eq_false (show ¬ 97 ≤ (T.getD k []).getD 0 0 from fun z => Int32.lt_irrefl (Int32.lt_of_le_of_lt z c1)), Bool.false_and]
      rfl
    · rw [if_neg c1, decide_eq_true (show 97 ≤ (T.getD k []).getD 0 0 from Int32.not_lt.mp c1), Bool.true_and]
      by_cases c2 : 122 < (T.getD k []).getD 0 0
      · rw [if_pos c2, decide_eq_false (fun z => Int32.lt_irrefl (Int32.lt_of_le_of_lt z c2))]
        rfl
      · rw [if_neg c2, decide_eq_true (Int32.not_lt.mp c2)]
        rfl
  rw [P38]
  unfold pln
  rw [if_neg q0, hd]
  have N1 : ¬ ((T.getD k []).length = 1 ∧ ((T.getD k []).getD 0 0 = 33 ∨ (T.getD k []).getD 0 0 = 59)) → ¬ (T.getD k [] = [33] ∨ T.getD k [] = [59]) := by
    intro w z
    rcases z with z | z
    · exact w (by rw [z]; exact ⟨rfl, Or.inl rfl⟩)
    · exact w (by rw [z]; exact ⟨rfl, Or.inr rfl⟩)
  by_cases q1 : (T.getD k []).length = 1
  · rw [q1, if_pos (show nI 1 = 1 from rfl)]
    obtain ⟨c, ec⟩ := List.length_eq_one_iff.mp q1
    have eg : (T.getD k []).getD 0 0 = c := by rw [ec]; rfl
    by_cases q2 : (T.getD k []).getD 0 0 = 33
    · rw [if_pos q2, if_pos (show T.getD k [] = [33] ∨ T.getD k [] = [59] from Or.inl (by rw [ec, ← eg, q2]))]
      rfl
    rw [if_neg q2]
    by_cases q3 : (T.getD k []).getD 0 0 = 59
    · rw [if_pos q3, if_pos (show T.getD k [] = [33] ∨ T.getD k [] = [59] from Or.inr (by rw [ec, ← eg, q3]))]
      rfl
    rw [if_neg q3, if_neg (N1 (fun z => z.2.elim q2 q3))]
  · rw [if_neg (show ¬ nI (T.getD k []).length = 1 from fun z => q1 ((nI_eq (b := 1) (by omega) (by omega)).mp z)), if_neg (N1 (fun z => q1 z.1))]
theorem n19_eq (n : Nat) (kk ord : Int32) (on : Nat) (a b : Int32) (tn : Nat) (tf : Nat → Int32) (fn : Nat) (ff : Nat → Int32) (r : Int32) : ∀ (f : Nat) (x an ov : Int32) (of : Nat → Int32), p_MoPaper_name_19_15 n kk ord on a b tn tf fn ff r f x an ov of = p_MoPaper_name_19 n kk ord on a b tn tf fn ff r f x an ov of := by
  intro f
  induction f with
  | zero => intro x an ov of; rfl
  | succ f ih =>
    intro x an ov of
    rw [p_MoPaper_name_19_15, p_MoPaper_name_19]
    unfold p_MoPaper_name_47_21 p_MoPaper_name_47
    simp only [ih]
theorem ro_19 (n : Nat) (ord : Int32) {T : List (List Int32)} {sz tx : Int32} {text from_ next first : Nat → Int32} (h : MN T sz tx text from_ next first) {k : Nat} (hk : k < T.length) (a b : Int32) (hb : ∀ c, c ∈ T.getD k [] → bok c) (pl : Bool) : ∀ (u : List Int32) (i f : Nat) (O : List Int32) (an ov : Int32) (of : Nat → Int32), (T.getD k []).drop i = u → i ≤ (T.getD k []).length → u.length < f → RO O an ov of → ∃ an' ov' of', p_MoPaper_name_19 n (nI k) ord 4096 a b 90000 text 404301 from_ (b1 pl) f (nI i) an ov of = some (an', ov', of') ∧ RO (O ++ (qtd u ++ (if pl = true then [] else [39]))) an' ov' of' := by
  have hfl : (T.getD k []).length ≤ 80000 := by
    have hos := off_succ hk
    have ho := off_le (T := T) (show k + 1 ≤ T.length from hk)
    rw [off_all (Nat.le_refl _)] at ho
    have := h.2.2.2.2.2.2
    omega
  intro u
  induction u with
  | nil =>
    intro i f O an ov of h1 hi hf hC
    obtain ⟨f, rfl⟩ : ∃ z, f = z + 1 := ⟨f - 1, by omega⟩
    have := drop_n h1
    rw [p_MoPaper_name_19, mn_len h hk, Option.bind_some, if_pos (nI_le (by omega) (by omega)), qtd, List.nil_append]
    cases pl with
    | true =>
      rw [if_neg (by decide), if_pos (show true = true from rfl), List.append_nil]
      exact ⟨an, ov, of, rfl, hC⟩
    | false =>
      obtain ⟨a1, o1, f1, p1, p2⟩ := ro_put 39 ord hC
      rw [if_pos (show b1 false = 0 from rfl), p1, if_neg (show ¬ false = true by decide)]
      exact ⟨a1, o1, f1, rfl, p2⟩
  | cons c u ih =>
    intro i f O an ov of h1 hi hf hC
    rw [List.length_cons] at hf
    obtain ⟨f, rfl⟩ : ∃ z, f = z + 1 := ⟨f - 1, by omega⟩
    obtain ⟨e1, e2, e3⟩ := drop_c h1
    have hc : bok c := by
      rw [← e2]
      exact hb _ (gd_mm e1)
    rw [p_MoPaper_name_19, mn_len h hk, Option.bind_some, if_neg (nI_ge e1 (by omega)), mn_at h hk e1, Option.bind_some, e2, qtd]
    unfold p_MoPaper_name_47
    simp only [mn_at h hk e1, Option.bind_some, e2]
    by_cases q : c = 39
    · obtain ⟨a1, o1, f1, p1, p2⟩ := ro_put 39 ord hC
      obtain ⟨a2, o2, f2, q1, q2⟩ := ro_put c ord p2
      rw [if_pos q, if_pos q, p1, Option.bind_some]
      dsimp only
      rw [q1, Option.bind_some]
      dsimp only
      rw [nI_1]
      obtain ⟨a', o', f', r1, r2⟩ := ih (i + 1) f _ a2 o2 f2 e3 (by omega) (by omega) q2
      refine ⟨a', o', f', r1, ?_⟩
      rw [bt_bok hc, q, List.append_assoc, List.append_assoc] at r2
      exact r2
    · obtain ⟨a1, o1, f1, p1, p2⟩ := ro_put c ord hC
      rw [if_neg q, if_neg q, p1, Option.bind_some]
      dsimp only
      rw [nI_1]
      obtain ⟨a', o', f', r1, r2⟩ := ih (i + 1) f _ a1 o1 f1 e3 (by omega) (by omega) p2
      refine ⟨a', o', f', r1, ?_⟩
      rw [bt_bok hc, List.append_assoc] at r2
      exact r2
theorem ro_name (ord : Int32) {T : List (List Int32)} {sz tx : Int32} {text from_ next first : Nat → Int32} (h : MN T sz tx text from_ next first) {k : Nat} (hk : k < T.length) (a b : Int32) (hb : ∀ c, c ∈ T.getD k [] → bok c) {O : List Int32} {an ov : Int32} {of : Nat → Int32} (hC : RO O an ov of) : ∃ an' ov' of', p_MoPaper_name pure_n (nI k) an ov ord 4096 of a b 90000 text 404301 from_ = some (an', ov', of') ∧ RO (O ++ nmx (T.getD k [])) an' ov' of' := by
  have pg := pure_g2
  have hfl : (T.getD k []).length ≤ 80000 := by
    have hos := off_succ hk
    have ho := off_le (T := T) (show k + 1 ≤ T.length from hk)
    rw [off_all (Nat.le_refl _)] at ho
    have := h.2.2.2.2.2.2
    omega
  unfold p_MoPaper_name nmx
  rw [mp_plain h hk a b hb, Option.bind_some]
  cases hp : pln (T.getD k []) with
  | true =>
    rw [if_neg (by decide), if_pos (show true = true from rfl)]
    obtain ⟨a', o', f', r1, r2⟩ := ro_19 pure_n ord h hk a b hb true _ 0 pure_n O an ov of rfl (by omega) (by rw [List.drop_zero]; omega) hC
    rw [List.drop_zero, if_pos rfl, List.append_nil] at r2
    exact ⟨a', o', f', r1, r2⟩
  | false =>
    obtain ⟨a1, o1, f1, p1, p2⟩ := ro_put 39 ord hC
    rw [if_pos (show b1 false = 0 from rfl), if_neg (show ¬ false = true by decide), p1, Option.bind_some]
    dsimp only
    rw [n19_eq]
    obtain ⟨a', o', f', r1, r2⟩ := ro_19 pure_n ord h hk a b hb false _ 0 pure_n _ a1 o1 f1 rfl (by omega) (by rw [List.drop_zero]; omega) p2
    rw [List.drop_zero, if_neg (show ¬ false = true by decide), List.append_assoc, List.singleton_append] at r2
    exact ⟨a', o', f', r1, r2⟩
theorem nI_L {n : Nat} (h : n < 2147483648) : (nI n).toInt64 = lN n := by
  apply Int64.toInt_inj.mp
  rw [Int32.toInt_toInt64, nI_toInt h, l_ti (by omega)]
/-! variables, the reference's side -/
theorem ro_var {Q : List Nat} {ord : Int32} {sef : Nat → Int32} (h : NOr Q ord sef) (hQ : Q.length ≤ 200) (hlt : ∀ v, v ∈ Q → v < 200) {v : Nat} (hv : v < 200) {O : List Int32} {an ov : Int32} {of : Nat → Int32} (hC : RO O an ov of) : ∃ an' ov' ord' of' sef', p_MoPaper_variable pure_n (nI v) an ov ord 4096 of 4200 sef = some (an', ov', ord', of', sef') ∧ RO (O ++ 95 :: nmb (lN (Q.idxOf v))) an' ov' of' ∧ NOr (nvx Q v) ord' sef' := by
  have pg := pure_g2
  have hi : Q.idxOf v ≤ 200 := Nat.le_trans List.idxOf_le_length hQ
  have e := nor_of h hQ hlt hv pure_n an ov of 4200 (Nat.le_refl _) Q.length 0 pure_n (by omega) (by omega) (by rw [List.take_zero]; exact List.not_mem_nil)
  unfold p_MoPaper_variable
  rw [show (0 : Int32) = nI 0 from rfl, e]
  have eL : (nI (Q.idxOf v)).toInt64 = lN (Q.idxOf v) := nI_L (by omega)
  have hz : NB (lN (Q.idxOf v)) := ⟨Q.idxOf v, by omega, Or.inl rfl⟩
  obtain ⟨h1, h2⟩ := h
  unfold p_MoPaper_variable_26 nvx
  rw [eL]
  by_cases q : v ∈ Q
  · have := List.idxOf_lt_length_of_mem q
    obtain ⟨a1, o1, f1, p1, p2⟩ := ro_put 95 ord hC
    obtain ⟨a2, o2, f2, q1, q2⟩ := ro_number hz ord p2
    rw [h1] at p1 q1 ⊢
    rw [if_neg (fun z => absurd ((nI_eq (by omega) (by omega)).mp z) (by omega)), p1, Option.bind_some]
    dsimp only
    rw [q1, if_pos q]
    rw [List.append_assoc] at q2
    exact ⟨_, _, _, _, _, rfl, q2, rfl, h2⟩
  · have ei := List.idxOf_eq_length q
    obtain ⟨a1, o1, f1, p1, p2⟩ := ro_put 95 (ord + 1) hC
    obtain ⟨a2, o2, f2, q1, q2⟩ := ro_number hz (ord + 1) p2
    rw [h1] at p1 q1 ⊢
    rw [if_pos (by rw [ei]), ck_t (ixb_t (by omega) (by omega)), p1, Option.bind_some]
    dsimp only
    rw [q1, if_neg q]
    rw [List.append_assoc] at q2
    refine ⟨_, _, _, _, _, rfl, q2, ?_, ?_⟩
    · rw [nI_1, List.length_append, List.length_singleton]
    · rw [nI_clamp (by omega), List.map_append]
      refine la_app h2 (fun j hj => pk_un (by rw [List.length_map] at hj; omega)) ?_
      rw [List.length_map]
      exact pk_us
/-! ===== the walk of a print ===== -/
abbrev lsc (S : List Nd) (a : Av) : Prop := a.1 = none ∧ 200 ≤ a.2 ∧ nma S a = [46] ∧ (pav S a).length = 2
abbrev emp (S : List Nd) (a : Av) : Prop := a.1 = none ∧ 200 ≤ a.2 ∧ nma S a = [91, 93] ∧ (pav S a).length = 0
abbrev Wk : Type := List (Nat × Nat) × List Int32 × List Nat
def wbg (S : List Nd) (μ : Av → Av) (a : Av) (s : Wk) : Wk :=
  if isV (μ a) then (s.1, s.2.1 ++ 95 :: nmb (lN (s.2.2.idxOf (μ a).2)), nvx s.2.2 (μ a).2)
  else match (μ a).1 with
    | some z => (s.1, s.2.1 ++ nmb z, s.2.2)
    | none => if lsc S (μ a) then (((μ a).2, 0) :: s.1, s.2.1, s.2.2)
        else ((if (pav S (μ a)).length = 0 then s.1 else ((μ a).2, 0) :: s.1), s.2.1 ++ nmx (nma S (μ a)), s.2.2)
def cst (S : List Nd) (μ : Av → Av) : Wk → Wk
  | ([], O, Q) => ([], O, Q)
  | ((c, k) :: P, O, Q) =>
    if lsc S (none, c) then
      (if k = 0 then wbg S μ ((pav S (none, c)).getD 0 (none, 0)) ((c, 1) :: P, O ++ [91], Q)
       else if k = 2 then (P, O ++ [93], Q)
       else if emp S (μ ((pav S (none, c)).getD 1 (none, 0))) then (P, O ++ [93], Q)
       else if lsc S (μ ((pav S (none, c)).getD 1 (none, 0))) then wbg S μ ((pav S (μ ((pav S (none, c)).getD 1 (none, 0)))).getD 0 (none, 0)) (((μ ((pav S (none, c)).getD 1 (none, 0))).2, 1) :: P, O ++ [44], Q)
       else wbg S μ (μ ((pav S (none, c)).getD 1 (none, 0))) ((c, 2) :: P, O ++ [124], Q))
    else if k = (pav S (none, c)).length then (P, O ++ [41], Q)
    else wbg S μ ((pav S (none, c)).getD k (none, 0)) ((c, k + 1) :: P, O ++ [if k = 0 then 40 else 44], Q)
def cn (S : List Nd) (μ : Av → Av) : Nat → Wk → Wk
  | 0, s => s
  | m + 1, s => if 4096 < s.2.1.length ∨ s.1 = [] then s else cn S μ m (cst S μ s)
/-- what is on the way -/
def WI (S : List Nd) (D : Av → Prop) (P : List (Nat × Nat)) : Prop := ∀ p, p ∈ P → 200 ≤ p.1 ∧ p.1 < 200 + S.length ∧ avc S p.1 = (none, p.1) ∧ 0 < (pav S (none, p.1)).length ∧ p.2 ≤ (pav S (none, p.1)).length ∧ D (none, p.1)
def NBS (S : List Nd) : Prop := ∀ (i : Nat) (d : Nd) (z : Int64), S[i]? = some d → d.1 = some z → NB z
theorem ct_nd {T : List (List Int32)} {S : List Nd} {nd : Int32} {sn : Nat} {sf : Nat → Int32} {vn : Nat} {vf : Nat → Int64} {fn : Nat} {ff : Nat → Int32} {ps : Int32} {pn : Nat} {pf : Nat → Int32} (h : CT T S nd sn sf vn vf fn ff ps pn pf) (hTl : T.length < 65536) (a b d e g i j : Int32) {c : Nat} (hc : c < 200 + S.length) (h2c : 200 ≤ c) : (∃ z dd, avc S c = (some z, 0) ∧ S[c - 200]? = some dd ∧ dd.1 = some z ∧ p_Terms_isInteger (nI c) a b d e g i j sn sf = some 1 ∧ p_Terms_number (nI c) a b d e g i j vn vf = some z ∧ sf c = -1) ∨ (avc S c = (none, c) ∧ p_Terms_isInteger (nI c) a b d e g i j sn sf = some 0 ∧ sf c = nI (pav S (none, c)).length ∧ (pav S (none, c)).length ≤ 8 ∧ ∃ t, t < T.length ∧ T.getD t [] = nma S (none, c) ∧ p_Terms_name (nI c) a b d e g i j vn vf = some (nI t) ∧ vf c = lN t) := by
  have l8 := pav_8 (ct_8 h) (none, c)
  obtain ⟨h1, h2, h3, h4, h5, h6, h7, h8, h9, h10, h11⟩ := h
  obtain ⟨k, rfl⟩ : ∃ k, c = 200 + k := ⟨c - 200, by omega⟩
  have hk : k < S.length := by omega
  have e0 := List.getElem?_eq_getElem hk
  have e1 : S[200 + k - 200]? = some S[k] := by rw [Nat.add_sub_cancel_left]; exact e0
  have eg : S.getD (200 + k - 200) (none, [], []) = S[k] := by rw [List.getD_eq_getElem?_getD, e1]; rfl
  subst h4
  obtain ⟨z, _⟩ := h11 k _ e0
  unfold p_Terms_isInteger p_Terms_number p_Terms_name
  rw [ck_t (ixb_t (by omega) (by omega)), ck_t (ixb_t (by omega) (by omega)), ck_t (ixb_t (by omega) (by omega)), nI_clamp (by omega)]
  rcases z with ⟨w, z1, _, z, z4⟩ | ⟨z1, z, z3, t, t1, t2, t3⟩
  · exact Or.inl ⟨w, S[k], av_i (by omega) e1 z1, e1, z1, by rw [z]; rfl, by rw [z4], z⟩
  · have ep : pav S (none, 200 + k) = S[k].2.2.map (fun r => avc S (ci r)) := by
      unfold pav
      rw [if_pos ⟨rfl, by show 200 ≤ 200 + k; omega⟩, eg]
    have ez : sf (200 + k) = nI (pav S (none, 200 + k)).length := by rw [z, ep, List.length_map]
    refine Or.inr ⟨av_c (by omega) e1 z1, ?_, ez, l8, t, t1, ?_, ?_, t3⟩
    · rw [if_neg]
      rw [ez]
      exact nm1 (by omega)
    · rw [t2]
      unfold nma
      rw [eg]
    · rw [t3]
      exact congrArg some (lN_i t)
theorem ct_lc {T U : List (List Int32)} (hT : T = KT ++ U) (hN : T.Nodup) {S : List Nd} {nd : Int32} {sn : Nat} {sf : Nat → Int32} {vn : Nat} {vf : Nat → Int64} {fn : Nat} {ff : Nat → Int32} {ps : Int32} {pn : Nat} {pf : Nat → Int32} (h : CT T S nd sn sf vn vf fn ff ps pn pf) (hTl : T.length < 65536) (a b d e g i j : Int32) {c : Nat} (hc : c < 200 + S.length) : p_Terms_isListCell (nI c) a b d e g i j sn sf vn vf = some (if lsc S (avc S c) then 1 else 0) ∧ p_Terms_isEmptyList (nI c) a b d e g i j sn sf vn vf = some (if emp S (avc S c) then 1 else 0) := by
  obtain ⟨h1, h2, h3, h4, h5, h6, h7, h8, h9, h10, h11⟩ := h
  have h' : CT T S nd sn sf vn vf fn ff ps pn pf := ⟨h1, h2, h3, h4, h5, h6, h7, h8, h9, h10, h11⟩
  unfold p_Terms_isListCell p_Terms_isEmptyList
  rw [ck_t (ixb_t (by omega) (by omega)), ck_t (ixb_t (by omega) (by omega)), ck_t (ixb_t (by omega) (by omega)), nI_clamp (by omega)]
  by_cases q : c < 200
  · rw [h10 c q, av_v q, if_neg (show ¬ (-2 : Int32) = 2 by decide), if_neg (show ¬ (-2 : Int32) = 0 by decide), if_neg (show ¬ lsc S (none, c) from fun z => absurd z.2.1 (by show ¬ 200 ≤ c; omega)), if_neg (show ¬ emp S (none, c) from fun z => absurd z.2.1 (by show ¬ 200 ≤ c; omega))]
    exact ⟨rfl, rfl⟩
  · rcases ct_nd h' hTl a b d e g i j hc (by omega) with ⟨z, dd, z1, _, _, _, _, z2⟩ | ⟨z1, _, z2, z3, t, t1, t2, _, t3⟩
    · rw [z1, z2, if_neg (show ¬ (-1 : Int32) = 2 by decide), if_neg (show ¬ (-1 : Int32) = 0 by decide), if_neg (show ¬ lsc S (some z, 0) from fun w => by cases w.1), if_neg (show ¬ emp S (some z, 0) from fun w => by cases w.1)]
      exact ⟨rfl, rfl⟩
    · rw [z1, z2, t3]
      have T0 : T.getD 0 [] = [91, 93] := by rw [hT]; rfl
      have T1 : T.getD 1 [] = [46] := by rw [hT]; rfl
      constructor
      · by_cases c1 : (pav S (none, c)).length = 2
        · rw [if_pos (show nI (pav S (none, c)).length = 2 by rw [c1]; rfl)]
          by_cases c2 : t = 1
          · rw [if_pos (by rw [c2]; rfl), if_pos (show lsc S (none, c) from ⟨rfl, by show 200 ≤ c; omega, by rw [← t2, c2, T1], c1⟩)]
          · rw [if_neg (fun w => by rw [lg_cmp_eq] at w; exact c2 ((l_eq (b := 1) (by omega) (by omega)).mp w)), if_neg (show ¬ lsc S (none, c) from fun w => kt_ne hT hN (j := 1) t1 (by decide) c2 (by rw [t2, w.2.2.1]; rfl))]
        · rw [if_neg (show ¬ nI (pav S (none, c)).length = 2 from fun w => c1 ((nI_eq (b := 2) (by omega) (by omega)).mp w)), if_neg (show ¬ lsc S (none, c) from fun w => c1 w.2.2.2)]
      · by_cases c1 : (pav S (none, c)).length = 0
        · rw [if_pos (show nI (pav S (none, c)).length = 0 by rw [c1]; rfl), ck_t (ixb_t (by omega) (by omega))]
          by_cases c2 : t = 0
          · rw [if_pos (by rw [c2]; rfl), if_pos (show emp S (none, c) from ⟨rfl, by show 200 ≤ c; omega, by rw [← t2, c2, T0], c1⟩)]
          · rw [if_neg (fun w => by rw [lg_cmp_eq] at w; exact c2 ((l_eq (b := 0) (by omega) (by omega)).mp w)), if_neg (show ¬ emp S (none, c) from fun w => kt_ne hT hN (j := 0) t1 (by decide) c2 (by rw [t2, w.2.2.1]; rfl))]
        · rw [if_neg (show ¬ nI (pav S (none, c)).length = 0 from fun w => c1 ((nI_eq (b := 0) (by omega) (by omega)).mp w)), if_neg (show ¬ emp S (none, c) from fun w => c1 w.2.2.2)]
/-! ===== the class begins a node ===== -/
def CW (S : List Nd) (D : Av → Prop) (s : Wk) (num ds : Int32) (dn : Nat) (df : Nat → Int32) (ps : Int32) (pn : Nat) (pf nuf : Nat → Int32) : Prop := CO s.2.1 ds dn df ∧ IN (pr s.1) ps pn pf ∧ pn ≤ 40000 ∧ NOc s.2.2 num nuf ∧ WI S D s.1
theorem c_into (x y : Nat) (num : Int32) {P : List (Nat × Nat)} {ps : Int32} {pn : Nat} {pf : Nat → Int32} (hP : IN (pr P) ps pn pf) (hl : P.length ≤ 8000) (hpn : pn ≤ 40000) : wp (p_Printer_goInto (nI x) (nI y) num ps pn pf) (fun ((ps', pn', pf'), mq, sk) => IN (pr ((x, y) :: P)) ps' pn' pf' ∧ pn' ≤ 40000 ∧ wc pn pn' mq sk) := by
  have pl := pr_len P
  unfold p_Printer_goInto
  refine wp_bind (in_push (nI x) hP (by omega)) ?_
  rintro ⟨⟨s1, n1, f1⟩, m1, k1⟩ ⟨i1, g1⟩
  dsimp only
  have l1 : (pr P ++ [nI x]).length = (pr P).length + 1 := by rw [List.length_append, List.length_singleton]
  refine wp_al (wp_bind (in_push (nI y) i1 (by omega)) ?_)
  rintro ⟨⟨s2, n2, f2⟩, m2, k2⟩ ⟨i2, g2⟩
  obtain ⟨a1, a2, a3⟩ := g1
  obtain ⟨b1, b2, b3⟩ := g2
  dsimp only
  refine wp_al (wp_some ⟨i2, ?_, ?_, ?_⟩)
  · show n2 ≤ 40000
    omega
  · show 64 * (0 + m2 + m1) + pn ≤ n2
    omega
  · show 0 + k2 + k1 + 2 * pn ≤ 2 * n2
    omega
theorem c_begin {T U : List (List Int32)} (hT : T = KT ++ U) {p : List Int32} {ts : Int32} {tn : Nat} {tf : Nat → Int32} {es : Int32} {en : Nat} {ef : Nat → Int32} {os : Int32} {on : Nat} {of nf : Nat → Int32} (hN : NC T p ts tn tf es en ef os on of nf) {S : List Nd} (hS : S.length ≤ 20700) {nd : Int32} {sn : Nat} {sf : Nat → Int32} {vn : Nat} {vf : Nat → Int64} {fn : Nat} {ff : Nat → Int32} {qs : Int32} {qn : Nat} {qf : Nat → Int32} (h : CT T S nd sn sf vn vf fn ff qs qn qf) {B : Nat → Option Av} {bc : Nat → Int32} (hB : CBd S B bc) {rk : Nat → Nat} {μ : Av → Av} (hM : MU B rk μ) {D : Av → Prop} (hD : DO S D) (hμ : ∀ z, D z → D (μ z) ∧ fa B (μ z)) (hDc : ∀ c, D (avc S c) → c < 200 + S.length) (hI : NBS S) (sb a2 a3 a4 a5 a6 a7 : Int32) {c : Nat} (Dc : D (avc S c)) {P : List (Nat × Nat)} {O : List Int32} {Q : List Nat} {num : Int32} {ds : Int32} {dn : Nat} {df : Nat → Int32} {ps : Int32} {pn : Nat} {pf : Nat → Int32} {nuf : Nat → Int32} (hW : CW S D (P, O, Q) num ds dn df ps pn pf nuf) (hl : P.length ≤ 8000) : wp (p_Printer_begin pure_n (nI c) num ts sb tn tf es en ef nd a2 a3 a4 a5 a6 a7 sn sf vn vf 200 bc ds dn df ps pn pf 200 nuf) (fun ((num', ds', dn', df', ps', pn', pf', nuf'), mq, sk) => CW S D (wbg S μ (avc S c) (P, O, Q)) num' ds' dn' df' ps' pn' pf' nuf' ∧ wc (dn + pn) (dn' + pn') mq sk) := by
  have pg := pure_g2
  have hc := hDc c Dc
  have Dm' := (hμ _ Dc).1
  have hTl : T.length < 65536 := by have := hN.2.2.2.2.1; omega
  obtain ⟨w1, w2, w3, w4, w5⟩ := hW
  dsimp only at w1 w2 w4 w5
  obtain ⟨c', m1, m2, m3, m4, _⟩ := cme_loop pure_n (by omega) hB hM 200 0 c pure_n (by omega) hc (fun _ => hM.2.2.2 c) (by omega)
  have mt : p_Terms_meant pure_n (nI c) nd a2 a3 a4 a5 a6 a7 200 bc = some (nI c') := m1
  unfold p_Printer_begin wbg
  rw [← m3] at Dm' ⊢
  refine wp_bs mt (wp_bs (ct_isV h nd a2 a3 a4 a5 a6 a7 m2) ?_)
  by_cases v : c' < 200
  · rw [if_pos v, if_pos (av_isV.mpr v), av_v v]
    dsimp only
    refine wp_if (by decide) (wp_bind (co_add 95 num w1) ?_)
    rintro ⟨⟨s1, n1, f1⟩, mq1, sk1⟩ ⟨k1, k2⟩
    dsimp only
    have hi : Q.idxOf c' ≤ 200 := Nat.le_trans List.idxOf_le_length (noc_len w4)
    obtain ⟨num', nuf', q1, q2⟩ := noc_of w4 v
    refine wp_al (wp_bs q1 ?_)
    dsimp only
    rw [nI_L (by omega)]
    refine wp_bind (co_number ⟨Q.idxOf c', by omega, Or.inl rfl⟩ num' k1) ?_
    rintro ⟨⟨s2, n2, f2⟩, mq2, sk2⟩ ⟨k3, k4⟩
    rw [List.append_assoc] at k3
    dsimp only
    obtain ⟨e1, e2⟩ := wc_trans k2 k4
    refine wp_al (wp_some ⟨⟨k3, w2, w3, q2, w5⟩, ?_, ?_⟩)
    · show 64 * (0 + mq2 + mq1) + (dn + pn) ≤ n2 + pn
      omega
    · show 0 + sk2 + sk1 + 2 * (dn + pn) ≤ 2 * (n2 + pn)
      omega
  · rw [if_neg v, if_neg (fun z => v (av_isV.mp z))]
    refine wp_it rfl ?_
    rcases ct_nd h hTl nd a2 a3 a4 a5 a6 a7 m2 (by omega) with ⟨z, dd, z1, z2, z3, z4, z5, _⟩ | ⟨z1, z4, zp, z8, t, t1, t2, t3, _⟩
    · rw [z1]
      dsimp only
      refine wp_bs z4 (wp_if (by decide) (wp_bs z5 (wp_bind (co_number (hI _ _ _ z2 z3) num w1) ?_)))
      rintro ⟨⟨s1, n1, f1⟩, mq1, sk1⟩ ⟨k1, k2⟩
      dsimp only
      obtain ⟨e1, e2⟩ := k2
      refine wp_al (wp_some ⟨⟨k1, w2, w3, w4, w5⟩, ?_, ?_⟩)
      · show 64 * (0 + mq1) + (dn + pn) ≤ n1 + pn
        omega
      · show 0 + sk1 + 2 * (dn + pn) ≤ 2 * (n1 + pn)
        omega
    · have lc := (ct_lc hT hN.2.2.2.2.2 h hTl nd a2 a3 a4 a5 a6 a7 m2).1
      have poS := ct_po h nd a2 a3 a4 a5 a6 a7 m2
      rw [z1] at lc poS ⊢
      dsimp only
      have WN : 0 < (pav S (none, c')).length → WI S D ((c', 0) :: P) := fun hp q hq => by
        rcases List.mem_cons.mp hq with rfl | hq
        · exact ⟨by show 200 ≤ c'; omega, m2, z1, hp, Nat.zero_le _, by rw [← z1]; exact Dm'⟩
        · exact w5 q hq
      refine wp_bs z4 (wp_it rfl (wp_bs lc ?_))
      by_cases l : lsc S (none, c')
      · rw [if_pos l, if_pos l]
        refine wp_if (by decide) (wp_bind (c_into c' 0 num w2 hl w3) ?_)
        rintro ⟨⟨s1, n1, f1⟩, mq1, sk1⟩ ⟨k1, k2, e1, e2⟩
        dsimp only
        refine wp_al (wp_some ⟨⟨w1, k1, k2, w4, WN (by have := l.2.2.2; omega)⟩, ?_, ?_⟩)
        · show 64 * (0 + mq1) + (dn + pn) ≤ dn + n1
          omega
        · show 0 + sk1 + 2 * (dn + pn) ≤ 2 * (dn + n1)
          omega
      · rw [if_neg l, if_neg l]
        refine wp_it rfl (wp_bs t3 (wp_bind (co_name num sb hT hN t1 w1) ?_))
        rintro ⟨⟨s1, n1, f1⟩, mq1, sk1⟩ ⟨k1, e1, e2⟩
        rw [t2] at k1
        dsimp only
        refine wp_al (wp_bs poS ?_)
        by_cases l0 : (pav S (none, c')).length = 0
        · rw [if_pos l0, l0]
          refine wp_it (by decide) (wp_some ⟨⟨k1, w2, w3, w4, w5⟩, ?_, ?_⟩)
          · show 64 * (0 + mq1) + (dn + pn) ≤ n1 + pn
            omega
          · show 0 + sk1 + 2 * (dn + pn) ≤ 2 * (n1 + pn)
            omega
        · rw [if_neg l0]
          refine wp_if (show ¬ nI (pav S (none, c')).length ≤ 0 from nI_ge (b := (pav S (none, c')).length) (a := 0) (by omega) (by omega)) (wp_bind (c_into c' 0 num w2 hl w3) ?_)
          rintro ⟨⟨s2, n2, f2⟩, mq2, sk2⟩ ⟨k3, k4, e3, e4⟩
          dsimp only
          refine wp_al (wp_some ⟨⟨k1, k3, k4, w4, WN (by omega)⟩, ?_, ?_⟩)
          · show 64 * (0 + mq2 + mq1) + (dn + pn) ≤ n1 + n2
            omega
          · show 0 + sk2 + sk1 + 2 * (dn + pn) ≤ 2 * (n1 + n2)
            omega
/-! ===== the class goes on ===== -/
theorem wi_t {S : List Nd} {D : Av → Prop} {p : Nat × Nat} {P : List (Nat × Nat)} (h : WI S D (p :: P)) : WI S D P := fun q hq => h q (List.mem_cons_of_mem _ hq)
theorem gd_pv {S : List Nd} {a b : Av} {k : Nat} (h : (pav S a)[k]? = some b) : (pav S a).getD k (none, 0) = b := by
  rw [List.getD_eq_getElem?_getD, h]
  rfl
theorem mem_gd {l : List Av} {k : Nat} {b : Av} (h : l[k]? = some b) : b ∈ l := List.mem_of_getElem? h
theorem c_comp {T U : List (List Int32)} (hT : T = KT ++ U) {p : List Int32} {ts : Int32} {tn : Nat} {tf : Nat → Int32} {es : Int32} {en : Nat} {ef : Nat → Int32} {os : Int32} {on : Nat} {of nf : Nat → Int32} (hN : NC T p ts tn tf es en ef os on of nf) {S : List Nd} (hS : S.length ≤ 20700) {nd : Int32} {sn : Nat} {sf : Nat → Int32} {vn : Nat} {vf : Nat → Int64} {fn : Nat} {ff : Nat → Int32} {qs : Int32} {qn : Nat} {qf : Nat → Int32} (h : CT T S nd sn sf vn vf fn ff qs qn qf) {B : Nat → Option Av} {bc : Nat → Int32} (hB : CBd S B bc) {rk : Nat → Nat} {μ : Av → Av} (hM : MU B rk μ) {D : Av → Prop} (hD : DO S D) (hμ : ∀ z, D z → D (μ z) ∧ fa B (μ z)) (hDc : ∀ c, D (avc S c) → c < 200 + S.length) (hI : NBS S) (sb a2 a3 a4 a5 a6 a7 : Int32) {c k : Nat} {P : List (Nat × Nat)} {O : List Int32} {Q : List Nat} (hK : WI S D ((c, k) :: P)) (nl : ¬ lsc S (none, c)) {num : Int32} {ds : Int32} {dn : Nat} {df : Nat → Int32} {ps : Int32} {pn : Nat} {pf : Nat → Int32} {nuf : Nat → Int32} (hW : CW S D (P, O, Q) num ds dn df ps pn pf nuf) (hl : P.length ≤ 7000) : wp (p_Printer_goOnInCompound pure_n (nI c) (nI k) num ts sb tn tf es en ef nd a2 a3 a4 a5 a6 a7 sn sf vn vf fn ff qs qn qf 200 bc ds dn df ps pn pf 200 nuf) (fun ((num', ds', dn', df', ps', pn', pf', nuf'), mq, sk) => CW S D (cst S μ ((c, k) :: P, O, Q)) num' ds' dn' df' ps' pn' pf' nuf' ∧ wc (dn + pn) (dn' + pn') mq sk) := by
  obtain ⟨c1, c2, c3, c4, c5, c6⟩ := hK (c, k) (List.mem_cons_self ..)
  dsimp only at c1 c2 c3 c4 c5 c6
  obtain ⟨w1, w2, w3, w4, w5⟩ := hW
  dsimp only at w1 w2 w4 w5
  have poS := ct_po h nd a2 a3 a4 a5 a6 a7 c2
  have l8 := pav_8 (ct_8 h) (none, c)
  rw [c3] at poS
  have Dc : D (avc S c) := by rw [c3]; exact c6
  unfold p_Printer_goOnInCompound
  rw [cst, if_neg nl]
  refine wp_bs poS ?_
  by_cases q : k = (pav S (none, c)).length
  · rw [if_pos q]
    refine wp_it (by rw [← q]) (wp_bind (co_add 41 num w1) ?_)
    rintro ⟨⟨s1, n1, f1⟩, mq1, sk1⟩ ⟨k1, e1, e2⟩
    dsimp only
    refine wp_al (wp_some ⟨⟨k1, w2, w3, w4, w5⟩, ?_, ?_⟩)
    · show 64 * (0 + mq1) + (dn + pn) ≤ n1 + pn
      omega
    · show 0 + sk1 + 2 * (dn + pn) ≤ 2 * (n1 + pn)
      omega
  · rw [if_neg q]
    refine wp_if (fun z => q ((nI_eq (by omega) (by omega)).mp z)) ?_
    have hk : k < (pav S (avc S c)).length := by rw [c3]; omega
    obtain ⟨y, y1, y2⟩ := ct_pa h nd a2 a3 a4 a5 a6 a7 c2 hk
    have Dy : D (avc S y) := hD.2 _ _ Dc (mem_gd y2)
    rw [c3] at y2
    rw [gd_pv y2]
    have GO : ∀ b : Int32, bt b = b → wp ((p_Printer_add b num ds dn df).bind (fun ((a_draft_size_4, a_draft_items_n_4, a_draft_items_f_4), mk4, sk4) => al mk4 sk4 ((p_Printer_goInto (nI c) (nI k + 1) num ps pn pf).bind (fun ((a_path_size_5, a_path_items_n_5, a_path_items_f_5), mk5, sk5) => al mk5 sk5 ((p_Terms_partAt (nI c) (nI k) nd a2 a3 a4 a5 a6 a7 fn ff qs qn qf).bind (fun r6 => (p_Printer_begin pure_n r6 num ts sb tn tf es en ef nd a2 a3 a4 a5 a6 a7 sn sf vn vf 200 bc a_draft_size_4 a_draft_items_n_4 a_draft_items_f_4 a_path_size_5 a_path_items_n_5 a_path_items_f_5 200 nuf).bind (fun ((a_numbered_7, a_draft_size_7, a_draft_items_n_7, a_draft_items_f_7, a_path_size_7, a_path_items_n_7, a_path_items_f_7, a_numbers_f_7), mk7, sk7) => al mk7 sk7 (some ((a_numbered_7, a_draft_size_7, a_draft_items_n_7, a_draft_items_f_7, a_path_size_7, a_path_items_n_7, a_path_items_f_7, a_numbers_f_7), 0, 0)))))))) ) (fun ((num', ds', dn', df', ps', pn', pf', nuf'), mq, sk) => CW S D (wbg S μ (avc S y) ((c, k + 1) :: P, O ++ [b], Q)) num' ds' dn' df' ps' pn' pf' nuf' ∧ wc (dn + pn) (dn' + pn') mq sk) := by
      intro b hb
      refine wp_bind (co_add b num w1) ?_
      rintro ⟨⟨s1, n1, f1⟩, mq1, sk1⟩ ⟨k1, e1, e2⟩
      rw [hb] at k1
      dsimp only
      rw [nI_1]
      refine wp_al (wp_bind (c_into c (k + 1) num w2 (by omega) w3) ?_)
      rintro ⟨⟨s2, n2, f2⟩, mq2, sk2⟩ ⟨k3, k4, e3, e4⟩
      dsimp only
      refine wp_al (wp_bs y1 (wp_bind (c_begin hT hN hS h hB hM hD hμ hDc hI sb a2 a3 a4 a5 a6 a7 Dy (P := (c, k + 1) :: P) (O := O ++ [b]) (Q := Q) ⟨k1, k3, k4, w4, ?_⟩ (by rw [List.length_cons]; omega)) ?_))
      · intro r hr
        rcases List.mem_cons.mp hr with rfl | hr
        · exact ⟨c1, c2, c3, c4, by show k + 1 ≤ (pav S (none, c)).length; omega, c6⟩
        · exact w5 r hr
      · rintro ⟨⟨a1, a2, a3, a4, a5, a6, a7, a8⟩, mq3, sk3⟩ ⟨x1, x2, x3⟩
        dsimp only
        refine wp_al (wp_some ⟨x1, ?_, ?_⟩)
        · show 64 * (0 + mq3 + mq2 + mq1) + (dn + pn) ≤ a3 + a6
          omega
        · show 0 + sk3 + sk2 + sk1 + 2 * (dn + pn) ≤ 2 * (a3 + a6)
          omega
    by_cases q0 : k = 0
    · rw [if_pos q0]
      exact wp_it (by rw [q0]; rfl) (GO 40 rfl)
    · rw [if_neg q0]
      exact wp_if (nI_ne0 (by omega) (by omega)) (GO 44 rfl)
theorem c_list {T U : List (List Int32)} (hT : T = KT ++ U) {p : List Int32} {ts : Int32} {tn : Nat} {tf : Nat → Int32} {es : Int32} {en : Nat} {ef : Nat → Int32} {os : Int32} {on : Nat} {of nf : Nat → Int32} (hN : NC T p ts tn tf es en ef os on of nf) {S : List Nd} (hS : S.length ≤ 20700) {nd : Int32} {sn : Nat} {sf : Nat → Int32} {vn : Nat} {vf : Nat → Int64} {fn : Nat} {ff : Nat → Int32} {qs : Int32} {qn : Nat} {qf : Nat → Int32} (h : CT T S nd sn sf vn vf fn ff qs qn qf) {B : Nat → Option Av} {bc : Nat → Int32} (hB : CBd S B bc) {rk : Nat → Nat} {μ : Av → Av} (hM : MU B rk μ) {D : Av → Prop} (hD : DO S D) (hμ : ∀ z, D z → D (μ z) ∧ fa B (μ z)) (hDc : ∀ c, D (avc S c) → c < 200 + S.length) (hI : NBS S) (sb a2 a3 a4 a5 a6 a7 : Int32) {c k : Nat} {P : List (Nat × Nat)} {O : List Int32} {Q : List Nat} (hK : WI S D ((c, k) :: P)) (ll : lsc S (none, c)) {num : Int32} {ds : Int32} {dn : Nat} {df : Nat → Int32} {ps : Int32} {pn : Nat} {pf : Nat → Int32} {nuf : Nat → Int32} (hW : CW S D (P, O, Q) num ds dn df ps pn pf nuf) (hl : P.length ≤ 7000) : wp (p_Printer_goOnInList pure_n (nI c) (nI k) num ts sb tn tf es en ef nd a2 a3 a4 a5 a6 a7 sn sf vn vf fn ff qs qn qf 200 bc ds dn df ps pn pf 200 nuf) (fun ((num', ds', dn', df', ps', pn', pf', nuf'), mq, sk) => CW S D (cst S μ ((c, k) :: P, O, Q)) num' ds' dn' df' ps' pn' pf' nuf' ∧ wc (dn + pn) (dn' + pn') mq sk) := by
  have pg := pure_g2
  have hTl : T.length < 65536 := by have := hN.2.2.2.2.1; omega
  obtain ⟨c1, c2, c3, c4, c5, c6⟩ := hK (c, k) (List.mem_cons_self ..)
  dsimp only at c1 c2 c3 c4 c5 c6
  obtain ⟨w1, w2, w3, w4, w5⟩ := hW
  dsimp only at w1 w2 w4 w5
  have Dc : D (avc S c) := by rw [c3]; exact c6
  have l2 := ll.2.2.2
  obtain ⟨y, y1, y2⟩ := ct_pa h nd a2 a3 a4 a5 a6 a7 c2 (k := 1) (by rw [c3]; omega)
  have Dy : D (avc S y) := hD.2 _ _ Dc (mem_gd y2)
  obtain ⟨y0, y3, y4⟩ := ct_pa h nd a2 a3 a4 a5 a6 a7 c2 (k := 0) (by rw [c3]; omega)
  have Dy0 : D (avc S y0) := hD.2 _ _ Dc (mem_gd y4)
  rw [c3] at y2 y4
  obtain ⟨c', m1, m2, m3, m4, _⟩ := cme_loop pure_n (by omega) hB hM 200 0 y pure_n (by omega) (hDc y Dy) (fun _ => hM.2.2.2 y) (by omega)
  have mt : p_Terms_meant pure_n (nI y) nd a2 a3 a4 a5 a6 a7 200 bc = some (nI c') := m1
  have Dc' : D (avc S c') := by rw [m3]; exact (hμ _ Dy).1
  obtain ⟨lc, le⟩ := ct_lc hT hN.2.2.2.2.2 h hTl nd a2 a3 a4 a5 a6 a7 m2
  have WS : ∀ j, j ≤ 2 → WI S D ((c, j) :: P) := fun j hj r hr => by
    rcases List.mem_cons.mp hr with rfl | hr
    · exact ⟨c1, c2, c3, c4, by show j ≤ (pav S (none, c)).length; omega, c6⟩
    · exact w5 r hr
  -- what follows a byte and a push
  have GO : ∀ (b : Int32) (x j z : Nat), bt b = b → WI S D ((x, j) :: P) → D (avc S z) → wp ((p_Printer_add b num ds dn df).bind (fun ((a_draft_size_4, a_draft_items_n_4, a_draft_items_f_4), mk4, sk4) => al mk4 sk4 ((p_Printer_goInto (nI x) (nI j) num ps pn pf).bind (fun ((a_path_size_5, a_path_items_n_5, a_path_items_f_5), mk5, sk5) => al mk5 sk5 ((p_Printer_begin pure_n (nI z) num ts sb tn tf es en ef nd a2 a3 a4 a5 a6 a7 sn sf vn vf 200 bc a_draft_size_4 a_draft_items_n_4 a_draft_items_f_4 a_path_size_5 a_path_items_n_5 a_path_items_f_5 200 nuf).bind (fun ((a_numbered_7, a_draft_size_7, a_draft_items_n_7, a_draft_items_f_7, a_path_size_7, a_path_items_n_7, a_path_items_f_7, a_numbers_f_7), mk7, sk7) => al mk7 sk7 (some ((a_numbered_7, a_draft_size_7, a_draft_items_n_7, a_draft_items_f_7, a_path_size_7, a_path_items_n_7, a_path_items_f_7, a_numbers_f_7), 0, 0)))))))) (fun ((num', ds', dn', df', ps', pn', pf', nuf'), mq, sk) => CW S D (wbg S μ (avc S z) ((x, j) :: P, O ++ [b], Q)) num' ds' dn' df' ps' pn' pf' nuf' ∧ wc (dn + pn) (dn' + pn') mq sk) := by
    intro b x j z hb hw Dz
    refine wp_bind (co_add b num w1) ?_
    rintro ⟨⟨s1, n1, f1⟩, mq1, sk1⟩ ⟨k1, e1, e2⟩
    rw [hb] at k1
    dsimp only
    refine wp_al (wp_bind (c_into x j num w2 (by omega) w3) ?_)
    rintro ⟨⟨s2, n2, f2⟩, mq2, sk2⟩ ⟨k3, k4, e3, e4⟩
    dsimp only
    refine wp_al (wp_bind (c_begin hT hN hS h hB hM hD hμ hDc hI sb a2 a3 a4 a5 a6 a7 Dz (P := (x, j) :: P) (O := O ++ [b]) (Q := Q) ⟨k1, k3, k4, w4, hw⟩ (by rw [List.length_cons]; omega)) ?_)
    rintro ⟨⟨a1, a2, a3, a4, a5, a6, a7, a8⟩, mq3, sk3⟩ ⟨x1, x2, x3⟩
    dsimp only
    refine wp_al (wp_some ⟨x1, ?_, ?_⟩)
    · show 64 * (0 + mq3 + mq2 + mq1) + (dn + pn) ≤ a3 + a6
      omega
    · show 0 + sk3 + sk2 + sk1 + 2 * (dn + pn) ≤ 2 * (a3 + a6)
      omega
  have EN : wp ((p_Printer_add 93 num ds dn df).bind (fun ((a_draft_size_5, a_draft_items_n_5, a_draft_items_f_5), mk5, sk5) => al mk5 sk5 (some ((num, a_draft_size_5, a_draft_items_n_5, a_draft_items_f_5, ps, pn, pf, nuf), 0, 0)))) (fun ((num', ds', dn', df', ps', pn', pf', nuf'), mq, sk) => CW S D (P, O ++ [93], Q) num' ds' dn' df' ps' pn' pf' nuf' ∧ wc (dn + pn) (dn' + pn') mq sk) := by
    refine wp_bind (co_add 93 num w1) ?_
    rintro ⟨⟨s1, n1, f1⟩, mq1, sk1⟩ ⟨k1, e1, e2⟩
    dsimp only
    refine wp_al (wp_some ⟨⟨k1, w2, w3, w4, w5⟩, ?_, ?_⟩)
    · show 64 * (0 + mq1) + (dn + pn) ≤ n1 + pn
      omega
    · show 0 + sk1 + 2 * (dn + pn) ≤ 2 * (n1 + pn)
      omega
  have y1' : p_Terms_partAt (nI c) 1 nd a2 a3 a4 a5 a6 a7 fn ff qs qn qf = some (nI y) := y1
  have y3' : p_Terms_partAt (nI c) 0 nd a2 a3 a4 a5 a6 a7 fn ff qs qn qf = some (nI y0) := y3
  unfold p_Printer_goOnInList
  rw [cst, if_pos ll, gd_pv y2, gd_pv y4, ← m3]
  refine wp_bs y1' (wp_bs mt ?_)
  by_cases q0 : k = 0
  · rw [if_pos q0]
    refine wp_it (by rw [q0]; rfl) ?_
    simp only [y3', Option.bind_some]
    exact GO 91 c 1 y0 rfl (WS 1 (by omega)) Dy0
  rw [if_neg q0]
  refine wp_if (nI_ne0 (by omega) (by omega)) ?_
  by_cases q2 : k = 2
  · rw [if_pos q2]
    exact wp_it (by rw [q2]; rfl) EN
  rw [if_neg q2]
  refine wp_if (show ¬ nI k = 2 from fun z => q2 ((nI_eq (b := 2) (by omega) (by omega)).mp z)) (wp_bs le ?_)
  by_cases e : emp S (avc S c')
  · rw [if_pos e, if_pos e]
    exact wp_if (by decide) EN
  rw [if_neg e, if_neg e]
  refine wp_it rfl (wp_bs lc ?_)
  by_cases l : lsc S (avc S c')
  · rw [if_pos l, if_pos l]
    have es := av_snd l.1
    have l2' := l.2.2.2
    obtain ⟨u, u1, u2⟩ := ct_pa h nd a2 a3 a4 a5 a6 a7 m2 (k := 0) (by omega)
    have u1' : p_Terms_partAt (nI c') 0 nd a2 a3 a4 a5 a6 a7 fn ff qs qn qf = some (nI u) := u1
    have Du : D (avc S u) := hD.2 _ _ Dc' (mem_gd u2)
    refine wp_if (by decide) ?_
    rw [gd_pv u2, es]
    dsimp only
    simp only [u1', Option.bind_some]
    refine GO 44 c' 1 u rfl (fun r hr => ?_) Du
    rcases List.mem_cons.mp hr with rfl | hr
    · refine ⟨?_, m2, es, ?_, ?_, ?_⟩
      · have := l.2.1
        rw [es] at this
        exact this
      · rw [← es]
        omega
      · show 1 ≤ (pav S (none, c')).length
        rw [← es]
        omega
      · rw [← es]
        exact Dc'
    · exact w5 r hr
  · rw [if_neg l, if_neg l]
    exact wp_it rfl (GO 124 c 2 c' rfl (WS 2 (by omega)) Dc')
/-! ===== the class's loop ===== -/
theorem wbg_len (S : List Nd) (μ : Av → Av) (a : Av) (s : Wk) : (wbg S μ a s).1.length ≤ s.1.length + 1 ∧ s.2.1.length ≤ (wbg S μ a s).2.1.length := by
  unfold wbg
  generalize μ a = b
  obtain ⟨o, w⟩ := b
  by_cases q : isV (o, w)
  · rw [if_pos q]
    exact ⟨Nat.le_succ _, by dsimp only; rw [List.length_append]; omega⟩
  · rw [if_neg q]
    cases o with
    | some z => exact ⟨Nat.le_succ _, by dsimp only; rw [List.length_append]; omega⟩
    | none =>
      dsimp only
      by_cases l : lsc S (none, w)
      · rw [if_pos l]
        exact ⟨by simp, Nat.le_refl _⟩
      · rw [if_neg l]
        refine ⟨?_, by dsimp only; rw [List.length_append]; omega⟩
        dsimp only
        split
        · omega
        · simp
theorem cst_len (S : List Nd) (μ : Av → Av) {s : Wk} (h : s.1 ≠ []) (h1 : s.1.length ≤ s.2.1.length + 1) : s.2.1.length + 1 ≤ (cst S μ s).2.1.length ∧ (cst S μ s).1.length ≤ (cst S μ s).2.1.length + 1 := by
  obtain ⟨P, O, Q⟩ := s
  cases P with
  | nil => exact absurd rfl h
  | cons p P =>
    obtain ⟨c, k⟩ := p
    dsimp only at h1
    rw [List.length_cons] at h1
    have G : ∀ (a : Av) (x : Nat × Nat) (b : Int32), O.length + 1 ≤ (wbg S μ a (x :: P, O ++ [b], Q)).2.1.length ∧ (wbg S μ a (x :: P, O ++ [b], Q)).1.length ≤ (wbg S μ a (x :: P, O ++ [b], Q)).2.1.length + 1 := fun a x b => by
      have := wbg_len S μ a (x :: P, O ++ [b], Q)
      dsimp only at this
      rw [List.length_cons, List.length_append, List.length_singleton] at this
      omega
    have E : ∀ b : Int32, O.length + 1 ≤ (O ++ [b]).length ∧ P.length ≤ (O ++ [b]).length + 1 := fun b => by
      rw [List.length_append, List.length_singleton]
      omega
    rw [cst]
    repeat' split
    all_goals first
      | exact G _ _ _
      | exact E _
theorem co_sz {O : List Int32} {s : Int32} {N : Nat} {f : Nat → Int32} (h : CO O s N f) : 4096 < s ↔ 4096 < O.length := by
  have lt : (O.take 4097).length = min 4097 O.length := List.length_take
  have e : s = nI (O.take 4097).length := h.1.1
  rw [e]
  by_cases q : 4096 < O.length
  · exact ⟨fun _ => q, fun _ => by rw [show (O.take 4097).length = 4097 by omega]; decide⟩
  · exact ⟨fun z => absurd z (show ¬ 4096 < nI (O.take 4097).length from nI_nlt (a := 4096) (by omega) (by omega)), fun z => absurd z q⟩
def SHP (O' : List Int32) (rs : Int32) (rn : Nat) (rf : Nat → Int32) (W : Nat) : ((Int32 × Int32 × Int32 × Nat × (Nat → Int32) × Int32 × Nat × (Nat → Int32) × Int32 × Nat × (Nat → Int32) × (Nat → Int32)) × Nat × Nat) → Prop := fun ((r, _, rs', rn', rf', ds', dn', df', ps', pn', pf', _), mq, sk) => ((4096 < O'.length ∧ r = 0 ∧ rs' = rs ∧ rn' = rn ∧ rf' = rf ∧ (∃ l, CO l ds' dn' df')) ∨ (O'.length ≤ 4096 ∧ r = 1 ∧ CO O' rs' rn' rf' ∧ ds' = rs ∧ dn' = rn ∧ df' = rf)) ∧ (∃ l, IN l ps' pn' pf') ∧ pn' ≤ 40000 ∧ wc W (rn' + dn' + pn') mq sk
theorem c_loop {T U : List (List Int32)} (hT : T = KT ++ U) {p : List Int32} {ts : Int32} {tn : Nat} {tf : Nat → Int32} {es : Int32} {en : Nat} {ef : Nat → Int32} {os : Int32} {on : Nat} {of nf : Nat → Int32} (hN : NC T p ts tn tf es en ef os on of nf) {S : List Nd} (hS : S.length ≤ 20700) {nd : Int32} {sn : Nat} {sf : Nat → Int32} {vn : Nat} {vf : Nat → Int64} {fn : Nat} {ff : Nat → Int32} {qs : Int32} {qn : Nat} {qf : Nat → Int32} (h : CT T S nd sn sf vn vf fn ff qs qn qf) {B : Nat → Option Av} {bc : Nat → Int32} (hB : CBd S B bc) {rk : Nat → Nat} {μ : Av → Av} (hM : MU B rk μ) {D : Av → Prop} (hD : DO S D) (hμ : ∀ z, D z → D (μ z) ∧ fa B (μ z)) (hDc : ∀ c, D (avc S c) → c < 200 + S.length) (hI : NBS S) (sb a2 a3 a4 a5 a6 a7 : Int32) (rs : Int32) (rn : Nat) (rf : Nat → Int32) : ∀ (m i f : Nat) (P : List (Nat × Nat)) (O : List Int32) (Q : List Nat) (num ds : Int32) (dn : Nat) (df : Nat → Int32) (ps : Int32) (pn : Nat) (pf nuf : Nat → Int32), CW S D (P, O, Q) num ds dn df ps pn pf nuf → 4097 ≤ O.length + m → i + m < 1000000 → m < f → P.length ≤ O.length + 1 → wp (p_Printer_show_36 pure_n ts sb tn tf es en ef nd a2 a3 a4 a5 a6 a7 sn sf vn vf fn ff qs qn qf 200 bc rs rn rf 200 f (nI i) num ds ps dn df pn pf nuf) (SHP (cn S μ m (P, O, Q)).2.1 rs rn rf (rn + dn + pn)) := by
  have hTl : T.length < 65536 := by have := hN.2.2.2.2.1; omega
  have OVER : ∀ (O' : List Int32) (P : List (Nat × Nat)) (O : List Int32) (Q : List Nat) (num ds : Int32) (dn : Nat) (df : Nat → Int32) (ps : Int32) (pn : Nat) (pf nuf : Nat → Int32), CW S D (P, O, Q) num ds dn df ps pn pf nuf → 4096 < O'.length → SHP O' rs rn rf (rn + dn + pn) ((0, num, rs, rn, rf, ds, dn, df, ps, pn, pf, nuf), 0, 0) := fun O' P O Q num ds dn df ps pn pf nuf hW ho => ⟨Or.inl ⟨ho, rfl, rfl, rfl, rfl, O, hW.1⟩, ⟨_, hW.2.1⟩, hW.2.2.1, wc_refl _⟩
  intro m
  induction m with
  | zero =>
    intro i f P O Q num ds dn df ps pn pf nuf hW h1 h2 h3 h4
    obtain ⟨f, rfl⟩ : ∃ z, f = z + 1 := ⟨f - 1, by omega⟩
    have ho : 4096 < O.length := by omega
    have hd : 4096 < ds := (co_sz hW.1).mpr ho
    rw [p_Printer_show_36, cn]
    unfold p_Bytes_size p_Ints_size
    refine wp_if (show ¬ 1000000 ≤ nI i from nI_ge (b := 1000000) (by omega) (by omega)) (wp_bs rfl (wp_ite ⟨fun _ => wp_bs rfl (wp_it hd (wp_some (OVER _ P O Q _ _ _ _ _ _ _ _ hW ho))), fun _ => wp_bs rfl (wp_it hd (wp_bs rfl (wp_it hd (wp_some (OVER _ P O Q _ _ _ _ _ _ _ _ hW ho)))))⟩))
  | succ m ih =>
    intro i f P O Q num ds dn df ps pn pf nuf hW h1 h2 h3 h4
    obtain ⟨f, rfl⟩ : ∃ z, f = z + 1 := ⟨f - 1, by omega⟩
    rw [p_Printer_show_36, cn]
    unfold p_Bytes_size p_Ints_size
    refine wp_if (show ¬ 1000000 ≤ nI i from nI_ge (b := 1000000) (by omega) (by omega)) (wp_bs rfl ?_)
    by_cases ho : 4096 < O.length
    · have hd : 4096 < ds := (co_sz hW.1).mpr ho
      rw [if_pos (Or.inl ho)]
      exact wp_ite ⟨fun _ => wp_bs rfl (wp_it hd (wp_some (OVER _ P O Q _ _ _ _ _ _ _ _ hW ho))), fun _ => wp_bs rfl (wp_it hd (wp_bs rfl (wp_it hd (wp_some (OVER _ P O Q _ _ _ _ _ _ _ _ hW ho)))))⟩
    · have hd : ¬ 4096 < ds := fun z => ho ((co_sz hW.1).mp z)
      have pl := pr_len P
      cases P with
      | nil =>
        rw [if_pos (Or.inr rfl)]
        have e0 : ps = 0 := hW.2.1.1
        refine wp_it (by rw [e0]; decide) (wp_bs rfl (wp_if hd (wp_some ⟨Or.inr ⟨by dsimp only; omega, rfl, hW.1, rfl, rfl, rfl⟩, ⟨_, hW.2.1⟩, hW.2.2.1, ?_, ?_⟩)))
        · show 64 * 0 + (rn + dn + pn) ≤ dn + rn + pn
          omega
        · show 0 + 2 * (rn + dn + pn) ≤ 2 * (dn + rn + pn)
          omega
      | cons p P =>
        obtain ⟨c, k⟩ := p
        rw [if_neg (show ¬ (4096 < O.length ∨ (c, k) :: P = []) from fun z => by rcases z with z | z; exact ho z; cases z)]
        obtain ⟨w1, w2, w3, w4, w5⟩ := hW
        dsimp only at w1 w2 w4 w5
        rw [List.length_cons] at pl h4
        have e0 : ps = nI (pr ((c, k) :: P)).length := w2.1
        obtain ⟨c1, c2, c3, c4, c5, c6⟩ := w5 (c, k) (List.mem_cons_self ..)
        dsimp only at c1 c2 c3 c4 c5 c6
        obtain ⟨p1, p2⟩ := in_pop w2
        obtain ⟨p3, p4⟩ := in_pop p2
        obtain ⟨lc, _⟩ := ct_lc hT hN.2.2.2.2.2 h hTl nd a2 a3 a4 a5 a6 a7 c2
        rw [c3] at lc
        have hcl := cst_len S μ (s := ((c, k) :: P, O, Q)) (by intro z; cases z) (by show P.length + 1 ≤ O.length + 1; omega)
        refine wp_if (show ¬ ps ≤ 0 from by rw [e0]; exact (show ¬ nI _ ≤ 0 from nI_ge (b := (pr ((c, k) :: P)).length) (a := 0) (by omega) (by omega))) (wp_bs rfl (wp_if hd (wp_bs p1 ?_)))
        dsimp only
        refine wp_bs p3 ?_
        dsimp only
        refine wp_bs lc ?_
        have hW' : CW S D (P, O, Q) num ds dn df (nI (pr P).length) pn pf nuf := ⟨w1, p4, w3, w4, wi_t w5⟩
        have FIN : ∀ z : (Int32 × Int32 × Nat × (Nat → Int32) × Int32 × Nat × (Nat → Int32) × (Nat → Int32)) × Nat × Nat, (fun ((num', ds', dn', df', ps', pn', pf', nuf'), mq, sk) => CW S D (cst S μ ((c, k) :: P, O, Q)) num' ds' dn' df' ps' pn' pf' nuf' ∧ wc (dn + pn) (dn' + pn') mq sk) z → wp ((fun ((num', ds', dn', df', ps', pn', pf', nuf'), mq, sk) => al mq sk (p_Printer_show_36 pure_n ts sb tn tf es en ef nd a2 a3 a4 a5 a6 a7 sn sf vn vf fn ff qs qn qf 200 bc rs rn rf 200 f (nI i + 1) num' ds' ps' dn' df' pn' pf' nuf')) z) (SHP (cn S μ m (cst S μ ((c, k) :: P, O, Q))).2.1 rs rn rf (rn + dn + pn)) := by
          rintro ⟨⟨a1, a2, a3, a4, a5, a6, a7, a8⟩, mq, sk⟩ ⟨x1, x2, x3⟩
          dsimp only at x2 x3 ⊢
          rw [nI_1]
          have hcl1 := hcl.1
          dsimp only at hcl1
          refine wp_al (wp_mono (ih (i + 1) f (cst S μ ((c, k) :: P, O, Q)).1 (cst S μ ((c, k) :: P, O, Q)).2.1 (cst S μ ((c, k) :: P, O, Q)).2.2 a1 a2 a3 a4 a5 a6 a7 a8 x1 (by omega) (by omega) (by omega) hcl.2) ?_)
          rintro ⟨⟨r, b1, b2, b3, b4, b5, b6, b7, b8, b9, b10, b11⟩, mq2, sk2⟩ ⟨y1, y2, y3, y4, y5⟩
          refine ⟨y1, y2, y3, ?_, ?_⟩
          · show 64 * (mq2 + mq) + (rn + dn + pn) ≤ b3 + b6 + b9
            omega
          · show sk2 + sk + 2 * (rn + dn + pn) ≤ 2 * (b3 + b6 + b9)
            omega
        by_cases l : lsc S (none, c)
        · rw [if_pos l]
          exact wp_if (by decide) (wp_bind (c_list hT hN hS h hB hM hD hμ hDc hI sb a2 a3 a4 a5 a6 a7 w5 l hW' (by omega)) FIN)
        · rw [if_neg l]
          exact wp_it rfl (wp_bind (c_comp hT hN hS h hB hM hD hμ hDc hI sb a2 a3 a4 a5 a6 a7 w5 l hW' (by omega)) FIN)
/-! ===== the class shows a node ===== -/
def pO (S : List Nd) (μ : Av → Av) (m : Nat) (a : Av) : List Int32 := (cn S μ m (wbg S μ a ([], [], []))).2.1
theorem co_nil {l : List Int32} {s : Int32} {N : Nat} {f : Nat → Int32} (h : CO l s N f) : CO [] 0 N f ∧ p_Bytes_cut 0 s = some 0 := by
  obtain ⟨⟨h0, h1, h2, h3, h4, h5⟩, h6⟩ := h
  have lt : (l.take 4097).length = min 4097 l.length := List.length_take
  refine ⟨⟨⟨rfl, Nat.zero_le _, h2, h3, fun j hj => absurd hj (Nat.not_lt_zero _), fun j hj => absurd hj (Nat.not_lt_zero _)⟩, h6⟩, ?_⟩
  unfold p_Bytes_cut
  rw [if_neg (by decide), h0]
  by_cases q : (l.take 4097).length = 0
  · rw [q]
    rfl
  · rw [if_neg (show ¬ nI (l.take 4097).length ≤ 0 from nI_ge (b := (l.take 4097).length) (a := 0) (by omega) (by omega))]
theorem c_show {T U : List (List Int32)} (hT : T = KT ++ U) {p : List Int32} {ts : Int32} {tn : Nat} {tf : Nat → Int32} {es : Int32} {en : Nat} {ef : Nat → Int32} {os : Int32} {on : Nat} {of nf : Nat → Int32} (hN : NC T p ts tn tf es en ef os on of nf) {S : List Nd} (hS : S.length ≤ 20700) {nd : Int32} {sn : Nat} {sf : Nat → Int32} {vn : Nat} {vf : Nat → Int64} {fn : Nat} {ff : Nat → Int32} {qs : Int32} {qn : Nat} {qf : Nat → Int32} (h : CT T S nd sn sf vn vf fn ff qs qn qf) {B : Nat → Option Av} {bc : Nat → Int32} (hB : CBd S B bc) {rk : Nat → Nat} {μ : Av → Av} (hM : MU B rk μ) {D : Av → Prop} (hD : DO S D) (hμ : ∀ z, D z → D (μ z) ∧ fa B (μ z)) (hDc : ∀ c, D (avc S c) → c < 200 + S.length) (hI : NBS S) (sb a2 a3 a4 a5 a6 a7 : Int32) {m : Nat} (hm : 4097 ≤ m) (hm2 : m < 900000) {c : Nat} (Dc : D (avc S c)) (num ds : Int32) (dn : Nat) (df : Nat → Int32) (ps : Int32) (pn : Nat) (pf nuf : Nat → Int32) (rs : Int32) (rn : Nat) (rf : Nat → Int32) (hO : ∃ l, CO l ds dn df) (hP : ∃ l, IN l ps pn pf) (hpn : pn ≤ 40000) : wp (p_Printer_show pure_n (nI c) num ts sb tn tf es en ef nd a2 a3 a4 a5 a6 a7 sn sf vn vf fn ff qs qn qf 200 bc rs rn rf ds dn df ps pn pf 200 nuf) (SHP (pO S μ m (avc S c)) rs rn rf (rn + dn + pn)) := by
  have pg := pure_g2
  obtain ⟨l, hO⟩ := hO
  obtain ⟨lp, hP⟩ := hP
  obtain ⟨o1, o2⟩ := co_nil hO
  obtain ⟨p1, p2⟩ := ud_cut hP
  obtain ⟨g, g1, g2⟩ := ar_fill (-1) (k := 200) (by decide) nuf
  unfold p_Printer_show
  refine wp_bs o2 (wp_bs p1 (wp_bs g1 (wp_bind (c_begin hT hN hS h hB hM hD hμ hDc hI sb a2 a3 a4 a5 a6 a7 Dc (P := []) (O := []) (Q := []) (num := 0) ⟨o1, p2, hpn, ⟨rfl, List.nodup_nil, (fun v hv => by cases hv), fun v hv => by rw [g2 v hv]; rfl⟩, fun q hq => by cases hq⟩ (by simp)) ?_)))
  rintro ⟨⟨z1, z2, z3, z4, z5, z6, z7, z8⟩, mq, sk⟩ ⟨x1, x2, x3⟩
  dsimp only at x2 x3 ⊢
  have wl := wbg_len S μ (avc S c) ([], [], [])
  dsimp only at wl
  rw [List.length_nil] at wl
  refine wp_al (wp_mono (c_loop hT hN hS h hB hM hD hμ hDc hI sb a2 a3 a4 a5 a6 a7 rs rn rf m 0 pure_n (wbg S μ (avc S c) ([], [], [])).1 (wbg S μ (avc S c) ([], [], [])).2.1 (wbg S μ (avc S c) ([], [], [])).2.2 z1 z2 z3 z4 z5 z6 z7 z8 x1 (by omega) (by omega) (by omega) (by omega)) ?_)
  rintro ⟨⟨r, b1, b2, b3, b4, b5, b6, b7, b8, b9, b10, b11⟩, mq2, sk2⟩ ⟨y1, y2, y3, y4, y5⟩
  refine ⟨y1, y2, y3, ?_, ?_⟩
  · show 64 * (mq2 + mq) + (rn + dn + pn) ≤ b3 + b6 + b9
    omega
  · show sk2 + sk + 2 * (rn + dn + pn) ≤ 2 * (b3 + b6 + b9)
    omega
/-! ===== the reference walks ===== -/
/-- a place of the reference's walk: the node c, k parts of it begun -/
def RE (S : List Nd) (M : List Rf) (μ : Av → Av) (p : Nat × Nat) (w nx : Int32) : Prop := (lsc S (none, p.1) ∧ p.2 = 2 ∧ w = -2) ∨ (lsc S (none, p.1) ∧ p.2 = 1 ∧ ∃ x, x < M.length ∧ w = nI x ∧ μ (arx S M x) = (none, p.1) ∧ (nx = 1 ∨ nx = 3)) ∨ (¬ lsc S (none, p.1) ∧ 1 ≤ p.2 ∧ ∃ x, x < M.length ∧ w = nI x ∧ μ (arx S M x) = (none, p.1) ∧ nx = nI p.2)
def RPw (S : List Nd) (M : List Rf) (μ : Av → Av) : List (Nat × Nat) → (Nat → Int32) → (Nat → Int32) → Prop
  | [], _, _ => True
  | p :: P, wf, xf => RE S M μ p (wf P.length) (xf P.length) ∧ RPw S M μ P wf xf
theorem rp_upd {S : List Nd} {M : List Rf} {μ : Av → Av} : ∀ {P : List (Nat × Nat)} {wf xf wf' xf' : Nat → Int32}, RPw S M μ P wf xf → (∀ j, j < P.length → wf' j = wf j ∧ xf' j = xf j) → RPw S M μ P wf' xf' := by
  intro P
  induction P with
  | nil => intro _ _ _ _ _ _; trivial
  | cons p P ih =>
    intro wf xf wf' xf' h hj
    obtain ⟨h1, h2⟩ := h
    rw [List.length_cons] at hj
    refine ⟨?_, ih h2 (fun j hj' => hj j (by omega))⟩
    rw [(hj P.length (by omega)).1, (hj P.length (by omega)).2]
    exact h1
/-! ===== the reference: what a place shows ===== -/
theorem rr_loop {TR : List (List Int32)} {S : List Nd} {M : List Rf} {P : Nat} {sz pt : Int32} {kf nf ff mf pf : Nat → Int32} {bf : Nat → Int64} {V : List (List Int32)} {ndf br : Nat → Int32} {B : Nat → Option Av} {rk : Nat → Nat} {μ : Av → Av} (hC : RCx TR S M P sz pt kf nf ff mf pf bf V ndf br B rk μ) {R : Type} (F : Nat → Int32 → Option R) (G : Int32 → Option R) (hF : ∀ f x, F (f + 1) x = ck (ixb x 404300) (if (kf x.toNatClampNeg) = 0 then (ck (ixb x 404300) (ck (ixb (nf x.toNatClampNeg) 4300) (if (br (nf x.toNatClampNeg).toNatClampNeg) = (-1) then G x else (ck (ixb x 404300) (ck (ixb (nf x.toNatClampNeg) 4300) (F f (br (nf x.toNatClampNeg).toNatClampNeg))))))) else G x)) : ∀ (m x f : Nat), x < M.length → (isV (arx S M x) → rk (arx S M x).2 ≤ m) → m < f → ∃ x', F f (nI x) = G (nI x') ∧ x' < M.length ∧ arx S M x' = μ (arx S M x) ∧ fa B (arx S M x') := by
  have hml := hC.1.2.2.1
  have hC' := hC
  obtain ⟨_, _, hV, _, hBr, ⟨m1, m2, m3, m4⟩, _⟩ := hC
  intro m
  induction m with
  | zero =>
    intro x f hx hr hf
    obtain ⟨f, rfl⟩ : ∃ z, f = z + 1 := ⟨f - 1, by omega⟩
    rw [hF, ck_t (ixb_t (by omega) (by omega)), nI_clamp (by omega)]
    rcases rc_case hC' hx with ⟨v, v1, v2, v3, v4, v5, _⟩ | ⟨i, d, i1, i2, ⟨z, z1, z2, z3, _⟩ | ⟨z1, z2, z3, _⟩⟩
    · have hB0 : B v = none := by
        cases hb : B v with
        | none => rfl
        | some b =>
          obtain ⟨_, w, _⟩ := m3 v b (by omega) hb
          have := hr (by rw [v3]; exact ⟨rfl, by show v < 200; omega⟩)
          rw [v3] at this
          dsimp only at this
          omega
      rcases hBr v v1 with ⟨_, b2⟩ | ⟨y, y1, y2, y3⟩
      · rw [if_pos v4, ck_t (ixb_t (by omega) (by omega)), v5, ck_t (ixb_t (by omega) (by omega)), nI_clamp (by omega), if_pos b2]
        refine ⟨x, rfl, hx, ?_, ?_⟩
        · rw [v3]
          exact (m2 v (by omega) hB0).symm
        · rw [v3]
          exact fun _ => hB0
      · rw [hB0] at y3
        cases y3
    · rw [if_neg (by rw [z3]; decide)]
      have nv : ¬ isV (arx S M x) := by rw [z2]; intro w; cases w.1
      exact ⟨x, rfl, hx, (m1 _ nv).symm, fun w => absurd w nv⟩
    · rw [if_neg (by rw [z3]; decide)]
      have nv : ¬ isV (arx S M x) := by rw [z2]; intro w; exact absurd w.2 (by show ¬ 200 + i < 200; omega)
      exact ⟨x, rfl, hx, (m1 _ nv).symm, fun w => absurd w nv⟩
  | succ m ih =>
    intro x f hx hr hf
    obtain ⟨f, rfl⟩ : ∃ z, f = z + 1 := ⟨f - 1, by omega⟩
    rw [hF, ck_t (ixb_t (by omega) (by omega)), nI_clamp (by omega)]
    rcases rc_case hC' hx with ⟨v, v1, v2, v3, v4, v5, _⟩ | ⟨i, d, i1, i2, ⟨z, z1, z2, z3, _⟩ | ⟨z1, z2, z3, _⟩⟩
    · rw [if_pos v4, ck_t (ixb_t (by omega) (by omega)), v5, ck_t (ixb_t (by omega) (by omega)), nI_clamp (by omega)]
      rcases hBr v v1 with ⟨b1, b2⟩ | ⟨y, y1, y2, y3⟩
      · rw [if_pos b2]
        refine ⟨x, rfl, hx, ?_, ?_⟩
        · rw [v3]
          exact (m2 v (by omega) b1).symm
        · rw [v3]
          exact fun _ => b1
      · rw [if_neg (by rw [y2]; exact nm1 (by omega)), ck_t (ixb_t (by omega) (by omega)), ck_t (ixb_t (by omega) (by omega)), y2]
        obtain ⟨q1, q2, q3⟩ := m3 v _ (by omega) y3
        have hrv := hr (by rw [v3]; exact ⟨rfl, by show v < 200; omega⟩)
        rw [v3] at hrv
        dsimp only at hrv
        obtain ⟨x', x1, x2, x3, x4⟩ := ih y f y1 (fun w => by have := q3 w; omega) (by omega)
        exact ⟨x', x1, x2, by rw [x3, v3, q1], x4⟩
    · rw [if_neg (by rw [z3]; decide)]
      have nv : ¬ isV (arx S M x) := by rw [z2]; intro w; cases w.1
      exact ⟨x, rfl, hx, (m1 _ nv).symm, fun w => absurd w nv⟩
    · rw [if_neg (by rw [z3]; decide)]
      have nv : ¬ isV (arx S M x) := by rw [z2]; intro w; exact absurd w.2 (by show ¬ 200 + i < 200; omega)
      exact ⟨x, rfl, hx, (m1 _ nv).symm, fun w => absurd w nv⟩
/-- a compound, as the reference holds it -/
theorem rn_case {TR : List (List Int32)} {S : List Nd} {M : List Rf} {P : Nat} {sz pt : Int32} {kf nf ff mf pf : Nat → Int32} {bf : Nat → Int64} {V : List (List Int32)} {ndf br : Nat → Int32} {B : Nat → Option Av} {rk : Nat → Nat} {μ : Av → Av} (hC : RCx TR S M P sz pt kf nf ff mf pf bf V ndf br B rk μ) {x : Nat} (hx : x < M.length) {c : Nat} (e : arx S M x = (none, c)) (hc : 200 ≤ c) : kf x = 2 ∧ mf x = nI (pav S (none, c)).length ∧ (pav S (none, c)).length ≤ 8 ∧ ∃ j, j < TR.length ∧ TR.getD j [] = nma S (none, c) ∧ nf x = nI j := by
  rcases rc_case hC hx with ⟨v, v1, v2, v3, v4, v5, _⟩ | ⟨i, d, i1, i2, ⟨z, z1, z2, z3, _⟩ | ⟨z1, z2, z3, z4, ⟨j, j1, j2, j3⟩, z6, z7, z8, _⟩⟩
  · rw [v3] at e
    injection e with _ e
    have := hC.2.2.1
    omega
  · rw [z2] at e
    injection e with e _
    cases e
  · rw [e] at z4 z7
    refine ⟨z3, ?_, ?_, j, j1, ?_, j3⟩
    · rw [z6, z7, List.length_map]
    · rw [z7, List.length_map]
      exact z8
    · rw [j2, z4]
theorem r72 {TR : List (List Int32)} {S : List Nd} {M : List Rf} {P : Nat} {sz pt : Int32} {kf nf ff mf pf : Nat → Int32} {bf : Nat → Int64} {V : List (List Int32)} {ndf br : Nat → Int32} {B : Nat → Option Av} {rk : Nat → Nat} {μ : Av → Av} (hC : RCx TR S M P sz pt kf nf ff mf pf bf V ndf br B rk μ) {nsz ntx : Int32} {txf frf nxf fsf : Nat → Int32} (hn : MN TR nsz ntx txf frf nxf fsf) (dp a ov ord : Int32) (of wf xf sef : Nat → Int32) (K : Int32 → Int32 → Int32 → Int32 → (Nat → Int32) → (Nat → Int32) → (Nat → Int32) → (Nat → Int32) → Option (Int32 × Int32 × Int32 × (Nat → Int32) × (Nat → Int32) × (Nat → Int32) × (Nat → Int32))) {x : Nat} (hx : x < M.length) : ∃ x', x' < M.length ∧ arx S M x' = μ (arx S M x) ∧ fa B (arx S M x') ∧ p_MoPaper_print_72 pure_n 4096 9000 9000 4200 sz pt 404300 kf 404300 nf 404300 ff 404300 mf 404300 pf 404300 bf nsz ntx 90000 txf 404301 frf 4300 br dp a ov ord of wf xf sef K pure_n (nI x) = p_MoPaper_print_116 pure_n 4096 9000 9000 4200 sz pt 404300 kf 404300 nf 404300 ff 404300 mf 404300 pf 404300 bf nsz ntx 90000 txf 404301 frf 4300 br dp a ov ord of wf xf sef (nI x') K := by
  have pg := pure_g2
  obtain ⟨x', h1, h2, h3, h4⟩ := rr_loop hC (fun f x => p_MoPaper_print_72 pure_n 4096 9000 9000 4200 sz pt 404300 kf 404300 nf 404300 ff 404300 mf 404300 pf 404300 bf nsz ntx 90000 txf 404301 frf 4300 br dp a ov ord of wf xf sef K f x) (fun x => p_MoPaper_print_116 pure_n 4096 9000 9000 4200 sz pt 404300 kf 404300 nf 404300 ff 404300 mf 404300 pf 404300 bf nsz ntx 90000 txf 404301 frf 4300 br dp a ov ord of wf xf sef x K) (fun f x => by rw [p_MoPaper_print_72]) 200 x pure_n hx (fun _ => hC.2.2.2.2.2.1.2.2.2 _) (by omega)
  exact ⟨x', h2, h3, h4, h1⟩
theorem r273 {TR : List (List Int32)} {S : List Nd} {M : List Rf} {P : Nat} {sz pt : Int32} {kf nf ff mf pf : Nat → Int32} {bf : Nat → Int64} {V : List (List Int32)} {ndf br : Nat → Int32} {B : Nat → Option Av} {rk : Nat → Nat} {μ : Av → Av} (hC : RCx TR S M P sz pt kf nf ff mf pf bf V ndf br B rk μ) {nsz ntx : Int32} {txf frf nxf fsf : Nat → Int32} (hn : MN TR nsz ntx txf frf nxf fsf) (dp a ov ord : Int32) (of wf xf sef : Nat → Int32) (K : Int32 → Int32 → Int32 → Int32 → (Nat → Int32) → (Nat → Int32) → (Nat → Int32) → (Nat → Int32) → Option (Int32 × Int32 × Int32 × (Nat → Int32) × (Nat → Int32) × (Nat → Int32) × (Nat → Int32))) {x : Nat} (hx : x < M.length) : ∃ x', x' < M.length ∧ arx S M x' = μ (arx S M x) ∧ fa B (arx S M x') ∧ p_MoPaper_print_273 pure_n 4096 9000 9000 404300 kf 404300 nf 404300 mf nsz ntx 90000 txf 404301 frf 4300 br dp ord wf xf sef a ov of K pure_n (nI x) = p_MoPaper_print_317 pure_n 4096 9000 9000 404300 kf 404300 nf 404300 mf nsz ntx 90000 txf 404301 frf dp ord wf xf sef a ov of (nI x') K := by
  have pg := pure_g2
  obtain ⟨x', h1, h2, h3, h4⟩ := rr_loop hC (fun f x => p_MoPaper_print_273 pure_n 4096 9000 9000 404300 kf 404300 nf 404300 mf nsz ntx 90000 txf 404301 frf 4300 br dp ord wf xf sef a ov of K f x) (fun x => p_MoPaper_print_317 pure_n 4096 9000 9000 404300 kf 404300 nf 404300 mf nsz ntx 90000 txf 404301 frf dp ord wf xf sef a ov of x K) (fun f x => by rw [p_MoPaper_print_273]) 200 x pure_n hx (fun _ => hC.2.2.2.2.2.1.2.2.2 _) (by omega)
  exact ⟨x', h2, h3, h4, h1⟩
/-! a place, once its node is known -/
theorem q_v {TR : List (List Int32)} {S : List Nd} {M : List Rf} {P : Nat} {sz pt : Int32} {kf nf ff mf pf : Nat → Int32} {bf : Nat → Int64} {V : List (List Int32)} {ndf br : Nat → Int32} {B : Nat → Option Av} {rk : Nat → Nat} {μ : Av → Av} (hC : RCx TR S M P sz pt kf nf ff mf pf bf V ndf br B rk μ) {nsz ntx : Int32} {txf frf nxf fsf : Nat → Int32} (hn : MN TR nsz ntx txf frf nxf fsf) {t : Nat} (ht : t < 9000) (a ov ord : Int32) (of wf xf sef : Nat → Int32) (K : Int32 → Int32 → Int32 → Int32 → (Nat → Int32) → (Nat → Int32) → (Nat → Int32) → (Nat → Int32) → Option (Int32 × Int32 × Int32 × (Nat → Int32) × (Nat → Int32) × (Nat → Int32) × (Nat → Int32))) {x : Nat} (hx : x < M.length) {v : Nat} (e : arx S M x = (none, v)) (hv : v < 200) : p_MoPaper_print_116 pure_n 4096 9000 9000 4200 sz pt 404300 kf 404300 nf 404300 ff 404300 mf 404300 pf 404300 bf nsz ntx 90000 txf 404301 frf 4300 br (nI t) a ov ord of wf xf sef (nI x) K = (p_MoPaper_variable pure_n (nI v) a ov ord 4096 of 4200 sef).bind (fun (a1, o1, d1, f1, s1) => K (nI t + (-1)) a1 o1 d1 f1 wf xf s1) := by
  have hml := hC.1.2.2.1
  rcases rc_case hC hx with ⟨v', v1, v2, v3, v4, v5, _⟩ | ⟨i, d, i1, i2, ⟨z, z1, z2, z3, _⟩ | ⟨z1, z2, z3, _⟩⟩
  · rw [v3] at e
    obtain rfl : v' = v := by injection e
    unfold p_MoPaper_print_116
    rw [ck_t (ixb_t ht (by omega)), ck_t (ixb_t (by omega) (by omega)), nI_clamp (n := x) (by omega), if_pos v4, ck_t (ixb_t (by omega) (by omega)), v5]
  · rw [z2] at e
    injection e with e _
    cases e
  · rw [z2] at e
    injection e with _ e
    omega
theorem q_i {TR : List (List Int32)} {S : List Nd} {M : List Rf} {P : Nat} {sz pt : Int32} {kf nf ff mf pf : Nat → Int32} {bf : Nat → Int64} {V : List (List Int32)} {ndf br : Nat → Int32} {B : Nat → Option Av} {rk : Nat → Nat} {μ : Av → Av} (hC : RCx TR S M P sz pt kf nf ff mf pf bf V ndf br B rk μ) {nsz ntx : Int32} {txf frf nxf fsf : Nat → Int32} (hn : MN TR nsz ntx txf frf nxf fsf) {t : Nat} (ht : t < 9000) (a ov ord : Int32) (of wf xf sef : Nat → Int32) (K : Int32 → Int32 → Int32 → Int32 → (Nat → Int32) → (Nat → Int32) → (Nat → Int32) → (Nat → Int32) → Option (Int32 × Int32 × Int32 × (Nat → Int32) × (Nat → Int32) × (Nat → Int32) × (Nat → Int32))) {x : Nat} (hx : x < M.length) {z : Int64} (e : arx S M x = (some z, 0)) : p_MoPaper_print_116 pure_n 4096 9000 9000 4200 sz pt 404300 kf 404300 nf 404300 ff 404300 mf 404300 pf 404300 bf nsz ntx 90000 txf 404301 frf 4300 br (nI t) a ov ord of wf xf sef (nI x) K = (p_MoPaper_number pure_n z a ov ord 4096 of).bind (fun (a1, o1, f1) => K (nI t + (-1)) a1 o1 ord f1 wf xf sef) := by
  have hml := hC.1.2.2.1
  rcases rc_case hC hx with ⟨v', v1, v2, v3, v4, v5, _⟩ | ⟨i, d, i1, i2, ⟨z', z1, z2, z3, z4, _⟩ | ⟨z1, z2, z3, _⟩⟩
  · rw [v3] at e
    injection e with e _
    cases e
  · rw [z2] at e
    obtain rfl : z' = z := by injection e with e _; injection e
    unfold p_MoPaper_print_116
    rw [ck_t (ixb_t ht (by omega)), ck_t (ixb_t (by omega) (by omega)), nI_clamp (n := x) (by omega), if_neg (by rw [z3]; decide), ck_t (ixb_t (by omega) (by omega)), if_pos z3, ck_t (ixb_t (by omega) (by omega)), z4]
  · rw [z2] at e
    injection e with e _
    cases e
theorem q_l {TR : List (List Int32)} {S : List Nd} {M : List Rf} {P : Nat} {sz pt : Int32} {kf nf ff mf pf : Nat → Int32} {bf : Nat → Int64} {V : List (List Int32)} {ndf br : Nat → Int32} {B : Nat → Option Av} {rk : Nat → Nat} {μ : Av → Av} (hC : RCx TR S M P sz pt kf nf ff mf pf bf V ndf br B rk μ) {nsz ntx : Int32} {txf frf nxf fsf : Nat → Int32} (hn : MN TR nsz ntx txf frf nxf fsf) {t : Nat} (ht : t < 9000) (a ov ord : Int32) (of wf xf sef : Nat → Int32) (K : Int32 → Int32 → Int32 → Int32 → (Nat → Int32) → (Nat → Int32) → (Nat → Int32) → (Nat → Int32) → Option (Int32 × Int32 × Int32 × (Nat → Int32) × (Nat → Int32) × (Nat → Int32) × (Nat → Int32))) {x : Nat} (hx : x < M.length) {c : Nat} (e : arx S M x = (none, c)) (hc : 200 ≤ c) : p_MoPaper_print_116 pure_n 4096 9000 9000 4200 sz pt 404300 kf 404300 nf 404300 ff 404300 mf 404300 pf 404300 bf nsz ntx 90000 txf 404301 frf 4300 br (nI t) a ov ord of wf xf sef (nI x) K = if lsc S (none, c) then (if xf t = 0 then (p_MoPaper_put 91 a ov ord 4096 of).bind (fun (a1, o1, f1) => p_MoPaper_print_218 pure_n 4096 9000 9000 sz pt 404300 kf 404300 nf 404300 ff 404300 mf 404300 pf nsz ntx 90000 txf 404301 frf 4300 br (nI t) ord wf xf sef (nI x) K a1 o1 f1) else p_MoPaper_print_218 pure_n 4096 9000 9000 sz pt 404300 kf 404300 nf 404300 ff 404300 mf 404300 pf nsz ntx 90000 txf 404301 frf 4300 br (nI t) ord wf xf sef (nI x) K a ov of) else p_MoPaper_print_468 pure_n 4096 9000 9000 sz pt 404300 nf 404300 ff 404300 mf 404300 pf nsz ntx 90000 txf 404301 frf (nI t) a ov ord of wf xf sef (nI x) K := by
  have hml := hC.1.2.2.1
  obtain ⟨k2, m2, l8, j, j1, j2, j3⟩ := rn_case hC hx e hc
  have sp := mn_spells hn j1 nsz ntx (sx := 23) (by decide)
  rw [show kn_byt.getD 23 [] = [46] from rfl] at sp
  unfold p_MoPaper_print_116
  rw [ck_t (ixb_t ht (by omega)), ck_t (ixb_t (by omega) (by omega)), nI_clamp (n := x) (by omega), if_neg (by rw [k2]; decide), ck_t (ixb_t (by omega) (by omega)), if_neg (by rw [k2]; decide), ck_t (ixb_t (by omega) (by omega)), m2, ck_t (ixb_t (by omega) (by omega)), j3, sp, Option.bind_some, nI_clamp (n := t) (by omega)]
  by_cases c1 : (pav S (none, c)).length = 2
  · rw [if_pos (show nI (pav S (none, c)).length = 2 by rw [c1]; rfl)]
    by_cases c2 : TR.getD j [] = [46]
    · rw [if_pos c2, if_neg (by decide), if_pos (show lsc S (none, c) from ⟨rfl, hc, by rw [← j2, c2], c1⟩)]
    · rw [if_neg c2, if_pos (show (0 : Int32) = 0 from rfl), if_neg (show ¬ lsc S (none, c) from fun w => c2 (by rw [j2, w.2.2.1]))]
  · rw [if_neg (show ¬ nI (pav S (none, c)).length = 2 from fun w => c1 ((nI_eq (b := 2) (by omega) (by omega)).mp w)), if_neg (show ¬ lsc S (none, c) from fun w => c1 w.2.2.2)]
/-! ===== the reference: a list's rest, a compound ===== -/
theorem q_317 {TR : List (List Int32)} {S : List Nd} {M : List Rf} {P : Nat} {sz pt : Int32} {kf nf ff mf pf : Nat → Int32} {bf : Nat → Int64} {V : List (List Int32)} {ndf br : Nat → Int32} {B : Nat → Option Av} {rk : Nat → Nat} {μ : Av → Av} (hC : RCx TR S M P sz pt kf nf ff mf pf bf V ndf br B rk μ) {nsz ntx : Int32} {txf frf nxf fsf : Nat → Int32} (hn : MN TR nsz ntx txf frf nxf fsf) {t : Nat} (ht : t + 1 < 9000) (a ov ord : Int32) (of wf xf sef : Nat → Int32) (K : Int32 → Int32 → Int32 → Int32 → (Nat → Int32) → (Nat → Int32) → (Nat → Int32) → (Nat → Int32) → Option (Int32 × Int32 × Int32 × (Nat → Int32) × (Nat → Int32) × (Nat → Int32) × (Nat → Int32))) {x : Nat} (hx : x < M.length) : p_MoPaper_print_317 pure_n 4096 9000 9000 404300 kf 404300 nf 404300 mf nsz ntx 90000 txf 404301 frf (nI t) ord wf xf sef a ov of (nI x) K = if lsc S (arx S M x) then (p_MoPaper_put 44 a ov ord 4096 of).bind (fun (a1, o1, f1) => K (nI t) a1 o1 ord f1 (upd wf t (nI x)) (upd xf t 2) sef) else if emp S (arx S M x) then (p_MoPaper_put 93 a ov ord 4096 of).bind (fun (a1, o1, f1) => K (nI t + (-1)) a1 o1 ord f1 wf xf sef) else (p_MoPaper_put 124 a ov ord 4096 of).bind (fun (a1, o1, f1) => K (nI (t + 1)) a1 o1 ord f1 (upd (upd wf t (-2)) (t + 1) (nI x)) (upd xf (t + 1) 0) sef) := by
  have hml := hC.1.2.2.1
  have E4 : p_MoPaper_print_430 pure_n 4096 9000 9000 (nI t) ord wf xf sef a ov of (nI x) K = (p_MoPaper_put 124 a ov ord 4096 of).bind (fun (a1, o1, f1) => K (nI (t + 1)) a1 o1 ord f1 (upd (upd wf t (-2)) (t + 1) (nI x)) (upd xf (t + 1) 0) sef) := by
    unfold p_MoPaper_print_430
    simp only [nI_1, ck_t (ixb_t (show t < 9000 by omega) (show t < 2147483648 by omega)), ck_t (ixb_t (show t + 1 < 9000 by omega) (show t + 1 < 2147483648 by omega)), nI_clamp (n := t) (by omega), nI_clamp (n := t + 1) (by omega)]
  have B4 : ∀ (hk : ¬ kf x = 2), p_MoPaper_print_317 pure_n 4096 9000 9000 404300 kf 404300 nf 404300 mf nsz ntx 90000 txf 404301 frf (nI t) ord wf xf sef a ov of (nI x) K = (p_MoPaper_put 124 a ov ord 4096 of).bind (fun (a1, o1, f1) => K (nI (t + 1)) a1 o1 ord f1 (upd (upd wf t (-2)) (t + 1) (nI x)) (upd xf (t + 1) 0) sef) := fun hk => by
    unfold p_MoPaper_print_317 p_MoPaper_print_381
    rw [ck_t (ixb_t (by omega) (by omega)), nI_clamp (n := x) (by omega), if_neg hk, ck_t (ixb_t (by omega) (by omega)), if_neg hk]
    exact E4
  by_cases cp : (arx S M x).1 = none ∧ 200 ≤ (arx S M x).2
  · obtain ⟨c, e, hc⟩ : ∃ c, arx S M x = (none, c) ∧ 200 ≤ c := ⟨(arx S M x).2, by rw [← cp.1], cp.2⟩
    rw [e]
    obtain ⟨k2, m2, l8, j, j1, j2, j3⟩ := rn_case hC hx e hc
    have sp := mn_spells hn j1 nsz ntx (sx := 23) (by decide)
    rw [show kn_byt.getD 23 [] = [46] from rfl] at sp
    have sp4 := mn_spells hn j1 nsz ntx (sx := 24) (by decide)
    rw [show kn_byt.getD 24 [] = [91, 93] from rfl] at sp4
    have E3 : ¬ lsc S (none, c) → p_MoPaper_print_381 pure_n 4096 9000 9000 404300 kf 404300 nf 404300 mf nsz ntx 90000 txf 404301 frf (nI t) ord wf xf sef a ov of (nI x) K = if emp S (none, c) then (p_MoPaper_put 93 a ov ord 4096 of).bind (fun (a1, o1, f1) => K (nI t + (-1)) a1 o1 ord f1 wf xf sef) else (p_MoPaper_put 124 a ov ord 4096 of).bind (fun (a1, o1, f1) => K (nI (t + 1)) a1 o1 ord f1 (upd (upd wf t (-2)) (t + 1) (nI x)) (upd xf (t + 1) 0) sef) := fun _ => by
      unfold p_MoPaper_print_381
      rw [ck_t (ixb_t (by omega) (by omega)), nI_clamp (n := x) (by omega), if_pos k2, ck_t (ixb_t (by omega) (by omega)), m2, ck_t (ixb_t (by omega) (by omega)), j3, sp4, Option.bind_some]
      by_cases c1 : (pav S (none, c)).length = 0
      · rw [if_pos (show nI (pav S (none, c)).length = 0 by rw [c1]; rfl)]
        by_cases c2 : TR.getD j [] = [91, 93]
        · rw [if_pos c2, if_neg (by decide), if_pos (show emp S (none, c) from ⟨rfl, hc, by rw [← j2, c2], c1⟩)]
        · rw [if_neg c2, if_pos (show (0 : Int32) = 0 from rfl), if_neg (show ¬ emp S (none, c) from fun w => c2 (by rw [j2, w.2.2.1]))]
          exact E4
      · rw [if_neg (show ¬ nI (pav S (none, c)).length = 0 from fun w => c1 ((nI_eq (b := 0) (by omega) (by omega)).mp w)), if_neg (show ¬ emp S (none, c) from fun w => c1 w.2.2.2)]
        exact E4
    unfold p_MoPaper_print_317
    rw [ck_t (ixb_t (by omega) (by omega)), nI_clamp (n := x) (by omega), if_pos k2, ck_t (ixb_t (by omega) (by omega)), m2, ck_t (ixb_t (by omega) (by omega)), j3, sp, Option.bind_some]
    by_cases c1 : (pav S (none, c)).length = 2
    · rw [if_pos (show nI (pav S (none, c)).length = 2 by rw [c1]; rfl)]
      by_cases c2 : TR.getD j [] = [46]
      · rw [if_pos c2, if_neg (by decide), if_pos (show lsc S (none, c) from ⟨rfl, hc, by rw [← j2, c2], c1⟩)]
        simp only [ck_t (ixb_t (show t < 9000 by omega) (show t < 2147483648 by omega)), nI_clamp (n := t) (by omega)]
      · have nl : ¬ lsc S (none, c) := fun w => c2 (by rw [j2, w.2.2.1])
        rw [if_neg c2, if_pos (show (0 : Int32) = 0 from rfl), if_neg nl]
        exact E3 nl
    · have nl : ¬ lsc S (none, c) := fun w => c1 w.2.2.2
      rw [if_neg (show ¬ nI (pav S (none, c)).length = 2 from fun w => c1 ((nI_eq (b := 2) (by omega) (by omega)).mp w)), if_neg nl]
      exact E3 nl
  · rw [if_neg (show ¬ lsc S (arx S M x) from fun w => cp ⟨w.1, w.2.1⟩), if_neg (show ¬ emp S (arx S M x) from fun w => cp ⟨w.1, w.2.1⟩)]
    refine B4 (fun hk => ?_)
    rcases rc_case hC hx with ⟨v, v1, v2, v3, v4, v5, _⟩ | ⟨i, d, i1, i2, ⟨z, z1, z2, z3, _⟩ | ⟨z1, z2, z3, _⟩⟩
    · rw [v4] at hk
      revert hk
      decide
    · rw [z3] at hk
      revert hk
      decide
    · exact cp (by rw [z2]; exact ⟨rfl, by show 200 ≤ 200 + i; omega⟩)
theorem q_16 {TR : List (List Int32)} {S : List Nd} {M : List Rf} {P : Nat} {sz pt : Int32} {kf nf ff mf pf : Nat → Int32} {bf : Nat → Int64} {V : List (List Int32)} {ndf br : Nat → Int32} {B : Nat → Option Av} {rk : Nat → Nat} {μ : Av → Av} (hC : RCx TR S M P sz pt kf nf ff mf pf bf V ndf br B rk μ) {t : Nat} (ht : t + 1 < 9000) (a ov ord : Int32) (of wf xf : Nat → Int32) {x : Nat} (hx : x < M.length) {c : Nat} (e : arx S M x = (none, c)) (hc : 200 ≤ c) {k : Nat} (hk : k ≤ (pav S (none, c)).length) : (((pav S (none, c)).length = 0 → p_MoPaper_compound_16 pure_n (nI x) (nI k) (nI t) ord 4096 9000 wf 9000 xf sz pt 404300 ff 404300 mf 404300 pf a ov of = some (nI t - 1, a, ov, of, wf, xf)) ∧ ((pav S (none, c)).length ≠ 0 → k = (pav S (none, c)).length → p_MoPaper_compound_16 pure_n (nI x) (nI k) (nI t) ord 4096 9000 wf 9000 xf sz pt 404300 ff 404300 mf 404300 pf a ov of = (p_MoPaper_put 41 a ov ord 4096 of).bind (fun (a1, o1, f1) => some (nI t - 1, a1, o1, f1, wf, xf))) ∧ (k < (pav S (none, c)).length → ∃ y, y < M.length ∧ (pav S (none, c))[k]? = some (arx S M y) ∧ p_MoPaper_compound_16 pure_n (nI x) (nI k) (nI t) ord 4096 9000 wf 9000 xf sz pt 404300 ff 404300 mf 404300 pf a ov of = (p_MoPaper_put (if k = 0 then 40 else 44) a ov ord 4096 of).bind (fun (a1, o1, f1) => some (nI (t + 1), a1, o1, f1, upd wf (t + 1) (nI y), upd (upd xf t (nI (k + 1))) (t + 1) 0)))) := by
  have hml := hC.1.2.2.1
  obtain ⟨k2, m2, l8, _⟩ := rn_case hC hx e hc
  unfold p_MoPaper_compound_16
  rw [ck_t (ixb_t (by omega) (by omega)), ck_t (ixb_t (by omega) (by omega)), nI_clamp (n := x) (by omega), m2]
  refine ⟨fun h0 => ?_, fun h0 h1 => ?_, fun h1 => ?_⟩
  · rw [if_pos (show nI (pav S (none, c)).length = 0 by rw [h0]; rfl)]
  · rw [if_neg (nI_ne0 (by omega) (by omega)), if_pos (by rw [h1])]
  · obtain ⟨y, y1, y2, y3⟩ := mr_pa hC hx (k := k) (by rw [e]; exact h1)
    rw [e] at y3
    refine ⟨y, y2, y3, ?_⟩
    rw [if_neg (nI_ne0 (by omega) (by omega)), if_neg (fun w => absurd ((nI_eq (by omega) (by omega)).mp w) (by omega))]
    have E6 : ∀ b : Int32, p_MoPaper_compound_65 pure_n (nI x) (nI k) (nI t) ord 4096 9000 wf 9000 xf sz pt 404300 ff 404300 pf a ov of b = (p_MoPaper_put b a ov ord 4096 of).bind (fun (a1, o1, f1) => some (nI (t + 1), a1, o1, f1, upd wf (t + 1) (nI y), upd (upd xf t (nI (k + 1))) (t + 1) 0)) := fun b => by
      unfold p_MoPaper_compound_65
      simp only [nI_1, ck_t (ixb_t (show t < 9000 by omega) (show t < 2147483648 by omega)), ck_t (ixb_t (show t + 1 < 9000 by omega) (show t + 1 < 2147483648 by omega)), nI_clamp (n := t) (by omega), nI_clamp (n := t + 1) (by omega), y1, Option.bind_some]
    rw [E6, E6]
    by_cases q : k = 0
    · rw [if_pos q, if_pos (by rw [q]; rfl)]
    · rw [if_neg q, if_neg (nI_ne0 (by omega) (by omega))]
/-! ===== the reference's walk: small steps ===== -/
theorem mu_fa {B : Nat → Option Av} {rk : Nat → Nat} {μ : Av → Av} (hM : MU B rk μ) {a : Av} (h : fa B a) : μ a = a := by
  by_cases q : isV a
  · have e : a = (none, a.2) := by rw [← q.1]
    rw [e]
    exact hM.2.1 _ q.2 (h q)
  · exact hM.1 a q
theorem wbg_v {S : List Nd} {μ : Av → Av} {a : Av} {v : Nat} (e : μ a = (none, v)) (hv : v < 200) (s : Wk) : wbg S μ a s = (s.1, s.2.1 ++ 95 :: nmb (lN (s.2.2.idxOf v)), nvx s.2.2 v) := by
  unfold wbg
  rw [e, if_pos ⟨rfl, hv⟩]
theorem wbg_i {S : List Nd} {μ : Av → Av} {a : Av} {z : Int64} {w : Nat} (e : μ a = (some z, w)) (s : Wk) : wbg S μ a s = (s.1, s.2.1 ++ nmb z, s.2.2) := by
  unfold wbg
  rw [e, if_neg (fun q => by cases q.1)]
theorem wbg_l {S : List Nd} {μ : Av → Av} {a : Av} {c : Nat} (e : μ a = (none, c)) (l : lsc S (none, c)) (s : Wk) : wbg S μ a s = ((c, 0) :: s.1, s.2.1, s.2.2) := by
  have : 200 ≤ c := l.2.1
  unfold wbg
  rw [e, if_neg (fun q => absurd q.2 (by show ¬ c < 200; omega))]
  dsimp only
  rw [if_pos l]
theorem wbg_c {S : List Nd} {μ : Av → Av} {a : Av} {c : Nat} (e : μ a = (none, c)) (hc : 200 ≤ c) (l : ¬ lsc S (none, c)) (s : Wk) : wbg S μ a s = ((if (pav S (none, c)).length = 0 then s.1 else (c, 0) :: s.1), s.2.1 ++ nmx (nma S (none, c)), s.2.2) := by
  unfold wbg
  rw [e, if_neg (fun q => absurd q.2 (by show ¬ c < 200; omega))]
  dsimp only
  rw [if_neg l]
theorem cst_mono (S : List Nd) (μ : Av → Av) (s : Wk) : s.2.1.length ≤ (cst S μ s).2.1.length := by
  obtain ⟨P, O, Q⟩ := s
  cases P with
  | nil => exact Nat.le_refl _
  | cons p P =>
    obtain ⟨c, k⟩ := p
    have G : ∀ (a : Av) (x : Nat × Nat) (b : Int32), O.length ≤ (wbg S μ a (x :: P, O ++ [b], Q)).2.1.length := fun a x b => by
      have := wbg_len S μ a (x :: P, O ++ [b], Q)
      dsimp only at this
      rw [List.length_append, List.length_singleton] at this
      omega
    have E : ∀ b : Int32, O.length ≤ (O ++ [b]).length := fun b => by
      rw [List.length_append, List.length_singleton]
      omega
    rw [cst]
    repeat' split
    all_goals first
      | exact G _ _ _
      | exact E _
theorem cn_mono (S : List Nd) (μ : Av → Av) : ∀ (m : Nat) (s : Wk), s.2.1.length ≤ (cn S μ m s).2.1.length := by
  intro m
  induction m with
  | zero => intro s; exact Nat.le_refl _
  | succ m ih =>
    intro s
    rw [cn]
    split
    · exact Nat.le_refl _
    · exact Nat.le_trans (cst_mono S μ s) (ih _)
def RPO (O' : List Int32) : Int32 × Int32 × Int32 × (Nat → Int32) × (Nat → Int32) × (Nat → Int32) × (Nat → Int32) → Prop := fun (a, ov, _, of, _, _, _) => (4096 < O'.length ∧ ov = 1) ∨ (O'.length ≤ 4096 ∧ ov = 0 ∧ RO O' a ov of)
theorem ro_ov {O : List Int32} {a ov : Int32} {of : Nat → Int32} (h : RO O a ov of) : (4096 < O.length → ov = 1) ∧ (O.length ≤ 4096 → ov = 0) := by
  obtain ⟨_, h2, _⟩ := h
  exact ⟨fun q => by rw [h2, if_pos q], fun q => by rw [h2, if_neg (by omega)]⟩
theorem r_over {TR : List (List Int32)} {S : List Nd} {M : List Rf} {P : Nat} {sz pt : Int32} {kf nf ff mf pf : Nat → Int32} {bf : Nat → Int64} {V : List (List Int32)} {ndf br : Nat → Int32} {B : Nat → Option Av} {rk : Nat → Nat} {μ : Av → Av} (hC : RCx TR S M P sz pt kf nf ff mf pf bf V ndf br B rk μ) {nsz ntx : Int32} {txf frf nxf fsf : Nat → Int32} (hn : MN TR nsz ntx txf frf nxf fsf) (f : Nat) (dp : Int32) {O O' : List Int32} {a ov : Int32} (ord : Int32) {of : Nat → Int32} (wf xf sef : Nat → Int32) (hO : RO O a ov of) (h : 4096 < O.length) (h' : 4096 < O'.length) : wp (p_MoPaper_print_32 pure_n 4096 9000 9000 4200 sz pt 404300 kf 404300 nf 404300 ff 404300 mf 404300 pf 404300 bf nsz ntx 90000 txf 404301 frf 4300 br (f + 1) dp a ov ord of wf xf sef) (RPO O') := by
  have e := (ro_ov hO).1 h
  rw [p_MoPaper_print_32]
  exact wp_ite ⟨fun _ => wp_some (Or.inl ⟨h', e⟩), fun _ => wp_if (by rw [e]; decide) (wp_some (Or.inl ⟨h', e⟩))⟩
theorem q_e {TR : List (List Int32)} {S : List Nd} {M : List Rf} {P : Nat} {sz pt : Int32} {kf nf ff mf pf : Nat → Int32} {bf : Nat → Int64} {V : List (List Int32)} {ndf br : Nat → Int32} {B : Nat → Option Av} {rk : Nat → Nat} {μ : Av → Av} (hC : RCx TR S M P sz pt kf nf ff mf pf bf V ndf br B rk μ) {nsz ntx : Int32} {txf frf nxf fsf : Nat → Int32} (hn : MN TR nsz ntx txf frf nxf fsf) {t : Nat} (ht : t + 1 < 9000) (a ov ord : Int32) (of wf xf sef : Nat → Int32) (K : Int32 → Int32 → Int32 → Int32 → (Nat → Int32) → (Nat → Int32) → (Nat → Int32) → (Nat → Int32) → Option (Int32 × Int32 × Int32 × (Nat → Int32) × (Nat → Int32) × (Nat → Int32) × (Nat → Int32))) {x : Nat} (hx : x < M.length) {c : Nat} (e : arx S M x = (none, c)) (l : lsc S (none, c)) (hk : xf t = 0 ∨ xf t = 2) : ∃ z, z < M.length ∧ (pav S (none, c))[0]? = some (arx S M z) ∧ p_MoPaper_print_218 pure_n 4096 9000 9000 sz pt 404300 kf 404300 nf 404300 ff 404300 mf 404300 pf nsz ntx 90000 txf 404301 frf 4300 br (nI t) ord wf xf sef (nI x) K a ov of = K (nI (t + 1)) a ov ord of (upd wf (t + 1) (nI z)) (upd (upd xf t (xf t + 1)) (t + 1) 0) sef := by
  obtain ⟨z, z1, z2, z3⟩ := mr_pa hC hx (k := 0) (by rw [e]; have := l.2.2.2; omega)
  rw [e] at z3
  have z1' : p_MoTerms_part (nI x) 0 sz pt 404300 ff 404300 pf = some (nI z) := z1
  refine ⟨z, z2, z3, ?_⟩
  unfold p_MoPaper_print_218
  rw [nI_clamp (n := t) (by omega), if_pos (by rcases hk with q | q <;> rw [q] <;> decide), ck_t (ixb_t (by omega) (by omega)), z1', Option.bind_some, nI_1, ck_t (ixb_t (by omega) (by omega)), ck_t (ixb_t (by omega) (by omega)), nI_clamp (n := t + 1) (by omega)]
theorem q_o {TR : List (List Int32)} {S : List Nd} {M : List Rf} {P : Nat} {sz pt : Int32} {kf nf ff mf pf : Nat → Int32} {bf : Nat → Int64} {V : List (List Int32)} {ndf br : Nat → Int32} {B : Nat → Option Av} {rk : Nat → Nat} {μ : Av → Av} (hC : RCx TR S M P sz pt kf nf ff mf pf bf V ndf br B rk μ) {nsz ntx : Int32} {txf frf nxf fsf : Nat → Int32} (hn : MN TR nsz ntx txf frf nxf fsf) {t : Nat} (ht : t + 1 < 9000) (a ov ord : Int32) (of wf xf sef : Nat → Int32) (K : Int32 → Int32 → Int32 → Int32 → (Nat → Int32) → (Nat → Int32) → (Nat → Int32) → (Nat → Int32) → Option (Int32 × Int32 × Int32 × (Nat → Int32) × (Nat → Int32) × (Nat → Int32) × (Nat → Int32))) {x : Nat} (hx : x < M.length) {c : Nat} (e : arx S M x = (none, c)) (l : lsc S (none, c)) (hk : xf t = 1 ∨ xf t = 3) : ∃ y, y < M.length ∧ arx S M y = μ ((pav S (none, c)).getD 1 (none, 0)) ∧ fa B (arx S M y) ∧ p_MoPaper_print_218 pure_n 4096 9000 9000 sz pt 404300 kf 404300 nf 404300 ff 404300 mf 404300 pf nsz ntx 90000 txf 404301 frf 4300 br (nI t) ord wf xf sef (nI x) K a ov of = p_MoPaper_print_317 pure_n 4096 9000 9000 404300 kf 404300 nf 404300 mf nsz ntx 90000 txf 404301 frf (nI t) ord wf xf sef a ov of (nI y) K := by
  obtain ⟨z, z1, z2, z3⟩ := mr_pa hC hx (k := 1) (by rw [e]; have := l.2.2.2; omega)
  rw [e] at z3
  have z1' : p_MoTerms_part (nI x) 1 sz pt 404300 ff 404300 pf = some (nI z) := z1
  obtain ⟨y, y1, y2, y3, y4⟩ := r273 hC hn (nI t) a ov ord of wf xf sef K z2
  refine ⟨y, y1, by rw [y2, gd_pv z3], y3, ?_⟩
  unfold p_MoPaper_print_218
  rw [nI_clamp (n := t) (by omega), if_neg (by rcases hk with q | q <;> rw [q] <;> decide), z1', Option.bind_some]
  exact y4
def WBk (S : List Nd) : Prop := ∀ c, 200 ≤ c → avc S c = (none, c) → ∀ b, b ∈ nma S (none, c) → bok b
theorem arx_a {S : List Nd} {M : List Rf} {x c : Nat} (e : arx S M x = (none, c)) : avc S c = (none, c) := by
  unfold arx at e
  have := av_snd (S := S) (c := ci (M.getD x (true, 0))) (by rw [e])
  rw [this] at e
  injection e with _ e
  rw [e] at this
  exact this
def CP (S : List Nd) (P : List (Nat × Nat)) : Prop := ∀ p, p ∈ P → 200 ≤ p.1 ∧ p.2 ≤ (pav S (none, p.1)).length
def QI (Q : List Nat) : Prop := Q.Nodup ∧ ∀ v, v ∈ Q → v < 200
theorem qi_nvx {Q : List Nat} (h : QI Q) {v : Nat} (hv : v < 200) : QI (nvx Q v) := by
  unfold nvx
  by_cases c : v ∈ Q
  · rw [if_pos c]
    exact h
  · rw [if_neg c]
    refine ⟨?_, ?_⟩
    · rw [List.nodup_append]
      refine ⟨h.1, by simp, fun x hx y hy e => ?_⟩
      rw [List.mem_singleton] at hy
      subst hy e
      exact c hx
    · intro u hu
      rcases List.mem_append.mp hu with z | z
      · exact h.2 u z
      · rw [List.mem_singleton] at z
        subst z
        exact hv
theorem qi_len {Q : List Nat} (h : QI Q) : Q.length ≤ 200 := nd_le 200 Q h.1 h.2
theorem nI_p (n : Nat) : nI (n + 1) - 1 = nI n := nI_pred n
/-! ===== the reference's walk ===== -/
theorem r_walk {TR : List (List Int32)} {S : List Nd} {M : List Rf} {P : Nat} {sz pt : Int32} {kf nf ff mf pf : Nat → Int32} {bf : Nat → Int64} {V : List (List Int32)} {ndf br : Nat → Int32} {B : Nat → Option Av} {rk : Nat → Nat} {μ : Av → Av} (hC : RCx TR S M P sz pt kf nf ff mf pf bf V ndf br B rk μ) {nsz ntx : Int32} {txf frf nxf fsf : Nat → Int32} (hn : MN TR nsz ntx txf frf nxf fsf) (hI : NBS S) (hWb : WBk S) : ∀ (m : Nat), (∀ (f : Nat) (P : List (Nat × Nat)) (O : List Int32) (Q : List Nat) (wf xf sef : Nat → Int32) (a ov ord : Int32) (of : Nat → Int32), 4097 ≤ O.length + m → P.length ≤ O.length + 1 → 3 * m + 2 < f → RPw S M μ P wf xf → CP S P → RO O a ov of → NOr Q ord sef → QI Q → wp (p_MoPaper_print_32 pure_n 4096 9000 9000 4200 sz pt 404300 kf 404300 nf 404300 ff 404300 mf 404300 pf 404300 bf nsz ntx 90000 txf 404301 frf 4300 br f (nI P.length - 1) a ov ord of wf xf sef) (RPO (cn S μ m (P, O, Q)).2.1)) ∧ (∀ (f : Nat) (P : List (Nat × Nat)) (O : List Int32) (Q : List Nat) (wf xf sef : Nat → Int32) (a ov ord : Int32) (of : Nat → Int32) (x : Nat), 4097 ≤ O.length + m → P.length ≤ O.length → 3 * m + 3 < f → RPw S M μ P wf xf → CP S P → RO O a ov of → NOr Q ord sef → QI Q → x < M.length → wf P.length = nI x → xf P.length = 0 → wp (p_MoPaper_print_32 pure_n 4096 9000 9000 4200 sz pt 404300 kf 404300 nf 404300 ff 404300 mf 404300 pf 404300 bf nsz ntx 90000 txf 404301 frf 4300 br f (nI P.length) a ov ord of wf xf sef) (RPO (cn S μ m (wbg S μ (arx S M x) (P, O, Q))).2.1)) := by
  have hml := hC.1.2.2.1
  have hMU := hC.2.2.2.2.2.1
  intro m
  induction m with
  | zero =>
    refine ⟨fun f P O Q wf xf sef a ov ord of h1 h2 h3 h4 h5 h6 h7 h8 => ?_, fun f P O Q wf xf sef a ov ord of x h1 h2 h3 h4 h5 h6 h7 h8 h9 h10 h11 => ?_⟩
    · obtain ⟨f, rfl⟩ : ∃ z, f = z + 1 := ⟨f - 1, by omega⟩
      exact r_over hC hn f _ ord wf xf sef h6 (by omega) (by show 4096 < O.length; omega)
    · obtain ⟨f, rfl⟩ : ∃ z, f = z + 1 := ⟨f - 1, by omega⟩
      have := (wbg_len S μ (arx S M x) (P, O, Q)).2
      dsimp only at this
      exact r_over hC hn f _ ord wf xf sef h6 (by omega) (by show 4096 < (wbg S μ (arx S M x) (P, O, Q)).2.1.length; omega)
  | succ m ih =>
    obtain ⟨IB, IA⟩ := ih
    have HB : ∀ (f : Nat) (P : List (Nat × Nat)) (O : List Int32) (Q : List Nat) (wf xf sef : Nat → Int32) (a ov ord : Int32) (of : Nat → Int32), 4097 ≤ O.length + (m + 1) → P.length ≤ O.length + 1 → 3 * (m + 1) + 2 < f → RPw S M μ P wf xf → CP S P → RO O a ov of → NOr Q ord sef → QI Q → wp (p_MoPaper_print_32 pure_n 4096 9000 9000 4200 sz pt 404300 kf 404300 nf 404300 ff 404300 mf 404300 pf 404300 bf nsz ntx 90000 txf 404301 frf 4300 br f (nI P.length - 1) a ov ord of wf xf sef) (RPO (cn S μ (m + 1) (P, O, Q)).2.1) := by
      intro f P O Q wf xf sef a ov ord of h1 h2 h3 h4 h5 h6 h7 h8
      obtain ⟨f, rfl⟩ : ∃ z, f = z + 1 := ⟨f - 1, by omega⟩
      by_cases ho : 4096 < O.length
      · exact r_over hC hn f _ ord wf xf sef h6 ho (Nat.lt_of_lt_of_le ho (cn_mono S μ (m + 1) (P, O, Q)))
      have ov0 := (ro_ov h6).2 (by omega)
      cases P with
      | nil =>
        rw [p_MoPaper_print_32, cn, if_pos (Or.inr rfl)]
        exact wp_it (by decide) (wp_some (Or.inr ⟨by show O.length ≤ 4096; omega, ov0, h6⟩))
      | cons p P =>
        obtain ⟨c, k⟩ := p
        rw [List.length_cons] at h2
        have hp : P.length + 1 < 9000 := by omega
        obtain ⟨r1, r2⟩ := h4
        obtain ⟨c1, c2⟩ := h5 (c, k) (List.mem_cons_self ..)
        dsimp only at c1 c2
        have h5' : CP S P := fun q hq => h5 q (List.mem_cons_of_mem _ hq)
        rw [cn, if_neg (show ¬ (4096 < O.length ∨ (c, k) :: P = []) from fun z => by rcases z with z | z; exact ho z; cases z), List.length_cons, nI_p, p_MoPaper_print_32]
        refine wp_if (nI_pos (by omega)) (wp_it ov0 (wp_ck (ixb_t (by omega) (by omega)) ?_))
        rw [nI_clamp (n := P.length) (by omega), sb1]
        have ol1 : ∀ b : Int32, (O ++ [b]).length = O.length + 1 := fun b => by rw [List.length_append, List.length_singleton]
        rcases r1 with ⟨l, k2, w2⟩ | ⟨l, k1, x, x1, x2, x3, x4⟩ | ⟨nl, k1, x, x1, x2, x3, x4⟩
        · dsimp only at l k2
          refine wp_it w2 ?_
          obtain ⟨a1, o1, f1, p1, p2⟩ := ro_put 93 ord h6
          refine wp_bs p1 ?_
          dsimp only
          rw [cst, if_pos l, if_neg (show ¬ k = 0 by omega), if_pos k2]
          exact IB f P (O ++ [93]) Q wf xf sef a1 o1 ord f1 (by rw [ol1]; omega) (by rw [ol1]; omega) (by omega) r2 h5' p2 h7 h8
        · dsimp only at l k1 x3
          have hE := x2
          refine wp_if (by rw [x2]; intro z; have w := nI_pos' (n := x) (by omega); rw [z] at w; revert w; decide) ?_
          rw [x2]
          obtain ⟨x', y1, y2, y3, y4⟩ := r72 hC hn (nI P.length) a ov ord of wf xf sef (fun w0 w1 w2 w3 w4 w5 w6 w7 => p_MoPaper_print_32 pure_n 4096 9000 9000 4200 sz pt 404300 kf 404300 nf 404300 ff 404300 mf 404300 pf 404300 bf nsz ntx 90000 txf 404301 frf 4300 br f w0 w1 w2 w3 w4 w5 w6 w7) x1
          rw [x3] at y2
          rw [y4, q_l hC hn (by omega) a ov ord of wf xf sef _ y1 y2 c1, if_pos l, if_neg (show ¬ xf P.length = 0 from fun z => by rcases x4 with q | q <;> rw [q] at z <;> revert z <;> decide)]
          obtain ⟨y, u1, u2, u3, u4⟩ := q_o hC hn hp a ov ord of wf xf sef (fun w0 w1 w2 w3 w4 w5 w6 w7 => p_MoPaper_print_32 pure_n 4096 9000 9000 4200 sz pt 404300 kf 404300 nf 404300 ff 404300 mf 404300 pf 404300 bf nsz ntx 90000 txf 404301 frf 4300 br f w0 w1 w2 w3 w4 w5 w6 w7) y1 y2 l x4
          rw [u4, q_317 hC hn hp a ov ord of wf xf sef _ u1, cst, if_pos l, if_neg (show ¬ k = 0 by omega), if_neg (show ¬ k = 2 by omega), ← u2]
          by_cases e : emp S (arx S M y)
          · have nle' : ¬ lsc S (arx S M y) := fun w => by
              have := w.2.2.2
              have := e.2.2.2
              omega
            rw [if_neg nle', if_pos e, if_pos e]
            obtain ⟨a1, o1, f1, p1, p2⟩ := ro_put 93 ord h6
            refine wp_bs p1 ?_
            dsimp only
            rw [sb1]
            exact IB f P (O ++ [93]) Q wf xf sef a1 o1 ord f1 (by rw [ol1]; omega) (by rw [ol1]; omega) (by omega) r2 h5' p2 h7 h8
          rw [if_neg e, if_neg e]
          by_cases lt' : lsc S (arx S M y)
          · rw [if_pos lt', if_pos lt']
            obtain ⟨c', ec⟩ : ∃ c', arx S M y = (none, c') := ⟨(arx S M y).2, by rw [← lt'.1]⟩
            rw [ec] at lt' u3 ⊢
            dsimp only
            have hc' : 200 ≤ c' := lt'.2.1
            obtain ⟨a1, o1, f1, p1, p2⟩ := ro_put 44 ord h6
            refine wp_bs p1 ?_
            dsimp only
            obtain ⟨f, rfl⟩ : ∃ z, f = z + 1 := ⟨f - 1, by omega⟩
            replace p2 : RO (O ++ [44]) a1 o1 f1 := p2
            by_cases ho2 : 4096 < (O ++ [44]).length
            · refine r_over hC hn f _ ord _ _ sef p2 ho2 (Nat.lt_of_lt_of_le ho2 (Nat.le_trans ?_ (cn_mono S μ m _)))
              exact (wbg_len S μ _ ((c', 1) :: P, O ++ [44], Q)).2
            have ov1 := (ro_ov p2).2 (by omega)
            rw [p_MoPaper_print_32]
            refine wp_if (nI_pos (by omega)) (wp_it ov1 (wp_ck (ixb_t (by omega) (by omega)) ?_))
            rw [nI_clamp (n := P.length) (by omega), pk_us]
            refine wp_if (by intro z; have w := nI_pos' (n := y) (by omega); rw [z] at w; revert w; decide) ?_
            obtain ⟨y', v1, v2, v3, v4⟩ := r72 hC hn (nI P.length) a1 o1 ord f1 (upd wf P.length (nI y)) (upd xf P.length 2) sef (fun w0 w1 w2 w3 w4 w5 w6 w7 => p_MoPaper_print_32 pure_n 4096 9000 9000 4200 sz pt 404300 kf 404300 nf 404300 ff 404300 mf 404300 pf 404300 bf nsz ntx 90000 txf 404301 frf 4300 br f w0 w1 w2 w3 w4 w5 w6 w7) u1
            rw [ec, mu_fa hMU u3] at v2
            rw [v4, q_l hC hn (by omega) a1 o1 ord f1 _ _ sef _ v1 v2 hc', if_pos lt', if_neg (by rw [pk_us]; decide)]
            obtain ⟨z, z1, z2, z3⟩ := q_e hC hn hp a1 o1 ord f1 (upd wf P.length (nI y)) (upd xf P.length 2) sef (fun w0 w1 w2 w3 w4 w5 w6 w7 => p_MoPaper_print_32 pure_n 4096 9000 9000 4200 sz pt 404300 kf 404300 nf 404300 ff 404300 mf 404300 pf 404300 bf nsz ntx 90000 txf 404301 frf 4300 br f w0 w1 w2 w3 w4 w5 w6 w7) v1 v2 lt' (Or.inr pk_us)
            rw [z3, gd_pv z2]
            refine IA f ((c', 1) :: P) (O ++ [44]) Q _ _ sef a1 o1 ord f1 z (by rw [ol1]; omega) (by rw [ol1, List.length_cons]; omega) (by omega) ⟨Or.inr (Or.inl ⟨lt', rfl, y, u1, ?_, ?_, ?_⟩), ?_⟩ ?_ p2 h7 h8 z1 ?_ ?_
            · rw [pk_un (by omega), pk_us]
            · rw [ec]
              exact mu_fa hMU u3
            · rw [pk_un (by omega), pk_us, pk_us]
              exact Or.inr rfl
            · refine rp_upd r2 (fun j hj => ⟨?_, ?_⟩)
              · rw [pk_un (by omega), pk_un (by omega)]
              · rw [pk_un (by omega), pk_un (by omega), pk_un (by omega)]
            · intro q hq
              rcases List.mem_cons.mp hq with rfl | hq
              · exact ⟨hc', by show 1 ≤ (pav S (none, c')).length; have := lt'.2.2.2; omega⟩
              · exact h5' q hq
            · rw [List.length_cons, pk_us]
            · rw [List.length_cons, pk_us]
          · rw [if_neg lt', if_neg lt']
            obtain ⟨a1, o1, f1, p1, p2⟩ := ro_put 124 ord h6
            refine wp_bs p1 ?_
            dsimp only
            refine IA f ((c, 2) :: P) (O ++ [124]) Q _ _ sef a1 o1 ord f1 y (by rw [ol1]; omega) (by rw [ol1, List.length_cons]; omega) (by omega) ⟨Or.inl ⟨l, rfl, ?_⟩, ?_⟩ ?_ p2 h7 h8 u1 ?_ ?_
            · rw [pk_un (by omega), pk_us]
            · refine rp_upd r2 (fun j hj => ⟨?_, ?_⟩)
              · rw [pk_un (by omega), pk_un (by omega)]
              · rw [pk_un (by omega)]
            · intro q hq
              rcases List.mem_cons.mp hq with rfl | hq
              · exact ⟨c1, by show 2 ≤ (pav S (none, c)).length; have := l.2.2.2; omega⟩
              · exact h5' q hq
            · rw [List.length_cons, pk_us]
            · rw [List.length_cons, pk_us]
        · dsimp only at nl k1 x3
          refine wp_if (by rw [x2]; intro z; have w := nI_pos' (n := x) (by omega); rw [z] at w; revert w; decide) ?_
          rw [x2]
          obtain ⟨x', y1, y2, y3, y4⟩ := r72 hC hn (nI P.length) a ov ord of wf xf sef (fun w0 w1 w2 w3 w4 w5 w6 w7 => p_MoPaper_print_32 pure_n 4096 9000 9000 4200 sz pt 404300 kf 404300 nf 404300 ff 404300 mf 404300 pf 404300 bf nsz ntx 90000 txf 404301 frf 4300 br f w0 w1 w2 w3 w4 w5 w6 w7) x1
          rw [x3] at y2
          obtain ⟨_, _, l8, _⟩ := rn_case hC y1 y2 c1
          rw [y4, q_l hC hn (by omega) a ov ord of wf xf sef _ y1 y2 c1, if_neg nl, cst, if_neg nl]
          unfold p_MoPaper_print_468 p_MoPaper_compound
          rw [nI_clamp (n := P.length) (by omega), x4, if_neg (nI_ne0 (by show 0 < k; omega) (by show k < 2 ^ 31; omega))]
          obtain ⟨t1, t2, t3⟩ := q_16 hC hp a ov ord of wf xf y1 y2 c1 c2
          by_cases q : k = (pav S (none, c)).length
          · rw [if_pos q]
            obtain ⟨a1, o1, f1, p1, p2⟩ := ro_put 41 ord h6
            refine wp_bs (show _ = some (nI P.length - 1, a1, o1, f1, wf, xf) from ?_) ?_
            · rw [t2 (by omega) q, p1]
              rfl
            dsimp only
            exact IB f P (O ++ [41]) Q wf xf sef a1 o1 ord f1 (by rw [ol1]; omega) (by rw [ol1]; omega) (by omega) r2 h5' p2 h7 h8
          · obtain ⟨y, u1, u2, u3⟩ := t3 (by omega)
            rw [if_neg q, gd_pv u2, if_neg (show ¬ k = 0 by omega)]
            rw [if_neg (show ¬ k = 0 by omega)] at u3
            obtain ⟨a1, o1, f1, p1, p2⟩ := ro_put 44 ord h6
            refine wp_bs (show _ = some (nI (P.length + 1), a1, o1, f1, upd wf (P.length + 1) (nI y), upd (upd xf P.length (nI (k + 1))) (P.length + 1) 0) from ?_) ?_
            · rw [u3, p1]
              rfl
            dsimp only
            refine IA f ((c, k + 1) :: P) (O ++ [44]) Q _ _ sef a1 o1 ord f1 y (by rw [ol1]; omega) (by rw [ol1, List.length_cons]; omega) (by omega) ⟨Or.inr (Or.inr ⟨nl, by show 1 ≤ k + 1; omega, x, x1, ?_, x3, ?_⟩), ?_⟩ ?_ p2 h7 h8 u1 ?_ ?_
            · rw [pk_un (by omega)]
              exact x2
            · rw [pk_un (by omega), pk_us]
            · refine rp_upd r2 (fun j hj => ⟨?_, ?_⟩)
              · rw [pk_un (by omega)]
              · rw [pk_un (by omega), pk_un (by omega)]
            · intro q hq
              rcases List.mem_cons.mp hq with rfl | hq
              · exact ⟨c1, by show k + 1 ≤ (pav S (none, c)).length; omega⟩
              · exact h5' q hq
            · rw [List.length_cons, pk_us]
            · rw [List.length_cons, pk_us]
    refine ⟨HB, ?_⟩
    intro f P O Q wf xf sef a ov ord of x h1 h2 h3 h4 h5 h6 h7 h8 h9 h10 h11
    obtain ⟨f, rfl⟩ : ∃ z, f = z + 1 := ⟨f - 1, by omega⟩
    by_cases ho : 4096 < O.length
    · refine r_over hC hn f _ ord wf xf sef h6 ho (Nat.lt_of_lt_of_le ho (Nat.le_trans ?_ (cn_mono S μ (m + 1) _)))
      exact (wbg_len S μ (arx S M x) (P, O, Q)).2
    have ov0 := (ro_ov h6).2 (by omega)
    have hp : P.length + 1 < 9000 := by omega
    rw [p_MoPaper_print_32]
    refine wp_if (nI_pos (by omega)) (wp_it ov0 (wp_ck (ixb_t (by omega) (by omega)) ?_))
    rw [nI_clamp (n := P.length) (by omega), h10]
    refine wp_if (by intro z; have w := nI_pos' (n := x) (by omega); rw [z] at w; revert w; decide) ?_
    obtain ⟨x', y1, y2, y3, y4⟩ := r72 hC hn (nI P.length) a ov ord of wf xf sef (fun w0 w1 w2 w3 w4 w5 w6 w7 => p_MoPaper_print_32 pure_n 4096 9000 9000 4200 sz pt 404300 kf 404300 nf 404300 ff 404300 mf 404300 pf 404300 bf nsz ntx 90000 txf 404301 frf 4300 br f w0 w1 w2 w3 w4 w5 w6 w7) h9
    rw [y4]
    have ol1 : ∀ b : Int32, (O ++ [b]).length = O.length + 1 := fun b => by rw [List.length_append, List.length_singleton]
    by_cases v : isV (arx S M x')
    · obtain ⟨u, eu⟩ : ∃ u, arx S M x' = (none, u) := ⟨(arx S M x').2, by rw [← v.1]⟩
      have hu : u < 200 := by have := v.2; rw [eu] at this; exact this
      rw [wbg_v (by rw [← y2]; exact eu) hu, q_v hC hn (by omega) a ov ord of wf xf sef _ y1 eu hu]
      obtain ⟨a1, o1, d1, f1, s1, p1, p2, p3⟩ := ro_var h7 (qi_len h8) h8.2 hu h6
      refine wp_bs p1 ?_
      dsimp only
      rw [sb1]
      have : (O ++ 95 :: nmb (lN (Q.idxOf u))).length ≥ O.length := by rw [List.length_append]; omega
      exact HB f P _ _ wf xf s1 a1 o1 d1 f1 (by omega) (by omega) (by omega) h4 h5 p2 p3 (qi_nvx h8 hu)
    by_cases iz : ∃ z, (arx S M x').1 = some z
    · obtain ⟨z, ez⟩ := iz
      rcases rc_case hC y1 with ⟨v', v1, v2, v3, _⟩ | ⟨i, d, i1, i2, ⟨z', z1, z2, _⟩ | ⟨z1, z2, _⟩⟩
      · rw [v3] at ez
        cases ez
      · rw [wbg_i (by rw [← y2]; exact z2), q_i hC hn (by omega) a ov ord of wf xf sef _ y1 z2]
        obtain ⟨a1, o1, f1, p1, p2⟩ := ro_number (hI i d z' i2 z1) ord h6
        refine wp_bs p1 ?_
        dsimp only
        rw [sb1]
        have : (O ++ nmb z').length ≥ O.length := by rw [List.length_append]; omega
        exact HB f P _ _ wf xf sef a1 o1 ord f1 (by omega) (by omega) (by omega) h4 h5 p2 h7 h8
      · rw [z2] at ez
        cases ez
    obtain ⟨c, ec⟩ : ∃ c, arx S M x' = (none, c) := ⟨(arx S M x').2, by
      cases hh : (arx S M x').1 with
      | none => rw [← hh]
      | some z => exact absurd ⟨z, hh⟩ iz⟩
    have hc : 200 ≤ c := by
      by_cases q : c < 200
      · exact absurd (by rw [ec]; exact ⟨rfl, q⟩) v
      · omega
    have em : μ (arx S M x) = (none, c) := by rw [← y2]; exact ec
    rw [q_l hC hn (by omega) a ov ord of wf xf sef _ y1 ec hc]
    by_cases l : lsc S (none, c)
    · rw [if_pos l, if_pos h11, wbg_l em l]
      dsimp only
      rw [cn, if_neg (show ¬ (4096 < O.length ∨ (c, 0) :: P = []) from fun z => by rcases z with z | z; exact ho z; cases z), cst, if_pos l, if_pos rfl]
      obtain ⟨a1, o1, f1, p1, p2⟩ := ro_put 91 ord h6
      refine wp_bs p1 ?_
      dsimp only
      obtain ⟨z, z1, z2, z3⟩ := q_e hC hn hp a1 o1 ord f1 wf xf sef (fun w0 w1 w2 w3 w4 w5 w6 w7 => p_MoPaper_print_32 pure_n 4096 9000 9000 4200 sz pt 404300 kf 404300 nf 404300 ff 404300 mf 404300 pf 404300 bf nsz ntx 90000 txf 404301 frf 4300 br f w0 w1 w2 w3 w4 w5 w6 w7) y1 ec l (Or.inl h11)
      rw [z3, gd_pv z2]
      refine IA f ((c, 1) :: P) (O ++ [91]) Q _ _ sef a1 o1 ord f1 z (by rw [ol1]; omega) (by rw [ol1, List.length_cons]; omega) (by omega) ⟨Or.inr (Or.inl ⟨l, rfl, x, h9, ?_, em, ?_⟩), ?_⟩ ?_ p2 h7 h8 z1 ?_ ?_
      · rw [pk_un (by omega)]
        exact h10
      · rw [pk_un (by omega), pk_us, h11]
        exact Or.inl rfl
      · refine rp_upd h4 (fun j hj => ⟨?_, ?_⟩)
        · rw [pk_un (by omega)]
        · rw [pk_un (by omega), pk_un (by omega)]
      · intro q hq
        rcases List.mem_cons.mp hq with rfl | hq
        · exact ⟨hc, by show 1 ≤ (pav S (none, c)).length; have := l.2.2.2; omega⟩
        · exact h5 q hq
      · rw [List.length_cons, pk_us]
      · rw [List.length_cons, pk_us]
    · rw [if_neg l, wbg_c em hc l]
      dsimp only
      obtain ⟨k2, _, l8, j, j1, j2, j3⟩ := rn_case hC y1 ec hc
      have hb := hWb c hc (arx_a ec)
      rw [← j2] at hb
      obtain ⟨a1, o1, f1, p1, p2⟩ := ro_name ord hn j1 nsz ntx hb h6
      rw [j2] at p2
      have oln : (O ++ nmx (nma S (none, c))).length ≥ O.length := by rw [List.length_append]; omega
      obtain ⟨t1, t2, t3⟩ := q_16 hC hp a1 o1 ord f1 wf xf y1 ec hc (k := 0) (Nat.zero_le _)
      unfold p_MoPaper_print_468 p_MoPaper_compound
      rw [nI_clamp (n := P.length) (by omega), h11, if_pos (show (0 : Int32) = 0 from rfl), ck_t (ixb_t (by omega) (by omega)), nI_clamp (n := x') (by omega), j3, p1, Option.bind_some]
      by_cases q : (pav S (none, c)).length = 0
      · rw [if_pos q]
        refine wp_bs (t1 q) ?_
        dsimp only
        exact HB f P _ _ wf xf sef a1 o1 ord f1 (by omega) (by omega) (by omega) h4 h5 p2 h7 h8
      · obtain ⟨y, u1, u2, u3⟩ := t3 (by omega)
        rw [if_pos rfl] at u3
        obtain ⟨a2, o2, f2, p3, p4⟩ := ro_put 40 ord p2
        have ol2 : ∀ b : Int32, (O ++ nmx (nma S (none, c)) ++ [b]).length = (O ++ nmx (nma S (none, c))).length + 1 := fun b => by rw [List.length_append, List.length_singleton]
        refine wp_bs (show _ = some (nI (P.length + 1), a2, o2, f2, upd wf (P.length + 1) (nI y), upd (upd xf P.length (nI (0 + 1))) (P.length + 1) 0) from ?_) ?_
        · refine Eq.trans u3 ?_
          rw [p3]
          rfl
        dsimp only
        rw [if_neg q, cn]
        by_cases ho2 : 4096 < (O ++ nmx (nma S (none, c))).length
        · rw [if_pos (Or.inl ho2)]
          obtain ⟨f, rfl⟩ : ∃ z, f = z + 1 := ⟨f - 1, by omega⟩
          exact r_over hC hn f _ ord _ _ sef p4 (by show 4096 < (O ++ nmx (nma S (none, c)) ++ [40]).length; rw [ol2]; omega) ho2
        rw [if_neg (show ¬ (4096 < (O ++ nmx (nma S (none, c))).length ∨ (c, 0) :: P = []) from fun z => by rcases z with z | z; exact ho2 z; cases z), cst, if_neg l, if_neg (show ¬ 0 = (pav S (none, c)).length by omega), if_pos rfl, gd_pv u2]
        refine IA f ((c, 0 + 1) :: P) (O ++ nmx (nma S (none, c)) ++ [40]) Q _ _ sef a2 o2 ord f2 y (by rw [ol2]; omega) (by rw [ol2, List.length_cons]; omega) (by omega) ⟨Or.inr (Or.inr ⟨l, by show 1 ≤ 0 + 1; omega, x, h9, ?_, em, ?_⟩), ?_⟩ ?_ p4 h7 h8 u1 ?_ ?_
        · rw [pk_un (by omega)]
          exact h10
        · rw [pk_un (by omega), pk_us]
        · refine rp_upd h4 (fun j hj => ⟨?_, ?_⟩)
          · rw [pk_un (by omega)]
          · rw [pk_un (by omega), pk_un (by omega)]
        · intro q hq
          rcases List.mem_cons.mp hq with rfl | hq
          · exact ⟨hc, by show 0 + 1 ≤ (pav S (none, c)).length; omega⟩
          · exact h5 q hq
        · rw [List.length_cons, pk_us]
        · rw [List.length_cons, pk_us]
/-! ===== both print ===== -/
theorem wbk_of {T U : List (List Int32)} {p : List Int32} {ts : Int32} {tn : Nat} {tf : Nat → Int32} {es : Int32} {en : Nat} {ef : Nat → Int32} {os : Int32} {on : Nat} {of nf : Nat → Int32} (hN : NC T p ts tn tf es en ef os on of nf) {S : List Nd} {nd : Int32} {sn : Nat} {sf : Nat → Int32} {vn : Nat} {vf : Nat → Int64} {fn : Nat} {ff : Nat → Int32} {qs : Int32} {qn : Nat} {qf : Nat → Int32} (h : CT T S nd sn sf vn vf fn ff qs qn qf) (hDc : ∀ c, 200 ≤ c → avc S c = (none, c) → c < 200 + S.length ∨ nma S (none, c) = []) : WBk S := by
  have hTl : T.length < 65536 := by have := hN.2.2.2.2.1; omega
  intro c hc e b hb
  rcases hDc c hc e with hl | hl
  · rcases ct_nd h hTl 0 0 0 0 0 0 0 hl hc with ⟨z, dd, z1, _⟩ | ⟨_, _, _, _, t, t1, t2, _⟩
    · rw [z1] at e
      injection e with e _
      cases e
    · rw [← t2] at hb
      have sg := seg_at (k := t) hN.1.2.2.2.2.1 t1
      obtain ⟨i, hi, ei⟩ := List.mem_iff_getElem.mp hb
      have hos := off_succ t1
      have ho := off_le (T := T) (show t + 1 ≤ T.length from t1)
      rw [off_all (Nat.le_refl _)] at ho
      have := hN.1.2.2.2.2.2 (off T t + i) (by rw [List.length_append]; omega)
      rw [sg i hi, List.getD_eq_getElem?_getD, List.getElem?_eq_getElem hi] at this
      have h2 : bok (T.getD t [])[i] := this
      rw [ei] at h2
      exact h2
  · rw [hl] at hb
    cases hb
theorem nma_out {S : List Nd} {c : Nat} (hc : 200 ≤ c) (h : ¬ c < 200 + S.length) : nma S (none, c) = [] := by
  unfold nma
  rw [List.getD_eq_getElem?_getD, List.getElem?_eq_none (by show S.length ≤ c - 200; omega)]
  rfl
theorem wbk_t {T U : List (List Int32)} {p : List Int32} {ts : Int32} {tn : Nat} {tf : Nat → Int32} {es : Int32} {en : Nat} {ef : Nat → Int32} {os : Int32} {on : Nat} {of nf : Nat → Int32} (hN : NC T p ts tn tf es en ef os on of nf) {S : List Nd} {nd : Int32} {sn : Nat} {sf : Nat → Int32} {vn : Nat} {vf : Nat → Int64} {fn : Nat} {ff : Nat → Int32} {qs : Int32} {qn : Nat} {qf : Nat → Int32} (h : CT T S nd sn sf vn vf fn ff qs qn qf) : WBk S := by
  refine wbk_of (U := []) hN h (fun c hc e => ?_)
  by_cases q : c < 200 + S.length
  · exact Or.inl q
  · exact Or.inr (nma_out hc q)
def RSL (l : List Int32) (rs : Int32) (rn : Nat) (rf : Nat → Int32) (rsd : Int32) (rsf : Nat → Int32) : Prop := CO l rs rn rf ∧ l.length ≤ 4096 ∧ rsd = nI l.length ∧ TM l rsf
theorem rsl_by {l : List Int32} {rs : Int32} {rn : Nat} {rf : Nat → Int32} {rsd : Int32} {rsf : Nat → Int32} (h : RSL l rs rn rf rsd rsf) : BY l rs rn rf := by
  have := h.1.1
  rw [List.take_of_length_le (by have := h.2.1; omega)] at this
  exact this
theorem mo_copy (n : Nat) {O : List Int32} {of : Nat → Int32} (hO : TM O of) (ov ord : Int32) (wf xf sef : Nat → Int32) : ∀ (m i f : Nat) (g : Nat → Int32), i + m = O.length → m < f → (∀ j, j < i → g j = O.getD j 0) → ∃ g', p_Mo_print_72 n 4096 4096 (nI O.length) ov ord of wf xf sef f (nI i) g = some (nI O.length, 0, nI O.length, g', nI O.length, ov, ord, of, wf, xf, sef) ∧ TM O g' := by
  have hl := hO.1
  intro m
  induction m with
  | zero =>
    intro i f g hi hf hg
    obtain ⟨f, rfl⟩ : ∃ z, f = z + 1 := ⟨f - 1, by omega⟩
    obtain rfl : i = O.length := by omega
    refine ⟨g, by rw [p_Mo_print_72, if_pos (nI_le (Nat.le_refl _) (by omega))], hl, hg, fun j hj => ?_⟩
    have := hO.2.2 j hj
    rw [hO.2.1 j hj] at this
    rw [hg j hj]
    exact this
  | succ m ih =>
    intro i f g hi hf hg
    obtain ⟨f, rfl⟩ : ∃ z, f = z + 1 := ⟨f - 1, by omega⟩
    rw [p_Mo_print_72, if_neg (nI_ge (by omega) (by omega)), ck_t (ixb_t (by omega) (by omega)), ck_t (ixb_t (by omega) (by omega)), nI_clamp (by omega), nI_1, nar_bok (hO.2.2 i (by omega))]
    refine ih (i + 1) f _ (by omega) (by omega) (fun j hj => ?_)
    by_cases q : j = i
    · subst q
      rw [pk_us, hO.2.1 j (by omega)]
    · rw [pk_un q]
      exact hg j (by omega)
abbrev P13 : Type := (Nat × Int32 × Int32 × Int32 × Nat × (Nat → Int32) × Int32 × Nat × (Nat → Int32) × Int32 × Nat × (Nat → Int32) × (Nat → Int32)) × Nat × Nat
abbrev P11 : Type := Int32 × Int32 × Int32 × (Nat → Int32) × Int32 × Int32 × Int32 × (Nat → Int32) × (Nat → Int32) × (Nat → Int32) × (Nat → Int32)
def JPr (W : Nat) : P13 → P11 → Prop := fun ((xc, r, _, rs', rn', rf', ds', dn', df', ps', pn', pf', _), mq, sk) (r2, thr', rsd', rsf', _, _, _, _, _, _, _) => (∃ l, RSL l rs' rn' rf' rsd' rsf') ∧ (∃ l, CO l ds' dn' df') ∧ (∃ l, IN l ps' pn' pf') ∧ pn' ≤ 40000 ∧ 64 * mq + W ≤ rn' + dn' + pn' + 64 ∧ sk + 2 * W ≤ 2 * (rn' + dn' + pn') + 6 ∧ ((xc = 0 ∧ thr' = 0 ∧ r = r2) ∨ (xc = 1 ∧ thr' = 1 ∧ r = 0 ∧ r2 = 0) ∨ (xc = 3 ∧ thr' = 2 ∧ r = 0 ∧ r2 = 0))
theorem j_print {TR : List (List Int32)} {S : List Nd} {M : List Rf} {P : Nat} {sz pt : Int32} {kf nf ff mf pf : Nat → Int32} {bf : Nat → Int64} {V : List (List Int32)} {ndf br : Nat → Int32} {B : Nat → Option Av} {rk : Nat → Nat} {μ : Av → Av} (hC : RCx TR S M P sz pt kf nf ff mf pf bf V ndf br B rk μ) {nsz ntx : Int32} {txf frf nxf fsf : Nat → Int32} (hn : MN TR nsz ntx txf frf nxf fsf) (hBV : ∀ v, V.length ≤ v → B v = none) {T U : List (List Int32)} (hT : T = KT ++ U) {p : List Int32} {ts : Int32} {tn : Nat} {tf : Nat → Int32} {es : Int32} {en : Nat} {ef : Nat → Int32} {os : Int32} {on : Nat} {olf nef : Nat → Int32} (hN : NC T p ts tn tf es en ef os on olf nef) (hS : S.length ≤ 20700) {nd : Int32} {sn : Nat} {sf : Nat → Int32} {vn : Nat} {vf : Nat → Int64} {fn : Nat} {fif : Nat → Int32} {qs : Int32} {qn : Nat} {qf : Nat → Int32} (h : CT T S nd sn sf vn vf fn fif qs qn qf) {bc : Nat → Int32} (hB : CBd S B bc) (hI : NBS S) {rgc rgr : Nat → Int32} (hR : RGS S M rgc rgr) {l : List Int32} {rs : Int32} {rn : Nat} {rf : Nat → Int32} {rsd : Int32} {rsf : Nat → Int32} (hL : RSL l rs rn rf rsd rsf) (num ds : Int32) {dn : Nat} {df : Nat → Int32} {ps : Int32} {pn : Nat} {pif : Nat → Int32} (nuf : Nat → Int32) (hO : ∃ l, CO l ds dn df) (hP : ∃ l, IN l ps pn pif) (hpn : pn ≤ 40000) (r mks plc sb a2 a3 a4 a5 a6 a7 thr a b c d e : Int32) (pan pov pod : Int32) (pof pwf pxf psf : Nat → Int32) : wp (p_UB_print pure_n r mks plc ts sb tn tf es en ef nd a2 a3 a4 a5 a6 a7 sn sf vn vf fn fif qs qn qf 200 bc num rs rn rf ds dn df ps pn pif 200 nuf 8 rgc) (fun v => wp (p_Mo_print pure_n r thr a b rsd c d e 4096 rsf sz pt 404300 kf 404300 nf 404300 ff 404300 mf 404300 pf 404300 bf nsz ntx 90000 txf 404301 frf pan pov pod 4096 pof 9000 pwf 9000 pxf 4200 psf 8 rgr 4300 br) (JPr (rn + dn + pn) v)) := by
  have pg := pure_g2
  have hml := hC.1.2.2.1
  have hμ := hm_of hC.2.2.2.2.2.1 (rb_D hC hBV)
  have hWb := wbk_t (U := U) hN h
  unfold p_UB_print p_Mo_print
  rcases reg_case r with ⟨g, g1, g2, g3, g4⟩ | ⟨g3, g4⟩
  · refine wp_bs g3 ?_
    dsimp only
    rw [al00]
    subst g2
    obtain ⟨cx, yx, r1, r2, r3, r4⟩ := hR g g1
    have Dc : Dm S M (avc S cx) := ⟨yx, r3, r4.symm⟩
    refine wp_it rfl (wp_ck (ixb_t g1 (by omega)) ?_)
    rw [nI_clamp (n := g) (by omega), r1, r2]
    obtain ⟨m, hm1, hm2⟩ : ∃ m, 4097 ≤ m ∧ m < 900000 := ⟨5000, by omega, by omega⟩
    refine wp_bind (c_show hT hN hS h hB hC.2.2.2.2.2.1 (dm_do hC) hμ (dm_c (dm_do hC)) hI sb a2 a3 a4 a5 a6 a7 hm1 hm2 Dc num ds dn df ps pn pif nuf rs rn rf hO hP hpn) ?_
    rintro ⟨⟨q, num', rs', rn', rf', ds', dn', df', ps', pn', pif', nuf'⟩, mq, sk⟩ ⟨y1, y2, y3, y4, y5⟩
    dsimp only
    have WK : wp (p_MoPaper_print pure_n (nI yx) pan pov pod 4096 pof 9000 pwf 9000 pxf 4200 psf sz pt 404300 kf 404300 nf 404300 ff 404300 mf 404300 pf 404300 bf nsz ntx 90000 txf 404301 frf 4300 br) (RPO (pO S μ m (avc S cx))) := by
      unfold p_MoPaper_print pO
      rw [r4]
      refine wp_ck rfl (wp_ck rfl ?_)
      exact (r_walk hC hn hI hWb m).2 pure_n [] [] [] _ _ psf 0 0 0 pof yx (by rw [List.length_nil]; omega) (Nat.le_refl _) (by omega) trivial (fun q hq => by cases hq) ⟨rfl, rfl, by show (0 : Nat) ≤ 4096; omega, (fun j hj => absurd hj (Nat.not_lt_zero _)), fun j hj => absurd hj (Nat.not_lt_zero _)⟩ ⟨rfl, fun j hj => absurd hj (Nat.not_lt_zero _)⟩ ⟨List.nodup_nil, fun v hv => by cases hv⟩ r3 (by rw [List.length_nil]; exact pk_us) (by rw [List.length_nil]; exact pk_us)
    obtain ⟨⟨wa, wov, wod, wof, wwf, wxf, wsf⟩, w1, w2⟩ := WK
    rcases y1 with ⟨z1, z2, z3, z4, z5, z6⟩ | ⟨z1, z2, z3, z4, z5, z6⟩
    · rcases w2 with ⟨_, v2⟩ | ⟨v1, _⟩
      · refine wp_al (wp_it z2 (wp_al (wp_some ?_)))
        refine wp_bs g4 (wp_it rfl (wp_ck (ixb_t g1 (by omega)) (wp_bs w1 ?_)))
        dsimp only
        refine wp_if (by rw [v2]; decide) ?_
        unfold p_Mo_fail
        refine wp_bs rfl (wp_some ⟨⟨l, ?_⟩, z6, y2, y3, ?_, ?_, Or.inr (Or.inr ⟨rfl, rfl, rfl, rfl⟩)⟩)
        · rw [z3, z4, z5]
          exact hL
        · show 64 * (0 + 1 + mq) + (rn + dn + pn) ≤ rn' + dn' + pn' + 64
          omega
        · show 0 + 6 + sk + 2 * (rn + dn + pn) ≤ 2 * (rn' + dn' + pn') + 6
          omega
      · omega
    · rcases w2 with ⟨v1, _⟩ | ⟨v1, v2, v3⟩
      · omega
      · have e1 : (pO S μ m (avc S cx)).take 4096 = pO S μ m (avc S cx) := List.take_of_length_le v1
        obtain ⟨s1, s2, s3⟩ := v3
        rw [e1] at s1 s3
        refine wp_al (wp_if (by rw [z2]; decide) (wp_bs rfl (wp_bs rfl (wp_some ?_))))
        refine wp_bs g4 (wp_it rfl (wp_ck (ixb_t g1 (by omega)) (wp_bs w1 ?_)))
        dsimp only
        refine wp_it v2 ?_
        obtain ⟨g', c1, c2⟩ := mo_copy pure_n s3 wov wod wwf wxf wsf (pO S μ m (avc S cx)).length 0 pure_n rsf (by omega) (by omega) (fun j hj => absurd hj (Nat.not_lt_zero _))
        rw [s1]
        refine wp_of c1 ⟨⟨_, z3, v1, rfl, c2⟩, ?_, y2, y3, ?_, ?_, Or.inl ⟨rfl, rfl, ?_⟩⟩
        · rw [z4, z5, z6]
          exact ⟨l, hL.1⟩
        · show 64 * (0 + mq) + (rn + dn + pn) ≤ rn' + dn' + pn' + 64
          omega
        · show 0 + sk + 2 * (rn + dn + pn) ≤ 2 * (rn' + dn' + pn') + 6
          omega
        · have := z3.1.1
          rw [this, List.take_of_length_le (by omega)]
  · refine wp_bs g3 ?_
    dsimp only
    refine wp_al (wp_if (by decide) (wp_some ?_))
    refine wp_bs g4 (wp_if (by decide) ?_)
    unfold p_Mo_fail
    refine wp_bs rfl (wp_some ⟨⟨l, hL⟩, hO, hP, hpn, ?_, ?_, Or.inr (Or.inl ⟨rfl, rfl, rfl, rfl⟩)⟩)
    · show 64 * (0 + 1) + (rn + dn + pn) ≤ rn + dn + pn + 64
      omega
    · show 0 + 6 + 2 * (rn + dn + pn) ≤ 2 * (rn + dn + pn) + 6
      omega
/-! ===== how many events a tape has, and their numbers ===== -/
def pnd (o : Op) : Nat := if o.2.2.1 = 1 ∨ o.2.2.1 = 2 ∨ o.2.2.1 = 4 then 1 else if o.2.2.1 = 3 then 0 else if o.2.2.1 = 5 then o.2.2.2.2.2 + 1 else o.2.2.2.2.2
def EvB (E : List Ev) : Prop := ∀ e, e ∈ E → ∀ z, e.1 = some z → NB z
def PIx (l : List Int32) (md : Nat) (O : List Op) (i : Nat) (E : List Ev) : Prop := i ≤ l.length ∧ E.length + (if md = 2 ∨ md = 3 then (O.tail.map pnd).sum else (O.map pnd).sum) + (if md = 2 then 1 else 0) ≤ 2 * i ∧ EvB E
theorem tk_num (l : List Int32) {i : Nat} (hk : (tkn l i).1 = 2) : (tkn l i).2.2.2.2 < 9007199254740992 := by
  unfold tkn at hk ⊢
  generalize i + sk false (l.drop i) = a at hk ⊢
  cases hd : l.drop a with
  | nil => rw [hd] at hk; exact nn hk rfl
  | cons b t =>
    rw [hd, tk1] at hk
    rw [tk1]
    by_cases qG : cG b = true
    · rw [if_pos qG] at hk
      exact nn hk rfl
    rw [if_neg qG] at hk ⊢
    by_cases qS : cS b = true
    · rw [if_pos qS] at hk
      exact nn hk rfl
    rw [if_neg qS] at hk ⊢
    by_cases qD : cD b = true
    · rw [if_pos qD] at hk ⊢
      dsimp only at hk ⊢
      by_cases q : dv 0 (b :: t) < 9007199254740992
      · exact q
      · rw [if_neg q] at hk
        exact nn hk rfl
    rw [if_neg qD] at hk ⊢
    by_cases q39 : b = 39
    · rw [if_pos q39] at hk
      cases hq : qt (t.length + 1) t with
      | none => rw [hq] at hk; exact nn hk rfl
      | some z =>
        obtain ⟨w, m⟩ := z
        rw [hq] at hk
        exact nn hk rfl
    rw [if_neg q39] at hk ⊢
    by_cases qY : cY b = true
    · rw [if_pos qY] at hk
      by_cases q : tw cY (b :: t) = 1 ∧ b = 46 ∧ endq t = true
      · rw [if_pos q] at hk
        exact nn hk rfl
      · rw [if_neg q] at hk
        exact nn hk rfl
    rw [if_neg qY] at hk ⊢
    by_cases q33 : b = 33 ∨ b = 59
    · rw [if_pos q33] at hk
      exact nn hk rfl
    rw [if_neg q33] at hk ⊢
    by_cases q91 : b = 91 ∧ t.head? = some 93
    · rw [if_pos q91] at hk
      exact nn hk rfl
    rw [if_neg q91] at hk ⊢
    by_cases qM : cM b = true
    · rw [if_pos qM] at hk
      unfold cM at qM
      rw [List.contains_iff_mem] at qM
      have tb : ∀ b : Int32, b ∈ [(40 : Int32), 41, 91, 93, 123, 125, 44, 124] → b.toInt.toNat ≠ 2 := by
        intro b hb
        simp only [List.mem_cons, List.not_mem_nil, or_false] at hb
        rcases hb with rfl | rfl | rfl | rfl | rfl | rfl | rfl | rfl <;> decide
      exact absurd hk (tb b qM)
    · rw [if_neg qM] at hk
      exact nn hk rfl
theorem ev_1 {E : List Ev} (h : EvB E) {e : Ev} (he : ∀ z, e.1 = some z → NB z) : EvB (E ++ [e]) := fun x hx z hz => by
  rcases List.mem_append.mp hx with q | q
  · exact h x q z hz
  · rw [List.mem_singleton] at q
    subst q
    exact he z hz
theorem ev_n {E : List Ev} (h : EvB E) (w : List Int32) (k n : Nat) : EvB (E ++ List.replicate n (none, w, k)) := fun x hx z hz => by
  rcases List.mem_append.mp hx with q | q
  · exact h x q z hz
  · have := List.eq_of_mem_replicate q
    rw [this] at hz
    cases hz
theorem pi_st {l : List Int32} {md nx : Nat} {O : List Op} {i : Nat} {ln : List Int32} {lb fi : Nat} {E : List Ev} {br : Option Nat} (h : PIx l md O i E) {md' nx' : Nat} {O' : List Op} {i' : Nat} {ln' : List Int32} {lb' fi' : Nat} {E' : List Ev} {br' : Option Nat} (e : stp l (md, nx, O, i, ln, lb, fi, E, br) = (md', nx', O', i', ln', lb', fi', E', br')) : PIx l md' O' i' E' := by
  obtain ⟨h1, h2, h3⟩ := h
  obtain ⟨t1, t2, t3, t4, _, _⟩ := tk_len l h1
  have tn := tk_num l (i := i)
  unfold stp at e
  dsimp only at e
  generalize tkn l i = k at e t1 t2 t3 t4 tn
  obtain ⟨k1, k2, k3, k4, k5⟩ := k
  dsimp only at e t1 t2 t3 t4 tn
  have NBp : k1 = 2 → NB (lN k5) := fun q => ⟨k5, by have := tn q; omega, Or.inl rfl⟩
  have NBn : k1 = 2 → NB (-(lN k5)) := fun q => ⟨k5, by have := tn q; omega, Or.inr rfl⟩
  have en : ∀ (w : List Int32) (j : Nat), EvB (E ++ [(none, w, j)]) := fun w j => ev_1 h3 (fun z hz => by cases hz)
  have l1 : ∀ e : Ev, (E ++ [e]).length = E.length + 1 := fun e => by rw [List.length_append, List.length_singleton]
  by_cases c0 : br ≠ none ∨ 7 ≤ md
  · rw [if_pos c0] at e
    cases e
    exact ⟨h1, h2, h3⟩
  rw [if_neg c0] at e
  by_cases c1 : md = 1
  · subst c1
    rw [if_pos rfl] at e
    rw [if_neg (by decide), if_neg (by decide)] at h2
    unfold st1 at e
    dsimp only at e
    repeat' split at e
    all_goals cases e
    all_goals first
      | exact ⟨h1, by rw [if_neg (by decide), if_neg (by decide)]; exact h2, h3⟩
      | exact ⟨t3, by rw [if_pos (by decide), if_pos rfl, List.tail_cons]; omega, h3⟩
      | exact ⟨t3, by rw [if_pos (by decide), if_neg (by decide), List.tail_cons, l1]; omega, en _ _⟩
      | exact ⟨t3, by rw [if_pos (by decide), if_neg (by decide), List.tail_cons, l1]; omega, ev_1 h3 (fun z hz => by cases hz; exact NBp (by assumption))⟩
      | exact ⟨t3, by rw [if_neg (by decide), if_neg (by decide), List.map_cons, List.sum_cons]; simp only [pnd]; simp; omega, h3⟩
  rw [if_neg c1] at e
  by_cases c5 : md = 5
  · subst c5
    rw [if_pos rfl] at e
    rw [if_neg (by decide), if_neg (by decide)] at h2
    split at e <;> cases e
    · exact ⟨t3, by rw [if_neg (by decide), if_neg (by decide)]; omega, h3⟩
    · exact ⟨h1, by rw [if_neg (by decide), if_neg (by decide)]; omega, h3⟩
  rw [if_neg c5] at e
  by_cases c6 : md = 6
  · subst c6
    rw [if_pos rfl] at e
    rw [if_neg (by decide), if_neg (by decide)] at h2
    split at e <;> cases e
    · exact ⟨t3, by rw [if_neg (by decide), if_neg (by decide)]; omega, h3⟩
    · exact ⟨h1, by rw [if_neg (by decide), if_neg (by decide)]; omega, h3⟩
  rw [if_neg c6] at e
  cases O with
  | nil =>
    dsimp only at e
    cases e
    exact ⟨h1, h2, h3⟩
  | cons o O =>
    dsimp only at e
    by_cases c2 : md = 2
    · subst c2
      rw [if_pos rfl] at e
      rw [if_pos (by decide), if_pos rfl, List.tail_cons] at h2
      unfold st2 at e
      dsimp only at e
      repeat' split at e
      all_goals cases e
      · exact ⟨t3, by rw [if_neg (by decide), if_neg (by decide), List.map_cons, List.sum_cons]; simp only [pnd]; simp; omega, h3⟩
      · exact ⟨t3, by rw [if_pos (by decide), if_neg (by decide), List.tail_cons, l1]; omega, ev_1 h3 (fun z hz => by cases hz; exact NBn (by omega))⟩
      · exact ⟨h1, by rw [if_neg (by decide), if_neg (by decide), List.map_cons, List.sum_cons]; simp only [pnd]; simp; omega, h3⟩
      · exact ⟨h1, by rw [if_pos (by decide), if_neg (by decide), List.tail_cons, l1]; omega, en _ _⟩
    rw [if_neg c2] at e
    by_cases c3 : md = 3
    · subst c3
      rw [if_pos rfl] at e
      rw [if_pos (by decide), if_neg (by decide), List.tail_cons] at h2
      have F : ∀ c : Prop, [Decidable c] → PIx l (if c then 5 else 4) O i E := fun c _ => by
        by_cases q : c
        · rw [if_pos q]
          exact ⟨h1, by rw [if_neg (by decide), if_neg (by decide)]; omega, h3⟩
        · rw [if_neg q]
          exact ⟨h1, by rw [if_neg (by decide), if_neg (by decide)]; omega, h3⟩
      unfold st3 at e
      cases hs : sop (k1, k2, k3, k4, k5) with
      | none =>
        rw [hs] at e
        dsimp only at e
        cases e
        exact F _
      | some w =>
        have n5 : k1 ≠ 5 := fun q => by
          unfold sop at hs
          dsimp only at hs
          rw [if_neg (by omega), if_neg (by omega)] at hs
          cases hs
        have := t4 n5
        rw [hs] at e
        dsimp only at e
        split at e
        · cases e
          exact ⟨t3, by rw [if_neg (by decide), if_neg (by decide), List.map_cons, List.sum_cons]; simp only [pnd]; simp; omega, h3⟩
        · cases e
          exact F _
    rw [if_neg c3] at e
    rw [if_neg (show ¬ (md = 2 ∨ md = 3) by omega), if_neg c2, List.map_cons, List.sum_cons] at h2
    unfold st4 at e
    dsimp only at e
    by_cases a1 : o.2.2.1 = 1
    · rw [if_pos a1] at e
      cases e
      have p1 : pnd o = 1 := by unfold pnd; rw [if_pos (Or.inl a1)]
      exact ⟨h1, by rw [if_pos (by decide), if_neg (by decide), List.tail_cons, l1]; omega, en _ _⟩
    rw [if_neg a1] at e
    by_cases a2 : o.2.2.1 = 2
    · rw [if_pos a2] at e
      cases e
      have p1 : pnd o = 1 := by unfold pnd; rw [if_pos (Or.inr (Or.inl a2))]
      exact ⟨h1, by rw [if_pos (by decide), if_neg (by decide), List.tail_cons, l1]; omega, en _ _⟩
    rw [if_neg a2] at e
    by_cases a3 : o.2.2.1 = 3
    · rw [if_pos a3] at e
      have p1 : pnd o = 0 := by unfold pnd; rw [if_neg (by omega), if_pos a3]
      split at e <;> cases e
      · exact ⟨t3, by rw [if_pos (by decide), if_neg (by decide), List.tail_cons]; omega, h3⟩
      · exact ⟨h1, by rw [if_neg (by decide), if_neg (by decide), List.map_cons, List.sum_cons]; omega, h3⟩
    rw [if_neg a3] at e
    by_cases a4 : o.2.2.1 = 4
    · rw [if_pos a4] at e
      have p1 : pnd o = 1 := by unfold pnd; rw [if_pos (Or.inr (Or.inr a4))]
      have p2 : pnd (o.1, o.2.1, o.2.2.1, o.2.2.2.1, o.2.2.2.2.1, o.2.2.2.2.2 + 1) = 1 := by unfold pnd; rw [if_pos (Or.inr (Or.inr a4))]
      split at e
      · cases e
        exact ⟨t3, by rw [if_neg (by decide), if_neg (by decide), List.map_cons, List.sum_cons]; omega, h3⟩
      · split at e <;> cases e
        · exact ⟨t3, by rw [if_pos (by decide), if_neg (by decide), List.tail_cons, l1]; omega, en _ _⟩
        · exact ⟨h1, by rw [if_neg (by decide), if_neg (by decide), List.map_cons, List.sum_cons]; omega, h3⟩
    rw [if_neg a4] at e
    by_cases a5 : o.2.2.1 = 5
    · rw [if_pos a5] at e
      have p1 : pnd o = o.2.2.2.2.2 + 1 := by unfold pnd; rw [if_neg (by omega), if_neg a3, if_pos a5]
      have p2 : pnd (o.1, o.2.1, o.2.2.1, o.2.2.2.1, o.2.2.2.2.1, o.2.2.2.2.2 + 1) = o.2.2.2.2.2 + 2 := by unfold pnd; dsimp only; rw [if_neg (by omega), if_neg a3, if_pos a5]
      have p3 : pnd (o.1, o.2.1, 6, o.2.2.2) = o.2.2.2.2.2 := by unfold pnd; dsimp only; rw [if_neg (by decide), if_neg (by decide), if_neg (by decide)]
      split at e
      · rename_i q
        cases e
        have := t4 (by omega)
        exact ⟨t3, by rw [if_neg (by decide), if_neg (by decide), List.map_cons, List.sum_cons]; omega, h3⟩
      · split at e <;> cases e
        · exact ⟨t3, by rw [if_neg (by decide), if_neg (by decide), List.map_cons, List.sum_cons]; omega, h3⟩
        · exact ⟨h1, by rw [if_neg (by decide), if_neg (by decide), List.map_cons, List.sum_cons, l1]; omega, en _ _⟩
    rw [if_neg a5] at e
    have p1 : pnd o = o.2.2.2.2.2 := by unfold pnd; rw [if_neg (by omega), if_neg a3, if_neg a5]
    split at e <;> cases e
    · exact ⟨t3, by rw [if_pos (by decide), if_neg (by decide), List.tail_cons, List.length_append, List.length_replicate]; omega, ev_n h3 _ _ _⟩
    · exact ⟨h1, by rw [if_neg (by decide), if_neg (by decide), List.map_cons, List.sum_cons]; omega, h3⟩
theorem pi_rn {l : List Int32} : ∀ (m : Nat) (s : Ps), PIx l s.1 s.2.2.1 s.2.2.2.1 s.2.2.2.2.2.2.2.1 → PIx l (rn l m s).1 (rn l m s).2.2.1 (rn l m s).2.2.2.1 (rn l m s).2.2.2.2.2.2.2.1 := by
  intro m
  induction m with
  | zero => intro s h; exact h
  | succ m ih =>
    intro s h
    obtain ⟨md, nx, O, i, ln, lb, fi, E, br⟩ := s
    rw [rn]
    exact ih _ (pi_st h rfl)
theorem ev_bd {l : List Int32} (m : Nat) : (rn l m s0).2.2.2.2.2.2.2.1.length ≤ 2 * l.length ∧ EvB (rn l m s0).2.2.2.2.2.2.2.1 := by
  obtain ⟨h1, h2, h3⟩ := pi_rn (l := l) m s0 ⟨Nat.zero_le _, Nat.le_refl _, fun e he => by cases he⟩
  exact ⟨by omega, h3⟩
