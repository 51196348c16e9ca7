theorem pu_le {k : Nat} (h : k < 404300) : ¬ (404300 : Int32) ≤ Int32.ofNat k := by
  rw [show (404300 : Int32) = Int32.ofNat 404300 from rfl, Int32.ofNat_le_iff_le (by decide) (by omega)]
  omega
theorem pu_ix {k : Nat} (h : k < 404300) : ixb (Int32.ofNat k) 404300 = true := by
  unfold ixb
  apply decide_eq_true
  rw [Int32.toNatClampNeg_ofNat_of_lt (by omega)]
  rintro (q | q)
  · rw [show (0 : Int32) = Int32.ofNat 0 from rfl, Int32.ofNat_lt_iff_lt (by omega) (by decide)] at q
    omega
  · omega
theorem ck_true {α : Type} {b : Bool} {x : Option α} (h : b = true) : ck b x = x := if_pos h
/-- the reference's up: -1 everywhere -/
theorem mo_loop (n : Nat) (a_size_4 : Int32) (a_parts_4 : Int32) (a_kind_n_4 : Nat) (a_kind_f_4 : Nat → Int32) (a_name_n_4 : Nat) (a_name_f_4 : Nat → Int32) (a_first_n_4 : Nat) (a_first_f_4 : Nat → Int32) (a_many_n_4 : Nat) (a_many_f_4 : Nat → Int32) (a_part_n_4 : Nat) (a_part_f_4 : Nat → Int32) (a_number_n_4 : Nat) (a_number_f_4 : Nat → Int64) (a_size_6 : Int32) (a_texted_6 : Int32) (a_text_n_6 : Nat) (a_text_f_6 : Nat → Int32) (a_from_n_6 : Nat) (a_from_f_6 : Nat → Int32) (a_next_n_6 : Nat) (a_next_f_6 : Nat → Int32) (a_first_n_6 : Nat) (a_first_f_6 : Nat → Int32) (a_n_8 : Int32) (a_at_8 : Int32) (a_behind_8 : Int32) (a_token_8 : Int32) (a_open_8 : Int32) (a_number_8 : Int64) (a_letters_8 : Int32) (a_top_8 : Int32) (a_place_8 : Int32) (a_variabled_8 : Int32) (a_known_8 : Int32) (a_rank_8 : Int32) (a_ranks_n_8 : Nat) (a_ranks_f_8 : Nat → Int32) (a_word_n_8 : Nat) (a_word_f_8 : Nat → Int32) (a_stack_n_8 : Nat) (a_stack_f_8 : Nat → Int32) (a_variables_n_8 : Nat) (a_variables_f_8 : Nat → Int32) (a_kept_n_8 : Nat) (a_kept_f_8 : Nat → Int32) (a_n_10 : Int32) (a_over_10 : Int32) (a_order_10 : Int32) (a_out_n_10 : Nat) (a_out_f_10 : Nat → Int32) (a_walk_n_10 : Nat) (a_walk_f_10 : Nat → Int32) (a_next_n_10 : Nat) (a_next_f_10 : Nat → Int32) (a_seen_n_10 : Nat) (a_seen_f_10 : Nat → Int32) : ∀ (d k kf : Nat) (f : Nat → Int32), k + d = 404300 → d < kf → p_Mo_init_169 n a_size_4 a_parts_4 a_kind_n_4 a_kind_f_4 a_name_n_4 a_name_f_4 a_first_n_4 a_first_f_4 a_many_n_4 a_many_f_4 a_part_n_4 a_part_f_4 a_number_n_4 a_number_f_4 a_size_6 a_texted_6 a_text_n_6 a_text_f_6 a_from_n_6 a_from_f_6 a_next_n_6 a_next_f_6 a_first_n_6 a_first_f_6 a_n_8 a_at_8 a_behind_8 a_token_8 a_open_8 a_number_8 a_letters_8 a_top_8 a_place_8 a_variabled_8 a_known_8 a_rank_8 a_ranks_n_8 a_ranks_f_8 a_word_n_8 a_word_f_8 a_stack_n_8 a_stack_f_8 a_variables_n_8 a_variables_f_8 a_kept_n_8 a_kept_f_8 a_n_10 a_over_10 a_order_10 a_out_n_10 a_out_f_10 a_walk_n_10 a_walk_f_10 a_next_n_10 a_next_f_10 a_seen_n_10 a_seen_f_10 kf (Int32.ofNat k) f = p_Mo_init_169 n a_size_4 a_parts_4 a_kind_n_4 a_kind_f_4 a_name_n_4 a_name_f_4 a_first_n_4 a_first_f_4 a_many_n_4 a_many_f_4 a_part_n_4 a_part_f_4 a_number_n_4 a_number_f_4 a_size_6 a_texted_6 a_text_n_6 a_text_f_6 a_from_n_6 a_from_f_6 a_next_n_6 a_next_f_6 a_first_n_6 a_first_f_6 a_n_8 a_at_8 a_behind_8 a_token_8 a_open_8 a_number_8 a_letters_8 a_top_8 a_place_8 a_variabled_8 a_known_8 a_rank_8 a_ranks_n_8 a_ranks_f_8 a_word_n_8 a_word_f_8 a_stack_n_8 a_stack_f_8 a_variables_n_8 a_variables_f_8 a_kept_n_8 a_kept_f_8 a_n_10 a_over_10 a_order_10 a_out_n_10 a_out_f_10 a_walk_n_10 a_walk_f_10 a_next_n_10 a_next_f_10 a_seen_n_10 a_seen_f_10 1 404300 (fun j => if k ≤ j ∧ j < 404300 then -1 else f j) := by
  intro d
  induction d with
  | zero =>
    intro k kf f hk hf
    obtain rfl : k = 404300 := by omega
    have e : (fun j => if 404300 ≤ j ∧ j < 404300 then (-1 : Int32) else f j) = f := funext fun j => if_neg (by omega)
    rw [e]
    cases kf with
    | zero => omega
    | succ kf =>
      rw [p_Mo_init_169, p_Mo_init_169]
      rfl
  | succ d ih =>
    intro k kf f hk hf
    cases kf with
    | zero => omega
    | succ kf =>
      have hlt : k < 404300 := by omega
      conv => lhs; rw [p_Mo_init_169]
      dsimp only
      rw [if_neg (pu_le hlt), ck_true (pu_ix hlt), Int32.toNatClampNeg_ofNat_of_lt (by omega), show Int32.ofNat k + 1 = Int32.ofNat (k + 1) from (Int32.ofNat_add k 1).symm, ih (k + 1) kf _ (by omega) (by omega)]
      congr 1
      funext j
      by_cases h1 : j = k
      · subst h1
        rw [if_neg (by omega), if_pos (by omega)]
        simp [upd]
      · by_cases h2 : k + 1 ≤ j ∧ j < 404300
        · rw [if_pos h2, if_pos (by omega)]
        · rw [if_neg h2, if_neg (by omega)]
          simp [upd, h1]
