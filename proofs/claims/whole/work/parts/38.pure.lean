theorem pure_ok {L : Nat} (xs : Nat → Int32) (hL : L ≤ 3072) : ∃ mc ms, p_Law_law pure_n L xs = some (1, mc, ms) ∧ mc ≤ 198216 ∧ ms ≤ 8501458 := by
  obtain ⟨⟨r, mc, ms⟩, e, h1, h2, h3⟩ := pure_okW xs hL
  subst h1
  exact ⟨mc, ms, e, by omega, by omega⟩
