/-! ===== the reference reads: a whole term ===== -/
theorem tk_vne (l : List Int32) (i : Nat) (h : (tkn l i).1 = 1) : (tkn l i).2.2.2.1 ≠ [] := by
  unfold tkn at h ⊢
  generalize i + sk false (l.drop i) = a at h ⊢
  cases hd : l.drop a with
  | nil => rw [hd] at h; exact nn h rfl
  | cons b t =>
    rw [hd, tk1] at h
    rw [tk1]
    by_cases qG : cG b = true
    · rw [if_pos qG, tw_cons (by unfold cW; rw [qG, Bool.or_true]; rfl), Nat.add_comm 1, List.take_succ_cons]
      simp
    rw [if_neg qG] at h
    by_cases qS : cS b = true
    · rw [if_pos qS] at h; exact nn h rfl
    rw [if_neg qS] at h
    by_cases qD : cD b = true
    · rw [if_pos qD] at h
      dsimp only at h
      by_cases z : dv 0 (b :: t) < 9007199254740992
      · rw [if_pos z] at h; exact nn h rfl
      · rw [if_neg z] at h; exact nn h rfl
    rw [if_neg qD] at h
    by_cases q39 : b = 39
    · rw [if_pos q39] at h
      cases hq : qt (t.length + 1) t with
      | none => rw [hq] at h; exact nn h rfl
      | some z => obtain ⟨w, m⟩ := z; rw [hq] at h; exact nn h rfl
    rw [if_neg q39] at h
    by_cases qY : cY b = true
    · rw [if_pos qY] at h
      by_cases z : tw cY (b :: t) = 1 ∧ b = 46 ∧ endq t = true
      · rw [if_pos z] at h; exact nn h rfl
      · rw [if_neg z] at h; exact nn h rfl
    rw [if_neg qY] at h
    by_cases q33 : b = 33 ∨ b = 59
    · rw [if_pos q33] at h; exact nn h rfl
    rw [if_neg q33] at h
    by_cases q91 : b = 91 ∧ t.head? = some 93
    · rw [if_pos q91] at h; exact nn h rfl
    rw [if_neg q91] at h
    by_cases qM : cM b = true
    · rw [if_pos qM] at h
      have h' : b.toInt.toNat = 1 := h
      unfold cM at qM
      rw [List.contains_iff_mem] at qM
      have tb : ∀ b : Int32, b ∈ [(40 : Int32), 41, 91, 93, 123, 125, 44, 124] → b.toInt.toNat ≠ 1 := by
        intro b hb
        simp only [List.mem_cons, List.not_mem_nil, or_false] at hb
        rcases hb with rfl | rfl | rfl | rfl | rfl | rfl | rfl | rfl <;> decide
      exact absurd h' (tb b qM)
    · rw [if_neg qM] at h; exact nn h rfl
theorem m_prim {l : List Int32} {f : Nat → Int32} (hM : TM l f) {X : X0} {b0 : Bs} {Z : Nat} (hZ : Z + 3 * l.length + 20 ≤ 80000) {rf : Nat → Int32} (hr : ∀ j, j < 20 → rf j = nI (RL.getD j 0)) (kno : Int32) (h93 : [91, 93] ∈ X.1) {T : TT} {d : Nat} (hT : TCl l f X b0 Z rf kno T (d + 1)) (hd : d + 1 ≤ 100) {most : Nat} (hm : 200 ≤ most) (hm2 : most ≤ 1200) {O : List Op} (hO : O.length = d) (hp : ¬ ptm O = true) {i pend lb fi : Nat} {ln : List Int32} {E : List Ev} {Y : List Rf} {W : WW} (hW : mono W) {at_ beh tok : Int32} {num : Int64} {let_ : Int32} (plc : Int32) {sz pt : Int32} {kf nf ff mf pf : Nat → Int32} {bf : Nat → Int64} {nsz ntx : Int32} {txf frf nxf fsf : Nat → Int32} {vbd : Int32} {vrf : Nat → Int32} {wf stf : Nat → Int32} (kpf : Nat → Int32) (hY : 2 * Y.length ≤ i) (hk : TKP l i at_ beh tok num let_ wf) (hE : E.length + pend ≤ 2 * i) (hV : 2 * (E.foldl ap b0).2.1.length ≤ i + 400) (hK : (E.foldl ap b0).2.2 = Y) (hD : DTP X b0 Z i E Y W sz pt kf nf ff mf pf bf nsz ntx txf frf nxf fsf vbd vrf stf) : wp (p_MoReader_primary pure_n T (nI most) (nI l.length) at_ beh tok (nI (d + 1)) num let_ (nI Y.length) plc vbd kno 0 20 rf sz pt 404300 kf 404300 nf 404300 ff 404300 mf 404300 pf 404300 bf nsz ntx 90000 txf 404301 frf 404300 nxf 1024 fsf 4096 f 4096 wf 4200 stf 4200 vrf 4096 kpf) (PQ l X b0 Z (1, most, O, i, ln, lb, fi, E, none) i (d + 1) pend Y plc W (GP O (if O = [] then (tkn l i).2.1 else fi) most)) := by
  have hl4 := hM.1
  obtain ⟨l1, l2, l3, l4, l5, l6⟩ := tk_len l hk.1
  have hk0 := hk
  have hk2 := hk.2.2.2
  have hil := hk.1
  have nr : ∀ {v : Nat}, v ∈ [1, 2, 3, 4, 5, 6, 40, 41, 91, 93, 123, 125, 44, 124] → ¬ (tkn l i).1 = v → ¬ tok = nI (rt v) := fun hv hne z => hne ((rt_eq hk2.2.2.2 hv).mp (by rw [← hk2.1]; exact z))
  have s1 : stq l (1, most, O, i, ln, lb, fi, E, none) = st1 (tkn l i) most O i ln lb fi E := by
    rw [stq_n l (by decide), stp1]
  have np : ¬ (O.length = 100 ∨ ptm O = true) := fun z => z.elim (fun z => by omega) hp
  -- what can't begin
  have BD : ¬ (tkn l i).1 = 1 → ¬ (tkn l i).1 = 2 → ¬ (tkn l i).1 = 3 → ¬ (tkn l i).1 = 40 → ¬ (tkn l i).1 = 91 → wp ((p_MoReader_bad at_ (nI l.length) at_ beh tok (nI (d + 1)) num let_ (nI Y.length) plc vbd kno 0).bind (fun a_place_13 => some ((5, (0 : Int32), at_, beh, tok, nI (d + 1), num, let_, nI Y.length, a_place_13, vbd, (0 : Int32), sz, pt, kf, nf, ff, mf, pf, bf, nsz, ntx, txf, frf, nxf, fsf, wf, stf, vrf, kpf), 0, 0))) (PQ l X b0 Z (1, most, O, i, ln, lb, fi, E, none) i (d + 1) pend Y plc W (GP O (if O = [] then (tkn l i).2.1 else fi) most)) := fun n1 n2 n3 n4 n5 => by
    unfold p_MoReader_bad
    refine wp_bs rfl (wp_some ?_)
    rw [hk.2.1]
    have st : (stq l (1, most, O, i, ln, lb, fi, E, none)).2.2.2.2.2.2.2.2 = some (tkn l i).2.1 := by
      rw [s1]
      unfold st1
      rw [if_neg np, if_neg n3, if_neg n1, if_neg n2, if_neg n4, if_neg n5]
    exact pq_bad (rq_1 l _) st (by omega) (fd_of hD hil)
  unfold p_MoReader_primary
  by_cases c1 : (tkn l i).1 = 1
  · -- a variable
    have l4 := l4 (by omega)
    obtain ⟨t1, t2, ⟨w, t3, t4, t5⟩, t6⟩ := hk2
    have tw := t5 (Or.inl c1)
    subst t3
    have wl : w.length ≤ (tkn l i).2.2.1 - (tkn l i).2.1 := by rw [tw]; exact l5
    have wne : w ≠ [] := by rw [tw]; exact tk_vne l i c1
    refine wp_it (by rw [t1, c1]; rfl) (wp_bind (dt_var hW hD (by omega) (by omega) (by omega) t4 wne (j' := (tkn l i).2.2.1) (by omega) _ _ _ _ _ _ _ _ _ _) ?_)
    rintro ⟨v, vbd', nsz', ntx', txf', frf', nxf', fsf', vrf'⟩ ⟨y, r', sz', kf', nf', mf', e1, e2, e3, e4⟩
    dsimp only at e1 e2 e3 e4 ⊢
    refine wp_bs e1 (wp_bind (rr_scan hM hk0 _ _ _ _ _ _) ?_)
    rintro ⟨at1, beh1, tok1, num1, let1, wf1⟩ hk1
    dsimp only at hk1 ⊢
    rw [tw] at e2 e3 e4
    have st : stq l (1, most, O, i, ln, lb, fi, E, none) = (3, most, (most, 0, 0, [], 0, 0) :: O, (tkn l i).2.2.1, ln, lb, (if O = [] then (tkn l i).2.1 else fi), E ++ [(none, (tkn l i).2.2.2.1, 100)], none) := by
      rw [s1]
      unfold st1
      rw [if_neg np, if_neg (by omega), if_pos c1]
    refine wp_some (pq_ok (rq_1' st) ⟨rfl, rfl, (most, 0, 0, [], 0, 0), rfl, rfl, Nat.zero_le _, rfl⟩ (by omega) hk1 ?_ ?_ ?_ (by rw [e2, hK]) e4)
    · rw [List.length_append, List.length_singleton]
      omega
    · rw [List.length_append, List.length_singleton]
      omega
    · omega
  refine wp_if (nr (by decide) c1) ?_
  by_cases c2 : (tkn l i).1 = 2
  · -- an integer
    have l4 := l4 (by omega)
    obtain ⟨y, r', sz', kf', mf', bf', e1, e2, e3, e4⟩ := dt_int hW hD (by omega) num
    refine wp_it (by rw [hk2.1, c2]; rfl) (wp_bs e1 (wp_bind (rr_scan hM hk0 _ _ _ _ _ _) ?_))
    rintro ⟨at1, beh1, tok1, num1, let1, wf1⟩ hk1
    dsimp only at hk1 ⊢
    have st : stq l (1, most, O, i, ln, lb, fi, E, none) = (3, most, (most, 0, 0, [], 0, 0) :: O, (tkn l i).2.2.1, ln, lb, (if O = [] then (tkn l i).2.1 else fi), E ++ [(some num, [], 0)], none) := by
      rw [s1]
      unfold st1
      rw [if_neg np, if_neg (by omega), if_neg c1, if_pos c2, hk2.2.1 c2]
    refine wp_some (pq_ok (rq_1' st) ⟨rfl, rfl, (most, 0, 0, [], 0, 0), rfl, rfl, Nat.zero_le _, rfl⟩ (by omega) hk1 ?_ ?_ ?_ (by rw [e2, hK]) (dt_j e4 (by omega)))
    · rw [List.length_append, List.length_singleton]
      omega
    · rw [List.length_append, List.length_singleton]
      omega
    · rw [e3]
      omega
  refine wp_if (nr (by decide) c2) ?_
  by_cases c3 : (tkn l i).1 = 3
  · exact wp_it (by rw [hk2.1, c3]; rfl) (pq_again (m_named hM hZ hr kno hT hd hm hm2 hO hp hW plc kpf hY hk0 c3 hE hV hK hD) pq_z pq_5)
  refine wp_if (nr (by decide) c3) ?_
  by_cases c4 : (tkn l i).1 = 40
  · -- in ( )
    have l4 := l4 (by omega)
    refine wp_it (by rw [hk2.1, c4]; rfl) (wp_bind (rr_scan hM hk0 _ _ _ _ _ _) ?_)
    rintro ⟨at1, beh1, tok1, num1, let1, wf1⟩ hk1
    dsimp only at hk1 ⊢
    have st : stq l (1, most, O, i, ln, lb, fi, E, none) = (1, 1200, (most, 0, 3, [91, 93], 0, 1) :: O, (tkn l i).2.2.1, ln, lb, (if O = [] then (tkn l i).2.1 else fi), E, none) := by
      rw [s1]
      unfold st1
      rw [if_neg np, if_neg c3, if_neg c1, if_neg c2, if_pos c4]
    have TC := hT 1200 ((most, 0, 3, [91, 93], 0, 1) :: O) (tkn l i).2.2.1 pend ln lb (if O = [] then (tkn l i).2.1 else fi) E Y W at1 beh1 tok1 num1 let1 plc 0 sz pt kf nf ff mf pf bf nsz ntx txf frf nxf fsf vbd vrf wf1 stf kpf (by decide) (by decide) (by rw [List.length_cons, hO]) (by rw [ptm_c]; simp) (by omega) hW hk1 (by omega) (by omega) hK (dt_j hD (by omega))
    rw [if_neg (show ¬ (most, 0, 3, [91, 93], 0, 1) :: O = [] by simp)] at TC
    refine pq_then TC (rq_1' st) ?_ (by intros; rfl)
    intro r at' beh' tok' opn' num' let' top' plc' vbd' rnk' sz' pt' kf' nf' ff' mf' pf' bf' nsz2 ntx2 txf2 frf2 nxf2 fsf2 wf' stf' vrf' kpf' s' y r' b1' b2 b3 b4 b5 b6 b7 b8 b9 b10 b11 b12 b13 b14
    obtain ⟨md2, nx2, O2, i2, ln2, lb2, fi2, E2, br2⟩ := s'
    obtain ⟨g1, g2, g3⟩ := b3
    dsimp only at b2 b4 b10 b11 b12 b13 b14 g1 g2 g3 ⊢
    rw [if_neg (by simp)] at g1
    subst b2 b5 b7 b8 b9 g1 g2
    have hi2 := b10.1
    obtain ⟨w1, w2, w3, w4, w5, w6⟩ := tk_len l hi2
    have hk3 := b10.2.2.2
    have sp4 : stq l (4, nx2, (most, 0, 3, [91, 93], 0, 1) :: O, i2, ln2, lb2, fi2, E2, none) = st4 (tkn l i2) nx2 (most, 0, 3, [91, 93], 0, 1) O i2 ln2 lb2 fi2 E2 := by
      rw [stq_n l (by decide), stp4]
    rw [al00, if_pos rfl]
    by_cases c41 : (tkn l i2).1 = 41
    · have w4 := w4 (by omega)
      refine wp_it (by rw [hk3.1, c41]; rfl) (wp_bind (rr_scan hM b10 _ _ _ _ _ _) ?_)
      rintro ⟨at3, beh3, tok3, num3, let3, wf3⟩ hk4
      dsimp only at hk4 ⊢
      have st2 : stq l (4, nx2, (most, 0, 3, [91, 93], 0, 1) :: O, i2, ln2, lb2, fi2, E2, none) = (3, nx2, (most, 0, 3, [91, 93], 0, 1) :: O, (tkn l i2).2.2.1, ln2, lb2, fi2, E2, none) := by
        rw [sp4]
        unfold st4
        rw [if_neg (by simp), if_neg (by simp), if_pos rfl, if_pos c41]
      exact wp_some (pq_ok (rq_trans b1' (rq_1' st2)) ⟨rfl, g3, (most, 0, 3, [91, 93], 0, 1), rfl, rfl, Nat.zero_le _, rfl⟩ (by omega) hk4 (by omega) (by omega) (by omega) b13 (dt_j b14 (by omega)))
    · unfold p_MoReader_bad
      refine wp_if (by rw [hk3.1]; exact fun z => c41 ((rt_eq hk3.2.2.2 (y := 41) (by decide)).mp z)) (wp_bs rfl (wp_some ?_))
      rw [b10.2.1]
      have st2 : (stq l (4, nx2, (most, 0, 3, [91, 93], 0, 1) :: O, i2, ln2, lb2, fi2, E2, none)).2.2.2.2.2.2.2.2 = some (tkn l i2).2.1 := by
        rw [sp4]
        unfold st4
        rw [if_neg (by simp), if_neg (by simp), if_pos rfl, if_neg c41]
      exact pq_bad (rq_trans b1' (rq_1 l _)) st2 (by omega) (fd_of b14 hi2)
  refine wp_if (nr (by decide) c4) ?_
  by_cases c5 : (tkn l i).1 = 41
  · exact wp_it (by rw [hk2.1, c5]; rfl) (BD c1 c2 c3 c4 (by omega))
  refine wp_if (nr (by decide) c5) ?_
  by_cases c6 : (tkn l i).1 = 91
  · exact wp_it (by rw [hk2.1, c6]; rfl) (pq_again (m_list hM hZ hr kno h93 hT hd hO hp hW plc 0 kpf hY hk0 c6 hE hV hK hD) pq_z pq_5)
  · exact wp_if (nr (by decide) c6) (BD c1 c2 c3 c4 c6)
theorem m_term {l : List Int32} {f : Nat → Int32} (hM : TM l f) {X : X0} {b0 : Bs} {Z : Nat} (hZ : Z + 3 * l.length + 20 ≤ 80000) {rf : Nat → Int32} (hr : ∀ j, j < 20 → rf j = nI (RL.getD j 0)) (kno : Int32) (h93 : [91, 93] ∈ X.1) : ∀ (dd d : Nat), 101 ≤ d + dd → d ≤ 100 → TCl l f X b0 Z rf kno (p_MoReader_term pure_n dd) d := by
  have hl4 := hM.1
  intro dd
  induction dd with
  | zero => intro d h1 h2; omega
  | succ dd ih =>
    intro d h1 h2 most O i pend ln lb fi E Y W at_ beh tok num let_ plc rnk sz pt kf nf ff mf pf bf nsz ntx txf frf nxf fsf vbd vrf wf stf kpf hm hm2 hO hp hY hW hk hE hV hK hD
    obtain ⟨l1, l2, l3, l4, l5, l6⟩ := tk_len l hk.1
    have hil := hk.1
    show wp (p_MoReader_term_b pure_n (p_MoReader_term pure_n dd) (nI most) (nI l.length) at_ beh tok (nI d) num let_ (nI Y.length) plc vbd kno rnk 20 rf sz pt 404300 kf 404300 nf 404300 ff 404300 mf 404300 pf 404300 bf nsz ntx 90000 txf 404301 frf 404300 nxf 1024 fsf 4096 f 4096 wf 4200 stf 4200 vrf 4096 kpf) _
    unfold p_MoReader_term_b
    by_cases c : d = 100
    · unfold p_MoReader_bad
      refine wp_it (by rw [c]; rfl) (wp_bs rfl (wp_some ?_))
      rw [hk.2.1]
      have st : (stq l (1, most, O, i, ln, lb, fi, E, none)).2.2.2.2.2.2.2.2 = some (tkn l i).2.1 := by
        rw [stq_n l (by decide), stp1]
        unfold st1
        rw [if_pos (Or.inl (by omega))]
      exact pq_bad (rq_1 l _) st (by omega) (fd_of hD hil)
    · refine wp_if (nI_nn (b := 100) c (by omega) (by omega)) ?_
      rw [nI_1]
      have hT := ih (d + 1) (by omega) (by omega)
      refine pq_then (m_prim hM hZ hr kno h93 hT (by omega) hm hm2 hO hp (lb := lb) (fi := fi) (ln := ln) hW plc kpf hY hk hE hV hK hD) (rq_refl l _) ?_ (by intros; rfl)
      intro r at' beh' tok' opn' num' let' top' plc' vbd' rnk' sz' pt' kf' nf' ff' mf' pf' bf' nsz2 ntx2 txf2 frf2 nxf2 fsf2 wf' stf' vrf' kpf' s' y r' b1' b2 b3 b4 b5 b6 b7 b8 b9 b10 b11 b12 b13 b14
      obtain ⟨md2, nx2, O2, i2, ln2, lb2, fi2, E2, br2⟩ := s'
      obtain ⟨g1, g2, o, g3, g4, g5, g6⟩ := b3
      dsimp only at b2 b4 b10 b11 b12 b13 b14 g1 g2 g3 g4 g5 g6 ⊢
      subst b2 b5 b7 b8 b9 g1 g3 g6
      rw [al00, if_pos rfl, ← g2]
      have hi2 := b10.1
      exact m_loop hM hZ hr kno hT (by omega) hm2 hO hW hY plc' pure_n i2 nx2 o ln2 lb2 E2 y r' at' beh' tok' num' let' (nI o.2.1) sz' pt' kf' nf' ff' mf' pf' bf' nsz2 ntx2 txf2 frf2 nxf2 fsf2 vbd' vrf' wf' stf' kpf' (by have := pure_ge; omega) b4 b1' g4 g5 b10 b11 b12 b13 b6 b14
/-! ===== the reference reads the tape ===== -/
def MRd (l : List Int32) (X : X0) (b0 : Bs) (Z : Nat) : (Int32 × Int32 × Int32 × Int32 × Int32 × Int32 × Int64 × Int32 × Int32 × Int32 × Int32 × Int32 × Int32 × Int32 × (Nat → Int32) × (Nat → Int32) × (Nat → Int32) × (Nat → Int32) × (Nat → Int32) × (Nat → Int64) × Int32 × Int32 × (Nat → Int32) × (Nat → Int32) × (Nat → Int32) × (Nat → Int32) × (Nat → Int32) × (Nat → Int32) × (Nat → Int32) × (Nat → Int32)) × Nat × Nat → Prop :=
  fun ((r, n', at', beh', tok', opn', num', let', top', plc', vbd', rnk', sz', pt', kf', nf', ff', mf', pf', bf', nsz', ntx', txf', frf', nxf', fsf', wf', stf', vrf', kpf'), mq, sk) => mq = 0 ∧ sk = 0 ∧ ∃ F, Rq l s0 F ∧ fin F ∧
    ((∃ q, q ≤ l.length ∧ F.2.2.2.2.2.2.2.2 = some q ∧ r = -1 ∧ plc' = nI q ∧ FD X b0 Z l.length sz' pt' kf' nf' ff' mf' pf' bf' nsz' ntx' txf' frf' nxf' fsf' vbd' vrf') ∨
     (F.2.2.2.2.2.2.2.2 = none ∧ 1000 < F.2.2.2.2.2.2.2.1.length ∧ r = -1 ∧ plc' = nI F.2.2.2.2.2.2.1 ∧ F.2.2.2.2.2.2.1 ≤ l.length ∧ FD X b0 Z l.length sz' pt' kf' nf' ff' mf' pf' bf' nsz' ntx' txf' frf' nxf' fsf' vbd' vrf') ∨
     (F.2.2.2.2.2.2.2.2 = none ∧ F.2.2.2.2.2.2.2.1.length ≤ 1000 ∧ ∃ y r', r = nI y ∧ y < 100000 ∧ plc' = -1 ∧ (F.2.2.2.2.2.2.2.1.foldl ap b0).2.2 = [r'] ∧ 2 * (F.2.2.2.2.2.2.2.1.foldl ap b0).2.1.length ≤ l.length + 401 ∧ DTP X b0 Z l.length F.2.2.2.2.2.2.2.1 [] (wV y r') sz' pt' kf' nf' ff' mf' pf' bf' nsz' ntx' txf' frf' nxf' fsf' vbd' vrf' stf'))
theorem mr_read {l : List Int32} {f : Nat → Int32} (hM : TM l f) {X : X0} {S0 : List Nd} {V0 : List (List Int32)} {Z : Nat} (hZ : Z + 3 * l.length + 20 ≤ 80000) {rf : Nat → Int32} (hr : ∀ j, j < 20 → rf j = nI (RL.getD j 0)) (kno : Int32) (h93 : [91, 93] ∈ X.1) {sz pt : Int32} {kf nf ff mf pf : Nat → Int32} {bf : Nat → Int64} {nsz ntx : Int32} {txf frf nxf fsf : Nat → Int32} {vbd : Int32} {vrf : Nat → Int32} (an at_ beh tok opn : Int32) (num : Int64) (let_ top plc rnk : Int32) (wf stf kpf : Nat → Int32) (hD : RD X (S0, V0, []) X.1 X.2.1 X.2.2.1 sz pt kf nf ff mf pf bf nsz ntx txf frf nxf fsf vbd vrf) (hb : X.1.flatten.length + X.1.length ≤ Z) (hm : X.2.1.length ≤ 30000) (hp : X.2.2.1 ≤ 30000) (hV : V0.length ≤ 200) : wp (p_MoReader_read pure_n (nI l.length) an at_ beh tok opn num let_ top plc vbd kno rnk 20 rf sz pt 404300 kf 404300 nf 404300 ff 404300 mf 404300 pf 404300 bf nsz ntx 90000 txf 404301 frf 404300 nxf 1024 fsf 4096 wf 4200 stf 4200 vrf 4096 kpf 4096 f) (MRd l X (S0, V0, []) Z) := by
  have hl4 := hM.1
  obtain ⟨l1, l2, l3, l4, l5, l6⟩ := tk_len l (Nat.zero_le l.length)
  unfold p_MoReader_read
  have sc := rr_scan2 hM (Nat.zero_le l.length) at_ tok 0 num let_ 0 (-1) vbd kno rnk wf
  rw [nI_0] at sc
  refine wp_bind sc ?_
  rintro ⟨at1, beh1, tok1, num1, let1, wf1⟩ hk1
  dsimp only at hk1 ⊢
  have hD0 : DTP X (S0, V0, []) Z 0 [] [] wT sz pt kf nf ff mf pf bf nsz ntx txf frf nxf fsf vbd vrf stf := ⟨X.1, X.2.1, X.2.2.1, hD, fun j r e => (by cases e), by omega, rfl, by rw [List.length_nil]; omega, ⟨Nat.le_refl _, hp⟩, trivial⟩
  have TC := m_term hM hZ hr kno h93 102 0 (by decide) (by decide) 1200 [] 0 0 [] 0 0 [] [] wT at1 beh1 tok1 num1 let1 (-1) rnk sz pt kf nf ff mf pf bf nsz ntx txf frf nxf fsf vbd vrf wf1 stf kpf (by decide) (by decide) rfl (by decide) (Nat.le_refl _) mono_T hk1 (Nat.le_refl _) (by show 2 * V0.length ≤ 0 + 400; omega) rfl hD0
  rw [List.length_nil, nI_0, if_pos rfl] at TC
  refine wp_bind TC ?_
  rintro ⟨⟨xc, r, at', beh', tok', opn', num', let', top', plc', vbd', rnk', sz', pt', kf', nf', ff', mf', pf', bf', nsz', ntx', txf', frf', nxf', fsf', wf', stf', vrf', kpf'⟩, mq, sk⟩ ⟨m1, m2, h⟩
  try dsimp only at m1 m2 h
  subst m1 m2
  rcases h with ⟨rfl, s', y, r', a1, a2, a3, a4, a5, a6, a7, a8, a9, a10, a11, a12, a13, a14⟩ | ⟨rfl, q, s', a1, a2, a3, a4, a5⟩
  · obtain ⟨md2, nx2, O2, i2, ln2, lb2, fi2, E2, br2⟩ := s'
    obtain ⟨g1, g2, g3⟩ := a3
    dsimp only at a1 a2 a4 a5 a7 a8 a9 a10 a11 a12 a13 a14 g1 g2 g3 ⊢
    rw [if_pos rfl] at g1
    subst a2 a5 a7 a8 g1 g2 g3
    have hi2 := a10.1
    obtain ⟨w1, w2, w3, w4, w5, w6⟩ := tk_len l hi2
    have hk3 := a10.2.2.2
    rw [al00, if_pos rfl]
    have sp5 : stq l (5, nx2, [], i2, ln2, lb2, (tkn l 0).2.1, E2, none) = (if (tkn l i2).1 = 4 then (6, nx2, [], (tkn l i2).2.2.1, ln2, lb2, (tkn l 0).2.1, E2, none) else (5, nx2, [], i2, ln2, lb2, (tkn l 0).2.1, E2, some (tkn l i2).2.1)) := by
      rw [stq_n l (by decide), stp5]
    by_cases c4 : (tkn l i2).1 = 4
    · have w4 := w4 (by omega)
      rw [if_pos c4] at sp5
      refine wp_it (by rw [hk3.1, c4]; rfl) (wp_bind (rr_scan hM a10 _ _ _ _ _ _) ?_)
      rintro ⟨at3, beh3, tok3, num3, let3, wf3⟩ hk4
      dsimp only at hk4 ⊢
      obtain ⟨v1, v2, v3, v4, v5, v6⟩ := tk_len l w3
      have hk5 := hk4.2.2.2
      have sp6 : stq l (6, nx2, [], (tkn l i2).2.2.1, ln2, lb2, (tkn l 0).2.1, E2, none) = (if (tkn l (tkn l i2).2.2.1).1 = 5 then (7, nx2, [], (tkn l (tkn l i2).2.2.1).2.2.1, ln2, lb2, (tkn l 0).2.1, E2, none) else (6, nx2, [], (tkn l i2).2.2.1, ln2, lb2, (tkn l 0).2.1, E2, some (tkn l (tkn l i2).2.2.1).2.1)) := by
        rw [stq_n l (by decide), stp6]
      by_cases c5 : (tkn l (tkn l i2).2.2.1).1 = 5
      · rw [if_pos c5] at sp6
        refine wp_it (by rw [hk5.1, c5]; rfl) ?_
        have rs : Rq l s0 (7, nx2, [], (tkn l (tkn l i2).2.2.1).2.2.1, ln2, lb2, (tkn l 0).2.1, E2, none) := rq_trans a1 (rq_trans (rq_1' sp5) (rq_1' sp6))
        have e0 : sz = nI X.2.1.length := hD.1.1
        have e1 : sz' = nI (X.2.1.length + E2.length) := by
          obtain ⟨TR, M, P, d1, d2, d3, d4, d5⟩ := a14
          rw [d1.1.1, d4]
        have ed : sz' - sz = nI E2.length := by
          rw [e0, e1, pk_sub (by omega), Nat.add_sub_cancel_left]
        rw [ed]
        by_cases c6 : E2.length ≤ 1000
        · refine wp_it (show nI E2.length ≤ 1000 from nI_le (b := 1000) c6 (by omega)) (wp_some ⟨rfl, rfl, _, rs, Or.inr (Nat.le_refl _), Or.inr (Or.inr ⟨rfl, c6, y, r', rfl, a6, rfl, a13, ?_, ?_⟩)⟩)
          · dsimp only
            omega
          · exact dt_j (dt_W a14 (fun TR M h => h.1)) hi2
        · unfold p_MoReader_bad
          refine wp_if (show ¬ nI E2.length ≤ 1000 from nI_ge (a := 1000) (by omega) (by omega)) (wp_bs rfl (wp_some ⟨rfl, rfl, _, rs, Or.inr (Nat.le_refl _), Or.inr (Or.inl ⟨rfl, by dsimp only; omega, rfl, hk1.2.1, by dsimp only; omega, fd_of a14 hi2⟩)⟩))
      · rw [if_neg c5] at sp6
        unfold p_MoReader_bad
        refine wp_if (by rw [hk5.1]; exact fun z => c5 ((rt_eq hk5.2.2.2 (y := 5) (by decide)).mp z)) (wp_bs rfl (wp_some ⟨rfl, rfl, _, rq_trans a1 (rq_trans (rq_1' sp5) (rq_1' sp6)), Or.inl (by simp), Or.inl ⟨(tkn l (tkn l i2).2.2.1).2.1, by omega, rfl, rfl, hk4.2.1, fd_of a14 hi2⟩⟩))
    · rw [if_neg c4] at sp5
      unfold p_MoReader_bad
      refine wp_if (by rw [hk3.1]; exact fun z => c4 ((rt_eq hk3.2.2.2 (y := 4) (by decide)).mp z)) (wp_bs rfl (wp_some ⟨rfl, rfl, _, rq_trans a1 (rq_1' sp5), Or.inl (by simp), Or.inl ⟨(tkn l i2).2.1, by omega, rfl, rfl, a10.2.1, fd_of a14 hi2⟩⟩))
  · dsimp only
    rw [al00, if_neg (show ¬ (5 : Nat) = 0 by decide), if_pos rfl]
    exact wp_some ⟨rfl, rfl, s', a1, Or.inl (by rw [a2]; simp), Or.inl ⟨q, a3, a2, rfl, a4, a5⟩⟩
/-! ===== the reference's read ===== -/
def NDm (M : List Rf) (V : List (List Int32)) (ndf : Nat → Int32) : Prop := ∀ v, v < V.length → ∃ x : Nat, ndf v = nI x ∧ M[x]? = some (true, v)
theorem rb_rt {TR U : List (List Int32)} {S : List Nd} {M : List Rf} {P : Nat} {sz pt : Int32} {kf nf ff mf pf kf' nf' ff' mf' pf' : Nat → Int32} {bf bf' : Nat → Int64} (h : RT TR S M P sz pt kf nf ff mf pf bf) (u : UC (TR, M, P, kf, nf, ff, mf, pf, bf) kf' nf' ff' mf' pf' bf') : RT (TR ++ U) S M P sz pt kf' nf' ff' mf' pf' bf' := by
  obtain ⟨h1, h2, h3, h4, h5, h6⟩ := h
  refine ⟨h1, h2, h3, h4, fun x r e => ?_, h6⟩
  obtain ⟨hx, _⟩ := List.getElem?_eq_some_iff.mp e
  obtain ⟨a1, a2, a3, a4, a5⟩ := u.1 x hx
  have := rx_mono (U := U) (S2 := []) (M2 := []) (h5 x r e) (Nat.le_refl _) a1 a2 a3 a4 a5 u.2
  rw [List.append_nil, List.append_nil] at this
  exact this
theorem rv_pre {TR V W : List (List Int32)} {vbd : Int32} {vrf : Nat → Int32} (h : RV TR (V ++ W) vbd vrf) : RV TR V (nI V.length) vrf := by
  obtain ⟨h1, h2, h3⟩ := h
  rw [List.length_append] at h2
  refine ⟨rfl, by omega, fun i w e => h3 i w ?_⟩
  obtain ⟨hi, _⟩ := List.getElem?_eq_some_iff.mp e
  rw [List.getElem?_append_left hi]
  exact e
theorem r_156 (rr rsz : Int32) (rgf : Nat → Int32) (r3 rn : Int32) (at' beh' tok' opn' : Int32) (num' : Int64) (let' top' plc' vbd' rnk' sz' pt' : Int32) (kf' nf' ff' mf' pf' : Nat → Int32) (bf' : Nat → Int64) (nsz' ntx' : Int32) (txf' frf' nxf' fsf' wf' stf' vrf' kpf' : Nat → Int32) {v0 v1 : Nat} (hv1 : v1 ≤ 4200) (hvb : vbd' = nI v1) : ∀ (m v f : Nat) (bcf ndf bcf0 ndf0 : Nat → Int32), v + m = v1 → v0 ≤ v → m < f → (∀ u, (u < v0 ∨ v1 ≤ u → bcf u = bcf0 u ∧ ndf u = ndf0 u) ∧ (v0 ≤ u → u < v → bcf u = -1 ∧ ndf u = -1)) → ∃ bcf' ndf', p_Mo_read_156 pure_n rr rsz 404300 404300 8 rgf 4300 4300 r3 rn at' beh' tok' opn' num' let' top' plc' vbd' rnk' sz' pt' kf' nf' ff' mf' pf' bf' nsz' ntx' txf' frf' nxf' fsf' wf' stf' vrf' kpf' f (nI v) bcf ndf = p_Mo_read_193 pure_n rr rsz 404300 404300 8 rgf 4300 r3 rn at' beh' tok' opn' num' let' top' plc' vbd' rnk' sz' pt' kf' nf' ff' mf' pf' bf' nsz' ntx' txf' frf' nxf' fsf' wf' stf' vrf' kpf' bcf' pure_n rsz ndf' ∧ (∀ u, (u < v0 ∨ v1 ≤ u → bcf' u = bcf0 u ∧ ndf' u = ndf0 u) ∧ (v0 ≤ u → u < v1 → bcf' u = -1 ∧ ndf' u = -1)) := by
  intro m
  induction m with
  | zero =>
    intro v f bcf ndf bcf0 ndf0 hv h0 hf hI
    obtain ⟨f, rfl⟩ : ∃ z, f = z + 1 := ⟨f - 1, by omega⟩
    obtain rfl : v = v1 := by omega
    refine ⟨bcf, ndf, ?_, hI⟩
    rw [p_Mo_read_156, if_pos (by rw [hvb]; exact nI_le (Nat.le_refl _) (by omega))]
  | succ m ih =>
    intro v f bcf ndf bcf0 ndf0 hv h0 hf hI
    obtain ⟨f, rfl⟩ : ∃ z, f = z + 1 := ⟨f - 1, by omega⟩
    rw [p_Mo_read_156, if_neg (by rw [hvb]; exact nI_ge (by omega) (by omega)), ck_t (ixb_t (by omega) (by omega)), ck_t (ixb_t (by omega) (by omega)), nI_1, nI_clamp (by omega)]
    refine ih (v + 1) f _ _ bcf0 ndf0 (by omega) (by omega) (by omega) (fun u => ⟨fun hu => ?_, fun a b => ?_⟩)
    · rw [pk_un (by omega), pk_un (by omega)]
      exact (hI u).1 hu
    · by_cases q : u = v
      · subst q
        rw [pk_us, pk_us]
        exact ⟨rfl, rfl⟩
      · rw [pk_un q, pk_un q]
        exact (hI u).2 a (by omega)
/-- what read leaves: r, thrown, place, and the node's rows -/
theorem r_193 {g : Nat} (hg : g < 8) {rsz : Int32} (rgf : Nat → Int32) (r3 rn : Int32) (at' beh' tok' opn' : Int32) (num' : Int64) (let' top' plc' vbd' rnk' sz' pt' : Int32) (kf' nf' ff' mf' pf' : Nat → Int32) (bf' : Nat → Int64) (nsz' ntx' : Int32) (txf' frf' nxf' fsf' wf' stf' vrf' kpf' : Nat → Int32) (bcf : Nat → Int32) {TR : List (List Int32)} {S : List Nd} {M0 W : List Rf} {P : Nat} {V0 V : List (List Int32)} (hRT : RT TR S (M0 ++ W) P sz' pt' kf' nf' ff' mf' pf' bf') (hrs : rsz = nI M0.length) (hOC : OC (M0 ++ W) V) (hOC0 : OC M0 V0) (hV : V.length ≤ 4190) (hV0 : V0.length ≤ V.length) : ∀ (m x f : Nat) (ndf : Nat → Int32), x + m = (M0 ++ W).length → M0.length ≤ x → m < f → NDm M0 V0 ndf → (∀ v, V0.length ≤ v → v < V.length → (ndf v = -1 ∧ ∀ x', M0.length ≤ x' → x' < x → (M0 ++ W)[x']? ≠ some (true, v)) ∨ ∃ x', ndf v = nI x' ∧ (M0 ++ W)[x']? = some (true, v)) → ∃ ndf', p_Mo_read_193 pure_n (nI g) rsz 404300 404300 8 rgf 4300 r3 rn at' beh' tok' opn' num' let' top' plc' vbd' rnk' sz' pt' kf' nf' ff' mf' pf' bf' nsz' ntx' txf' frf' nxf' fsf' wf' stf' vrf' kpf' bcf f (nI x) ndf = some ((nI W.length, 0, 0, plc', sz', pt', kf', nf', ff', mf', pf', bf', nsz', ntx', txf', frf', nxf', fsf', rn, at', beh', tok', opn', num', let', top', plc', vbd', rnk', wf', stf', vrf', kpf', upd rgf g r3, bcf, ndf'), 0, 0) ∧ NDm (M0 ++ W) V ndf' := by
  have hsz := hRT.1
  have hml := hRT.2.2.1
  have lM : (M0 ++ W).length = M0.length + W.length := List.length_append
  intro m
  induction m with
  | zero =>
    intro x f ndf hx h0 hf hN hI
    obtain ⟨f, rfl⟩ : ∃ z, f = z + 1 := ⟨f - 1, by omega⟩
    refine ⟨ndf, ?_, fun v hv => ?_⟩
    · rw [p_Mo_read_193, if_pos (by rw [hsz]; exact nI_le (by omega) (by omega)), ck_t (ixb_t hg (by omega)), nI_clamp (by omega), hsz, hrs, pk_sub (by omega), lM, Nat.add_sub_cancel_left]
    · by_cases q : v < V0.length
      · obtain ⟨x', e1, e2⟩ := hN v q
        obtain ⟨hx', _⟩ := List.getElem?_eq_some_iff.mp e2
        exact ⟨x', e1, by rw [List.getElem?_append_left hx']; exact e2⟩
      · rcases hI v (by omega) hv with ⟨z1, z2⟩ | z
        · exfalso
          obtain ⟨x', e⟩ := hOC.1 v hv
          obtain ⟨hx', _⟩ := List.getElem?_eq_some_iff.mp e
          by_cases q2 : x' < M0.length
          · have e' := e
            rw [List.getElem?_append_left q2] at e'
            have := hOC0.2 x' v e'
            omega
          · exact z2 x' (by omega) (by omega) e
        · exact z
  | succ m ih =>
    intro x f ndf hx h0 hf hN hI
    obtain ⟨f, rfl⟩ : ∃ z, f = z + 1 := ⟨f - 1, by omega⟩
    have hxl : x < (M0 ++ W).length := by omega
    have ex : (M0 ++ W)[x]? = some (M0 ++ W)[x] := List.getElem?_eq_getElem hxl
    rw [p_Mo_read_193, if_neg (by rw [hsz]; exact nI_ge (by omega) (by omega)), ck_t (ixb_t (by omega) (by omega)), nI_clamp (n := x) (by omega), nI_1]
    have hX := hRT.2.2.2.2.1 x _ ex
    -- the next one
    have NX : ∀ (nd' : Nat → Int32), NDm M0 V0 nd' → (∀ v, V0.length ≤ v → v < V.length → (nd' v = -1 ∧ (ndf v = -1 ∧ (M0 ++ W)[x] ≠ (true, v))) ∨ ∃ x', nd' v = nI x' ∧ (M0 ++ W)[x']? = some (true, v)) → ∃ ndf', p_Mo_read_193 pure_n (nI g) rsz 404300 404300 8 rgf 4300 r3 rn at' beh' tok' opn' num' let' top' plc' vbd' rnk' sz' pt' kf' nf' ff' mf' pf' bf' nsz' ntx' txf' frf' nxf' fsf' wf' stf' vrf' kpf' bcf f (nI (x + 1)) nd' = some ((nI W.length, 0, 0, plc', sz', pt', kf', nf', ff', mf', pf', bf', nsz', ntx', txf', frf', nxf', fsf', rn, at', beh', tok', opn', num', let', top', plc', vbd', rnk', wf', stf', vrf', kpf', upd rgf g r3, bcf, ndf'), 0, 0) ∧ NDm (M0 ++ W) V ndf' := fun nd' a1 a2 => by
      refine ih (x + 1) f nd' (by omega) (by omega) (by omega) a1 (fun v hv1 hv2 => ?_)
      rcases a2 v hv1 hv2 with ⟨z1, z2, z3⟩ | z
      · rcases hI v hv1 hv2 with ⟨w1, w2⟩ | ⟨x', w1, w2⟩
        · refine Or.inl ⟨z1, fun x' b1 b2 => ?_⟩
          by_cases q : x' = x
          · subst q
            rw [ex]
            exact fun e => z3 (by injection e)
          · exact w2 x' b1 (by omega)
        · exfalso
          have : ¬ nI x' = -1 := nm1 (by
            obtain ⟨hx', _⟩ := List.getElem?_eq_some_iff.mp w2
            omega)
          exact this (by rw [← w1]; exact z2)
      · exact Or.inr z
    rcases hX with ⟨x1, x2, x3, x4⟩ | ⟨x1, d, x2, x3⟩
    · -- a variable
      have ev : (M0 ++ W)[x] = (true, (M0 ++ W)[x].2) := by rw [← x1]
      have hv := hOC.2 x (M0 ++ W)[x].2 (by rw [ex, ← ev])
      rw [if_pos x2, ck_t (ixb_t (by omega) (by omega)), x3, nI_clamp (n := (M0 ++ W)[x].2) (by omega), ck_t (ixb_t (by omega) (by omega))]
      by_cases c : ndf (M0 ++ W)[x].2 = -1
      · rw [if_pos c, ck_t (ixb_t (by omega) (by omega)), ck_t (ixb_t (by omega) (by omega))]
        refine NX _ (fun v hv' => ?_) (fun v hv1 hv2 => ?_)
        · have : v ≠ (M0 ++ W)[x].2 := fun z => by
            obtain ⟨x', e1, e2⟩ := hN v hv'
            rw [z, c] at e1
            obtain ⟨hx', _⟩ := List.getElem?_eq_some_iff.mp e2
            exact nm1 (by omega) e1.symm
          rw [pk_un this]
          exact hN v hv'
        · by_cases q : v = (M0 ++ W)[x].2
          · subst q
            rw [pk_us]
            exact Or.inr ⟨x, rfl, by rw [ex, ← ev]⟩
          · rw [pk_un q]
            rcases hI v hv1 hv2 with ⟨w1, w2⟩ | w
            · exact Or.inl ⟨w1, w1, fun z => q (by rw [z])⟩
            · exact Or.inr w
      · rw [if_neg c]
        refine NX _ hN (fun v hv1 hv2 => ?_)
        rcases hI v hv1 hv2 with ⟨w1, w2⟩ | w
        · exact Or.inl ⟨w1, w1, fun z => c (by rw [z]; exact w1)⟩
        · exact Or.inr w
    · -- none
      have nk : ¬ kf' x = 0 := by
        rcases x3 with ⟨z, _, _, x4, _⟩ | ⟨_, x4, _⟩
        · rw [x4]; decide
        · rw [x4]; decide
      rw [if_neg nk]
      refine NX _ hN (fun v hv1 hv2 => ?_)
      rcases hI v hv1 hv2 with ⟨w1, w2⟩ | w
      · exact Or.inl ⟨w1, w1, fun z => by rw [z] at x1; cases x1⟩
      · exact Or.inr w
/-! ===== what read leaves on the reference's side ===== -/
/-- all is as before, but names may be more -/
def RBk (TR0 : List (List Int32)) (S0 : List Nd) (V0 : List (List Int32)) (M0 : List Rf) (P0 Z L : Nat) (sz pt : Int32) (kf nf ff mf pf : Nat → Int32) (bf : Nat → Int64) (nsz ntx : Int32) (txf frf nxf fsf : Nat → Int32) (vbd : Int32) (vrf : Nat → Int32) : Prop := ∃ U, RT (TR0 ++ U) S0 M0 P0 sz pt kf nf ff mf pf bf ∧ MM (TR0 ++ U) nsz ntx txf frf nxf fsf ∧ RV (TR0 ++ U) V0 vbd vrf ∧ (TR0 ++ U).flatten.length + (TR0 ++ U).length ≤ Z + 3 * L
/-- broken at p -/
def BRK (F : Ps) (p : Nat) : Prop := F.2.2.2.2.2.2.2.2 = some p ∨ (F.2.2.2.2.2.2.2.2 = none ∧ 1000 < F.2.2.2.2.2.2.2.1.length ∧ p = F.2.2.2.2.2.2.1)
def MOr (l : List Int32) (g : Nat) (TR0 : List (List Int32)) (S0 : List Nd) (V0 : List (List Int32)) (M0 : List Rf) (P0 Z : Nat) (rgf bcf ndf : Nat → Int32) : (Int32 × Int32 × Int32 × Int32 × Int32 × Int32 × (Nat → Int32) × (Nat → Int32) × (Nat → Int32) × (Nat → Int32) × (Nat → Int32) × (Nat → Int64) × Int32 × Int32 × (Nat → Int32) × (Nat → Int32) × (Nat → Int32) × (Nat → Int32) × Int32 × Int32 × Int32 × Int32 × Int32 × Int64 × Int32 × Int32 × Int32 × Int32 × Int32 × (Nat → Int32) × (Nat → Int32) × (Nat → Int32) × (Nat → Int32) × (Nat → Int32) × (Nat → Int32) × (Nat → Int32)) × Nat × Nat → Prop :=
  fun ((r, thr', tap', pla', sz', pt', kf', nf', ff', mf', pf', bf', nsz', ntx', txf', frf', nxf', fsf', rn', at', beh', tok', opn', num', let', top', rpl', vbd', rnk', wf', stf', vrf', kpf', rgf', bcf', ndf'), mq, sk) => mq = 0 ∧ sk = 0 ∧ tap' = 0 ∧ ∃ F, Rq l s0 F ∧ fin F ∧
    ((∃ p, p ≤ l.length ∧ BRK F p ∧ thr' = 2 ∧ pla' = nI p ∧ RBk TR0 S0 V0 M0 P0 Z l.length sz' pt' kf' nf' ff' mf' pf' bf' nsz' ntx' txf' frf' nxf' fsf' vbd' vrf' ∧ rgf' = rgf ∧ bcf' = bcf ∧ ndf' = ndf) ∨
     (F.2.2.2.2.2.2.2.2 = none ∧ F.2.2.2.2.2.2.2.1.length ≤ 1000 ∧ 200 < (F.2.2.2.2.2.2.2.1.foldl ap (S0, V0, [])).2.1.length ∧ thr' = 3 ∧ pla' = -1 ∧ RBk TR0 S0 V0 M0 P0 Z l.length sz' pt' kf' nf' ff' mf' pf' bf' nsz' ntx' txf' frf' nxf' fsf' vbd' vrf' ∧ rgf' = rgf ∧ bcf' = bcf ∧ ndf' = ndf) ∨
     (F.2.2.2.2.2.2.2.2 = none ∧ F.2.2.2.2.2.2.2.1.length ≤ 1000 ∧ (F.2.2.2.2.2.2.2.1.foldl ap (S0, V0, [])).2.1.length ≤ 200 ∧ thr' = 0 ∧ pla' = -1 ∧ r = nI F.2.2.2.2.2.2.2.1.length ∧ ∃ y r' U W P', (F.2.2.2.2.2.2.2.1.foldl ap (S0, V0, [])).2.2 = [r'] ∧ (M0 ++ W)[y]? = some r' ∧ rgf' = upd rgf g (nI y) ∧ W.length = F.2.2.2.2.2.2.2.1.length ∧ P' + 1 ≤ P0 + F.2.2.2.2.2.2.2.1.length ∧ RT (TR0 ++ U) (F.2.2.2.2.2.2.2.1.foldl ap (S0, V0, [])).1 (M0 ++ W) P' sz' pt' kf' nf' ff' mf' pf' bf' ∧ MM (TR0 ++ U) nsz' ntx' txf' frf' nxf' fsf' ∧ RV (TR0 ++ U) (F.2.2.2.2.2.2.2.1.foldl ap (S0, V0, [])).2.1 vbd' vrf' ∧ (TR0 ++ U).flatten.length + (TR0 ++ U).length ≤ Z + 3 * l.length ∧ OC (M0 ++ W) (F.2.2.2.2.2.2.2.1.foldl ap (S0, V0, [])).2.1 ∧ NDm (M0 ++ W) (F.2.2.2.2.2.2.2.1.foldl ap (S0, V0, [])).2.1 ndf' ∧ (∀ u, (u < V0.length → bcf' u = bcf u) ∧ (V0.length ≤ u → u < (F.2.2.2.2.2.2.2.1.foldl ap (S0, V0, [])).2.1.length → bcf' u = -1))))
theorem mo_read {l : List Int32} {f : Nat → Int32} (hM : TM l f) {TR0 : List (List Int32)} {S0 : List Nd} {V0 : List (List Int32)} {M0 : List Rf} {P0 Z : Nat} (hZ : Z + 3 * l.length + 20 ≤ 80000) {rf : Nat → Int32} (hr : ∀ j, j < 20 → rf j = nI (RL.getD j 0)) (kno : Int32) (h93 : [91, 93] ∈ TR0) {sz pt : Int32} {kf nf ff mf pf : Nat → Int32} {bf : Nat → Int64} {nsz ntx : Int32} {txf frf nxf fsf : Nat → Int32} {vbd : Int32} {vrf : Nat → Int32} (thr pla res mks tou pai rn at_ beh tok opn : Int32) (num : Int64) (let_ top plc rnk : Int32) (wf stf kpf rgf bcf ndf : Nat → Int32) (hRT : RT TR0 S0 M0 P0 sz pt kf nf ff mf pf bf) (hMM : MM TR0 nsz ntx txf frf nxf fsf) (hRV : RV TR0 V0 vbd vrf) (hOC : OC M0 V0) (hND : NDm M0 V0 ndf) (hb : TR0.flatten.length + TR0.length ≤ Z) (hm : M0.length ≤ 30000) (hp : P0 ≤ 30000) (hV : V0.length ≤ 200) {g : Nat} (hg : g < 8) : wp (p_Mo_read pure_n (nI g) thr (nI l.length) pla res mks tou pai 4096 f sz pt 404300 kf 404300 nf 404300 ff 404300 mf 404300 pf 404300 bf nsz ntx 90000 txf 404301 frf 404300 nxf 1024 fsf rn at_ beh tok opn num let_ top plc vbd kno rnk 20 rf 4096 wf 4200 stf 4200 vrf 4096 kpf 8 rgf 4300 bcf 4300 ndf) (MOr l g TR0 S0 V0 M0 P0 Z rgf bcf ndf) := by
  have hl4 := hM.1
  have hno : p_Mo_none (nI g) = some 0 := by
    unfold p_Mo_none
    rw [if_neg (nI_pos (by omega)), if_pos (show nI g ≤ 7 from nI_le (b := 7) (by omega) (by omega))]
  have hvb : vbd = nI V0.length := hRV.1
  unfold p_Mo_read
  refine wp_bs hno (wp_it rfl (wp_bind (mr_read hM (X := (TR0, M0, P0, kf, nf, ff, mf, pf, bf)) (S0 := S0) (V0 := V0) hZ hr kno h93 rn at_ beh tok opn num let_ top plc rnk wf stf kpf ⟨hRT, hMM, hRV, ⟨[], by rw [List.append_nil]⟩, ⟨[], by rw [List.append_nil]⟩, Nat.le_refl _, ⟨fun x _ => ⟨rfl, rfl, rfl, rfl, rfl⟩, fun j _ => rfl⟩, hOC⟩ hb hm hp hV) ?_))
  rintro ⟨⟨r, n', at', beh', tok', opn', num', let', top', plc', vbd', rnk', sz', pt', kf', nf', ff', mf', pf', bf', nsz', ntx', txf', frf', nxf', fsf', wf', stf', vrf', kpf'⟩, mq, sk⟩ ⟨m1, m2, F, f1, f2, h⟩
  dsimp only at m1 m2 h ⊢
  subst m1 m2
  rw [al00]
  -- back
  have RB : FD (TR0, M0, P0, kf, nf, ff, mf, pf, bf) (S0, V0, []) Z l.length sz' pt' kf' nf' ff' mf' pf' bf' nsz' ntx' txf' frf' nxf' fsf' vbd' vrf' → RBk TR0 S0 V0 M0 P0 Z l.length sz pt kf' nf' ff' mf' pf' bf' nsz' ntx' txf' frf' nxf' fsf' vbd vrf' := fun ⟨b, TR, M, P, ⟨d1, d2, d3, ⟨U, d4⟩, d5, d6, d7, d8⟩, e1, ⟨W, e2⟩, e3⟩ => by
    dsimp only at d4
    subst d4
    rw [e2] at d3
    exact ⟨U, rb_rt hRT d7, d2, by rw [hvb]; exact rv_pre d3, e3⟩
  rcases h with ⟨q, h1, h2, rfl, h4, h5⟩ | ⟨h1, h2, rfl, h4, h5, h6⟩ | ⟨h1, h2, y, r', rfl, h4, h5, h6, h7, h8⟩
  · refine wp_it rfl ?_
    unfold p_Mo_read_110 p_Mo_fail
    exact wp_it rfl (wp_bs rfl (wp_some ⟨rfl, rfl, rfl, F, f1, f2, Or.inl ⟨q, h1, Or.inl h2, rfl, h4, RB h5, rfl, rfl, rfl⟩⟩))
  · refine wp_it rfl ?_
    unfold p_Mo_read_110 p_Mo_fail
    exact wp_it rfl (wp_bs rfl (wp_some ⟨rfl, rfl, rfl, F, f1, f2, Or.inl ⟨F.2.2.2.2.2.2.1, h5, Or.inr ⟨h1, h2, rfl⟩, rfl, h4, RB h6, rfl, rfl, rfl⟩⟩))
  · refine wp_if (nm1 (by omega)) ?_
    have hfd := fd_of (L := l.length) h8 (Nat.le_refl _)
    obtain ⟨TR, M, P, ⟨d1, d2, d3, ⟨U, d4⟩, ⟨W, d5⟩, d6, d7, d8⟩, e1, e2, e3, e4, e5, e6⟩ := h8
    dsimp only at d4 d5 e3 e5
    subst d4 d5
    have hvl := d3.2.1
    have hv3 : vbd' = nI (F.2.2.2.2.2.2.2.1.foldl ap (S0, V0, [])).2.1.length := d3.1
    have eW : W.length = F.2.2.2.2.2.2.2.1.length := by
      rw [List.length_append] at e3
      omega
    by_cases c : 200 < (F.2.2.2.2.2.2.2.1.foldl ap (S0, V0, [])).2.1.length
    · refine wp_it (by rw [hv3]; exact nI_lt (a := 200) c (by omega)) ?_
      unfold p_Mo_read_110 p_Mo_fail
      exact wp_if (nm1 (by omega)) (wp_bs rfl (wp_some ⟨rfl, rfl, rfl, F, f1, f2, Or.inr (Or.inl ⟨h1, h2, c, rfl, h5, RB hfd, rfl, rfl, rfl⟩)⟩))
    · refine wp_if (by rw [hv3]; exact nI_nlt (a := 200) (by omega) (by omega)) (wp_it (by rw [d1.1]; exact nI_le (b := 400001) (by omega) (by omega)) ?_)
      have hVV : V0.length ≤ (F.2.2.2.2.2.2.2.1.foldl ap (S0, V0, [])).2.1.length := by
        obtain ⟨_, W2, w2⟩ := fold_ext (S0, V0, []) F.2.2.2.2.2.2.2.1 (S0, V0, []) ⟨⟨[], by rw [List.append_nil]⟩, [], by rw [List.append_nil]⟩
        rw [w2, List.length_append]
        dsimp only
        omega
      obtain ⟨bc2, nd2, g1, g2⟩ := r_156 (nI g) sz rgf (nI y) n' at' beh' tok' opn' num' let' top' plc' vbd' rnk' sz' pt' kf' nf' ff' mf' pf' bf' nsz' ntx' txf' frf' nxf' fsf' wf' stf' vrf' kpf' (v0 := V0.length) (v1 := (F.2.2.2.2.2.2.2.1.foldl ap (S0, V0, [])).2.1.length) (by omega) hv3 ((F.2.2.2.2.2.2.2.1.foldl ap (S0, V0, [])).2.1.length - V0.length) V0.length pure_n bcf ndf bcf ndf (by omega) (Nat.le_refl _) (by have := pure_ge; omega) (fun u => ⟨fun _ => ⟨rfl, rfl⟩, fun a b => absurd b (by omega)⟩)
      rw [← hvb] at g1
      rw [g1, hRT.1]
      obtain ⟨nd3, g3, g4⟩ := r_193 hg rgf (nI y) n' at' beh' tok' opn' num' let' top' plc' vbd' rnk' sz' pt' kf' nf' ff' mf' pf' bf' nsz' ntx' txf' frf' nxf' fsf' wf' stf' vrf' kpf' bc2 d1 (rsz := nI M0.length) rfl d8 hOC (by omega) hVV W.length M0.length pure_n nd2 (by rw [List.length_append]) (Nat.le_refl _) (by have := pure_ge; omega) (fun v hv => by rw [((g2 v).1 (Or.inl hv)).2]; exact hND v hv) (fun v a b => Or.inl ⟨((g2 v).2 a b).2, fun x' z1 z2 => absurd z2 (by omega)⟩)
      rw [g3]
      refine wp_some ⟨rfl, rfl, rfl, F, f1, f2, Or.inr (Or.inr ⟨h1, h2, by omega, rfl, h5, by rw [eW], y, r', U, W, P, h6, e6, rfl, eW, ?_, d1, d2, d3, e2, d8, g4, fun u => ⟨fun a => ((g2 u).1 (Or.inl a)).1, fun a b => ((g2 u).2 a b).1⟩⟩)⟩
      rw [h6] at e5
      exact e5.1
/-! ===== the class keeps what was read, or forgets it ===== -/
theorem nm_back {T W : List (List Int32)} {w : List Int32} {x : Int32} (h : nm (T ++ W) w x) (hN : (T ++ W).Nodup) {j : Nat} (hj : j < T.length) (e : T.getD j [] = w) : nm T w x := by
  obtain ⟨k, h1, h2, h3⟩ := h
  have hj2 : j < (T ++ W).length := by rw [List.length_append]; omega
  have : k = j := by
    refine (List.getElem?_inj h1 hN).mp ?_
    rw [List.getD_eq_getElem?_getD, List.getElem?_eq_getElem h1, Option.getD_some] at h2
    rw [List.getD_eq_getElem?_getD, List.getElem?_eq_getElem hj, Option.getD_some] at e
    rw [List.getElem?_eq_getElem h1, h2, List.getElem?_append_left hj, List.getElem?_eq_getElem hj, e]
  subst this
  exact ⟨k, hj, e, h3⟩
/-- as before, in arrays that may be others -/
theorem ct_back {T W : List (List Int32)} {S U : List Nd} {nd : Int32} {sn : Nat} {sf : Nat → Int32} {vn : Nat} {vf : Nat → Int64} {fn : Nat} {ff : Nat → Int32} {ps : Int32} {pn : Nat} {pf : Nat → Int32} (h : CT (T ++ W) (S ++ U) nd sn sf vn vf fn ff ps pn pf) (hN : (T ++ W).Nodup) (hS : 1 ≤ S.length) (hK : ∀ (i : Nat) (d : Nd), S[i]? = some d → d.1 = none → ∃ j, j < T.length ∧ T.getD j [] = d.2.1) : CT T S (nI (200 + S.length)) sn sf vn vf fn ff (nI (pl S).length) pn pf ∧ p_Ints_cut (nI (pl S).length) ps = some (nI (pl S).length) := by
  obtain ⟨h1, h2, h3, h4, h5, h6, h7, h8, h9, h10, h11⟩ := h
  rw [List.length_append] at h3
  have lp : (pl S).length ≤ (pl (S ++ U)).length := by rw [pl_app2, List.length_append]; omega
  obtain ⟨i1, i2⟩ := in_cut h8 lp
  have ip : (pl (S ++ U)).take (pl S).length = pl S := by rw [pl_app2, List.take_left' rfl]
  rw [ip] at i2
  refine ⟨⟨rfl, hS, by omega, h4, h5, h6, h7, i2, h9, h10, fun i d e => ?_⟩, i1⟩
  obtain ⟨hi, _⟩ := List.getElem?_eq_some_iff.mp e
  obtain ⟨a1, a2⟩ := h11 i d (by rw [List.getElem?_append_left hi]; exact e)
  rw [po_app (by omega)] at a2
  refine ⟨?_, a2⟩
  rcases a1 with z | ⟨z1, z2, z3, j, z4, z5, z6⟩
  · exact Or.inl z
  · obtain ⟨k, k1, k2⟩ := hK i d e z1
    obtain ⟨j', y1, y2, y3⟩ := nm_back ⟨j, z4, z5, rfl⟩ hN k1 k2
    have : j = j' := by
      have l1 : j < 2147483648 ∧ j' < 2147483648 ∨ True := Or.inr trivial
      refine (List.getElem?_inj z4 hN).mp ?_
      rw [List.getD_eq_getElem?_getD, List.getElem?_eq_getElem z4, Option.getD_some] at z5
      rw [List.getD_eq_getElem?_getD, List.getElem?_eq_getElem y1, Option.getD_some] at y2
      rw [List.getElem?_eq_getElem z4, z5, List.getElem?_append_left y1, List.getElem?_eq_getElem y1, y2]
    subst this
    exact Or.inr ⟨z1, z2, z3, j, y1, y2, z6⟩
theorem cv_back {T W V U : List (List Int32)} {vs : Int32} {vnf : Nat → Int32} (h : CV (T ++ W) (V ++ U) vs vnf) (hN : (T ++ W).Nodup) (hK : ∀ (i : Nat) (w : List Int32), V[i]? = some w → w ≠ [95] → ∃ j, j < T.length ∧ T.getD j [] = w) : CV T V (nI V.length) vnf := by
  obtain ⟨h1, h2, h3⟩ := h
  rw [List.length_append] at h2
  refine ⟨rfl, by omega, fun i w e => ?_⟩
  obtain ⟨hi, _⟩ := List.getElem?_eq_some_iff.mp e
  rcases h3 i w (by rw [List.getElem?_append_left hi]; exact e) with z | ⟨z1, z2⟩
  · exact Or.inl z
  · obtain ⟨j, j1, j2⟩ := hK i w e z1
    exact Or.inr ⟨z1, nm_back z2 hN j1 j2⟩
theorem ct_known {T : List (List Int32)} {S : List Nd} {nd : Int32} {sn : Nat} {sf : Nat → Int32} {vn : Nat} {vf : Nat → Int64} {fn : Nat} {ff : Nat → Int32} {ps : Int32} {pn : Nat} {pf : Nat → Int32} (h : CT T S nd sn sf vn vf fn ff ps pn pf) : ∀ (i : Nat) (d : Nd), S[i]? = some d → d.1 = none → ∃ j, j < T.length ∧ T.getD j [] = d.2.1 := fun i d e hn => by
  rcases (h.2.2.2.2.2.2.2.2.2.2 i d e).1 with ⟨z, z1, _⟩ | ⟨_, _, _, j, j1, j2, _⟩
  · rw [hn] at z1
    cases z1
  · exact ⟨j, j1, j2⟩
theorem cv_known {T V : List (List Int32)} {vs : Int32} {vnf : Nat → Int32} (h : CV T V vs vnf) : ∀ (i : Nat) (w : List Int32), V[i]? = some w → w ≠ [95] → ∃ j, j < T.length ∧ T.getD j [] = w := fun i w e hn => by
  rcases h.2.2 i w e with ⟨z, _⟩ | ⟨_, j, j1, j2, _⟩
  · exact absurd z hn
  · exact ⟨j, j1, j2⟩
/-- forgotten -/
def KB (T0 : List (List Int32)) (S0 : List Nd) (V0 : List (List Int32)) (ts : Int32) (tn : Nat) (tf : Nat → Int32) (en : Nat) (ef : Nat → Int32) (on : Nat) (of : Nat → Int32) (sn : Nat) (sf : Nat → Int32) (vn : Nat) (vf : Nat → Int64) (fn : Nat) (ff : Nat → Int32) (pn : Nat) (pf vnf : Nat → Int32) (tsy B : Int32) (tm : Int32 → Prop) : Int32 × Int32 × Int32 × Int32 × (Nat → Int32) × Int32 × Int32 × Int32 × Int32 → Prop :=
  fun (brk', tm', es', os', nf', nd', vs', tsy', ps') => brk' = B ∧ tm tm' ∧ (∃ p', NC T0 p' ts tn tf es' en ef os' on of nf') ∧ CT T0 S0 nd' sn sf vn vf fn ff ps' pn pf ∧ CV T0 V0 vs' vnf ∧ tsy' = tsy
theorem kf_back {T0 W : List (List Int32)} {p : List Int32} {S0 : List Nd} {V0 : List (List Int32)} {ts : Int32} {tn : Nat} {tf : Nat → Int32} {es : Int32} {en : Nat} {ef : Nat → Int32} {os : Int32} {on : Nat} {of nf : Nat → Int32} {nd vs lk sym : Int32} {sn : Nat} {sf : Nat → Int32} {vn : Nat} {vf : Nat → Int64} {fn : Nat} {ff : Nat → Int32} {ps : Int32} {pn : Nat} {pf vnf : Nat → Int32} {ks : Int32} {kn : Nat} {kf : Nat → Int32} {c : Cs} (hNC : NC (T0 ++ W) p ts tn tf es en ef os on of nf) (hD : DS (T0 ++ W) c nd vs lk sym sn sf vn vf fn ff ps pn pf vnf ks kn kf) (hp : (∃ U, c.1 = S0 ++ U) ∧ ∃ U, c.2.1 = V0 ++ U) (hS : 1 ≤ S0.length) (hK : ∀ (i : Nat) (d : Nd), S0[i]? = some d → d.1 = none → ∃ j, j < T0.length ∧ T0.getD j [] = d.2.1) (hV : ∀ (i : Nat) (w : List Int32), V0[i]? = some w → w ≠ [95] → ∃ j, j < T0.length ∧ T0.getD j [] = w) (tsy B t : Int32) (tm : Int32 → Prop) (ht : tm t) : wp ((p_Terms_goBack nd vs lk tsy (nI (200 + S0.length)) (nI (pl S0).length) (nI V0.length) ps).bind (fun (a_nodes_30, a_variables_30, a_parts_size_30) => (p_Names_goBack pure_n ts (nI T0.length) tn tf es en ef os on of 128 nf).bind (fun (a_ends_size_31, a_older_size_31, a_newest_f_31) => some (B, t, a_ends_size_31, a_older_size_31, a_newest_f_31, a_nodes_30, a_variables_30, tsy, a_parts_size_30)))) (KB T0 S0 V0 ts tn tf en ef on of sn sf vn vf fn ff pn pf vnf tsy B tm) := by
  have hN : (T0 ++ W).Nodup := hNC.2.2.2.2.2
  obtain ⟨⟨U1, e1⟩, U2, e2⟩ := hp
  obtain ⟨h1, h2, _⟩ := hD
  rw [e1] at h1
  rw [e2] at h2
  obtain ⟨c1, c2⟩ := ct_back h1 hN hS hK
  have v1 := cv_back h2 hN hV
  unfold p_Terms_goBack p_Names_goBack
  refine wp_assoc (wp_bs c2 (wp_bs rfl ?_))
  dsimp only
  refine wp_assoc (wp_bind (nc_forget pure_n (nI T0.length) (by decide) hNC (k := T0.length) (by rw [List.length_append]; omega)) ?_)
  rintro ⟨es', os', nf'⟩ hn
  dsimp only at hn ⊢
  rw [List.take_left' rfl] at hn
  exact wp_bs rfl (wp_some ⟨rfl, ht, ⟨_, hn⟩, c1, v1, rfl⟩)
theorem rd_full {T : List (List Int32)} {p : List Int32} {ts : Int32} {tn : Nat} {tf : Nat → Int32} {es : Int32} {en : Nat} {ef : Nat → Int32} {os : Int32} {on : Nat} {of nf : Nat → Int32} (h : NC T p ts tn tf es en ef os on of nf) (a b : Int32) : p_Names_isFull a b es en ef = some 0 := by
  obtain ⟨h1, h2, h3, h4, h5, h6⟩ := h
  unfold p_Names_isFull p_Ints_size
  have e : es = nI T.length := by rw [h2.1, offs_len]
  subst e
  rw [Option.bind_some, nc_from h2 a b (Nat.le_refl _), Option.bind_some, off_all (Nat.le_refl _), if_pos (show nI T.flatten.length ≤ 1000000 from nI_le (b := 1000000) (by omega) (by omega))]
theorem rd_keep {T0 W : List (List Int32)} {p : List Int32} {S0 : List Nd} {V0 : List (List Int32)} {ts : Int32} {tn : Nat} {tf : Nat → Int32} {es : Int32} {en : Nat} {ef : Nat → Int32} {os : Int32} {on : Nat} {of nf : Nat → Int32} {nd vs lk sym : Int32} {sn : Nat} {sf : Nat → Int32} {vn : Nat} {vf : Nat → Int64} {fn : Nat} {ff : Nat → Int32} {ps : Int32} {pn : Nat} {pf vnf : Nat → Int32} {ks : Int32} {kn : Nat} {kf : Nat → Int32} {c : Cs} (hNC : NC (T0 ++ W) p ts tn tf es en ef os on of nf) (hD : DS (T0 ++ W) c nd vs lk sym sn sf vn vf fn ff ps pn pf vnf ks kn kf) (hp : (∃ U, c.1 = S0 ++ U) ∧ ∃ U, c.2.1 = V0 ++ U) (hS : 1 ≤ S0.length) (hK : ∀ (i : Nat) (d : Nd), S0[i]? = some d → d.1 = none → ∃ j, j < T0.length ∧ T0.getD j [] = d.2.1) (hV : ∀ (i : Nat) (w : List Int32), V0[i]? = some w → w ≠ [95] → ∃ j, j < T0.length ∧ T0.getD j [] = w) {y0 : Nat} (hy : y0 ≤ 300000) (hcs : c.2.2.2.2 ≤ 19000) (dep sta nxm lnm lbh tmu : Int32) : (∀ (q : Nat) (fst : Int32), q < 2147483648 → wp (p_Reader_keepOrForget pure_n dep sta nxm lnm lbh sym fst (nI q) tmu ts (nI T0.length) tn tf es en ef os on of 128 nf nd vs lk (nI y0) (nI (200 + S0.length)) (nI (pl S0).length) (nI V0.length) ps) (KB T0 S0 V0 ts tn tf en ef on of sn sf vn vf fn ff pn pf vnf (nI y0) (nI q) (fun _ => True))) ∧ (∀ (fi : Nat), fi < 2147483648 → 1000 < c.2.2.2.2 → wp (p_Reader_keepOrForget pure_n dep sta nxm lnm lbh sym (nI fi) (-1) tmu ts (nI T0.length) tn tf es en ef os on of 128 nf nd vs lk (nI y0) (nI (200 + S0.length)) (nI (pl S0).length) (nI V0.length) ps) (KB T0 S0 V0 ts tn tf en ef on of sn sf vn vf fn ff pn pf vnf (nI y0) (nI fi) (fun _ => True))) ∧ (∀ (fst : Int32), c.2.2.2.2 ≤ 1000 → c.2.2.2.1 = true → wp (p_Reader_keepOrForget pure_n dep sta nxm lnm lbh sym fst (-1) tmu ts (nI T0.length) tn tf es en ef os on of 128 nf nd vs lk (nI y0) (nI (200 + S0.length)) (nI (pl S0).length) (nI V0.length) ps) (KB T0 S0 V0 ts tn tf en ef on of sn sf vn vf fn ff pn pf vnf (nI y0) (-1) (fun t => t = 1))) ∧ (∀ (fst : Int32), c.2.2.2.2 ≤ 1000 → c.2.2.2.1 = false → p_Reader_keepOrForget pure_n dep sta nxm lnm lbh sym fst (-1) tmu ts (nI T0.length) tn tf es en ef os on of 128 nf nd vs lk (nI y0) (nI (200 + S0.length)) (nI (pl S0).length) (nI V0.length) ps = some (-1, 0, es, os, nf, nd, vs, nI (y0 + c.2.2.2.2), ps)) := by
  have G := fun (B t : Int32) (tm : Int32 → Prop) (ht : tm t) => kf_back hNC hD hp hS hK hV (nI y0) B t tm ht
  have FU := rd_full hNC ts (nI T0.length)
  obtain ⟨d1, d2, d3, d4, d5, d6, d7, d8⟩ := hD
  have room : ∀ (a b' e g h : Int32), p_Terms_hasRoomFor sym a b' lk (nI y0) e g h = some (b1 (! c.2.2.2.1)) := fun a b' e g h => by
    unfold p_Terms_hasRoomFor
    rw [d3, d4]
    cases hb : c.2.2.2.1 with
    | true => rw [if_neg (by decide)]; rfl
    | false =>
      rw [if_pos (by decide), nI_add, if_neg (show ¬ 400000 < nI (y0 + c.2.2.2.2) from nI_nlt (a := 400000) (by omega) (by omega))]
      rfl
  refine ⟨fun q fst hq => ?_, fun fi hfi hc => ?_, fun fst hc hl => ?_, fun fst hc hl => ?_⟩
  · unfold p_Reader_keepOrForget
    refine wp_if (nm1 hq) (wp_bs (room _ _ _ _ _) ?_)
    cases hb : c.2.2.2.1 with
    | true => exact wp_it (by decide) (wp_if (nm1 hq) (G _ _ _ trivial))
    | false => exact wp_if (by decide) (wp_bs FU (wp_it rfl (wp_if (nm1 hq) (G _ _ _ trivial))))
  · unfold p_Reader_keepOrForget
    refine wp_it rfl (wp_if (by rw [d4]; exact (show ¬ nI c.2.2.2.2 ≤ 1000 from nI_ge (a := 1000) hc (by omega))) (wp_bs (room _ _ _ _ _) ?_))
    cases hb : c.2.2.2.1 with
    | true => exact wp_it (by decide) (wp_if (nm1 hfi) (G _ _ _ trivial))
    | false => exact wp_if (by decide) (wp_bs FU (wp_it rfl (wp_if (nm1 hfi) (G _ _ _ trivial))))
  · unfold p_Reader_keepOrForget
    refine wp_it rfl (wp_it (by rw [d4]; exact (show nI c.2.2.2.2 ≤ 1000 from nI_le (b := 1000) hc (by omega))) (wp_bs (room _ _ _ _ _) ?_))
    rw [hl]
    exact wp_it (by decide) (wp_it rfl (G _ _ _ rfl))
  · unfold p_Reader_keepOrForget
    rw [if_pos rfl, if_pos (show sym ≤ 1000 by rw [d4]; exact (show nI c.2.2.2.2 ≤ 1000 from nI_le (b := 1000) hc (by omega))), room, hl, Option.bind_some, if_neg (by decide), FU, Option.bind_some, if_pos rfl, if_pos rfl]
    unfold p_Terms_countSymbols
    rw [Option.bind_some, d4, nI_add]
/-! ===== the class's read ===== -/
theorem ct_take {l : List Int32} {s : Int32} {N : Nat} {f : Nat → Int32} (hB : BY l s N f) (hl4 : l.length ≤ 4096) {Z : Nat} (hZ : Z + 2 * l.length + 4100 < 32768) {T0 U0 : List (List Int32)} (hT0 : T0 = KT ++ U0) (hZ0 : T0.flatten.length + T0.length ≤ Z) {p : List Int32} {S0 : List Nd} {V0 : List (List Int32)} {ts : Int32} {tn : Nat} {tf : Nat → Int32} {es : Int32} {en : Nat} {ef : Nat → Int32} {os : Int32} {on : Nat} {of nf : Nat → Int32} (hNC : NC T0 p ts tn tf es en ef os on of nf) {nd vs : Int32} (lk : Int32) {sn : Nat} {sf : Nat → Int32} {vn : Nat} {vf : Nat → Int64} {fn : Nat} {ff : Nat → Int32} {ps : Int32} {pn : Nat} {pf vnf : Nat → Int32} (hCT : CT T0 S0 nd sn sf vn vf fn ff ps pn pf) (hCV : CV T0 V0 vs vnf) (hS : S0.length ≤ 25000) (hP : (pl S0).length ≤ 25000) {K0 : List Int32} {ks : Int32} {kn : Nat} {kf : Nat → Int32} (hK : IN K0 ks kn kf) (hkn : kn ≤ 131072) (dep sta nxm lnm lbh sym fst brk tmu kin pla beh pas nam : Int32) (num : Int64) (sb tsy nb pb vb : Int32) (o0 o1 o2 o3 o4 o5 : Nat → Int32) {m : Nat} (hf : fin (rn l m s0)) (hm : m ≤ 30000) : wp (p_Reader_takeTape pure_n dep sta nxm lnm lbh sym fst brk tmu kin pla beh pas nam num s N f ts sb tn tf es en ef os on of 128 nf nd vs lk tsy nb pb vb sn sf vn vf fn ff ps pn pf 200 vnf 100 o0 o1 o2 o3 o4 o5 ks kn kf) (FR l Z T0 (S0, V0, [], false, 0) (rn l m s0) (tn + en + on + 3 * sn + pn + kn) (nI T0.length) (nI (200 + S0.length)) (nI (pl S0).length) (nI V0.length)) := by
  obtain ⟨i1, i2⟩ := in_cut hK (k := 0) (Nat.zero_le _)
  rw [nI_0] at i1 i2
  have e1 : es = nI T0.length := by rw [hNC.2.1.1, offs_len]
  have e2 : ps = nI (pl S0).length := hCT.2.2.2.2.2.2.2.1.1
  have e3 : nd = nI (200 + S0.length) := hCT.1
  have e4 : vs = nI V0.length := hCV.1
  have hb : p_Reader_begin dep sta nxm lnm lbh sym fst brk tmu kin pla beh pas nam num ts sb es nd vs lk tsy nb pb vb ps ks = some (0, 1, 1200, 0, -1, 0, 1, nI T0.length, 0, nI (200 + S0.length), nI (pl S0).length, nI V0.length, 0) := by
    unfold p_Reader_begin p_Names_keepSize p_Terms_keepSize p_Signs_goToFirst p_Reader_awaitTerm p_Ints_size
    simp only [Option.bind_some, i1]
    rw [← e1, ← e2, ← e3, ← e4]
  have C : CR l Z T0 (S0, V0, [], false, 0) s0 os 0 1 1200 lnm lbh 0 fst (-1) kin pla 0 1 nam num ts es nd vs 0 ps 0 tn tf en ef on of nf sn sf vn vf fn ff pn pf vnf o0 o1 o2 o3 o4 o5 kn kf := by
    refine ⟨T0, p, (S0, V0, [], false, 0), hNC, by have := hNC.2.2.2.2.1.1; omega, ⟨[], by rw [List.append_nil]⟩, ⟨hCT, hCV, rfl, rfl, i2, hkn, by dsimp only; omega, by show (pl S0).length + 0 ≤ _; omega⟩, ⟨⟨[], by rw [List.append_nil]⟩, [], by rw [List.append_nil]⟩, Nat.zero_le _, by unfold tb; omega, Or.inr ⟨rfl, rfl, rfl, ⟨rfl, rfl, rfl, fun z => nn z rfl, fun z => ?_, trivial⟩, ⟨Nat.zero_le _, Nat.le_refl _, Nat.zero_le _, Nat.zero_le _, Or.inl ⟨rfl, trivial, rfl, Nat.le_refl _⟩⟩, Nat.zero_le _, Or.inl ⟨rfl, rfl, by unfold tb; show _ ≤ Z + 2 * 0; omega⟩⟩⟩
    rcases z with z | z
    · exact absurd rfl z
    · exact absurd rfl z
  have L := ct_loop hB hl4 hZ hT0 (c0 := (S0, V0, [], false, 0)) rfl tmu tsy (nI T0.length) (nI (200 + S0.length)) (nI (pl S0).length) (nI V0.length) m s0 pure_n 0 os 0 1 1200 lnm lbh 0 fst (-1) kin pla 0 1 nam num ts es nd vs 0 ps 0 tn tf en ef on of nf sn sf vn vf fn ff pn pf vnf o0 o1 o2 o3 o4 o5 kn kf C hf (by have := pure_ge; omega) (by omega)
  rw [nI_0] at L
  unfold p_Reader_takeTape
  refine wp_bs hb ?_
  dsimp only
  exact L
def UK (T0 : List (List Int32)) (S0 : List Nd) (V0 : List (List Int32)) (ts : Int32) (tn : Nat) (tf : Nat → Int32) (es : Int32) (en : Nat) (ef : Nat → Int32) (os : Int32) (on : Nat) (of nf : Nat → Int32) (nd vs : Int32) (sn : Nat) (sf : Nat → Int32) (vn : Nat) (vf : Nat → Int64) (fn : Nat) (ff : Nat → Int32) (ps : Int32) (pn : Nat) (pf vnf : Nat → Int32) : Prop := (∃ p, NC T0 p ts tn tf es en ef os on of nf) ∧ CT T0 S0 nd sn sf vn vf fn ff ps pn pf ∧ CV T0 V0 vs vnf
def UBr (l : List Int32) (g : Nat) (T0 : List (List Int32)) (S0 : List Nd) (V0 : List (List Int32)) (Z y0 : Nat) (F : Ps) (rgf : Nat → Int32) (Wt : Nat) : (Nat × Int32 × Int32 × Int32 × Int32 × Int32 × Nat × (Nat → Int32) × Int32 × Nat × (Nat → Int32) × Int32 × Nat × (Nat → Int32) × (Nat → Int32) × Int32 × Int32 × Int32 × Int32 × Int32 × Int32 × Int32 × Nat × (Nat → Int32) × Nat × (Nat → Int64) × Nat × (Nat → Int32) × Int32 × Nat × (Nat → Int32) × (Nat → Int32) × Int32 × Int32 × Int32 × Int32 × Int32 × Int32 × Int32 × Int32 × Int32 × Int32 × Int32 × Int32 × Int32 × Int32 × Int64 × (Nat → Int32) × (Nat → Int32) × (Nat → Int32) × (Nat → Int32) × (Nat → Int32) × (Nat → Int32) × Int32 × Nat × (Nat → Int32) × (Nat → Int32)) × Nat × Nat → Prop :=
  fun ((xc, r, plc', tsz', ts', sb', tn', tf', es', en', ef', os', on', of', nf', nd', vs', lk', tsy', nb', pb', vb', sn', sf', vn', vf', fn', ff', ps', pn', pf', vnf', dep', sta', nxm', lnm', lbh', sym', fst', brk', tmu', kin', pla', beh', pas', nam', num', o0', o1', o2', o3', o4', o5', ks', kn', kf', rgf'), mq, sk) => tsz' = 0 ∧ kn' ≤ 131072 ∧ (∃ K, IN K ks' kn' kf') ∧ (∃ m k, wc Wt (tn' + en' + on' + 3 * sn' + pn' + kn') m k ∧ mq ≤ m + 1 ∧ sk ≤ k + 6) ∧
    ((∃ p, p ≤ l.length ∧ BRK F p ∧ xc = 2 ∧ plc' = nI p ∧ UK T0 S0 V0 ts' tn' tf' es' en' ef' os' on' of' nf' nd' vs' sn' sf' vn' vf' fn' ff' ps' pn' pf' vnf' ∧ tsy' = nI y0 ∧ rgf' = rgf) ∨
     (F.2.2.2.2.2.2.2.2 = none ∧ F.2.2.2.2.2.2.2.1.length ≤ 1000 ∧ (F.2.2.2.2.2.2.2.1.foldl apc (S0, V0, [], false, 0)).2.2.2.1 = true ∧ xc = 3 ∧ plc' = -1 ∧ UK T0 S0 V0 ts' tn' tf' es' en' ef' os' on' of' nf' nd' vs' sn' sf' vn' vf' fn' ff' ps' pn' pf' vnf' ∧ tsy' = nI y0 ∧ rgf' = rgf) ∨
     (F.2.2.2.2.2.2.2.2 = none ∧ F.2.2.2.2.2.2.2.1.length ≤ 1000 ∧ (F.2.2.2.2.2.2.2.1.foldl apc (S0, V0, [], false, 0)).2.2.2.1 = false ∧ xc = 0 ∧ plc' = -1 ∧ r = nI F.2.2.2.2.2.2.2.1.length ∧ tsy' = nI (y0 + F.2.2.2.2.2.2.2.1.length) ∧ ∃ T rr, (∃ U, T = T0 ++ U) ∧ T.flatten.length + T.length ≤ Z + 2 * l.length ∧ UK T (F.2.2.2.2.2.2.2.1.foldl apc (S0, V0, [], false, 0)).1 (F.2.2.2.2.2.2.2.1.foldl apc (S0, V0, [], false, 0)).2.1 ts' tn' tf' es' en' ef' os' on' of' nf' nd' vs' sn' sf' vn' vf' fn' ff' ps' pn' pf' vnf' ∧ (F.2.2.2.2.2.2.2.1.foldl apc (S0, V0, [], false, 0)).2.2.1 = [rr] ∧ rgf' = upd rgf g (rI rr)))
theorem ub_check {g : Nat} (hg : g < 8) : p_UB_checkRegister (nI g) = some (0, 0, 0) := by
  have : ∀ g, g < 8 → p_UB_checkRegister (nI g) = some (0, 0, 0) := by decide
  exact this g hg
theorem ub_read {l : List Int32} {s : Int32} {N : Nat} {f : Nat → Int32} (hB : BY l s N f) (hl4 : l.length ≤ 4096) {Z : Nat} (hZ : Z + 2 * l.length + 4100 < 32768) {T0 U0 : List (List Int32)} (hT0 : T0 = KT ++ U0) (hZ0 : T0.flatten.length + T0.length ≤ Z) {p : List Int32} {S0 : List Nd} {V0 : List (List Int32)} {ts : Int32} {tn : Nat} {tf : Nat → Int32} {es : Int32} {en : Nat} {ef : Nat → Int32} {os : Int32} {on : Nat} {of nf : Nat → Int32} (hNC : NC T0 p ts tn tf es en ef os on of nf) {nd vs : Int32} (lk : Int32) {sn : Nat} {sf : Nat → Int32} {vn : Nat} {vf : Nat → Int64} {fn : Nat} {ff : Nat → Int32} {ps : Int32} {pn : Nat} {pf vnf : Nat → Int32} (hCT : CT T0 S0 nd sn sf vn vf fn ff ps pn pf) (hCV : CV T0 V0 vs vnf) (hS : S0.length ≤ 25000) (hP : (pl S0).length ≤ 25000) {K0 : List Int32} {ks : Int32} {kn : Nat} {kf : Nat → Int32} (hK : IN K0 ks kn kf) (hkn : kn ≤ 131072) (dep sta nxm lnm lbh sym fst brk tmu kin pla beh pas nam : Int32) (num : Int64) (sb nb pb vb mks plc : Int32) (o0 o1 o2 o3 o4 o5 rgf : Nat → Int32) {m : Nat} (hf : fin (rn l m s0)) (hm : m ≤ 30000) {y0 : Nat} (hy : y0 ≤ 300000) {g : Nat} (hg : g < 8) : wp (p_UB_read pure_n (nI g) mks plc s N f ts sb tn tf es en ef os on of 128 nf nd vs lk (nI y0) nb pb vb sn sf vn vf fn ff ps pn pf 200 vnf dep sta nxm lnm lbh sym fst brk tmu kin pla beh pas nam num 100 o0 o1 o2 o3 o4 o5 ks kn kf 8 rgf) (UBr l g T0 S0 V0 Z y0 (rn l m s0) rgf (tn + en + on + 3 * sn + pn + kn)) := by
  unfold p_UB_read
  refine wp_bs (ub_check hg) ?_
  dsimp only
  rw [al00, if_pos rfl]
  refine wp_bind (ct_take hB hl4 hZ hT0 hZ0 hNC lk hCT hCV hS hP hK hkn dep sta nxm lnm lbh sym fst brk tmu kin pla beh pas nam num sb (nI y0) nb pb vb o0 o1 o2 o3 o4 o5 hf hm) ?_
  rintro ⟨⟨dep', sta', nxm', lnm', lbh', sym', fst', brk', kin', pla', beh', pas', nam', num', ts', sbf', tn', tf', es', en', ef', os', on', of', nf', nd', vs', lk', nb', pb', vb', sn', sf', vn', vf', fn', ff', ps', pn', pf', vnf', o0', o1', o2', o3', o4', o5', ks', kn', kf'⟩, mq, sk⟩ ⟨rfl, rfl, rfl, rfl, hC, hw⟩
  dsimp only at hC hw ⊢
  obtain ⟨T, p', c, c1, c2, ⟨W, rfl⟩, c4, c5, c6, c7, c8⟩ := hC
  have hS1 : 1 ≤ S0.length := hCT.2.1
  have ck := ct_known hCT
  have vk := cv_known hCV
  obtain ⟨k1, k2, k3, k4⟩ := rd_keep c1 c4 c5 hS1 ck vk hy c6 dep' sta' nxm' lnm' lbh' tmu
  have c4' := c4
  obtain ⟨d1, d2, d3, d4, d5, d6, d7, d8⟩ := c4
  have cut0 : p_Bytes_cut 0 s = some 0 := by
    have hs := hB.1
    have h1 := hB.2.1
    have h2 := hB.2.2.2.1
    unfold p_Bytes_cut
    rw [if_neg (by decide)]
    by_cases q : l.length = 0
    · rw [hs, q, if_pos (by decide)]
      rfl
    · rw [if_neg (by rw [hs]; exact nI_nle (by omega) (by omega))]
  refine wp_al ?_
  -- the roads
  have key : (∃ q, q ≤ l.length ∧ BRK (rn l m s0) q ∧ wp (p_Reader_keepOrForget pure_n dep' sta' nxm' lnm' lbh' sym' fst' brk' tmu ts' (nI T0.length) tn' tf' es' en' ef' os' on' of' 128 nf' nd' vs' lk' (nI y0) (nI (200 + S0.length)) (nI (pl S0).length) (nI V0.length) ps') (KB T0 S0 V0 ts' tn' tf' en' ef' on' of' sn' sf' vn' vf' fn' ff' pn' pf' vnf' (nI y0) (nI q) (fun _ => True))) ∨ ((rn l m s0).2.2.2.2.2.2.2.2 = none ∧ c = (rn l m s0).2.2.2.2.2.2.2.1.foldl apc (S0, V0, [], false, 0) ∧ c.2.2.1.length = 1 ∧ c.2.2.2.2 ≤ 1000 ∧ brk' = -1) := by
    rcases c8 with ⟨q, q1, q2, q3⟩ | ⟨y1, y2, y3, y4, y5, y6, y7⟩
    · exact Or.inl ⟨q, q1, Or.inl q2, by rw [q3]; exact k1 q fst' (by omega)⟩
    · have hmd : 7 ≤ (rn l m s0).1 := hf.elim (fun z => absurd y1 z) id
      have hK1 : c.2.2.1.length = 1 := by
        obtain ⟨_, _, _, _, i5⟩ := y5
        rcases i5 with z | z | z | z | z
        · omega
        · omega
        · omega
        · omega
        · exact z.2.2.2.1
      have hsy : c.2.2.2.2 = (rn l m s0).2.2.2.2.2.2.2.1.length := by
        rw [y3, fold_sy]
        dsimp only
        omega
      have hfst : fst' = nI (rn l m s0).2.2.2.2.2.2.1 := y4.2.2.2.2.1 (Or.inl (by omega))
      by_cases c9 : 1000 < c.2.2.2.2
      · exact Or.inl ⟨(rn l m s0).2.2.2.2.2.2.1, y6, Or.inr ⟨y1, by omega, rfl⟩, by rw [hfst, y2]; exact k2 _ (by omega) c9⟩
      · exact Or.inr ⟨y1, y3, hK1, by omega, y2⟩
  rcases key with ⟨q, hq, hbr, hkb⟩ | ⟨y1, y3, hK1, c9, rfl⟩
  · refine wp_bind hkb ?_
    rintro ⟨b2, t2, es2, os2, nf2, nd2, vs2, ty2, ps2⟩ ⟨rfl, _, x3, x4, x5, rfl⟩
    try dsimp only at x3 x4 x5 ⊢
    unfold p_Reader_brokenPlace
    refine wp_bs cut0 (wp_bs rfl (wp_if (nm1 (by omega)) (wp_als ?_)))
    exact ⟨rfl, d6, ⟨_, d5⟩, ⟨mq, sk, hw, by show 1 + mq ≤ mq + 1; omega, by show 6 + sk ≤ sk + 6; omega⟩, Or.inl ⟨q, hq, hbr, rfl, rfl, ⟨x3, x4, x5⟩, rfl, rfl⟩⟩
  · have hsy : c.2.2.2.2 = (rn l m s0).2.2.2.2.2.2.2.1.length := by
      rw [y3, fold_sy]
      dsimp only
      omega
    cases hl : c.2.2.2.1 with
    | true =>
      refine wp_bind (k3 fst' (by omega) hl) ?_
      rintro ⟨b2, t2, es2, os2, nf2, nd2, vs2, ty2, ps2⟩ ⟨rfl, rfl, x3, x4, x5, rfl⟩
      dsimp only at x3 x4 x5 ⊢
      unfold p_Reader_brokenPlace p_Reader_isTooMuch
      refine wp_bs cut0 (wp_bs rfl (wp_it rfl (wp_bs rfl (wp_if (by decide) (wp_als ?_)))))
      exact ⟨rfl, d6, ⟨_, d5⟩, ⟨mq, sk, hw, by show 1 + mq ≤ mq + 1; omega, by show 6 + sk ≤ sk + 6; omega⟩, Or.inr (Or.inl ⟨y1, by omega, by rw [← y3]; exact hl, rfl, rfl, ⟨x3, x4, x5⟩, rfl, rfl⟩)⟩
    | false =>
      refine wp_bs (k4 fst' (by omega) hl) ?_
      dsimp only
      unfold p_Reader_brokenPlace p_Reader_isTooMuch p_Reader_term p_Reader_symbols
      obtain ⟨rr, hrr⟩ : ∃ rr, c.2.2.1 = [rr] := by
        match hc : c.2.2.1, hK1 with
        | [rr], _ => exact ⟨rr, rfl⟩
      rw [hrr] at d5
      have at0 := in_at d5 (j := 0) (by show 0 < 1; decide)
      rw [nI_0] at at0
      refine wp_bs cut0 (wp_bs rfl (wp_it rfl (wp_bs rfl (wp_it rfl ?_))))
      rw [at0]
      refine wp_bs rfl (wp_ck (ixb_t hg (by omega)) (wp_bs rfl (wp_some ?_)))
      refine ⟨rfl, d6, ⟨_, d5⟩, ⟨mq, sk, hw, by show 0 + mq ≤ mq + 1; omega, by show 0 + sk ≤ sk + 6; omega⟩, Or.inr (Or.inr ⟨y1, by omega, by rw [← y3]; exact hl, rfl, rfl, by rw [← hsy]; exact d4, by rw [hsy], T0 ++ W, rr, ⟨W, rfl⟩, c7, ?_, by rw [← y3]; exact hrr, ?_⟩)⟩
      · rw [← y3]
        exact ⟨⟨p', c1⟩, d1, d2⟩
      · rw [nI_clamp (by omega)]
        rfl
/-! ===== nodes by what they are; bindings; who is joined ===== -/
/-- (some z, 0): the integer z; (none, c): the class's node c, a variable below 200 -/
abbrev Av : Type := Option Int64 × Nat
def avc (S : List Nd) (c : Nat) : Av := if c < 200 then (none, c) else if (S.getD (c - 200) (none, [], [])).1 = none then (none, c) else ((S.getD (c - 200) (none, [], [])).1, 0)
abbrev isV (a : Av) : Prop := a.1 = none ∧ a.2 < 200
def pav (S : List Nd) (a : Av) : List Av := if a.1 = none ∧ 200 ≤ a.2 then (S.getD (a.2 - 200) (none, [], [])).2.2.map (fun r => avc S (ci r)) else []
def nma (S : List Nd) (a : Av) : List Int32 := (S.getD (a.2 - 200) (none, [], [])).2.1
theorem av_v {S : List Nd} {c : Nat} (h : c < 200) : avc S c = (none, c) := if_pos h
theorem av_i {S : List Nd} {c : Nat} {d : Nd} {z : Int64} (h : 200 ≤ c) (e : S[c - 200]? = some d) (e2 : d.1 = some z) : avc S c = (some z, 0) := by
  have g : S.getD (c - 200) (none, [], []) = d := by rw [List.getD_eq_getElem?_getD, e]; rfl
  unfold avc
  rw [if_neg (by omega), g, e2, if_neg (by intro q; cases q)]
theorem av_c {S : List Nd} {c : Nat} {d : Nd} (h : 200 ≤ c) (e : S[c - 200]? = some d) (e2 : d.1 = none) : avc S c = (none, c) := by
  have g : S.getD (c - 200) (none, [], []) = d := by rw [List.getD_eq_getElem?_getD, e]; rfl
  unfold avc
  rw [if_neg (by omega), g, if_pos e2]
theorem av_isV {S : List Nd} {c : Nat} : isV (avc S c) ↔ c < 200 := by
  unfold isV avc
  by_cases h : c < 200
  · rw [if_pos h]
    exact ⟨fun _ => h, fun _ => ⟨rfl, h⟩⟩
  · rw [if_neg h]
    by_cases h2 : (S.getD (c - 200) (none, [], [])).1 = none
    · rw [if_pos h2]
      exact ⟨fun q => q.2, fun q => absurd q h⟩
    · rw [if_neg h2]
      exact ⟨fun q => absurd q.1 h2, fun q => absurd q h⟩
/-- only integers are the same in two places -/
theorem av_inj {S : List Nd} {c d : Nat} (h : avc S c = avc S d) (hn : (avc S c).1 = none) : c = d := by
  have hn2 : (avc S d).1 = none := by rw [← h]; exact hn
  have key : ∀ x, (avc S x).1 = none → (avc S x).2 = x := fun x hx => by
    unfold avc at hx ⊢
    by_cases q : x < 200
    · rw [if_pos q]
    · rw [if_neg q] at hx ⊢
      by_cases q2 : (S.getD (x - 200) (none, [], [])).1 = none
      · rw [if_pos q2]
      · rw [if_neg q2] at hx
        exact absurd hx q2
  rw [← key c hn, ← key d hn2, h]
theorem av_snd {S : List Nd} {c : Nat} (hn : (avc S c).1 = none) : avc S c = (none, c) := by
  unfold avc at hn ⊢
  by_cases q : c < 200
  · rw [if_pos q]
  · rw [if_neg q] at hn ⊢
    by_cases q2 : (S.getD (c - 200) (none, [], [])).1 = none
    · rw [if_pos q2]
    · rw [if_neg q2] at hn
      exact absurd hn q2
/-- bound variables, their ranks, and what a node means -/
def MU (B : Nat → Option Av) (rk : Nat → Nat) (μ : Av → Av) : Prop := (∀ a, ¬ isV a → μ a = a) ∧ (∀ v, v < 200 → B v = none → μ (none, v) = (none, v)) ∧ (∀ v b, v < 200 → B v = some b → μ (none, v) = μ b ∧ 1 ≤ rk v ∧ (isV b → rk b.2 < rk v)) ∧ (∀ v, rk v ≤ 200)
def fa (B : Nat → Option Av) (a : Av) : Prop := isV a → B a.2 = none
/-- the class's bindings -/
def CBd (S : List Nd) (B : Nat → Option Av) (bc : Nat → Int32) : Prop := ∀ v, v < 200 → (B v = none ∧ bc v = -1) ∨ ∃ c, c < 200 + S.length ∧ bc v = nI c ∧ B v = some (avc S c)
theorem cme_loop (n : Nat) {S : List Nd} (hS : S.length ≤ 130000) {B : Nat → Option Av} {bc : Nat → Int32} (hB : CBd S B bc) {rk : Nat → Nat} {μ : Av → Av} (hM : MU B rk μ) : ∀ (m i c f : Nat), i + m = 200 → c < 200 + S.length → (c < 200 → rk c ≤ m) → m < f → ∃ c', p_Terms_meant_4 n 200 bc f (nI i) (nI c) = some (nI c') ∧ c' < 200 + S.length ∧ avc S c' = μ (avc S c) ∧ fa B (avc S c') ∧ (B c = none → c' = c) := by
  obtain ⟨m1, m2, m3, m4⟩ := hM
  have stop : ∀ c, ¬ c < 200 → avc S c = μ (avc S c) ∧ fa B (avc S c) := fun c hc => ⟨(m1 _ (fun q => hc (av_isV.mp q))).symm, fun q => absurd (av_isV.mp q) hc⟩
  intro m
  induction m with
  | zero =>
    intro i c f hi hc hr hf
    obtain ⟨f, rfl⟩ : ∃ z, f = z + 1 := ⟨f - 1, by omega⟩
    refine ⟨c, by rw [p_Terms_meant_4, if_pos (show 200 ≤ nI i from nI_le (a := 200) (by omega) (by omega))], hc, ?_⟩
    by_cases q : c < 200
    · have hn : B c = none := by
        cases hb : B c with
        | none => rfl
        | some b =>
          obtain ⟨_, z, _⟩ := m3 c b q hb
          have := hr q
          omega
      refine ⟨by rw [av_v q]; exact (m2 c q hn).symm, fun _ => ?_, fun _ => rfl⟩
      rw [av_v q]
      exact hn
    · exact ⟨(stop c q).1, (stop c q).2, fun _ => rfl⟩
  | succ m ih =>
    intro i c f hi hc hr hf
    obtain ⟨f, rfl⟩ : ∃ z, f = z + 1 := ⟨f - 1, by omega⟩
    rw [p_Terms_meant_4, if_neg (show ¬ 200 ≤ nI i from nI_ge (b := 200) (by omega) (by omega))]
    by_cases q : c < 200
    · rw [if_neg (show ¬ 200 ≤ nI c from nI_ge (b := 200) (by omega) (by omega)), ck_t (ixb_t q (by omega)), nI_clamp (by omega)]
      rcases hB c q with ⟨e1, e2⟩ | ⟨d, e1, e2, e3⟩
      · rw [if_pos e2]
        exact ⟨c, rfl, hc, by rw [av_v q]; exact (m2 c q e1).symm, fun _ => by rw [av_v q]; exact e1, fun _ => rfl⟩
      · rw [if_neg (by rw [e2]; exact nm1 (by omega)), ck_t (ixb_t q (by omega)), e2, nI_1]
        obtain ⟨y1, y2, y3⟩ := m3 c _ q e3
        obtain ⟨c', z1, z2, z3, z4, _⟩ := ih (i + 1) d f (by omega) e1 (fun q2 => by
          have := y3 (av_isV.mpr q2)
          rw [av_v q2] at this
          have := hr q
          dsimp only at *
          omega) (by omega)
        exact ⟨c', z1, z2, by rw [z3, av_v q, y1], z4, fun z => by rw [e3] at z; cases z⟩
    · rw [if_pos (show 200 ≤ nI c from nI_le (a := 200) (by omega) (by omega))]
      exact ⟨c, rfl, hc, (stop c q).1, (stop c q).2, fun _ => rfl⟩
/-- roots of joined nodes -/
def UF (lk : Nat → Int32) (N : Nat) (rc mu : Nat → Nat) (K : Nat) : Prop := ∀ c, c < N → mu c ≤ K ∧ ((lk c = 0 ∧ rc c = c) ∨ ∃ d, d < N ∧ lk c = nI (d + 1) ∧ rc c = rc d ∧ mu d < mu c)
theorem uf_0 {lk : Nat → Int32} {N : Nat} {rc mu : Nat → Nat} {K : Nat} (h : UF lk N rc mu K) (hN : N < 2147483647) {c : Nat} (hc : c < N) (e : lk c = 0) : rc c = c := by
  rcases (h c hc).2 with ⟨_, z⟩ | ⟨d, z1, z2, _⟩
  · exact z
  · rw [e] at z2
    exact absurd z2.symm (nI_ne0 (by omega) (by omega))
theorem uf_root {lk : Nat → Int32} {N : Nat} {rc mu : Nat → Nat} {K : Nat} (h : UF lk N rc mu K) : ∀ (m c : Nat), mu c ≤ m → c < N → rc c < N ∧ lk (rc c) = 0 := by
  intro m
  induction m with
  | zero =>
    intro c hm hc
    rcases (h c hc).2 with ⟨z1, z2⟩ | ⟨d, z1, z2, z3, z4⟩
    · rw [z2]; exact ⟨hc, z1⟩
    · omega
  | succ m ih =>
    intro c hm hc
    rcases (h c hc).2 with ⟨z1, z2⟩ | ⟨d, z1, z2, z3, z4⟩
    · rw [z2]; exact ⟨hc, z1⟩
    · rw [z3]
      exact ih d (by omega) z1
theorem ur_loop (n : Nat) {ln N : Nat} (hln : N ≤ ln) (hN : N ≤ 200000) {rc mu : Nat → Nat} {K : Nat} : ∀ (m i c f : Nat) (lk : Nat → Int32), UF lk N rc mu K → mu c ≤ m → i + m < 1000000 → m < f → c < N → ∃ lk', p_Unifier_rootOf_11 n ln f (nI i) (nI c) lk = some (nI (rc c), lk') ∧ UF lk' N rc mu K ∧ (∀ x, lk' x = 0 ↔ lk x = 0) := by
  intro m
  induction m with
  | zero =>
    intro i c f lk h hm hi hf hc
    obtain ⟨f, rfl⟩ : ∃ z, f = z + 1 := ⟨f - 1, by omega⟩
    rw [p_Unifier_rootOf_11, if_neg (show ¬ 1000000 ≤ nI i from nI_ge (b := 1000000) (by omega) (by omega)), ck_t (ixb_t (by omega) (by omega)), nI_clamp (by omega)]
    rcases (h c hc).2 with ⟨z1, z2⟩ | ⟨d, z1, z2, z3, z4⟩
    · rw [if_pos z1, z2]
      exact ⟨lk, rfl, h, fun _ => Iff.rfl⟩
    · omega
  | succ m ih =>
    intro i c f lk h hm hi hf hc
    obtain ⟨f, rfl⟩ : ∃ z, f = z + 1 := ⟨f - 1, by omega⟩
    rw [p_Unifier_rootOf_11, if_neg (show ¬ 1000000 ≤ nI i from nI_ge (b := 1000000) (by omega) (by omega)), ck_t (ixb_t (by omega) (by omega)), nI_clamp (by omega)]
    rcases (h c hc).2 with ⟨z1, z2⟩ | ⟨d, z1, z2, z3, z4⟩
    · rw [if_pos z1, z2]
      exact ⟨lk, rfl, h, fun _ => Iff.rfl⟩
    · have nz : ¬ lk c = 0 := by rw [z2]; exact nI_ne0 (by omega) (by omega)
      rw [if_neg nz, ck_t (ixb_t (by omega) (by omega)), z2, nI_pred, ck_t (ixb_t (by omega) (by omega)), nI_clamp (n := d) (by omega), nI_1]
      rcases (h d z1).2 with ⟨y1, y2⟩ | ⟨e, y1, y2, y3, y4⟩
      · rw [if_pos y1, z3]
        exact ih (i + 1) d f lk h (by omega) (by omega) (by omega) z1
      · have nz2 : ¬ lk d = 0 := by rw [y2]; exact nI_ne0 (by omega) (by omega)
        rw [if_neg nz2, ck_t (ixb_t (by omega) (by omega)), ck_t (ixb_t (by omega) (by omega)), z3]
        have h2 : UF (upd lk c (lk d)) N rc mu K := fun x hx => by
          by_cases q : x = c
          · subst q
            refine ⟨(h x hx).1, Or.inr ⟨e, y1, by rw [pk_us]; exact y2, by rw [z3, y3], by omega⟩⟩
          · rw [pk_un q]
            exact h x hx
        obtain ⟨lk', w1, w2, w3⟩ := ih (i + 1) d f _ h2 (by omega) (by omega) (by omega) z1
        refine ⟨lk', w1, w2, fun x => ?_⟩
        rw [w3]
        by_cases q : x = c
        · subst q
          rw [pk_us]
          exact ⟨fun z => absurd z nz2, fun z => absurd z nz⟩
        · rw [pk_un q]
/-! ===== the machine of joining ===== -/
abbrev Us : Type := (Av → Av) × List (Av × Av) × List Av × Bool
def jn (ρ : Av → Av) (a b : Av) : Av → Av := fun z => if ρ z = a then b else ρ z
abbrev alk (S : List Nd) (a b : Av) : Prop := a.1 = none ∧ b.1 = none ∧ nma S a = nma S b ∧ (pav S a).length = (pav S b).length
def usp (S : List Nd) (st : Bool) (ρ : Av → Av) (a b : Av) (t : List (Av × Av)) (J : List Av) : Us :=
  if a = b then (ρ, t, J, false)
  else if isV a then (if st = true then (ρ, t, J, true) else (jn ρ a b, t, a :: J, false))
  else if isV b then (if st = true then (ρ, t, J, true) else (jn ρ b a, t, b :: J, false))
  else if alk S a b then (jn ρ a b, (pav S a).zip (pav S b) ++ t, a :: J, false)
  else (ρ, t, J, true)
def ust (S : List Nd) (μ : Av → Av) (st : Bool) : Us → Us
  | (ρ, (x, y) :: t, J, false) => usp S st ρ (ρ (μ x)) (ρ (μ y)) t J
  | s => s
def un (S : List Nd) (μ : Av → Av) (st : Bool) : Nat → Us → Us
  | 0, s => s
  | k + 1, s => un S μ st k (ust S μ st s)
def ufin (s : Us) : Prop := s.2.1 = [] ∨ s.2.2.2 = true
theorem ust_fin {S : List Nd} {μ : Av → Av} {st : Bool} {s : Us} (h : ufin s) : ust S μ st s = s := by
  obtain ⟨ρ, t, J, f⟩ := s
  rcases h with h | h
  · dsimp only at h
    subst h
    rfl
  · dsimp only at h
    subst h
    cases t with
    | nil => rfl
    | cons x t => rfl
theorem un_fin {S : List Nd} {μ : Av → Av} {st : Bool} : ∀ (k : Nat) {s : Us}, ufin s → un S μ st k s = s := by
  intro k
  induction k with
  | zero => intro s _; rfl
  | succ k ih => intro s h; rw [un, ust_fin h, ih h]
/-- what may be met -/
def DO (S : List Nd) (D : Av → Prop) : Prop := (∀ a, D a → a.1 = none → a.2 < 200 + S.length) ∧ (∀ a b, D a → b ∈ pav S a → D b)
def D8 (S : List Nd) : Prop := ∀ (i : Nat) (d : Nd), S[i]? = some d → d.2.2.length ≤ 8
theorem pav_8 {S : List Nd} (h : D8 S) (a : Av) : (pav S a).length ≤ 8 := by
  unfold pav
  by_cases q : a.1 = none ∧ 200 ≤ a.2
  · rw [if_pos q, List.length_map]
    by_cases q2 : a.2 - 200 < S.length
    · have := h (a.2 - 200) _ (List.getElem?_eq_getElem q2)
      rw [List.getD_eq_getElem?_getD, List.getElem?_eq_getElem q2]
      exact this
    · rw [List.getD_eq_getElem?_getD, List.getElem?_eq_none (by omega)]
      exact Nat.zero_le _
  · rw [if_neg q]
    exact Nat.zero_le _
theorem nd_le : ∀ (N : Nat) (l : List Nat), l.Nodup → (∀ x, x ∈ l → x < N) → l.length ≤ N := by
  intro N
  induction N with
  | zero =>
    intro l _ h
    cases l with
    | nil => exact Nat.le_refl _
    | cons x l => exact absurd (h x (List.mem_cons_self ..)) (by omega)
  | succ N ih =>
    intro l h1 h2
    have := ih (l.erase N) (h1.erase N) (fun x hx => by
      obtain ⟨z1, z2⟩ := h1.mem_erase_iff.mp hx
      have := h2 x z2
      omega)
    rw [List.length_erase] at this
    by_cases q : N ∈ l
    · rw [if_pos q] at this
      omega
    · rw [if_neg q] at this
      omega
/-- the machine's own rule -/
def UI (S : List Nd) (B : Nat → Option Av) (D : Av → Prop) (s : Us) : Prop :=
  (∀ z, s.1 (s.1 z) = s.1 z) ∧ (∀ z, D z → D (s.1 z)) ∧ (∀ p, p ∈ s.2.1 → D p.1 ∧ D p.2) ∧ s.2.2.1.Nodup ∧ (∀ a, a ∈ s.2.2.1 → s.1 a ≠ a ∧ D a ∧ a.1 = none) ∧ (∀ a, fa B a → fa B (s.1 a)) ∧ (∀ a, ¬ fa B a → s.1 a = a) ∧ s.2.1.length ≤ 1 + 8 * s.2.2.1.length
theorem ui_J {S : List Nd} {B : Nat → Option Av} {D : Av → Prop} (hD : DO S D) {s : Us} (h : UI S B D s) : s.2.2.1.length ≤ 200 + S.length := by
  obtain ⟨_, _, _, h4, h5, _⟩ := h
  have := nd_le (200 + S.length) (s.2.2.1.map (·.2)) ?_ ?_
  · rw [List.length_map] at this
    exact this
  · unfold List.Nodup at h4 ⊢
    rw [List.pairwise_map]
    refine h4.imp_of_mem (fun {a b} ha hb hab e => hab ?_)
    have e1 := (h5 a ha).2.2
    have e2 := (h5 b hb).2.2
    obtain ⟨a1, a2⟩ := a
    obtain ⟨b1, b2⟩ := b
    dsimp only at e e1 e2
    rw [e, e1, e2]
  · intro x hx
    obtain ⟨a, ha, rfl⟩ := List.mem_map.mp hx
    exact hD.1 a (h5 a ha).2.1 (h5 a ha).2.2
theorem ui_jn {S : List Nd} {B : Nat → Option Av} {D : Av → Prop} {ρ : Av → Av} {t t' : List (Av × Av)} {J : List Av} {f : Bool} {a b : Av} (h : UI S B D (ρ, t, J, f)) (ha : ρ a = a) (hb : ρ b = b) (hab : a ≠ b) (Da : D a) (Db : D b) (na : a.1 = none) (fA : fa B a) (fB : fa B b) (ht : ∀ p, p ∈ t' → D p.1 ∧ D p.2) (hl : t'.length ≤ 1 + 8 * (J.length + 1)) : UI S B D (jn ρ a b, t', a :: J, f) := by
  obtain ⟨h1, h2, h3, h4, h5, h6, h7, h8⟩ := h
  dsimp only at h1 h2 h3 h4 h5 h6 h7 h8
  have nb : ¬ b = a := fun z => hab z.symm
  refine ⟨fun z => ?_, fun z hz => ?_, ht, ?_, fun x hx => ?_, fun x hx => ?_, fun x hx => ?_, ?_⟩
  · show jn ρ a b (jn ρ a b z) = jn ρ a b z
    unfold jn
    by_cases q : ρ z = a
    · rw [if_pos q, hb, if_neg nb]
    · rw [if_neg q, h1, if_neg q]
  · show D (jn ρ a b z)
    unfold jn
    by_cases q : ρ z = a
    · rw [if_pos q]; exact Db
    · rw [if_neg q]; exact h2 z hz
  · exact List.nodup_cons.mpr ⟨fun z => (h5 a z).1 ha, h4⟩
  · rcases List.mem_cons.mp hx with rfl | hx
    · refine ⟨?_, Da, na⟩
      show jn ρ x b x ≠ x
      unfold jn
      rw [if_pos ha]
      exact fun z => hab z.symm
    · refine ⟨?_, (h5 x hx).2⟩
      show jn ρ a b x ≠ x
      unfold jn
      by_cases q : ρ x = a
      · rw [if_pos q]
        exact fun z => (h5 x hx).1 (by rw [← z]; exact hb)
      · rw [if_neg q]
        exact (h5 x hx).1
  · show fa B (jn ρ a b x)
    unfold jn
    by_cases q : ρ x = a
    · rw [if_pos q]; exact fB
    · rw [if_neg q]; exact h6 x hx
  · show jn ρ a b x = x
    have := h7 x hx
    unfold jn
    by_cases q : ρ x = a
    · exfalso
      rw [this] at q
      subst q
      exact hx fA
    · rw [if_neg q]
      exact this
  · show t'.length ≤ 1 + 8 * (a :: J).length
    rw [List.length_cons]
    exact hl
/-- one step keeps it, and less is left -/
theorem ui_sp {S : List Nd} (h8' : D8 S) {B : Nat → Option Av} {D : Av → Prop} (hD : DO S D) {ρ : Av → Av} {t : List (Av × Av)} {J : List Av} {p : Av × Av} (h : UI S B D (ρ, p :: t, J, false)) {a b : Av} (ha : ρ a = a) (hb : ρ b = b) (Da : D a) (Db : D b) (fA : fa B a) (fB : fa B b) (st : Bool) : UI S B D (usp S st ρ a b t J) ∧ ((usp S st ρ a b t J).2.1.length + 9 * (200 + S.length - (usp S st ρ a b t J).2.2.1.length) < (p :: t).length + 9 * (200 + S.length - J.length) ∨ (usp S st ρ a b t J).2.2.2 = true) := by
  have h0 := h
  obtain ⟨h1, h2, h3, h4, h5, h6, h7, h8⟩ := h
  dsimp only at h1 h2 h3 h4 h5 h6 h7 h8
  have same : ∀ f, UI S B D (ρ, t, J, f) := fun f => ⟨h1, h2, fun q hq => h3 q (List.mem_cons_of_mem _ hq), h4, h5, h6, h7, by
    rw [List.length_cons] at h8
    show t.length ≤ 1 + 8 * J.length
    omega⟩
  rw [List.length_cons] at h8 ⊢
  unfold usp
  by_cases c1 : a = b
  · rw [if_pos c1]
    exact ⟨same false, Or.inl (by dsimp only; omega)⟩
  rw [if_neg c1]
  by_cases c2 : isV a
  · rw [if_pos c2]
    cases st with
    | true => exact ⟨same true, Or.inr rfl⟩
    | false =>
      rw [if_neg (by decide)]
      have u := ui_jn (t' := t) h0 ha hb c1 Da Db c2.1 fA fB (fun q hq => h3 q (List.mem_cons_of_mem _ hq)) (by omega)
      have := ui_J hD u
      dsimp only at this
      rw [List.length_cons] at this
      exact ⟨u, Or.inl (by dsimp only; rw [List.length_cons]; omega)⟩
  rw [if_neg c2]
  by_cases c3 : isV b
  · rw [if_pos c3]
    cases st with
    | true => exact ⟨same true, Or.inr rfl⟩
    | false =>
      rw [if_neg (by decide)]
      have u := ui_jn (t' := t) h0 hb ha (fun z => c1 z.symm) Db Da c3.1 fB fA (fun q hq => h3 q (List.mem_cons_of_mem _ hq)) (by omega)
      have := ui_J hD u
      dsimp only at this
      rw [List.length_cons] at this
      exact ⟨u, Or.inl (by dsimp only; rw [List.length_cons]; omega)⟩
  rw [if_neg c3]
  by_cases c4 : alk S a b
  · rw [if_pos c4]
    have l8 := pav_8 h8' a
    have lz : ((pav S a).zip (pav S b) ++ t).length ≤ 8 + t.length := by
      rw [List.length_append, List.length_zip]
      omega
    have u := ui_jn (t' := (pav S a).zip (pav S b) ++ t) h0 ha hb c1 Da Db c4.1 fA fB (fun q hq => by
      rcases List.mem_append.mp hq with z | z
      · obtain ⟨q1, q2⟩ := q
        exact ⟨hD.2 a _ Da (List.of_mem_zip z).1, hD.2 b _ Db (List.of_mem_zip z).2⟩
      · exact h3 q (List.mem_cons_of_mem _ z)) (by omega)
    have := ui_J hD u
    dsimp only at this
    rw [List.length_cons] at this
    exact ⟨u, Or.inl (by dsimp only; rw [List.length_cons]; omega)⟩
  rw [if_neg c4]
  exact ⟨same true, Or.inr rfl⟩
theorem ui_st {S : List Nd} (h8 : D8 S) {B : Nat → Option Av} {D : Av → Prop} (hD : DO S D) {μ : Av → Av} (hμ : ∀ z, D z → D (μ z) ∧ fa B (μ z)) (st : Bool) {s : Us} (h : UI S B D s) : UI S B D (ust S μ st s) ∧ (ufin s ∨ (ust S μ st s).2.1.length + 9 * (200 + S.length - (ust S μ st s).2.2.1.length) < s.2.1.length + 9 * (200 + S.length - s.2.2.1.length) ∨ (ust S μ st s).2.2.2 = true) := by
  by_cases q : ufin s
  · rw [ust_fin q]
    exact ⟨h, Or.inl q⟩
  · obtain ⟨ρ, t, J, f⟩ := s
    cases t with
    | nil => exact absurd (Or.inl rfl) q
    | cons p t =>
      cases f with
      | true => exact absurd (Or.inr rfl) q
      | false =>
        obtain ⟨x, y⟩ := p
        have hp := h.2.2.1 (x, y) (List.mem_cons_self ..)
        have g := ui_sp h8 hD h (a := ρ (μ x)) (b := ρ (μ y)) (h.1 _) (h.1 _) (h.2.1 _ (hμ x hp.1).1) (h.2.1 _ (hμ y hp.2).1) (h.2.2.2.2.2.1 _ (hμ x hp.1).2) (h.2.2.2.2.2.1 _ (hμ y hp.2).2) st
        exact ⟨g.1, Or.inr g.2⟩
theorem ui_end {S : List Nd} (h8 : D8 S) {B : Nat → Option Av} {D : Av → Prop} (hD : DO S D) {μ : Av → Av} (hμ : ∀ z, D z → D (μ z) ∧ fa B (μ z)) (st : Bool) : ∀ (m : Nat) (s : Us), UI S B D s → s.2.1.length + 9 * (200 + S.length - s.2.2.1.length) ≤ m → ufin (un S μ st m s) ∧ UI S B D (un S μ st m s) := by
  intro m
  induction m with
  | zero =>
    intro s h hm
    refine ⟨Or.inl ?_, h⟩
    show s.2.1 = []
    exact List.length_eq_zero_iff.mp (by omega)
  | succ m ih =>
    intro s h hm
    obtain ⟨g1, g2⟩ := ui_st h8 hD hμ st h
    rw [un]
    rcases g2 with g2 | g2 | g2
    · have e := ust_fin (S := S) (μ := μ) (st := st) g2
      rw [e, un_fin m g2]
      exact ⟨g2, h⟩
    · exact ih _ g1 (by omega)
    · rw [un_fin m (Or.inr g2)]
      exact ⟨Or.inr g2, g1⟩
/-! ===== the class joins ===== -/
def pr : List (Nat × Nat) → List Int32
  | [] => []
  | (x, y) :: t => pr t ++ [nI x] ++ [nI y]
theorem pr_len : ∀ t, (pr t).length = 2 * t.length := by
  intro t
  induction t with
  | nil => rfl
  | cons p t ih =>
    obtain ⟨x, y⟩ := p
    simp only [pr, List.length_append, List.length_cons, List.length_nil, ih]
    omega
/-- how many parts the nodes of a row have -/
def sj (S : List Nd) (l : List Nat) : Nat := (l.map (fun c => (pav S (avc S c)).length)).sum
theorem sj_app (S : List Nd) (l : List Nat) (x : Nat) : sj S (l ++ [x]) = sj S l + (pav S (avc S x)).length := by
  unfold sj
  rw [List.map_append, List.sum_append]
  simp
theorem sum_nd (f : Nat → Nat) : ∀ (N : Nat) (l : List Nat), l.Nodup → (∀ x, x ∈ l → x < N) → (l.map f).sum ≤ ((List.range N).map f).sum := by
  intro N
  induction N with
  | zero =>
    intro l _ h
    cases l with
    | nil => exact Nat.zero_le _
    | cons a l => exact absurd (h a (List.mem_cons_self ..)) (Nat.not_lt_zero _)
  | succ N ih =>
    intro l h1 h2
    rw [List.range_succ, List.map_append, List.sum_append]
    have e : ([N].map f).sum = f N := by simp
    rw [e]
    have h3 := ih (l.erase N) (h1.erase N) (fun x hx => by
      obtain ⟨z1, z2⟩ := h1.mem_erase_iff.mp hx
      have := h2 x z2
      omega)
    by_cases q : N ∈ l
    · have := (List.perm_cons_erase q).map f |>.sum_nat
      rw [List.map_cons, List.sum_cons] at this
      omega
    · rw [List.erase_of_not_mem q] at h3
      omega
theorem sj_all (S : List Nd) : ∀ k, k ≤ S.length → ((List.range (200 + k)).map (fun c => (pav S (avc S c)).length)).sum ≤ (pl (S.take k)).length := by
  intro k
  induction k with
  | zero =>
    intro _
    have : ∀ n, n ≤ 200 → ((List.range n).map (fun c => (pav S (avc S c)).length)).sum = 0 := by
      intro n
      induction n with
      | zero => intro _; rfl
      | succ n ih =>
        intro hn
        rw [List.range_succ, List.map_append, List.sum_append, ih (by omega)]
        have : pav S (avc S n) = [] := by
          rw [av_v (by omega)]
          unfold pav
          rw [if_neg (by dsimp only; omega)]
        simp [this]
    rw [this 200 (Nat.le_refl _)]
    exact Nat.zero_le _
  | succ k ih =>
    intro hk
    have h1 := ih (by omega)
    rw [show 200 + (k + 1) = 200 + k + 1 by omega, List.range_succ, List.map_append, List.sum_append, List.take_add_one, List.getElem?_eq_getElem (show k < S.length by omega)]
    have e : pl (S.take k ++ (some S[k]).toList) = pl (S.take k) ++ S[k].2.2.map rI := pl_app _ _
    rw [e, List.length_append, List.length_map]
    have e2 : ([200 + k].map (fun c => (pav S (avc S c)).length)).sum = (pav S (avc S (200 + k))).length := by simp
    rw [e2]
    have : (pav S (avc S (200 + k))).length ≤ S[k].2.2.length := by
      have eg : S.getD (200 + k - 200) (none, [], []) = S[k] := by
        rw [Nat.add_sub_cancel_left, List.getD_eq_getElem?_getD, List.getElem?_eq_getElem (show k < S.length by omega)]
        rfl
      unfold pav avc
      rw [if_neg (show ¬ 200 + k < 200 by omega), eg]
      by_cases q : S[k].1 = none
      · rw [if_pos q, if_pos ⟨rfl, by show 200 ≤ 200 + k; omega⟩, eg, List.length_map]
        exact Nat.le_refl _
      · rw [if_neg q, if_neg (fun z => q z.1)]
        exact Nat.zero_le _
    omega
theorem sj_le {S : List Nd} {l : List Nat} (h1 : l.Nodup) (h2 : ∀ x, x ∈ l → x < 200 + S.length) : sj S l ≤ (pl S).length := by
  have a := sum_nd (fun c => (pav S (avc S c)).length) (200 + S.length) l h1 h2
  have b := sj_all S S.length (Nat.le_refl _)
  rw [List.take_length] at b
  exact Nat.le_trans a b
/-- roots have 0 -/
def R0 (lk : Nat → Int32) (N : Nat) (mu : Nat → Nat) : Prop := ∀ c, c < N → lk c = 0 → mu c = 0
theorem uf_link {lk : Nat → Int32} {N : Nat} (hN : N ≤ 200000) {rc mu : Nat → Nat} {K : Nat} (h : UF lk N rc mu K) (h0 : R0 lk N mu) {a b : Nat} (ha : a < N) (hb : b < N) (ea : lk a = 0) (eb : lk b = 0) (hab : a ≠ b) : UF (upd lk a (nI (b + 1))) N (fun z => if rc z = a then b else rc z) (fun z => if rc z = a then mu z + 1 else mu z) (K + 1) ∧ R0 (upd lk a (nI (b + 1))) N (fun z => if rc z = a then mu z + 1 else mu z) := by
  have ra := uf_0 h (by omega) ha ea
  have rb := uf_0 h (by omega) hb eb
  have mb := h0 b hb eb
  have nb : ¬ b = a := fun z => hab z.symm
  have nz : ¬ nI (b + 1) = 0 := nI_ne0 (by omega) (by omega)
  constructor
  · intro c hc
    obtain ⟨k1, k2⟩ := h c hc
    dsimp only
    refine ⟨by split <;> omega, ?_⟩
    by_cases q : c = a
    · subst q
      refine Or.inr ⟨b, hb, pk_us, ?_, ?_⟩
      · rw [if_pos ra, rb, if_neg nb]
      · rw [if_pos ra, rb, if_neg nb, mb]
        omega
    · rw [pk_un q]
      rcases k2 with ⟨z1, z2⟩ | ⟨d, z1, z2, z3, z4⟩
      · exact Or.inl ⟨z1, by rw [z2, if_neg q]⟩
      · refine Or.inr ⟨d, z1, z2, by rw [z3], ?_⟩
        rw [z3]
        split <;> omega
  · intro c hc e
    by_cases q : c = a
    · subst q
      rw [pk_us] at e
      exact absurd e nz
    · rw [pk_un q] at e
      dsimp only
      rw [uf_0 h (by omega) hc e, if_neg q]
      exact h0 c hc e
/-- what is to be cleared -/
def CF (N : Nat) (lk : Nat → Int32) (Jc : List Nat) (js : Int32) (jq : Nat) (jf : Nat → Int32) : Prop := IN (Jc.map nI) js jq jf ∧ jq ≤ 50000 ∧ Jc.Nodup ∧ (∀ c, c ∈ Jc → c < N) ∧ ∀ c, lk c ≠ 0 ↔ c ∈ Jc
/-- the class at the loop's head -/
def CJ (S : List Nd) (s : Us) (lk : Nat → Int32) (ps : Int32) (pn : Nat) (pf : Nat → Int32) (js : Int32) (jq : Nat) (jf : Nat → Int32) : Prop := s.2.2.2 = false ∧ ∃ (tc : List (Nat × Nat)) (rc mu : Nat → Nat) (Jc : List Nat), s.2.1 = tc.map (fun p => (avc S p.1, avc S p.2)) ∧ UF lk (200 + S.length) rc mu Jc.length ∧ R0 lk (200 + S.length) mu ∧ (∀ c, c < 200 + S.length → avc S (rc c) = s.1 (avc S c)) ∧ IN (pr tc) ps pn pf ∧ pn ≤ 213000 ∧ CF (200 + S.length) lk Jc js jq jf ∧ tc.length ≤ 1 + sj S Jc
theorem cf_len {N : Nat} {lk : Nat → Int32} {Jc : List Nat} {js : Int32} {jq : Nat} {jf : Nat → Int32} (h : CF N lk Jc js jq jf) : Jc.length ≤ N := nd_le N Jc h.2.2.1 h.2.2.2.1
theorem ul_link {N ln : Nat} (hN : N ≤ 20900) (hln : N ≤ ln) {lk : Nat → Int32} {Jc : List Nat} {js : Int32} {jq : Nat} {jf : Nat → Int32} (h : CF N lk Jc js jq jf) {a b : Nat} (ha : a < N) (ea : lk a = 0) (hb : b < N) : wp (p_Unifier_link (nI a) (nI b) ln lk js jq jf) (fun ((lk', js', jq', jf'), mq, sk) => lk' = upd lk a (nI (b + 1)) ∧ CF N lk' (Jc ++ [a]) js' jq' jf' ∧ wc jq jq' mq sk) := by
  have hl := cf_len h
  obtain ⟨h1, h2, h3, h4, h5⟩ := h
  have na : a ∉ Jc := fun z => (h5 a).mpr z ea
  have nd : (Jc ++ [a]).Nodup := by
    rw [List.nodup_append]
    refine ⟨h3, by simp, fun x hx y hy e => ?_⟩
    rw [List.mem_singleton] at hy
    subst hy e
    exact na hx
  have lt : ∀ c, c ∈ Jc ++ [a] → c < N := fun c hc => by
    rcases List.mem_append.mp hc with z | z
    · exact h4 c z
    · rw [List.mem_singleton] at z
      subst z
      exact ha
  have l2 := nd_le N _ nd lt
  rw [List.length_append, List.length_singleton] at l2
  unfold p_Unifier_link
  refine wp_ck (ixb_t (by omega) (by omega)) (wp_bind (in_push (nI a) h1 (by rw [List.length_map]; omega)) ?_)
  rintro ⟨⟨js', jq', jf'⟩, mq, sk⟩ ⟨g1, g2, g3, g4⟩
  rw [List.length_map] at g4
  refine wp_als ?_
  rw [nI_1, nI_clamp (by omega)]
  refine ⟨rfl, ⟨by rw [List.map_append]; exact g1, by omega, nd, lt, fun c => ?_⟩, by omega, by omega⟩
  by_cases q : c = a
  · subst q
    rw [pk_us]
    exact ⟨fun _ => List.mem_append_right _ (List.mem_singleton.mpr rfl), fun _ => nI_ne0 (by omega) (by omega)⟩
  · rw [pk_un q, h5]
    exact ⟨fun z => List.mem_append_left _ z, fun z => by
      rcases List.mem_append.mp z with z | z
      · exact z
      · exact absurd (List.mem_singleton.mp z) q⟩
theorem ct_isV {T : List (List Int32)} {S : List Nd} {nd : Int32} {sn : Nat} {sf : Nat → Int32} {vn : Nat} {vf : Nat → Int64} {fn : Nat} {ff : Nat → Int32} {ps : Int32} {pn : Nat} {pf : Nat → Int32} (h : CT T S nd sn sf vn vf fn ff ps pn pf) (a b d e g i j : Int32) {c : Nat} (hc : c < 200 + S.length) : p_Terms_isVariable (nI c) a b d e g i j sn sf = some (if c < 200 then 1 else 0) := by
  obtain ⟨h1, h2, h3, h4, h5, h6, h7, h8, h9, h10, h11⟩ := h
  unfold p_Terms_isVariable
  rw [ck_t (ixb_t (by omega) (by omega)), nI_clamp (by omega)]
  by_cases q : c < 200
  · rw [h10 c q, if_pos rfl, if_pos q]
  · obtain ⟨k, rfl⟩ : ∃ k, c = 200 + k := ⟨c - 200, by omega⟩
    have hk : k < S.length := by omega
    rw [if_neg q, if_neg]
    obtain ⟨z, _⟩ := h11 k _ (List.getElem?_eq_getElem hk)
    rcases z with ⟨_, _, _, z, _⟩ | ⟨_, z, z3, _⟩
    · rw [z]; decide
    · rw [z]
      intro e
      have : nI S[k].2.2.length = -2 := e
      have w := nI_pos' (n := S[k].2.2.length) (by omega)
      rw [this] at w
      revert w
      decide
theorem ct_po {T : List (List Int32)} {S : List Nd} {nd : Int32} {sn : Nat} {sf : Nat → Int32} {vn : Nat} {vf : Nat → Int64} {fn : Nat} {ff : Nat → Int32} {ps : Int32} {pn : Nat} {pf : Nat → Int32} (h : CT T S nd sn sf vn vf fn ff ps pn pf) (a b d e g i j : Int32) {c : Nat} (hc : c < 200 + S.length) : p_Terms_partsOf (nI c) a b d e g i j sn sf = some (nI (pav S (avc S c)).length) := by
  obtain ⟨h1, h2, h3, h4, h5, h6, h7, h8, h9, h10, h11⟩ := h
  unfold p_Terms_partsOf
  rw [ck_t (ixb_t (by omega) (by omega)), nI_clamp (by omega)]
  by_cases q : c < 200
  · rw [h10 c q, if_pos (by decide), av_v q]
    unfold pav
    rw [if_neg (by dsimp only; omega)]
    rfl
  · obtain ⟨k, rfl⟩ : ∃ k, c = 200 + k := ⟨c - 200, by omega⟩
    have hk : k < S.length := by omega
    have e0 := List.getElem?_eq_getElem hk
    have e1 : S[200 + k - 200]? = some S[k] := by rw [Nat.add_sub_cancel_left]; exact e0
    obtain ⟨z, _⟩ := h11 k _ e0
    rcases z with ⟨w, z1, _, z, _⟩ | ⟨z1, z, z3, _⟩
    · rw [z, if_pos (by decide), av_i (by omega) e1 z1]
      unfold pav
      rw [if_neg (by intro q; cases q.1)]
      rfl
    · rw [z, if_neg (nI_pos (by omega)), av_c (by omega) e1 z1]
      unfold pav
      rw [if_pos ⟨rfl, by omega⟩, List.length_map, List.getD_eq_getElem?_getD, e1]
      rfl
theorem ct_pa {T : List (List Int32)} {S : List Nd} {nd : Int32} {sn : Nat} {sf : Nat → Int32} {vn : Nat} {vf : Nat → Int64} {fn : Nat} {ff : Nat → Int32} {ps : Int32} {pn : Nat} {pf : Nat → Int32} (h : CT T S nd sn sf vn vf fn ff ps pn pf) (a b d e g i j : Int32) {c : Nat} (hc : c < 200 + S.length) {k : Nat} (hk : k < (pav S (avc S c)).length) : ∃ y, p_Terms_partAt (nI c) (nI k) a b d e g i j fn ff ps pn pf = some (nI y) ∧ (pav S (avc S c))[k]? = some (avc S y) := by
  obtain ⟨h1, h2, h3, h4, h5, h6, h7, h8, h9, h10, h11⟩ := h
  have hn : (avc S c).1 = none ∧ 200 ≤ (avc S c).2 := by
    unfold pav at hk
    by_cases q : (avc S c).1 = none ∧ 200 ≤ (avc S c).2
    · exact q
    · rw [if_neg q] at hk
      exact absurd hk (by simp)
  have ec := av_snd hn.1
  have c2 : 200 ≤ c := by have := hn.2; rw [ec] at this; exact this
  obtain ⟨i', rfl⟩ : ∃ i', c = 200 + i' := ⟨c - 200, by omega⟩
  have hi : i' < S.length := by omega
  have e0 := List.getElem?_eq_getElem hi
  have e1 : S.getD (200 + i' - 200) (none, [], []) = S[i'] := by rw [Nat.add_sub_cancel_left, List.getD_eq_getElem?_getD, e0]; rfl
  have ep : pav S (avc S (200 + i')) = S[i'].2.2.map (fun r => avc S (ci r)) := by
    unfold pav
    rw [if_pos hn, ec, e1]
  rw [ep, List.length_map] at hk
  obtain ⟨_, z2⟩ := h11 i' _ e0
  obtain ⟨p1, p2⟩ := pl_at e0 hk
  refine ⟨ci S[i'].2.2[k], ?_, ?_⟩
  · unfold p_Terms_partAt
    rw [ck_t (ixb_t (by omega) (by omega)), nI_clamp (by omega), z2, nI_add, in_at h8 p1, Option.bind_some, p2, List.getD_eq_getElem?_getD, List.getElem?_eq_getElem hk]
    rfl
  · rw [ep, List.getElem?_map, List.getElem?_eq_getElem hk]
    rfl
theorem ct_alike {T : List (List Int32)} (hT : T.Nodup) (hTl : T.length < 65536) {S : List Nd} {nd : Int32} {sn : Nat} {sf : Nat → Int32} {vn : Nat} {vf : Nat → Int64} {fn : Nat} {ff : Nat → Int32} {ps : Int32} {pn : Nat} {pf : Nat → Int32} (h : CT T S nd sn sf vn vf fn ff ps pn pf) (a b d e g i j : Int32) {x y : Nat} (hx : x < 200 + S.length) (hy : y < 200 + S.length) (vx : 200 ≤ x) (vy : 200 ≤ y) : p_Terms_areAlike (nI x) (nI y) a b d e g i j sn sf vn vf = some (if (avc S x).1 ≠ none ∧ avc S x = avc S y ∨ alk S (avc S x) (avc S y) then 1 else 0) := by
  have h0 := h
  obtain ⟨h1, h2, h3, h4, h5, h6, h7, h8, h9, h10, h11⟩ := h
  obtain ⟨i', rfl⟩ : ∃ i', x = 200 + i' := ⟨x - 200, by omega⟩
  obtain ⟨j', rfl⟩ : ∃ j', y = 200 + j' := ⟨y - 200, by omega⟩
  have hi : i' < S.length := by omega
  have hj : j' < S.length := by omega
  have e0 := List.getElem?_eq_getElem hi
  have f0 := List.getElem?_eq_getElem hj
  have e1 : S[200 + i' - 200]? = some S[i'] := by rw [Nat.add_sub_cancel_left]; exact e0
  have f1 : S[200 + j' - 200]? = some S[j'] := by rw [Nat.add_sub_cancel_left]; exact f0
  have e2 : S.getD (200 + i' - 200) (none, [], []) = S[i'] := by rw [List.getD_eq_getElem?_getD, e1]; rfl
  have f2 : S.getD (200 + j' - 200) (none, [], []) = S[j'] := by rw [List.getD_eq_getElem?_getD, f1]; rfl
  obtain ⟨z, _⟩ := h11 i' _ e0
  obtain ⟨w, _⟩ := h11 j' _ f0
  have neg1 : ∀ k, k ≤ 8 → ¬ nI k = -1 := fun k hk => nm1 (by omega)
  unfold p_Terms_areAlike
  rw [ck_t (ixb_t (by omega) (by omega)), ck_t (ixb_t (by omega) (by omega)), nI_clamp (by omega), nI_clamp (by omega), ck_t (ixb_t (by omega) (by omega)), ck_t (ixb_t (by omega) (by omega))]
  rcases z with ⟨z0, z1, z2, z3, z4⟩ | ⟨z1, z3, z5, jx, z6, z7, z8⟩
  · rcases w with ⟨w0, w1, w2, w3, w4⟩ | ⟨w1, w3, w5, jy, w6, w7, w8⟩
    · rw [z3, w3, if_pos rfl, z4, w4, av_i (by omega) e1 z1, av_i (by omega) f1 w1]
      by_cases c : z0 = w0
      · subst c
        rw [if_pos ((lg_cmp_eq _ _).mpr rfl), if_pos (Or.inl ⟨(fun q => by cases q), rfl⟩)]
      · rw [if_neg (fun q => c ((lg_cmp_eq _ _).mp q)), if_neg]
        rintro (⟨_, q⟩ | q)
        · injection q with q
          injection q with q
          exact c q
        · cases q.1
    · rw [z3, w3, if_neg (fun q => neg1 _ w5 q.symm), av_i (by omega) e1 z1, av_c (by omega) f1 w1, if_neg]
      rintro (⟨_, q⟩ | q)
      · injection q with q
        cases q
      · cases q.1
  · rcases w with ⟨w0, w1, w2, w3, w4⟩ | ⟨w1, w3, w5, jy, w6, w7, w8⟩
    · rw [z3, w3, if_neg (neg1 _ z5), av_c (by omega) e1 z1, av_i (by omega) f1 w1, if_neg]
      rintro (⟨q, _⟩ | q)
      · exact q rfl
      · cases q.2.1
    · have lx : pav S (none, 200 + i') = S[i'].2.2.map (fun r => avc S (ci r)) := by
        unfold pav
        rw [if_pos ⟨rfl, by omega⟩, e2]
      have ly : pav S (none, 200 + j') = S[j'].2.2.map (fun r => avc S (ci r)) := by
        unfold pav
        rw [if_pos ⟨rfl, by omega⟩, f2]
      rw [z3, w3, av_c (by omega) e1 z1, av_c (by omega) f1 w1, z8, w8]
      have key : (nI S[i'].2.2.length = nI S[j'].2.2.length ∧ lg_cmp (lN jx) (lN jy) = 0) ↔ ((none : Option Int64) ≠ none ∧ ((none, 200 + i') : Av) = (none, 200 + j') ∨ alk S (none, 200 + i') (none, 200 + j')) := by
        rw [lg_cmp_eq, lN_eq (by omega) (by omega), nI_eq (by omega) (by omega)]
        unfold alk nma
        rw [lx, ly, List.length_map, List.length_map, e2, f2]
        constructor
        · rintro ⟨q1, q2⟩
          exact Or.inr ⟨rfl, rfl, by rw [← z7, ← w7, q2], q1⟩
        · rintro (⟨q, _⟩ | ⟨_, _, q3, q4⟩)
          · exact absurd rfl q
          · refine ⟨q4, (List.getElem?_inj z6 hT).mp ?_⟩
            rw [List.getD_eq_getElem?_getD, List.getElem?_eq_getElem z6, Option.getD_some] at z7
            rw [List.getD_eq_getElem?_getD, List.getElem?_eq_getElem w6, Option.getD_some] at w7
            rw [List.getElem?_eq_getElem z6, List.getElem?_eq_getElem w6, z7, w7]
            exact congrArg some q3
      by_cases c1 : nI S[i'].2.2.length = nI S[j'].2.2.length
      · rw [if_pos c1]
        by_cases c2 : lg_cmp (lN jx) (lN jy) = 0
        · rw [if_pos c2, if_pos (key.mp ⟨c1, c2⟩)]
        · rw [if_neg c2, if_neg (fun q => c2 (key.mpr q).2)]
      · rw [if_neg c1, if_neg (fun q => c1 (key.mpr q).1)]
theorem sb1 (x : Int32) : x + (-1) = x - 1 := (Int32.sub_eq_add_neg x 1).symm
/-- the parts of both, pair by pair -/
theorem jr_loop {T : List (List Int32)} {S : List Nd} (hS : S.length ≤ 20700) {nd : Int32} {sn : Nat} {sf : Nat → Int32} {vn : Nat} {vf : Nat → Int64} {fn : Nat} {ff : Nat → Int32} {tp : Int32} {tn : Nat} {tf : Nat → Int32} (h : CT T S nd sn sf vn vf fn ff tp tn tf) (n : Nat) (a b d e g i j : Int32) (lk : Nat → Int32) (js : Int32) (jq : Nat) (jf : Nat → Int32) {x y : Nat} (hx : x < 200 + S.length) (hy : y < 200 + S.length) (t : List (Nat × Nat)) (hlen : (pav S (avc S x)).length = (pav S (avc S y)).length) : ∀ (m f : Nat) (X ps : Int32) (pn : Nat) (pf : Nat → Int32) (w : List (Nat × Nat)), X = nI m - 1 → m ≤ 8 → m ≤ (pav S (avc S x)).length → m < f → w.map (fun p => (avc S p.1, avc S p.2)) = ((pav S (avc S x)).zip (pav S (avc S y))).drop m → IN (pr (w ++ t)) ps pn pf → pn ≤ 213000 → 2 * (2 * ((pav S (avc S x)).length + t.length)) ≤ 213000 → wp (p_Unifier_joinRoots_70 n (nI x) (nI y) a b d e g i j fn ff tp tn tf lk js jq jf f X ps pn pf) (fun ((r, lk', ps', pn', pf', js', jq', jf'), mq, sk) => r = 1 ∧ lk' = lk ∧ js' = js ∧ jq' = jq ∧ jf' = jf ∧ (∃ w', w'.map (fun p => (avc S p.1, avc S p.2)) = (pav S (avc S x)).zip (pav S (avc S y)) ∧ IN (pr (w' ++ t)) ps' pn' pf') ∧ pn' ≤ 213000 ∧ wc pn pn' mq sk) := by
  intro m
  induction m with
  | zero =>
    intro f X ps pn pf w hX _ _ hf hw hI hp hb
    obtain ⟨f, rfl⟩ : ∃ z, f = z + 1 := ⟨f - 1, by omega⟩
    subst hX
    unfold p_Unifier_joinRoots_70
    exact wp_it (by decide) (wp_some ⟨rfl, rfl, rfl, rfl, rfl, ⟨w, by rw [hw, List.drop_zero], hI⟩, hp, wc_refl _⟩)
  | succ m ih =>
    intro f X ps pn pf w hX h8 hm hf hw hI hp hb
    obtain ⟨f, rfl⟩ : ∃ z, f = z + 1 := ⟨f - 1, by omega⟩
    rw [nI_pred] at hX
    subst hX
    obtain ⟨u, u1, u2⟩ := ct_pa h a b d e g i j hx (k := m) (by omega)
    obtain ⟨v, v1, v2⟩ := ct_pa h a b d e g i j hy (k := m) (by omega)
    have lw : w.length + m + 1 = (pav S (avc S x)).length := by
      have := congrArg List.length hw
      rw [List.length_map, List.length_drop, List.length_zip] at this
      omega
    have lp : (pr (w ++ t)).length = 2 * (w.length + t.length) := by rw [pr_len, List.length_append]
    rw [p_Unifier_joinRoots_70]
    refine wp_if (nI_pos (by omega)) (wp_bs u1 (wp_bind (in_push (nI u) hI (by omega)) ?_))
    rintro ⟨⟨ps1, pn1, pf1⟩, mq1, sk1⟩ ⟨g1, g2, g3, g4⟩
    dsimp only
    refine wp_al (wp_bs v1 (wp_bind (in_push (nI v) g1 (by rw [List.length_append, List.length_singleton]; omega)) ?_))
    rintro ⟨⟨ps2, pn2, pf2⟩, mq2, sk2⟩ ⟨k1, k2, k3, k4⟩
    rw [List.length_append, List.length_singleton] at k4
    dsimp only
    rw [sb1]
    refine wp_al (wp_mono (ih f _ ps2 pn2 pf2 ((u, v) :: w) rfl (by omega) (by omega) (by omega) ?_ k1 (by omega) hb) ?_)
    · rw [List.map_cons, hw]
      have hz : m < ((pav S (avc S x)).zip (pav S (avc S y))).length := by rw [List.length_zip]; omega
      rw [List.drop_eq_getElem_cons hz]
      congr 1
      have := List.getElem?_eq_getElem hz
      rw [List.getElem_zip]
      rw [List.getElem?_eq_getElem (by omega)] at u2 v2
      injection u2 with u2
      injection v2 with v2
      rw [u2, v2]
    · rintro ⟨⟨r, lk', ps', pn', pf', js', jq', jf'⟩, mq, sk⟩ ⟨r1, r2, r3, r4, r5, r6, r7, r8, r9⟩
      refine ⟨r1, r2, r3, r4, r5, r6, r7, ?_, ?_⟩
      · show 64 * (mq + mq2 + mq1) + pn ≤ pn'
        omega
      · show (sk + sk2 + sk1) + 2 * pn ≤ 2 * pn'
        omega
/-- the bindings don't change while the class joins -/
theorem ur_root {S : List Nd} (hS : S.length ≤ 20700) {B : Nat → Option Av} {bc : Nat → Int32} (hB : CBd S B bc) {rk : Nat → Nat} {μ : Av → Av} (hM : MU B rk μ) (a b d e g i j : Int32) {ln : Nat} (hln : 200 + S.length ≤ ln) {lk : Nat → Int32} {rc mu : Nat → Nat} {K : Nat} (hK : K ≤ 50000) (hU : UF lk (200 + S.length) rc mu K) {ρ : Av → Av} (hr : ∀ c, c < 200 + S.length → avc S (rc c) = ρ (avc S c)) {c : Nat} (hc : c < 200 + S.length) : ∃ x lk', p_Unifier_rootOf pure_n (nI c) a b d e g i j 200 bc ln lk = some (nI x, lk') ∧ x < 200 + S.length ∧ avc S x = ρ (μ (avc S c)) ∧ rc x = x ∧ UF lk' (200 + S.length) rc mu K ∧ (∀ z, lk' z = 0 ↔ lk z = 0) ∧ lk' x = 0 ∧ (B c = none → x = rc c) := by
  obtain ⟨c', c1, c2, c3, c4, c5⟩ := cme_loop pure_n (by omega) hB hM 200 0 c pure_n (by omega) hc (fun _ => hM.2.2.2 c) (by have := pure_ge; omega)
  rw [nI_0] at c1
  obtain ⟨lk', l1, l2, l3⟩ := ur_loop pure_n hln (by omega) (mu c') 0 c' pure_n lk hU (Nat.le_refl _) (by have := (hU c' c2).1; omega) (by have := (hU c' c2).1; have := pure_ge; omega) c2
  rw [nI_0] at l1
  obtain ⟨r1, r2⟩ := uf_root l2 _ c' (Nat.le_refl _) c2
  refine ⟨rc c', lk', ?_, r1, by rw [hr c' c2, c3], uf_0 l2 (by omega) r1 r2, l2, l3, r2, fun z => by rw [c5 z]⟩
  unfold p_Unifier_rootOf p_Terms_meant
  rw [c1, Option.bind_some, l1]
theorem sp_keep {S : List Nd} {B : Nat → Option Av} {ρ : Av → Av} {rc : Nat → Nat} {a b : Nat} (hr : ∀ c, c < 200 + S.length → avc S (rc c) = ρ (avc S c)) (na : (avc S a).1 = none) : ∀ c, c < 200 + S.length → avc S (if rc c = a then b else rc c) = jn ρ (avc S a) (avc S b) (avc S c) := fun c hc => by
  unfold jn
  rw [← hr c hc]
  by_cases q : rc c = a
  · rw [if_pos q, q, if_pos rfl]
  · rw [if_neg q, if_neg (fun z => q (av_inj z (by rw [z]; exact na)))]
/-! ===== the class joins two roots, and all ===== -/
def FL (S : List Nd) (lk : Nat → Int32) (ps : Int32) (pn : Nat) (pf : Nat → Int32) (js : Int32) (jq : Nat) (jf : Nat → Int32) : Prop := (∃ Jc, CF (200 + S.length) lk Jc js jq jf) ∧ (∃ l, IN l ps pn pf) ∧ pn ≤ 213000
abbrev Jt : Type := (Int32 × (Nat → Int32) × Int32 × Nat × (Nat → Int32) × Int32 × Nat × (Nat → Int32)) × Nat × Nat
def JP (S : List Nd) (s : Us) (pn jq : Nat) : Jt → Prop := fun ((r, lk', ps', pn', pf', js', jq', jf'), mq, sk) => ((s.2.2.2 = false ∧ r = 1 ∧ CJ S s lk' ps' pn' pf' js' jq' jf') ∨ (s.2.2.2 = true ∧ r = 0 ∧ FL S lk' ps' pn' pf' js' jq' jf')) ∧ wc (pn + jq) (pn' + jq') mq sk
theorem zab_b (st : Bool) : zab (b1 (! st)) = true := by cases st <;> rfl
theorem ujr {T : List (List Int32)} (hT : T.Nodup) (hTl : T.length < 65536) {S : List Nd} (hS : S.length ≤ 20700) {nd : Int32} {sn : Nat} {sf : Nat → Int32} {vn : Nat} {vf : Nat → Int64} {fn : Nat} {ff : Nat → Int32} {tp : Int32} {tn : Nat} {tf : Nat → Int32} (h : CT T S nd sn sf vn vf fn ff tp tn tf) (h8 : D8 S) (st : Bool) (a b d e g i j : Int32) {ln : Nat} (hln : 200 + S.length ≤ ln) {lk : Nat → Int32} {rc mu : Nat → Nat} {Jc : List Nat} (hU : UF lk (200 + S.length) rc mu Jc.length) (hR : R0 lk (200 + S.length) mu) {ρ : Av → Av} (hr : ∀ c, c < 200 + S.length → avc S (rc c) = ρ (avc S c)) {js : Int32} {jq : Nat} {jf : Nat → Int32} (hF : CF (200 + S.length) lk Jc js jq jf) {t : List (Nat × Nat)} {ps : Int32} {pn : Nat} {pf : Nat → Int32} (hI : IN (pr t) ps pn pf) (hp : pn ≤ 213000) (ht : t.length ≤ sj S Jc) {x y : Nat} (hx : x < 200 + S.length) (hy : y < 200 + S.length) (ex : lk x = 0) (ey : lk y = 0) (hxy : x ≠ y) (J : List Av) : wp (p_Unifier_joinRoots pure_n (nI x) (nI y) (b1 (! st)) a b d e g i j sn sf vn vf fn ff tp tn tf ln lk ps pn pf js jq jf) (JP S (usp S st ρ (avc S x) (avc S y) (t.map (fun p => (avc S p.1, avc S p.2))) J) pn jq) := by
  have hJ := cf_len hF
  have hpl : (pl S).length ≤ 53000 := by have := h.2.2.2.2.2.2.2.1.2.1; have := h.2.2.2.2.2.2.2.2.1; omega
  have sl : ∀ {l : List Nat} {k : Nat → Int32} {js : Int32} {jq : Nat} {jf : Nat → Int32}, CF (200 + S.length) k l js jq jf → sj S l ≤ 53000 := fun hh => Nat.le_trans (sj_le hh.2.2.1 hh.2.2.2.1) hpl
  obtain ⟨L1, L2⟩ := uf_link (by omega) hU hR hx hy ex ey hxy
  obtain ⟨M1, M2⟩ := uf_link (by omega) hU hR hy hx ey ex (fun z => hxy z.symm)
  have W1 := ul_link (N := 200 + S.length) (by omega) hln hF hx ex hy
  have W2 := ul_link (N := 200 + S.length) (by omega) hln hF hy ey hx
  unfold p_Unifier_joinRoots
  by_cases cx : x < 200
  · have i1 : p_Terms_isVariable (nI x) a b d e g i j sn sf = some 1 := (ct_isV h a b d e g i j hx).trans (by rw [if_pos cx])
    have vx : isV (avc S x) := av_isV.mpr cx
    have ne : ¬ avc S x = avc S y := fun z => hxy (av_inj z vx.1)
    refine wp_bs i1 (wp_if (by decide) (wp_bind W1 ?_))
    rintro ⟨⟨lk', js', jq', jf'⟩, mq, sk⟩ ⟨rfl, w2, w3⟩
    refine wp_al (wp_ck (zab_b st) (wp_some ?_))
    unfold JP usp
    rw [if_neg ne, if_pos vx]
    refine ⟨?_, by have := w3.1; show 64 * (0 + mq) + (pn + jq) ≤ pn + jq'; omega, by have := w3.2; show (0 + sk) + 2 * (pn + jq) ≤ 2 * (pn + jq'); omega⟩
    cases st with
    | true => exact Or.inr ⟨rfl, rfl, ⟨_, w2⟩, ⟨_, hI⟩, hp⟩
    | false => exact Or.inl ⟨rfl, rfl, rfl, t, _, _, _, rfl, by rw [List.length_append]; exact L1, L2, sp_keep (B := fun _ => none) hr vx.1, hI, hp, w2, by rw [sj_app]; omega⟩
  have i0 : p_Terms_isVariable (nI x) a b d e g i j sn sf = some 0 := (ct_isV h a b d e g i j hx).trans (by rw [if_neg cx])
  have vx : ¬ isV (avc S x) := fun z => cx (av_isV.mp z)
  refine wp_bs i0 (wp_it rfl ?_)
  by_cases cy : y < 200
  · have i1 : p_Terms_isVariable (nI y) a b d e g i j sn sf = some 1 := (ct_isV h a b d e g i j hy).trans (by rw [if_pos cy])
    have vy : isV (avc S y) := av_isV.mpr cy
    have ne : ¬ avc S x = avc S y := fun z => hxy (av_inj z.symm vy.1).symm
    refine wp_bs i1 (wp_if (by decide) (wp_bind W2 ?_))
    rintro ⟨⟨lk', js', jq', jf'⟩, mq, sk⟩ ⟨rfl, w2, w3⟩
    refine wp_al (wp_ck (zab_b st) (wp_some ?_))
    unfold JP usp
    rw [if_neg ne, if_neg vx, if_pos vy]
    refine ⟨?_, by have := w3.1; show 64 * (0 + mq) + (pn + jq) ≤ pn + jq'; omega, by have := w3.2; show (0 + sk) + 2 * (pn + jq) ≤ 2 * (pn + jq'); omega⟩
    cases st with
    | true => exact Or.inr ⟨rfl, rfl, ⟨_, w2⟩, ⟨_, hI⟩, hp⟩
    | false => exact Or.inl ⟨rfl, rfl, rfl, t, _, _, _, rfl, by rw [List.length_append]; exact M1, M2, sp_keep (B := fun _ => none) hr vy.1, hI, hp, w2, by rw [sj_app]; omega⟩
  have i2 : p_Terms_isVariable (nI y) a b d e g i j sn sf = some 0 := (ct_isV h a b d e g i j hy).trans (by rw [if_neg cy])
  have vy : ¬ isV (avc S y) := fun z => cy (av_isV.mp z)
  refine wp_bs i2 (wp_it rfl (wp_bs (ct_alike hT hTl h a b d e g i j hx hy (by omega) (by omega)) ?_))
  by_cases c : (avc S x).1 ≠ none ∧ avc S x = avc S y ∨ alk S (avc S x) (avc S y)
  · rw [if_pos c]
    refine wp_if (by decide) (wp_bind W1 ?_)
    rintro ⟨⟨lk', js', jq', jf'⟩, mq, sk⟩ ⟨rfl, w2, w3⟩
    have le : (pav S (avc S x)).length = (pav S (avc S y)).length := by
      rcases c with ⟨_, c⟩ | c
      · rw [c]
      · exact c.2.2.2
    have l8 := pav_8 h8 (avc S x)
    have sw := sl w2
    rw [sj_app] at sw
    refine wp_al (wp_bs (ct_po h a b d e g i j hx) (wp_mono (jr_loop hS h pure_n a b d e g i j _ js' jq' jf' hx hy t le (pav S (avc S x)).length pure_n _ ps pn pf [] rfl l8 (Nat.le_refl _) (by have := pure_ge; omega) ?_ hI hp (by omega)) ?_))
    · rw [List.map_nil, List.drop_of_length_le (by rw [List.length_zip]; omega)]
    rintro ⟨⟨r, lk2, ps', pn', pf', js2, jq2, jf2⟩, mq2, sk2⟩ ⟨rfl, rfl, rfl, rfl, rfl, ⟨w', x1, x2⟩, x3, x4⟩
    have lw : w'.length = (pav S (avc S x)).length := by
      have := congrArg List.length x1
      rw [List.length_map, List.length_zip] at this
      omega
    unfold JP
    dsimp only
    refine ⟨Or.inl ?_, by have := w3.1; have := x4.1; show 64 * (mq2 + mq) + (pn + jq) ≤ pn' + jq2; omega, by have := w3.2; have := x4.2; show (sk2 + sk) + 2 * (pn + jq) ≤ 2 * (pn' + jq2); omega⟩
    unfold usp
    rcases c with ⟨c1, c2⟩ | c1
    · rw [if_pos c2]
      have e0 : pav S (avc S x) = [] := by
        unfold pav
        rw [if_neg (fun q => c1 q.1)]
      rw [e0] at lw
      obtain rfl : w' = [] := List.length_eq_zero_iff.mp lw
      refine ⟨rfl, rfl, rfl, t, _, _, _, rfl, by rw [List.length_append]; exact L1, L2, fun z hz => ?_, x2, x3, w2, by rw [sj_app]; omega⟩
      dsimp only
      by_cases q : rc z = x
      · rw [if_pos q, ← c2, ← q]
        exact hr z hz
      · rw [if_neg q]
        exact hr z hz
    · have ne : ¬ avc S x = avc S y := fun z => hxy (av_inj z c1.1)
      rw [if_neg ne, if_neg vx, if_neg vy, if_pos c1]
      exact ⟨rfl, rfl, rfl, w' ++ t, _, _, _, by rw [List.map_append, x1], by rw [List.length_append]; exact L1, L2, sp_keep (B := fun _ => none) hr c1.1, x2, x3, w2, by rw [List.length_append, sj_app]; omega⟩
  · rw [if_neg c]
    refine wp_it rfl (wp_some ?_)
    have ne : ¬ avc S x = avc S y := fun z => by
      by_cases q : (avc S x).1 = none
      · exact hxy (av_inj z q)
      · exact c (Or.inl ⟨q, z⟩)
    unfold JP usp
    rw [if_neg ne, if_neg vx, if_neg vy, if_neg (fun q => c (Or.inr q))]
    exact ⟨Or.inr ⟨rfl, rfl, ⟨_, hF⟩, ⟨_, hI⟩, hp⟩, wc_refl _⟩
theorem uja_loop {T : List (List Int32)} (hT : T.Nodup) (hTl : T.length < 65536) {S : List Nd} (hS : S.length ≤ 20700) {nd : Int32} {sn : Nat} {sf : Nat → Int32} {vn : Nat} {vf : Nat → Int64} {fn : Nat} {ff : Nat → Int32} {tp : Int32} {tn : Nat} {tf : Nat → Int32} (h : CT T S nd sn sf vn vf fn ff tp tn tf) (h8 : D8 S) {B : Nat → Option Av} {bc : Nat → Int32} (hB : CBd S B bc) {rk : Nat → Nat} {μ : Av → Av} (hM : MU B rk μ) {D : Av → Prop} (hD : DO S D) (hμ : ∀ z, D z → D (μ z) ∧ fa B (μ z)) (hDc : ∀ c, D (avc S c) → c < 200 + S.length) (st : Bool) (a b d e g i j : Int32) {ln : Nat} (hln : 200 + S.length ≤ ln) : ∀ (m f k : Nat) (s : Us) (js ps : Int32) (lk : Nat → Int32) (jq : Nat) (jf : Nat → Int32) (pn : Nat) (pf : Nat → Int32), ufin (un S μ st m s) → UI S B D s → CJ S s lk ps pn pf js jq jf → k + m < 1000000 → m < f → wp (p_Unifier_joinAll_19 pure_n (b1 (! st)) a b d e g i j sn sf vn vf fn ff tp tn tf 200 bc ln f (nI k) js ps lk jq jf pn pf) (JP S (un S μ st m s) pn jq) := by
  intro m
  induction m with
  | zero =>
    intro f k s js ps lk jq jf pn pf hf hU hC hk hm
    obtain ⟨f, rfl⟩ : ∃ z, f = z + 1 := ⟨f - 1, by omega⟩
    rw [un] at hf ⊢
    have hC0 := hC
    obtain ⟨c0, tc, rc, mu, Jc, c1, c2, c3, c4, c5, c6, c7, c8⟩ := hC
    have e : tc = [] := by
      rcases hf with z | z
      · rw [c1] at z
        exact List.map_eq_nil_iff.mp z
      · rw [c0] at z
        cases z
    subst e
    have e1 : ps = 0 := c5.1
    rw [p_Unifier_joinAll_19]
    unfold p_Ints_size
    refine wp_if (show ¬ 1000000 ≤ nI k from nI_ge (b := 1000000) (by omega) (by omega)) (wp_bs rfl (wp_it (by rw [e1]; decide) (wp_bs rfl (wp_it e1 (wp_some ?_)))))
    exact ⟨Or.inl ⟨c0, rfl, hC0⟩, wc_refl _⟩
  | succ m ih =>
    intro f k s js ps lk jq jf pn pf hf hU hC hk hm
    obtain ⟨f, rfl⟩ : ∃ z, f = z + 1 := ⟨f - 1, by omega⟩
    have hC0 := hC
    obtain ⟨c0, tc, rc, mu, Jc, c1, c2, c3, c4, c5, c6, c7, c8⟩ := hC
    have hJ := cf_len c7
    have hsl : sj S Jc ≤ 53000 := Nat.le_trans (sj_le c7.2.2.1 c7.2.2.2.1) (by have := h.2.2.2.2.2.2.2.1.2.1; have := h.2.2.2.2.2.2.2.2.1; omega)
    rw [p_Unifier_joinAll_19]
    unfold p_Ints_size
    refine wp_if (show ¬ 1000000 ≤ nI k from nI_ge (b := 1000000) (by omega) (by omega)) (wp_bs rfl ?_)
    cases tc with
    | nil =>
      have e1 : ps = 0 := c5.1
      have fi : ufin s := Or.inl c1
      rw [un_fin (m + 1) fi]
      refine wp_it (by rw [e1]; decide) (wp_bs rfl (wp_it e1 (wp_some ?_)))
      exact ⟨Or.inl ⟨c0, rfl, hC0⟩, wc_refl _⟩
    | cons p t =>
      obtain ⟨x, y⟩ := p
      have hp := hU.2.2.1 (avc S x, avc S y) (by rw [c1]; exact List.mem_cons_self ..)
      have hx := hDc x hp.1
      have hy := hDc y hp.2
      have e1 : ps = nI (2 * (t.length + 1)) := by rw [c5.1, pr_len, List.length_cons]
      rw [List.length_cons] at c8
      rw [pr] at c5
      obtain ⟨q1, q2⟩ := in_pop c5
      obtain ⟨q3, q4⟩ := in_pop q2
      obtain ⟨yr, lk1, y1, y2, y3, y4, y5, y6, y7, _⟩ := ur_root hS hB hM a b d e g i j hln (by omega) c2 c4 hy
      obtain ⟨xr, lk2, x1, x2, x3, x4, x5, x6, x7, _⟩ := ur_root hS hB hM a b d e g i j hln (by omega) y5 c4 hx
      refine wp_if (by rw [e1]; exact (nI_ge (a := 0) (by omega) (by omega))) (wp_bs q1 (wp_bs y1 (wp_bs q3 (wp_bs x1 ?_))))
      have zz : ∀ z, lk2 z ≠ 0 ↔ lk z ≠ 0 := fun z => by rw [ne_eq, ne_eq, x6, y6]
      have F2 : CF (200 + S.length) lk2 Jc js jq jf := ⟨c7.1, c7.2.1, c7.2.2.1, c7.2.2.2.1, fun z => by rw [zz]; exact c7.2.2.2.2 z⟩
      have R2 : R0 lk2 (200 + S.length) mu := fun z hz ez => c3 z hz ((y6 z).mp ((x6 z).mp ez))
      have es : un S μ st (m + 1) s = un S μ st m (usp S st s.1 (s.1 (μ (avc S x))) (s.1 (μ (avc S y))) (t.map (fun p => (avc S p.1, avc S p.2))) s.2.2.1) := by
        rw [un]
        congr 1
        obtain ⟨ρ, td, J, fl⟩ := s
        dsimp only at c0 c1
        subst c0
        rw [c1]
        rfl
      have hU2 : UI S B D (usp S st s.1 (s.1 (μ (avc S x))) (s.1 (μ (avc S y))) (t.map (fun p => (avc S p.1, avc S p.2))) s.2.2.1) := by
        have := (ui_st h8 hD hμ st hU).1
        obtain ⟨ρ, td, J, fl⟩ := s
        dsimp only at c0 c1
        subst c0
        rw [c1] at this
        exact this
      rw [es] at hf ⊢
      rw [← x3, ← y3] at hf hU2 ⊢
      rw [nI_1]
      by_cases q : xr = yr
      · subst q
        refine wp_it rfl ?_
        have eu : usp S st s.1 (avc S xr) (avc S xr) (t.map (fun p => (avc S p.1, avc S p.2))) s.2.2.1 = (s.1, t.map (fun p => (avc S p.1, avc S p.2)), s.2.2.1, false) := if_pos rfl
        rw [eu] at hf hU2 ⊢
        exact ih f (k + 1) _ js _ lk2 jq jf pn pf hf hU2 ⟨rfl, t, rc, mu, Jc, rfl, x5, R2, c4, q4, c6, F2, by omega⟩ (by omega) (by omega)
      · refine wp_if (fun z => q ((nI_eq (by omega) (by omega)).mp z)) (wp_bind (ujr hT hTl hS h h8 st a b d e g i j hln x5 R2 c4 F2 q4 c6 (by omega) x2 y2 x7 ((x6 yr).mpr y7) q s.2.2.1) ?_)
        rintro ⟨⟨r, lk', ps', pn', pf', js', jq', jf'⟩, mq, sk⟩ ⟨z, w⟩
        dsimp only
        refine wp_al ?_
        rcases z with ⟨z1, rfl, z3⟩ | ⟨z1, rfl, z3⟩
        · refine wp_if (by decide) (wp_mono (ih f (k + 1) _ js' ps' lk' jq' jf' pn' pf' hf hU2 z3 (by omega) (by omega)) ?_)
          rintro ⟨⟨r, lk', ps', pn', pf', js', jq', jf'⟩, mq, sk⟩ ⟨v1, v2⟩
          exact ⟨v1, wc_trans w v2⟩
        · refine wp_it rfl (wp_some ?_)
          rw [un_fin m (Or.inr z1)]
          exact ⟨Or.inr ⟨z1, rfl, z3⟩, by have := w.1; show 64 * (0 + mq) + (pn + jq) ≤ pn' + jq'; omega, by have := w.2; show (0 + sk) + 2 * (pn + jq) ≤ 2 * (pn' + jq'); omega⟩
/-! ===== the reference: what a node means, its root ===== -/
def arx (S : List Nd) (M : List Rf) (x : Nat) : Av := avc S (ci (M.getD x (true, 0)))
theorem arx_of {S : List Nd} {M : List Rf} {x : Nat} {r : Rf} (e : M[x]? = some r) : arx S M x = avc S (ci r) := by
  unfold arx
  rw [List.getD_eq_getElem?_getD, e]
  rfl
def RCx (TR : List (List Int32)) (S : List Nd) (M : List Rf) (P : Nat) (sz pt : Int32) (kf nf ff mf pf : Nat → Int32) (bf : Nat → Int64) (V : List (List Int32)) (ndf br : Nat → Int32) (B : Nat → Option Av) (rk : Nat → Nat) (μ : Av → Av) : Prop :=
  RT TR S M P sz pt kf nf ff mf pf bf ∧ OC M V ∧ V.length ≤ 200 ∧ NDm M V ndf ∧ (∀ v, v < V.length → (B v = none ∧ br v = -1) ∨ ∃ y, y < M.length ∧ br v = nI y ∧ B v = some (arx S M y)) ∧ MU B rk μ ∧ TR.Nodup ∧ TR.length ≤ 100000
theorem rc_case {TR : List (List Int32)} {S : List Nd} {M : List Rf} {P : Nat} {sz pt : Int32} {kf nf ff mf pf : Nat → Int32} {bf : Nat → Int64} {V : List (List Int32)} {ndf br : Nat → Int32} {B : Nat → Option Av} {rk : Nat → Nat} {μ : Av → Av} (hC : RCx TR S M P sz pt kf nf ff mf pf bf V ndf br B rk μ) {x : Nat} (hx : x < M.length) : (∃ v, v < V.length ∧ M[x]? = some (true, v) ∧ arx S M x = (none, v) ∧ kf x = 0 ∧ nf x = nI v ∧ mf x = 0) ∨ (∃ i d, M[x]? = some (false, i) ∧ S[i]? = some d ∧ ((∃ z, d.1 = some z ∧ arx S M x = (some z, 0) ∧ kf x = 1 ∧ bf x = z ∧ mf x = 0) ∨ (d.1 = none ∧ arx S M x = (none, 200 + i) ∧ kf x = 2 ∧ nma S (arx S M x) = d.2.1 ∧ nm TR d.2.1 (nf x) ∧ mf x = nI d.2.2.length ∧ pav S (arx S M x) = d.2.2.map (fun r => avc S (ci r)) ∧ d.2.2.length ≤ 8 ∧ ∃ o, (d.2.2 ≠ [] → ff x = nI o) ∧ o + d.2.2.length ≤ P ∧ ∀ (k : Nat) (t : Rf), d.2.2[k]? = some t → ∃ y, y < x ∧ pf (o + k) = nI y ∧ M[y]? = some t))) := by
  obtain ⟨hT, hO, hV, _⟩ := hC
  have ex := List.getElem?_eq_getElem hx
  generalize M[x] = r at ex
  rcases hT.2.2.2.2.1 x r ex with ⟨h1, h2, h3, h4⟩ | ⟨h1, d, h2, h3⟩
  · have er : r = (true, r.2) := by rw [← h1]
    have hv := hO.2 x r.2 (by rw [ex, ← er])
    refine Or.inl ⟨r.2, hv, by rw [ex, ← er], ?_, h2, h3, h4⟩
    rw [arx_of ex, er]
    exact av_v (show r.2 < 200 by omega)
  · have er : r = (false, r.2) := by rw [← h1]
    have ec : ci r = 200 + r.2 := by rw [er]; rfl
    have e2 : S[200 + r.2 - 200]? = some d := by rw [Nat.add_sub_cancel_left]; exact h2
    have eg : S.getD (200 + r.2 - 200) (none, [], []) = d := by rw [List.getD_eq_getElem?_getD, e2]; rfl
    refine Or.inr ⟨r.2, d, by rw [ex, ← er], h2, ?_⟩
    rcases h3 with ⟨z, a1, a2, a3, a4, a5⟩ | ⟨a1, a2, a3, a4, a5, a6⟩
    · exact Or.inl ⟨z, a1, by rw [arx_of ex, ec]; exact av_i (by omega) e2 a1, a3, a4, a5⟩
    · have ea : arx S M x = (none, 200 + r.2) := by rw [arx_of ex, ec]; exact av_c (by omega) e2 a1
      refine Or.inr ⟨a1, ea, a2, ?_, a3, a4, ?_, a5, a6⟩
      · rw [ea]
        unfold nma
        rw [eg]
      · rw [ea]
        unfold pav
        rw [if_pos ⟨rfl, by show 200 ≤ 200 + r.2; omega⟩, eg]
/-- nodes that stand for themselves -/
def RG (S : List Nd) (M : List Rf) (ndf : Nat → Int32) (B : Nat → Option Av) (x : Nat) : Prop := x < M.length ∧ fa B (arx S M x) ∧ (isV (arx S M x) → ndf (arx S M x).2 = nI x)
theorem rg_inj {TR : List (List Int32)} {S : List Nd} {M : List Rf} {P : Nat} {sz pt : Int32} {kf nf ff mf pf : Nat → Int32} {bf : Nat → Int64} {V : List (List Int32)} {ndf br : Nat → Int32} {B : Nat → Option Av} {rk : Nat → Nat} {μ : Av → Av} (hC : RCx TR S M P sz pt kf nf ff mf pf bf V ndf br B rk μ) {x y : Nat} (hx : RG S M ndf B x) (hy : RG S M ndf B y) (e : arx S M x = arx S M y) (hn : (arx S M x).1 = none) : x = y := by
  have hM := hC.1.2.2.1
  have hi := hC.1.2.2.2.2.2
  rcases rc_case hC hx.1 with ⟨v, v1, v2, v3, _⟩ | ⟨i, d, i1, i2, ⟨z, z1, z2, _⟩ | ⟨z1, z2, _⟩⟩
  · have w : isV (arx S M x) := by rw [v3]; exact ⟨rfl, by have := hC.2.2.1; show v < 200; omega⟩
    have a1 := hx.2.2 w
    have a2 := hy.2.2 (by rw [← e]; exact w)
    rw [← e, a1] at a2
    exact (nI_eq (by have := hx.1; omega) (by have := hy.1; omega)).mp a2
  · rw [z2] at hn
    cases hn
  · rcases rc_case hC hy.1 with ⟨v, v1, v2, v3, _⟩ | ⟨i', d', j1, j2, ⟨w, w1, w2, _⟩ | ⟨w1, w2, _⟩⟩
    · rw [z2, v3] at e
      injection e with e1 e2
      have := hC.2.2.1
      omega
    · rw [z2, w2] at e
      injection e with e1 e2
      cases e1
    · rw [z2, w2] at e
      injection e with e1 e2
      obtain rfl : i = i' := by omega
      exact hi x y i i1 j1
theorem mm_loop (n : Nat) {TR : List (List Int32)} {S : List Nd} {M : List Rf} {P : Nat} {sz pt : Int32} {kf nf ff mf pf : Nat → Int32} {bf : Nat → Int64} {V : List (List Int32)} {ndf br : Nat → Int32} {B : Nat → Option Av} {rk : Nat → Nat} {μ : Av → Av} (hC : RCx TR S M P sz pt kf nf ff mf pf bf V ndf br B rk μ) : ∀ (m f x : Nat), x < M.length → (isV (arx S M x) → rk (arx S M x).2 ≤ m) → m < f → ∃ x', p_Mo_meant_2 n 404300 kf 404300 nf 4300 br 4300 ndf f (nI x) = some (nI x') ∧ RG S M ndf B x' ∧ arx S M x' = μ (arx S M x) ∧ (¬ isV (arx S M x) → x' = x) := by
  have hC0 := hC
  obtain ⟨hT, hO, hV, hN, hB, hM, _⟩ := hC
  have hml := hT.2.2.1
  obtain ⟨m1, m2, m3, m4⟩ := hM
  intro m
  induction m with
  | zero =>
    intro f x hx hr hf
    obtain ⟨f, rfl⟩ : ∃ z, f = z + 1 := ⟨f - 1, by omega⟩
    rw [p_Mo_meant_2, ck_t (ixb_t (by omega) (by omega)), nI_clamp (by omega)]
    rcases rc_case hC0 hx with ⟨v, v1, v2, v3, v4, v5, _⟩ | ⟨i, d, i1, i2, z⟩
    · have w : isV (arx S M x) := by rw [v3]; exact ⟨rfl, by show v < 200; omega⟩
      have r0 := hr w
      rw [v3] at r0
      rw [if_pos v4, ck_t (ixb_t (by omega) (by omega)), v5, nI_clamp (n := v) (by omega), ck_t (ixb_t (by omega) (by omega))]
      rcases hB v v1 with ⟨b1, b2⟩ | ⟨y, b1, b2, b3⟩
      · rw [if_pos b2, ck_t (ixb_t (by omega) (by omega))]
        obtain ⟨x', e1, e2⟩ := hN v v1
        obtain ⟨hx', _⟩ := List.getElem?_eq_some_iff.mp e2
        have e3 : arx S M x' = (none, v) := by rw [arx_of e2]; exact av_v (show v < 200 by omega)
        refine ⟨x', by rw [e1], ⟨hx', fun _ => by rw [e3]; exact b1, fun _ => by rw [e3]; exact e1⟩, by rw [e3, v3, m2 v (by omega) b1], fun q => absurd w q⟩
      · exfalso
        have := (m3 v _ (by omega) b3).2.1
        dsimp only at r0
        omega
    · have nk : ¬ kf x = 0 := by
        rcases z with ⟨_, _, _, z, _⟩ | ⟨_, _, z, _⟩
        · rw [z]; decide
        · rw [z]; decide
      have nv : ¬ isV (arx S M x) := by
        rcases z with ⟨_, _, z, _⟩ | ⟨_, z, _⟩
        · rw [z]; exact fun q => by cases q.1
        · rw [z]; exact fun q => absurd q.2 (by show ¬ 200 + i < 200; omega)
      rw [if_neg nk]
      exact ⟨x, rfl, ⟨hx, fun q => absurd q nv, fun q => absurd q nv⟩, (m1 _ nv).symm, fun _ => rfl⟩
  | succ m ih =>
    intro f x hx hr hf
    obtain ⟨f, rfl⟩ : ∃ z, f = z + 1 := ⟨f - 1, by omega⟩
    rw [p_Mo_meant_2, ck_t (ixb_t (by omega) (by omega)), nI_clamp (by omega)]
    rcases rc_case hC0 hx with ⟨v, v1, v2, v3, v4, v5, _⟩ | ⟨i, d, i1, i2, z⟩
    · have w : isV (arx S M x) := by rw [v3]; exact ⟨rfl, by show v < 200; omega⟩
      have r0 := hr w
      rw [v3] at r0
      rw [if_pos v4, ck_t (ixb_t (by omega) (by omega)), v5, nI_clamp (n := v) (by omega), ck_t (ixb_t (by omega) (by omega))]
      rcases hB v v1 with ⟨b1, b2⟩ | ⟨y, b1, b2, b3⟩
      · rw [if_pos b2, ck_t (ixb_t (by omega) (by omega))]
        obtain ⟨x', e1, e2⟩ := hN v v1
        obtain ⟨hx', _⟩ := List.getElem?_eq_some_iff.mp e2
        have e3 : arx S M x' = (none, v) := by rw [arx_of e2]; exact av_v (show v < 200 by omega)
        refine ⟨x', by rw [e1], ⟨hx', fun _ => by rw [e3]; exact b1, fun _ => by rw [e3]; exact e1⟩, by rw [e3, v3, m2 v (by omega) b1], fun q => absurd w q⟩
      · rw [if_neg (by rw [b2]; exact nm1 (by omega)), ck_t (ixb_t (by omega) (by omega)), b2]
        obtain ⟨q1, q2, q3⟩ := m3 v _ (by omega) b3
        obtain ⟨x', y1, y2, y3, _⟩ := ih f y b1 (fun q => by
          have := q3 q
          dsimp only at r0
          omega) (by omega)
        exact ⟨x', y1, y2, by rw [y3, v3, q1], fun q => absurd w q⟩
    · have nk : ¬ kf x = 0 := by
        rcases z with ⟨_, _, _, z, _⟩ | ⟨_, _, z, _⟩
        · rw [z]; decide
        · rw [z]; decide
      have nv : ¬ isV (arx S M x) := by
        rcases z with ⟨_, _, z, _⟩ | ⟨_, z, _⟩
        · rw [z]; exact fun q => by cases q.1
        · rw [z]; exact fun q => absurd q.2 (by show ¬ 200 + i < 200; omega)
      rw [if_neg nk]
      exact ⟨x, rfl, ⟨hx, fun q => absurd q nv, fun q => absurd q nv⟩, (m1 _ nv).symm, fun _ => rfl⟩
theorem rg_mu {TR : List (List Int32)} {S : List Nd} {M : List Rf} {P : Nat} {sz pt : Int32} {kf nf ff mf pf : Nat → Int32} {bf : Nat → Int64} {V : List (List Int32)} {ndf br : Nat → Int32} {B : Nat → Option Av} {rk : Nat → Nat} {μ : Av → Av} (hC : RCx TR S M P sz pt kf nf ff mf pf bf V ndf br B rk μ) {x : Nat} (h : RG S M ndf B x) : μ (arx S M x) = arx S M x := by
  obtain ⟨_, _, _, _, _, ⟨m1, m2, _⟩, _⟩ := hC
  by_cases q : isV (arx S M x)
  · have e : arx S M x = (none, (arx S M x).2) := by rw [← q.1]
    rw [e]
    exact m2 _ q.2 (h.2.1 q)
  · exact m1 _ q
theorem mm_meant {TR : List (List Int32)} {S : List Nd} {M : List Rf} {P : Nat} {sz pt : Int32} {kf nf ff mf pf : Nat → Int32} {bf : Nat → Int64} {V : List (List Int32)} {ndf br : Nat → Int32} {B : Nat → Option Av} {rk : Nat → Nat} {μ : Av → Av} (hC : RCx TR S M P sz pt kf nf ff mf pf bf V ndf br B rk μ) (a b c d e g i j k : Int32) {x : Nat} (hx : x < M.length) : ∃ x', p_Mo_meant pure_n (nI x) a b c d e g i j k 404300 kf 404300 nf 4300 br 4300 ndf = some (nI x') ∧ RG S M ndf B x' ∧ arx S M x' = μ (arx S M x) ∧ (¬ isV (arx S M x) → x' = x) := by
  unfold p_Mo_meant
  exact mm_loop pure_n hC 200 pure_n x hx (fun _ => hC.2.2.2.2.2.1.2.2.2 _) (by have := pure_ge; omega)
/-- a node that stands for itself means itself -/
theorem mm_self {TR : List (List Int32)} {S : List Nd} {M : List Rf} {P : Nat} {sz pt : Int32} {kf nf ff mf pf : Nat → Int32} {bf : Nat → Int64} {V : List (List Int32)} {ndf br : Nat → Int32} {B : Nat → Option Av} {rk : Nat → Nat} {μ : Av → Av} (hC : RCx TR S M P sz pt kf nf ff mf pf bf V ndf br B rk μ) (a b c d e g i j k : Int32) {x : Nat} (hx : RG S M ndf B x) : p_Mo_meant pure_n (nI x) a b c d e g i j k 404300 kf 404300 nf 4300 br 4300 ndf = some (nI x) := by
  obtain ⟨x', e1, e2, e3, e4⟩ := mm_meant hC a b c d e g i j k hx.1
  rw [rg_mu hC hx] at e3
  by_cases q : isV (arx S M x)
  · rw [e1, rg_inj hC e2 hx e3 (by rw [e3]; exact q.1)]
  · rw [e1, e4 q]
/-- roots -/
def UG (up : Nat → Int32) (G : Nat → Prop) (ru mu : Nat → Nat) (K : Nat) : Prop := ∀ x, G x → mu x ≤ K ∧ ((up x = -1 ∧ ru x = x) ∨ ∃ d, G d ∧ up x = nI d ∧ ru x = ru d ∧ mu d < mu x)
theorem ug_0 {up : Nat → Int32} {G : Nat → Prop} {ru mu : Nat → Nat} {K : Nat} (h : UG up G ru mu K) (hG : ∀ x, G x → x < 300000) {x : Nat} (hx : G x) (e : up x = -1) : ru x = x := by
  rcases (h x hx).2 with ⟨_, z⟩ | ⟨d, z1, z2, _⟩
  · exact z
  · rw [e] at z2
    exact absurd z2.symm (nm1 (by have := hG d z1; omega))
theorem ug_link {up : Nat → Int32} {G : Nat → Prop} {ru mu : Nat → Nat} {K : Nat} (h : UG up G ru mu K) (hG : ∀ x, G x → x < 300000) (h0 : ∀ x, G x → up x = -1 → mu x = 0) {a b : Nat} (ha : G a) (hb : G b) (ea : up a = -1) (eb : up b = -1) (hab : a ≠ b) : UG (upd up a (nI b)) G (fun z => if ru z = a then b else ru z) (fun z => if ru z = a then mu z + 1 else mu z) (K + 1) ∧ ∀ x, G x → upd up a (nI b) x = -1 → (fun z => if ru z = a then mu z + 1 else mu z) x = 0 := by
  have ra := ug_0 h hG ha ea
  have rb := ug_0 h hG hb eb
  have mb := h0 b hb eb
  have nb : ¬ b = a := fun z => hab z.symm
  have nz : ¬ nI b = -1 := nm1 (by have := hG b hb; omega)
  constructor
  · intro c hc
    obtain ⟨k1, k2⟩ := h c hc
    dsimp only
    refine ⟨by split <;> omega, ?_⟩
    by_cases q : c = a
    · subst q
      refine Or.inr ⟨b, hb, pk_us, ?_, ?_⟩
      · rw [if_pos ra, rb, if_neg nb]
      · rw [if_pos ra, rb, if_neg nb, mb]
        omega
    · rw [pk_un q]
      rcases k2 with ⟨z1, z2⟩ | ⟨d, z1, z2, z3, z4⟩
      · exact Or.inl ⟨z1, by rw [z2, if_neg q]⟩
      · refine Or.inr ⟨d, z1, z2, by rw [z3], ?_⟩
        rw [z3]
        split <;> omega
  · intro c hc e
    by_cases q : c = a
    · subst q
      rw [pk_us] at e
      exact absurd e nz
    · rw [pk_un q] at e
      dsimp only
      rw [ug_0 h hG hc e, if_neg q]
      exact h0 c hc e
theorem mr_loop2 {TR : List (List Int32)} {S : List Nd} {M : List Rf} {P : Nat} {sz pt : Int32} {kf nf ff mf pf : Nat → Int32} {bf : Nat → Int64} {V : List (List Int32)} {ndf br : Nat → Int32} {B : Nat → Option Av} {rk : Nat → Nat} {μ : Av → Av} (hC : RCx TR S M P sz pt kf nf ff mf pf bf V ndf br B rk μ) (a b c d e g i j k : Int32) {up : Nat → Int32} {ru mu : Nat → Nat} {K : Nat} (hU : UG up (RG S M ndf B) ru mu K) : ∀ (m f x : Nat), mu x ≤ m → m < f → RG S M ndf B x → p_Mo_root_6 pure_n a b c d e g i j k 404300 kf 404300 nf 4300 br 4300 ndf 404300 up f (nI x) = some (nI (ru x)) ∧ RG S M ndf B (ru x) ∧ up (ru x) = -1 := by
  have hml := hC.1.2.2.1
  intro m
  induction m with
  | zero =>
    intro f x hm hf hx
    obtain ⟨f, rfl⟩ : ∃ z, f = z + 1 := ⟨f - 1, by omega⟩
    have hx1 := hx.1
    rw [p_Mo_root_6, ck_t (ixb_t (by omega) (by omega)), nI_clamp (by omega)]
    rcases (hU x hx).2 with ⟨z1, z2⟩ | ⟨d', z1, z2, z3, z4⟩
    · rw [if_pos z1, z2]
      exact ⟨rfl, hx, z1⟩
    · omega
  | succ m ih =>
    intro f x hm hf hx
    obtain ⟨f, rfl⟩ : ∃ z, f = z + 1 := ⟨f - 1, by omega⟩
    have hx1 := hx.1
    rw [p_Mo_root_6, ck_t (ixb_t (by omega) (by omega)), nI_clamp (by omega)]
    rcases (hU x hx).2 with ⟨z1, z2⟩ | ⟨d', z1, z2, z3, z4⟩
    · rw [if_pos z1, z2]
      exact ⟨rfl, hx, z1⟩
    · rw [if_neg (by rw [z2]; exact nm1 (by have := z1.1; omega)), ck_t (ixb_t (by omega) (by omega)), z2, mm_self hC _ _ _ _ _ _ _ _ _ z1, Option.bind_some, z3]
      exact ih f d' (by omega) (by omega) z1
theorem mr_root {TR : List (List Int32)} {S : List Nd} {M : List Rf} {P : Nat} {sz pt : Int32} {kf nf ff mf pf : Nat → Int32} {bf : Nat → Int64} {V : List (List Int32)} {ndf br : Nat → Int32} {B : Nat → Option Av} {rk : Nat → Nat} {μ : Av → Av} (hC : RCx TR S M P sz pt kf nf ff mf pf bf V ndf br B rk μ) (a b c d e g i j k : Int32) {up : Nat → Int32} {ru mu : Nat → Nat} {K : Nat} (hK : K ≤ 50000) (hU : UG up (RG S M ndf B) ru mu K) {ρ : Av → Av} (hr : ∀ x, RG S M ndf B x → arx S M (ru x) = ρ (arx S M x)) {x : Nat} (hx : x < M.length) : ∃ x', p_Mo_root pure_n (nI x) a b c d e g i j k 404300 kf 404300 nf 4300 br 4300 ndf 404300 up = some (nI x') ∧ RG S M ndf B x' ∧ arx S M x' = ρ (μ (arx S M x)) ∧ up x' = -1 ∧ (RG S M ndf B x → x' = ru x) := by
  obtain ⟨x1, e1, e2, e3, e4⟩ := mm_meant hC a b c d e g i j k hx
  obtain ⟨r1, r2, r3⟩ := mr_loop2 hC a b c d e g i j k hU (mu x1) pure_n x1 (Nat.le_refl _) (by have := (hU x1 e2).1; have := pure_ge; omega) e2
  refine ⟨ru x1, ?_, r2, by rw [hr x1 e2, e3], r3, fun q => ?_⟩
  · unfold p_Mo_root
    rw [e1, Option.bind_some]
    exact r1
  · have := mm_self hC a b c d e g i j k q
    rw [e1] at this
    injection this with this
    have l1 := hC.1.2.2.1
    rw [(nI_eq (by have := e2.1; omega) (by omega)).mp this]
/-! ===== the reference joins ===== -/
theorem mr_pa {TR : List (List Int32)} {S : List Nd} {M : List Rf} {P : Nat} {sz pt : Int32} {kf nf ff mf pf : Nat → Int32} {bf : Nat → Int64} {V : List (List Int32)} {ndf br : Nat → Int32} {B : Nat → Option Av} {rk : Nat → Nat} {μ : Av → Av} (hC : RCx TR S M P sz pt kf nf ff mf pf bf V ndf br B rk μ) {x : Nat} (hx : x < M.length) {k : Nat} (hk : k < (pav S (arx S M x)).length) : ∃ y, p_MoTerms_part (nI x) (nI k) sz pt 404300 ff 404300 pf = some (nI y) ∧ y < M.length ∧ (pav S (arx S M x))[k]? = some (arx S M y) := by
  have hml := hC.1.2.2.1
  have hpl := hC.1.2.2.2.1
  rcases rc_case hC hx with ⟨v, v1, v2, v3, _⟩ | ⟨i, d, i1, i2, ⟨z, z1, z2, _⟩ | ⟨z1, z2, z3, z4, z5, z6, z7, z8, o, o1, o2, o3⟩⟩
  · rw [v3] at hk
    unfold pav at hk
    rw [if_neg (by have := hC.2.2.1; dsimp only; omega)] at hk
    exact absurd hk (by simp)
  · rw [z2] at hk
    unfold pav at hk
    rw [if_neg (by intro q; cases q.1)] at hk
    exact absurd hk (by simp)
  · rw [z7] at hk ⊢
    rw [List.length_map] at hk
    obtain ⟨y, y1, y2, y3⟩ := o3 k _ (List.getElem?_eq_getElem hk)
    obtain ⟨hy, _⟩ := List.getElem?_eq_some_iff.mp y3
    refine ⟨y, ?_, hy, ?_⟩
    · unfold p_MoTerms_part
      rw [ck_t (ixb_t (by omega) (by omega)), nI_clamp (by omega), o1 (fun e => by rw [e] at hk; exact absurd hk (by simp)), nI_add, ck_t (ixb_t (by omega) (by omega)), nI_clamp (by omega), y2]
    · rw [List.getElem?_map, List.getElem?_eq_getElem hk, arx_of y3]
      rfl
def RF (ML : Nat) (up : Nat → Int32) (Jr : List Nat) (tou : Int32) (tuf : Nat → Int32) : Prop := tou = nI Jr.length ∧ la (Jr.map nI) tuf ∧ Jr.Nodup ∧ (∀ x, x ∈ Jr → x < ML) ∧ ∀ x, x < 404300 → (up x ≠ -1 ↔ x ∈ Jr)
def RJ (S : List Nd) (M : List Rf) (ndf : Nat → Int32) (B : Nat → Option Av) (s : Us) (top : Int32) (tof up : Nat → Int32) (tou : Int32) (tuf : Nat → Int32) : Prop := s.2.2.2 = false ∧ ∃ (tx : List (Nat × Nat)) (ru mu : Nat → Nat) (Jr : List Nat), s.2.1 = tx.map (fun p => (arx S M p.1, arx S M p.2)) ∧ (∀ p, p ∈ tx → p.1 < M.length ∧ p.2 < M.length) ∧ UG up (RG S M ndf B) ru mu Jr.length ∧ (∀ x, RG S M ndf B x → up x = -1 → mu x = 0) ∧ (∀ x, RG S M ndf B x → arx S M (ru x) = s.1 (arx S M x)) ∧ top = nI (2 * tx.length) ∧ la (pr tx) tof ∧ RF M.length up Jr tou tuf ∧ tx.length ≤ 1 + 8 * Jr.length
theorem rf_len {ML : Nat} {up : Nat → Int32} {Jr : List Nat} {tou : Int32} {tuf : Nat → Int32} (h : RF ML up Jr tou tuf) : Jr.length ≤ ML := nd_le ML Jr h.2.2.1 h.2.2.2.1
theorem rf_join (a b c d e g : Int32) {ML : Nat} (hM : ML ≤ 30000) {up : Nat → Int32} {Jr : List Nat} {tou : Int32} {tuf : Nat → Int32} (h : RF ML up Jr tou tuf) {x y : Nat} (hx : x < ML) (ex : up x = -1) (hy : y < ML) : ∃ tou' tuf', p_Mo_join (nI x) (nI y) a b c d e tou g 404300 up 404300 tuf = some (tou', upd up x (nI y), tuf') ∧ RF ML (upd up x (nI y)) (Jr ++ [x]) tou' tuf' := by
  have hl := rf_len h
  obtain ⟨h1, h2, h3, h4, h5⟩ := h
  have na : x ∉ Jr := fun z => (h5 x (by omega)).mpr z ex
  refine ⟨nI (Jr.length + 1), upd tuf Jr.length (nI x), ?_, ?_, ?_, ?_, fun c hc => ?_, fun c hc => ?_⟩
  · unfold p_Mo_join
    rw [ck_t (ixb_t (by omega) (by omega)), h1, ck_t (ixb_t (by omega) (by omega)), nI_1, nI_clamp (by omega), nI_clamp (by omega)]
  · rw [List.length_append, List.length_singleton]
  · rw [List.map_append]
    refine la_app h2 (fun j hj => ?_) ?_
    · rw [List.length_map] at hj
      exact pk_un (by omega)
    · rw [List.length_map]
      exact pk_us
  · rw [List.nodup_append]
    refine ⟨h3, by simp, fun z hz w hw e => ?_⟩
    rw [List.mem_singleton] at hw
    subst hw e
    exact na hz
  · rcases List.mem_append.mp hc with z | z
    · exact h4 c z
    · rw [List.mem_singleton] at z
      subst z
      exact hx
  · by_cases q : c = x
    · subst q
      rw [pk_us]
      exact ⟨fun _ => List.mem_append_right _ (List.mem_singleton.mpr rfl), fun _ => nm1 (by omega)⟩
    · rw [pk_un q, h5 c hc]
      exact ⟨fun z => List.mem_append_left _ z, fun z => by
        rcases List.mem_append.mp z with z | z
        · exact z
        · exact absurd (List.mem_singleton.mp z) q⟩
abbrev T5 : Type := Int32 × Int32 × (Nat → Int32) × (Nat → Int32) × (Nat → Int32)
theorem mc_295 (n : Nat) {TR : List (List Int32)} {S : List Nd} {M : List Rf} {P : Nat} {sz pt : Int32} {kf nf ff mf pf : Nat → Int32} {bf : Nat → Int64} {V : List (List Int32)} {ndf br : Nat → Int32} {B : Nat → Option Av} {rk : Nat → Nat} {μ : Av → Av} (hC : RCx TR S M P sz pt kf nf ff mf pf bf V ndf br B rk μ) (tou : Int32) (up tuf : Nat → Int32) (K : Int32 → Int32 → (Nat → Int32) → (Nat → Int32) → (Nat → Int32) → Option T5) {x y : Nat} (hx : x < M.length) (hy : y < M.length) (t : List (Nat × Nat)) (hlen : (pav S (arx S M x)).length = (pav S (arx S M y)).length) (hb : 2 * ((pav S (arx S M x)).length + t.length) ≤ 808600) : ∀ (m f : Nat) (X top : Int32) (tof : Nat → Int32) (w : List (Nat × Nat)), X = nI m - 1 → m ≤ 8 → m ≤ (pav S (arx S M x)).length → m < f → top = nI (2 * (w.length + t.length)) → w.map (fun p => (arx S M p.1, arx S M p.2)) = ((pav S (arx S M x)).zip (pav S (arx S M y))).drop m → (∀ p, p ∈ w → p.1 < M.length ∧ p.2 < M.length) → la (pr (w ++ t)) tof → ∃ tof' w', p_Mo_classes_295 n sz pt 404300 ff 404300 pf 808600 (nI y) (nI x) tou up tuf K f X top tof = K (nI (2 * (w'.length + t.length))) tou up tuf tof' ∧ w'.map (fun p => (arx S M p.1, arx S M p.2)) = (pav S (arx S M x)).zip (pav S (arx S M y)) ∧ (∀ p, p ∈ w' → p.1 < M.length ∧ p.2 < M.length) ∧ la (pr (w' ++ t)) tof' := by
  intro m
  induction m with
  | zero =>
    intro f X top tof w hX _ _ hf ht hw hv hI
    obtain ⟨f, rfl⟩ : ∃ z, f = z + 1 := ⟨f - 1, by omega⟩
    subst hX ht
    exact ⟨tof, w, by rw [p_Mo_classes_295, if_pos (by decide)], by rw [hw, List.drop_zero], hv, hI⟩
  | succ m ih =>
    intro f X top tof w hX h8 hm hf ht hw hv hI
    obtain ⟨f, rfl⟩ : ∃ z, f = z + 1 := ⟨f - 1, by omega⟩
    rw [nI_pred] at hX
    subst hX ht
    obtain ⟨u, u1, u2, u3⟩ := mr_pa hC hx (k := m) (by omega)
    obtain ⟨v, v1, v2, v3⟩ := mr_pa hC hy (k := m) (by omega)
    have lw : w.length + m + 1 = (pav S (arx S M x)).length := by
      have := congrArg List.length hw
      rw [List.length_map, List.length_drop, List.length_zip] at this
      omega
    have lp : (pr (w ++ t)).length = 2 * (w.length + t.length) := by rw [pr_len, List.length_append]
    rw [p_Mo_classes_295, if_neg (nI_pos (by omega)), u1, Option.bind_some, ck_t (ixb_t (by omega) (by omega)), v1, Option.bind_some, nI_1, ck_t (ixb_t (by omega) (by omega)), nI_1, nI_clamp (by omega), nI_clamp (by omega), sb1]
    refine ih f _ _ _ ((u, v) :: w) rfl (by omega) (by omega) (by omega) (by rw [List.length_cons]; congr 1; omega) ?_ ?_ ?_
    · rw [List.map_cons, hw]
      have hz : m < ((pav S (arx S M x)).zip (pav S (arx S M y))).length := by rw [List.length_zip]; omega
      rw [List.drop_eq_getElem_cons hz]
      congr 1
      rw [List.getElem_zip]
      rw [List.getElem?_eq_getElem (by omega)] at u3 v3
      injection u3 with u3
      injection v3 with v3
      rw [u3, v3]
    · intro p hp
      rcases List.mem_cons.mp hp with rfl | hp
      · exact ⟨u2, v2⟩
      · exact hv p hp
    · show la (pr (w ++ t) ++ [nI u] ++ [nI v]) _
      refine la_app (la_app (g := upd tof (2 * (w.length + t.length)) (nI u)) hI (fun j hj => ?_) ?_) (fun j hj => ?_) ?_
      · exact pk_un (by omega)
      · rw [lp]
        exact pk_us
      · rw [List.length_append, List.length_singleton] at hj
        exact pk_un (by omega)
      · rw [List.length_append, List.length_singleton, lp]
        exact pk_us
theorem rp_keep {TR : List (List Int32)} {S : List Nd} {M : List Rf} {P : Nat} {sz pt : Int32} {kf nf ff mf pf : Nat → Int32} {bf : Nat → Int64} {V : List (List Int32)} {ndf br : Nat → Int32} {B : Nat → Option Av} {rk : Nat → Nat} {μ : Av → Av} (hC : RCx TR S M P sz pt kf nf ff mf pf bf V ndf br B rk μ) {ru : Nat → Nat} {ρ : Av → Av} {a b : Nat} (hr : ∀ x, RG S M ndf B x → arx S M (ru x) = ρ (arx S M x)) (hg : ∀ x, RG S M ndf B x → RG S M ndf B (ru x)) (ha : RG S M ndf B a) (na : (arx S M a).1 = none) : ∀ x, RG S M ndf B x → arx S M (if ru x = a then b else ru x) = jn ρ (arx S M a) (arx S M b) (arx S M x) := fun x hx => by
  unfold jn
  rw [← hr x hx]
  by_cases q : ru x = a
  · rw [if_pos q, q, if_pos rfl]
  · rw [if_neg q, if_neg (fun z => q (rg_inj hC (hg x hx) ha z (by rw [z]; exact na)))]
theorem ug_G {up : Nat → Int32} {G : Nat → Prop} {ru mu : Nat → Nat} {K : Nat} (h : UG up G ru mu K) : ∀ (m x : Nat), mu x ≤ m → G x → G (ru x) := by
  intro m
  induction m with
  | zero =>
    intro x hm hx
    rcases (h x hx).2 with ⟨_, z⟩ | ⟨d, _, _, _, z⟩
    · rw [z]; exact hx
    · omega
  | succ m ih =>
    intro x hm hx
    rcases (h x hx).2 with ⟨_, z⟩ | ⟨d, z1, _, z3, z⟩
    · rw [z]; exact hx
    · rw [z3]; exact ih d (by omega) z1
theorem ra_alike {TR : List (List Int32)} {S : List Nd} {M : List Rf} {P : Nat} {sz pt : Int32} {kf nf ff mf pf : Nat → Int32} {bf : Nat → Int64} {V : List (List Int32)} {ndf br : Nat → Int32} {B : Nat → Option Av} {rk : Nat → Nat} {μ : Av → Av} (hC : RCx TR S M P sz pt kf nf ff mf pf bf V ndf br B rk μ) {x y : Nat} (hx : x < M.length) (hy : y < M.length) (vx : ¬ isV (arx S M x)) (vy : ¬ isV (arx S M y)) : (kf x = kf y ∧ ((kf x = 1 ∧ bf x = bf y) ∨ (¬ kf x = 1 ∧ nf x = nf y ∧ mf x = mf y))) ↔ ((arx S M x).1 ≠ none ∧ arx S M x = arx S M y ∨ alk S (arx S M x) (arx S M y)) := by
  have hV := hC.2.2.1
  have hN : TR.Nodup := hC.2.2.2.2.2.2.1
  have hTl : TR.length ≤ 100000 := hC.2.2.2.2.2.2.2
  rcases rc_case hC hx with ⟨v, v1, v2, v3, _⟩ | ⟨i, d, i1, i2, ⟨z, z1, z2, z3, z4, z5⟩ | ⟨z1, z2, z3, z4, ⟨jx, z5, z5b, z5c⟩, z6, z7, z8, _⟩⟩
  · exact absurd (show isV (arx S M x) by rw [v3]; exact ⟨rfl, by show v < 200; omega⟩) vx
  · rcases rc_case hC hy with ⟨v, v1, v2, v3, _⟩ | ⟨i', d', j1, j2, ⟨w, w1, w2, w3, w4, w5⟩ | ⟨w1, w2, w3, w4, ⟨jy, w5, w5b, w5c⟩, w6, w7, w8, _⟩⟩
    · exact absurd (show isV (arx S M y) by rw [v3]; exact ⟨rfl, by show v < 200; omega⟩) vy
    · rw [z2, w2, z3, w3, z4, w4]
      constructor
      · rintro ⟨_, ⟨_, q⟩ | ⟨q, _⟩⟩
        · exact Or.inl ⟨(fun q => by cases q), by rw [q]⟩
        · exact absurd rfl q
      · rintro (⟨_, q⟩ | q)
        · injection q with q
          injection q with q
          exact ⟨rfl, Or.inl ⟨rfl, q⟩⟩
        · cases q.1
    · rw [z2, w2, z3, w3]
      constructor
      · rintro ⟨q, _⟩
        exact absurd q (by decide)
      · rintro (⟨_, q⟩ | q)
        · injection q with q
          cases q
        · cases q.1
  · rcases rc_case hC hy with ⟨v, v1, v2, v3, _⟩ | ⟨i', d', j1, j2, ⟨w, w1, w2, w3, w4, w5⟩ | ⟨w1, w2, w3, w4, ⟨jy, w5, w5b, w5c⟩, w6, w7, w8, _⟩⟩
    · exact absurd (show isV (arx S M y) by rw [v3]; exact ⟨rfl, by show v < 200; omega⟩) vy
    · rw [z2, w2, z3, w3]
      constructor
      · rintro ⟨q, _⟩
        exact absurd q (by decide)
      · rintro (⟨q, _⟩ | q)
        · exact absurd rfl q
        · cases q.2.1
    · unfold alk
      rw [z4, w4, z7, w7, List.length_map, List.length_map, z2, w2, z3, w3, z6, w6, z5c, w5c, nI_eq (by omega) (by omega), nI_eq (by omega) (by omega)]
      constructor
      · rintro ⟨_, ⟨q, _⟩ | ⟨_, q1, q2⟩⟩
        · exact absurd q (by decide)
        · exact Or.inr ⟨rfl, rfl, by rw [← z5b, ← w5b, q1], q2⟩
      · rintro (⟨q, _⟩ | ⟨_, _, q3, q4⟩)
        · exact absurd rfl q
        · refine ⟨rfl, Or.inr ⟨by decide, (List.getElem?_inj z5 hN).mp ?_, q4⟩⟩
          rw [List.getD_eq_getElem?_getD, List.getElem?_eq_getElem z5, Option.getD_some] at z5b
          rw [List.getD_eq_getElem?_getD, List.getElem?_eq_getElem w5, Option.getD_some] at w5b
          rw [List.getElem?_eq_getElem z5, List.getElem?_eq_getElem w5, z5b, w5b, q3]
theorem t2 (k : Nat) : nI (2 * (k + 1)) + (-1) + (-1) = nI (2 * k) := by rw [sb1, sb1, show 2 * (k + 1) = 2 * k + 1 + 1 by omega, nI_pred, nI_pred]
/-- two roots -/
theorem mcj (n : Nat) (hn : 8 < n) {TR : List (List Int32)} {S : List Nd} {M : List Rf} {P : Nat} {sz pt : Int32} {kf nf ff mf pf : Nat → Int32} {bf : Nat → Int64} {V : List (List Int32)} {ndf br : Nat → Int32} {B : Nat → Option Av} {rk : Nat → Nat} {μ : Av → Av} (hC : RCx TR S M P sz pt kf nf ff mf pf bf V ndf br B rk μ) (h8 : D8 S) (hM3 : M.length ≤ 30000) (st : Bool) (a b c d e g : Int32) {up : Nat → Int32} {ru mu : Nat → Nat} {Jr : List Nat} (hU : UG up (RG S M ndf B) ru mu Jr.length) (h0 : ∀ x, RG S M ndf B x → up x = -1 → mu x = 0) {ρ : Av → Av} (hr : ∀ x, RG S M ndf B x → arx S M (ru x) = ρ (arx S M x)) {tou : Int32} {tuf tof : Nat → Int32} (hF : RF M.length up Jr tou tuf) {t : List (Nat × Nat)} (hI : la (pr t) tof) (hv : ∀ p, p ∈ t → p.1 < M.length ∧ p.2 < M.length) (ht : t.length ≤ 8 * Jr.length) {x y : Nat} (hx : RG S M ndf B x) (hy : RG S M ndf B y) (ex : up x = -1) (ey : up y = -1) (hxy : x ≠ y) (J : List Av) (K : Int32 → Int32 → (Nat → Int32) → (Nat → Int32) → (Nat → Int32) → Option T5) (Q : T5 → Prop) (hK : ∀ top' tou' up' tuf' tof', RJ S M ndf B (usp S st ρ (arx S M x) (arx S M y) (t.map (fun p => (arx S M p.1, arx S M p.2))) J) top' tof' up' tou' tuf' → wp (K top' tou' up' tuf' tof') Q) (hQ : (usp S st ρ (arx S M x) (arx S M y) (t.map (fun p => (arx S M p.1, arx S M p.2))) J).2.2.2 = true → ∀ tof', Q (0, tou, up, tuf, tof')) (kx : Int32) (hkx : kx = if kf x = 0 then 1 else 0) : wp (p_Mo_classes_90 n (b1 st) a b c d e g sz pt 404300 kf 404300 nf 404300 ff 404300 mf 404300 pf 404300 bf 404300 404300 808600 (nI (2 * (t.length + 1))) tou up tuf tof (nI y) (nI x) K kx) Q := by
  have hml := hC.1.2.2.1
  have hJ := rf_len hF
  have hxl := hx.1
  have hyl := hy.1
  have GG : ∀ z, RG S M ndf B z → RG S M ndf B (ru z) := fun z hz => ug_G hU _ z (Nat.le_refl _) hz
  have hG3 : ∀ z, RG S M ndf B z → z < 300000 := fun z hz => by have := hz.1; omega
  obtain ⟨L1, L2⟩ := ug_link hU hG3 h0 hx hy ex ey hxy
  obtain ⟨M1, M2⟩ := ug_link hU hG3 h0 hy hx ey ex (fun z => hxy z.symm)
  obtain ⟨tou1, tuf1, W1, F1⟩ := rf_join a b c d e g hM3 hF hxl ex hyl
  obtain ⟨tou2, tuf2, W2, F2⟩ := rf_join a b c d e g hM3 hF hyl ey hxl
  have kv : ∀ z, RG S M ndf B z → (kf z = 0 ↔ isV (arx S M z)) := fun z hz => by
    rcases rc_case hC hz.1 with ⟨v, v1, v2, v3, v4, _⟩ | ⟨i, dd, i1, i2, ⟨w, w1, w2, w3, _⟩ | ⟨w1, w2, w3, _⟩⟩
    · rw [v3, v4]
      exact ⟨fun _ => ⟨rfl, by have := hC.2.2.1; show v < 200; omega⟩, fun _ => rfl⟩
    · rw [w2, w3]
      exact ⟨fun q => absurd q (by decide), fun q => by cases q.1⟩
    · rw [w2, w3]
      exact ⟨fun q => absurd q (by decide), fun q => absurd q.2 (by show ¬ 200 + i < 200; omega)⟩
  unfold p_Mo_classes_90 p_Mo_classes_110 p_Mo_classes_128
  rw [nI_clamp (n := x) (by omega), nI_clamp (n := y) (by omega), t2]
  refine wp_ck (ixb_t (by omega) (by omega)) ?_
  by_cases cx : isV (arx S M x)
  · have kx1 := (kv x hx).mpr cx
    rw [if_pos kx1] at hkx
    subst hkx
    have ne : ¬ arx S M x = arx S M y := fun z => hxy (rg_inj hC hx hy z cx.1)
    have eu : usp S st ρ (arx S M x) (arx S M y) (t.map (fun p => (arx S M p.1, arx S M p.2))) J = if st = true then (ρ, t.map (fun p => (arx S M p.1, arx S M p.2)), J, true) else (jn ρ (arx S M x) (arx S M y), t.map (fun p => (arx S M p.1, arx S M p.2)), arx S M x :: J, false) := by
      unfold usp
      rw [if_neg ne, if_pos cx]
    rw [eu] at hK hQ
    cases st with
    | true =>
      have q := hQ rfl tof
      refine wp_ite ⟨fun _ => wp_if (by decide) (wp_if (by decide) (wp_some q)), fun _ => wp_if (by decide) (wp_if (by decide) (wp_some q))⟩
    | false =>
      rw [if_neg (by decide)] at hK
      have q := hK (nI (2 * t.length)) tou1 _ tuf1 tof ⟨rfl, t, _, _, _, rfl, hv, by rw [List.length_append]; exact L1, L2, rp_keep hC hr GG hx cx.1, rfl, hI, F1, by rw [List.length_append, List.length_singleton]; omega⟩
      refine wp_ite ⟨fun _ => wp_it rfl (wp_if (by decide) (wp_bs W1 q)), fun _ => wp_it rfl (wp_if (by decide) (wp_bs W1 q))⟩
  have kx0 : ¬ kf x = 0 := fun z => cx ((kv x hx).mp z)
  rw [if_neg kx0] at hkx
  subst hkx
  by_cases cy : isV (arx S M y)
  · have ky1 := (kv y hy).mpr cy
    have ne : ¬ arx S M x = arx S M y := fun z => cx (by rw [z]; exact cy)
    have eu : usp S st ρ (arx S M x) (arx S M y) (t.map (fun p => (arx S M p.1, arx S M p.2))) J = if st = true then (ρ, t.map (fun p => (arx S M p.1, arx S M p.2)), J, true) else (jn ρ (arx S M y) (arx S M x), t.map (fun p => (arx S M p.1, arx S M p.2)), arx S M y :: J, false) := by
      unfold usp
      rw [if_neg ne, if_neg cx, if_pos cy]
    rw [eu] at hK hQ
    refine wp_it ky1 ?_
    cases st with
    | true => exact wp_if (by decide) (wp_it rfl (wp_if (by decide) (wp_some (hQ rfl tof))))
    | false =>
      rw [if_neg (by decide)] at hK
      exact wp_it rfl (wp_it rfl (wp_if (by decide) (wp_bs W2 (hK (nI (2 * t.length)) tou2 _ tuf2 tof ⟨rfl, t, _, _, _, rfl, hv, by rw [List.length_append]; exact M1, M2, rp_keep hC hr GG hy cy.1, rfl, hI, F2, by rw [List.length_append, List.length_singleton]; omega⟩))))
  have ky0 : ¬ kf y = 0 := fun z => cy ((kv y hy).mp z)
  have A := ra_alike hC hxl hyl cx cy
  have bad : ¬ ((arx S M x).1 ≠ none ∧ arx S M x = arx S M y ∨ alk S (arx S M x) (arx S M y)) → (usp S st ρ (arx S M x) (arx S M y) (t.map (fun p => (arx S M p.1, arx S M p.2))) J).2.2.2 = true := fun z => by
    have ne : ¬ arx S M x = arx S M y := fun q => by
      by_cases q2 : (arx S M x).1 = none
      · exact hxy (rg_inj hC hx hy q q2)
      · exact z (Or.inl ⟨q2, q⟩)
    unfold usp
    rw [if_neg ne, if_neg cx, if_neg cy, if_neg (fun q => z (Or.inr q))]
  have body : wp (ck (ixb (nI x) 404300) (ck (ixb (nI y) 404300) (if kf x = kf y then (ck (ixb (nI x) 404300) (if kf x = 1 then (ck (ixb (nI x) 404300) (ck (ixb (nI y) 404300) (if (lg_cmp (bf x) (bf y)) = 0 then (K (nI (2 * t.length)) tou up tuf tof) else (some ((0 : Int32), tou, up, tuf, tof))))) else (ck (ixb (nI x) 404300) (ck (ixb (nI y) 404300) (if nf x = nf y then (ck (ixb (nI x) 404300) (ck (ixb (nI y) 404300) (if mf x = mf y then ((p_Mo_join (nI x) (nI y) a b c d e tou g 404300 up 404300 tuf).bind (fun (a_touches_28, a_up_f_28, a_touched_f_28) => ck (ixb (nI x) 404300) (p_Mo_classes_295 n sz pt 404300 ff 404300 pf 808600 (nI y) (nI x) a_touches_28 a_up_f_28 a_touched_f_28 (fun w0 w1 w2 w3 w4 => K w0 w1 w2 w3 w4) n (mf x - 1) (nI (2 * t.length)) tof))) else (some ((0 : Int32), tou, up, tuf, tof))))) else (some ((0 : Int32), tou, up, tuf, tof))))))) else (some ((0 : Int32), tou, up, tuf, tof))))) Q := by
    have I : ixb (nI x) 404300 = true := ixb_t (by omega) (by omega)
    have I2 : ixb (nI y) 404300 = true := ixb_t (by omega) (by omega)
    refine wp_ck I (wp_ck I2 ?_)
    by_cases c1 : kf x = kf y
    · refine wp_it c1 (wp_ck I ?_)
      by_cases c2 : kf x = 1
      · refine wp_it c2 (wp_ck I (wp_ck I2 ?_))
        by_cases c3 : bf x = bf y
        · refine wp_it ((lg_cmp_eq _ _).mpr c3) ?_
          have q := A.mp ⟨c1, Or.inl ⟨c2, c3⟩⟩
          have e : arx S M x = arx S M y := by
            rcases q with q | q
            · exact q.2
            · exfalso
              rcases rc_case hC hxl with ⟨v, v1, v2, v3, v4, _⟩ | ⟨i, dd, i1, i2, ⟨w, w1, w2, w3, _⟩ | ⟨w1, w2, w3, _⟩⟩
              · exact kx0 v4
              · rw [w2] at q
                cases q.1
              · rw [w3] at c2
                exact absurd c2 (by decide)
          have eu : usp S st ρ (arx S M x) (arx S M y) (t.map (fun p => (arx S M p.1, arx S M p.2))) J = (ρ, t.map (fun p => (arx S M p.1, arx S M p.2)), J, false) := by
            unfold usp
            rw [if_pos e]
          rw [eu] at hK
          exact hK _ _ _ _ _ ⟨rfl, t, _, _, _, rfl, hv, hU, h0, hr, rfl, hI, hF, by omega⟩
        · refine wp_if (fun z => c3 ((lg_cmp_eq _ _).mp z)) (wp_some (hQ (bad (fun q => ?_)) tof))
          rcases A.mpr q with ⟨_, ⟨_, z⟩ | ⟨z, _⟩⟩
          · exact c3 z
          · exact z c2
      · refine wp_if c2 (wp_ck I (wp_ck I2 ?_))
        by_cases c3 : nf x = nf y
        · refine wp_it c3 (wp_ck I (wp_ck I2 ?_))
          by_cases c4 : mf x = mf y
          · refine wp_it c4 (wp_bs W1 (wp_ck I ?_))
            have q := A.mp ⟨c1, Or.inr ⟨c2, c3, c4⟩⟩
            have q2 : alk S (arx S M x) (arx S M y) := by
              rcases q with q | q
              · exfalso
                rcases rc_case hC hxl with ⟨v, v1, v2, v3, v4, _⟩ | ⟨i, dd, i1, i2, ⟨w, w1, w2, w3, _⟩ | ⟨w1, w2, w3, _⟩⟩
                · exact kx0 v4
                · exact c2 w3
                · rw [w2] at q
                  exact q.1 rfl
              · exact q
            have ne : ¬ arx S M x = arx S M y := fun z => hxy (rg_inj hC hx hy z q2.1)
            have l8 := pav_8 h8 (arx S M x)
            have em : mf x = nI (pav S (arx S M x)).length := by
              rcases rc_case hC hxl with ⟨v, v1, v2, v3, v4, _⟩ | ⟨i, dd, i1, i2, ⟨w, w1, w2, w3, _⟩ | ⟨w1, w2, w3, w4, w5, w6, w7, _⟩⟩
              · exact absurd v4 kx0
              · exact absurd w3 c2
              · rw [w7, List.length_map, w6]
            obtain ⟨tof', w', g1, g2, g3, g4⟩ := mc_295 n hC tou1 (upd up x (nI y)) tuf1 (fun w0 w1 w2 w3 w4 => K w0 w1 w2 w3 w4) hxl hyl t q2.2.2.2 (by omega) (pav S (arx S M x)).length n (mf x - 1) (nI (2 * t.length)) tof [] (by rw [em]) l8 (Nat.le_refl _) (by omega) (by rw [List.length_nil, Nat.zero_add]) (by rw [List.map_nil, List.drop_of_length_le (by rw [List.length_zip]; omega)]) (fun p hp => by cases hp) hI
            rw [g1]
            have lw : w'.length ≤ 8 := by
              have := congrArg List.length g2
              rw [List.length_map, List.length_zip] at this
              omega
            have eu : usp S st ρ (arx S M x) (arx S M y) (t.map (fun p => (arx S M p.1, arx S M p.2))) J = (jn ρ (arx S M x) (arx S M y), (pav S (arx S M x)).zip (pav S (arx S M y)) ++ t.map (fun p => (arx S M p.1, arx S M p.2)), arx S M x :: J, false) := by
              unfold usp
              rw [if_neg ne, if_neg cx, if_neg cy, if_pos q2]
            rw [eu] at hK
            exact hK _ _ _ _ _ ⟨rfl, w' ++ t, _, _, _, by rw [List.map_append, g2], fun p hp => by
              rcases List.mem_append.mp hp with z | z
              · exact g3 p z
              · exact hv p z, by rw [List.length_append]; exact L1, L2, rp_keep hC hr GG hx q2.1, by rw [List.length_append], g4, F1, by rw [List.length_append, List.length_append, List.length_singleton]; omega⟩
          · refine wp_if c4 (wp_some (hQ (bad (fun q => ?_)) tof))
            rcases A.mpr q with ⟨_, ⟨z, _⟩ | ⟨_, _, z⟩⟩
            · exact c2 z
            · exact c4 z
        · refine wp_if c3 (wp_some (hQ (bad (fun q => ?_)) tof))
          rcases A.mpr q with ⟨_, ⟨z, _⟩ | ⟨_, z, _⟩⟩
          · exact c2 z
          · exact c3 z
    · exact wp_if c1 (wp_some (hQ (bad (fun q => c1 (A.mpr q).1)) tof))
  refine wp_if ky0 ?_
  cases st with
  | true => exact wp_if (by decide) (wp_it rfl (wp_it rfl (wp_it rfl (wp_it rfl body))))
  | false => exact wp_it rfl (wp_it rfl (wp_it rfl body))
/-! ===== both join all ===== -/
def RP (S : List Nd) (M : List Rf) (ndf : Nat → Int32) (B : Nat → Option Av) (s : Us) : T5 → Prop := fun (r, tou', up', tuf', tof') => (s.2.2.2 = false ∧ r = 1 ∧ ∃ top', RJ S M ndf B s top' tof' up' tou' tuf') ∨ (s.2.2.2 = true ∧ r = 0 ∧ ∃ Jr, RF M.length up' Jr tou' tuf')
theorem la_top {l : List Int32} {x y : Int32} {f : Nat → Int32} (h : la (l ++ [x] ++ [y]) f) : f (l.length + 1) = y ∧ f l.length = x ∧ la l f := by
  have ln : (l ++ [x]).length = l.length + 1 := by rw [List.length_append, List.length_singleton]
  have h2 := la_left h
  refine ⟨?_, ?_, la_left h2⟩
  · have := h (l.length + 1) (by rw [List.length_append, ln, List.length_singleton]; omega)
    rw [this, gd_2 (by omega), ln, Nat.sub_self]
    rfl
  · have := h2 l.length (by rw [ln]; omega)
    rw [this, gd_2 (by omega), Nat.sub_self]
    rfl
theorem mca_loop {TR : List (List Int32)} {S : List Nd} {M : List Rf} {P : Nat} {sz pt : Int32} {kf nf ff mf pf : Nat → Int32} {bf : Nat → Int64} {V : List (List Int32)} {ndf br : Nat → Int32} {B : Nat → Option Av} {rk : Nat → Nat} {μ : Av → Av} (hC : RCx TR S M P sz pt kf nf ff mf pf bf V ndf br B rk μ) (h8 : D8 S) (hS : S.length ≤ 20700) (hM3 : M.length ≤ 30000) {D : Av → Prop} (hD : DO S D) (hμ : ∀ z, D z → D (μ z) ∧ fa B (μ z)) (st : Bool) (a b c d e g : Int32) : ∀ (m f : Nat) (s : Us) (top tou : Int32) (up tuf tof : Nat → Int32), ufin (un S μ st m s) → UI S B D s → RJ S M ndf B s top tof up tou tuf → m < f → wp (p_Mo_classes_25 pure_n (b1 st) a b c d e g sz pt 404300 kf 404300 nf 404300 ff 404300 mf 404300 pf 404300 bf 4300 br 4300 ndf 404300 404300 808600 f top tou up tuf tof) (RP S M ndf B (un S μ st m s)) := by
  have hml := hC.1.2.2.1
  intro m
  induction m with
  | zero =>
    intro f s top tou up tuf tof hf hU hJ hm
    obtain ⟨f, rfl⟩ : ∃ z, f = z + 1 := ⟨f - 1, by omega⟩
    rw [un] at hf ⊢
    have hJ0 := hJ
    obtain ⟨c0, tx, ru, mu, Jr, c1, c2, c3, c4, c5, c6, c7, c8, c9⟩ := hJ
    have e : tx = [] := by
      rcases hf with z | z
      · rw [c1] at z
        exact List.map_eq_nil_iff.mp z
      · rw [c0] at z
        cases z
    subst e
    rw [p_Mo_classes_25]
    exact wp_it (by rw [c6]; decide) (wp_some (Or.inl ⟨c0, rfl, top, hJ0⟩))
  | succ m ih =>
    intro f s top tou up tuf tof hf hU hJ hm
    obtain ⟨f, rfl⟩ : ∃ z, f = z + 1 := ⟨f - 1, by omega⟩
    have hJ0 := hJ
    obtain ⟨c0, tx, ru, mu, Jr, c1, c2, c3, c4, c5, c6, c7, c8, c9⟩ := hJ
    have hl := rf_len c8
    rw [p_Mo_classes_25]
    cases tx with
    | nil =>
      have fi : ufin s := Or.inl c1
      rw [un_fin (m + 1) fi]
      exact wp_it (by rw [c6]; decide) (wp_some (Or.inl ⟨c0, rfl, top, hJ0⟩))
    | cons p t =>
      obtain ⟨x, y⟩ := p
      obtain ⟨hx, hy⟩ := c2 (x, y) (List.mem_cons_self ..)
      dsimp only at hx hy
      rw [List.length_cons] at c6 c9
      rw [pr] at c7
      obtain ⟨l1, l2, l3⟩ := la_top c7
      rw [pr_len] at l1 l2
      obtain ⟨yr, y1, y2, y3, y4, _⟩ := mr_root hC a b c d e tou g sz pt (by omega) c3 c5 hy
      obtain ⟨xr, x1, x2, x3, x4, _⟩ := mr_root hC a b c d e tou g sz pt (by omega) c3 c5 hx
      have hyr := y2.1
      have hxr := x2.1
      have T1 : nI (2 * (t.length + 1)) + (-1) = nI (2 * t.length + 1) := by rw [sb1, show 2 * (t.length + 1) = 2 * t.length + 1 + 1 by omega, nI_pred]
      have T2 : nI (2 * t.length + 1) + (-1) = nI (2 * t.length) := by rw [sb1, nI_pred]
      subst c6
      rw [T1, T2, nI_clamp (by omega), nI_clamp (by omega), l1, l2]
      refine wp_if (nI_ge (a := 0) (by omega) (by omega)) (wp_ck (ixb_t (by omega) (by omega)) (wp_bs y1 (wp_ck (ixb_t (by omega) (by omega)) (wp_bs x1 ?_))))
      have es : un S μ st (m + 1) s = un S μ st m (usp S st s.1 (s.1 (μ (arx S M x))) (s.1 (μ (arx S M y))) (t.map (fun p => (arx S M p.1, arx S M p.2))) s.2.2.1) := by
        rw [un]
        congr 1
        obtain ⟨ρ, td, J, fl⟩ := s
        dsimp only at c0 c1
        subst c0
        rw [c1]
        rfl
      have hU2 : UI S B D (usp S st s.1 (s.1 (μ (arx S M x))) (s.1 (μ (arx S M y))) (t.map (fun p => (arx S M p.1, arx S M p.2))) s.2.2.1) := by
        have := (ui_st h8 hD hμ st hU).1
        obtain ⟨ρ, td, J, fl⟩ := s
        dsimp only at c0 c1
        subst c0
        rw [c1] at this
        exact this
      rw [es] at hf ⊢
      rw [← x3, ← y3] at hf hU2 ⊢
      have c2' : ∀ p, p ∈ t → p.1 < M.length ∧ p.2 < M.length := fun p hp => c2 p (List.mem_cons_of_mem _ hp)
      by_cases q : xr = yr
      · subst q
        refine wp_it rfl ?_
        have eu : usp S st s.1 (arx S M xr) (arx S M xr) (t.map (fun p => (arx S M p.1, arx S M p.2))) s.2.2.1 = (s.1, t.map (fun p => (arx S M p.1, arx S M p.2)), s.2.2.1, false) := if_pos rfl
        rw [eu] at hf hU2 ⊢
        exact ih f _ _ tou up tuf tof hf hU2 ⟨rfl, t, ru, mu, Jr, rfl, c2', c3, c4, c5, rfl, l3, c8, by omega⟩ (by omega)
      · refine wp_if (fun z => q ((nI_eq (by omega) (by omega)).mp z)) (wp_ck (ixb_t (by omega) (by omega)) ?_)
        have G := mcj pure_n (by have := pure_ge; omega) hC h8 hM3 st a b c d e g c3 c4 c5 c8 l3 c2' (by omega) x2 y2 x4 y4 q s.2.2.1 (fun w0 w1 w2 w3 w4 => p_Mo_classes_25 pure_n (b1 st) a b c d e g sz pt 404300 kf 404300 nf 404300 ff 404300 mf 404300 pf 404300 bf 4300 br 4300 ndf 404300 404300 808600 f w0 w1 w2 w3 w4) (RP S M ndf B (un S μ st m (usp S st s.1 (arx S M xr) (arx S M yr) (t.map (fun p => (arx S M p.1, arx S M p.2))) s.2.2.1))) (fun top' tou' up' tuf' tof' hR => ih f _ top' tou' up' tuf' tof' hf hU2 hR (by omega)) (fun z tof' => by
          rw [un_fin m (Or.inr z)]
          exact Or.inr ⟨z, rfl, Jr, c8⟩)
        rw [nI_clamp (by omega)]
        refine wp_ite ⟨fun z => G 1 (by rw [if_pos z]), fun z => G 0 (by rw [if_neg z])⟩
/-- where both begin -/
def U0 (a b : Av) : Us := (fun z => z, [(a, b)], [], false)
theorem ui_0 {S : List Nd} {B : Nat → Option Av} {D : Av → Prop} {a b : Av} (ha : D a) (hb : D b) : UI S B D (U0 a b) := ⟨fun _ => rfl, fun _ h => h, fun p hp => by
  rw [show p = (a, b) from List.mem_singleton.mp hp]
  exact ⟨ha, hb⟩, List.nodup_nil, (fun a h => by cases h), fun _ h => h, fun _ _ => rfl, Nat.le_refl _⟩
theorem m_classes {TR : List (List Int32)} {S : List Nd} {M : List Rf} {P : Nat} {sz pt : Int32} {kf nf ff mf pf : Nat → Int32} {bf : Nat → Int64} {V : List (List Int32)} {ndf br : Nat → Int32} {B : Nat → Option Av} {rk : Nat → Nat} {μ : Av → Av} (hC : RCx TR S M P sz pt kf nf ff mf pf bf V ndf br B rk μ) (h8 : D8 S) (hS : S.length ≤ 20700) (hM3 : M.length ≤ 30000) {D : Av → Prop} (hD : DO S D) (hμ : ∀ z, D z → D (μ z) ∧ fa B (μ z)) (st : Bool) (a b c d e g : Int32) {up tuf tof : Nat → Int32} (hup : ∀ x, x < 404300 → up x = -1) {x y : Nat} (hx : x < M.length) (hy : y < M.length) (Dx : D (arx S M x)) (Dy : D (arx S M y)) {m : Nat} (hf : ufin (un S μ st m (U0 (arx S M x) (arx S M y)))) (hm : m < pure_n) : wp (p_Mo_classes pure_n (nI x) (nI y) (b1 st) a b c d e 0 g sz pt 404300 kf 404300 nf 404300 ff 404300 mf 404300 pf 404300 bf 4300 br 4300 ndf 404300 up 404300 tuf 808600 tof) (RP S M ndf B (un S μ st m (U0 (arx S M x) (arx S M y)))) := by
  unfold p_Mo_classes
  refine wp_ck (by decide) (wp_ck (by decide) (mca_loop hC h8 hS hM3 hD hμ st a b c d e g m pure_n _ _ 0 up tuf _ hf (ui_0 Dx Dy) ⟨rfl, [(x, y)], fun z => z, fun _ => 0, [], rfl, fun p hp => ?_, fun z hz => ⟨Nat.le_refl _, Or.inl ⟨hup z (by have := hz.1; omega), rfl⟩⟩, fun _ _ _ => rfl, fun _ _ => rfl, rfl, ?_, ⟨rfl, la_nil _, List.nodup_nil, (fun x h => by cases h), fun z hz => ⟨fun q => absurd (hup z hz) q, fun q => by cases q⟩⟩, Nat.le_refl _⟩ hm))
  · rw [show p = (x, y) from List.mem_singleton.mp hp]
    exact ⟨hx, hy⟩
  · show la ([] ++ [nI x] ++ [nI y]) _
    refine la_app (la_app (g := upd tof 0 (nI x)) (la_nil tof) (fun j hj => absurd hj (by simp)) ?_) (fun j hj => ?_) ?_
    · exact pk_us
    · rw [List.length_append, List.length_singleton, List.length_nil] at hj
      exact pk_un (by show ¬ j = 1; omega)
    · exact pk_us
theorem u_joinAll {T : List (List Int32)} (hT : T.Nodup) (hTl : T.length < 65536) {S : List Nd} (hS : S.length ≤ 20700) {nd : Int32} {sn : Nat} {sf : Nat → Int32} {vn : Nat} {vf : Nat → Int64} {fn : Nat} {ff : Nat → Int32} {tp : Int32} {tn : Nat} {tf : Nat → Int32} (h : CT T S nd sn sf vn vf fn ff tp tn tf) (h8 : D8 S) {B : Nat → Option Av} {bc : Nat → Int32} (hB : CBd S B bc) {rk : Nat → Nat} {μ : Av → Av} (hM : MU B rk μ) {D : Av → Prop} (hD : DO S D) (hμ : ∀ z, D z → D (μ z) ∧ fa B (μ z)) (hDc : ∀ c, D (avc S c) → c < 200 + S.length) (st : Bool) (a b d e g i j : Int32) {ln : Nat} (hln : 200 + S.length ≤ ln) {lk : Nat → Int32} (hlk : ∀ z, lk z = 0) {js ps : Int32} {jq pn : Nat} {jf pf : Nat → Int32} (hj : IN [] js jq jf) (hjq : jq ≤ 50000) (hp : IN [] ps pn pf) (hpn : pn ≤ 213000) {x y : Nat} (Dx : D (avc S x)) (Dy : D (avc S y)) {m : Nat} (hf : ufin (un S μ st m (U0 (avc S x) (avc S y)))) (hm : m < 900000) (hm2 : m < pure_n) : wp (p_Unifier_joinAll pure_n (nI x) (nI y) (b1 (! st)) a b d e g i j sn sf vn vf fn ff tp tn tf 200 bc ln lk ps pn pf js jq jf) (JP S (un S μ st m (U0 (avc S x) (avc S y))) pn jq) := by
  unfold p_Unifier_joinAll
  refine wp_bind (in_push (nI x) hp (by simp)) ?_
  rintro ⟨⟨ps1, pn1, pf1⟩, mq1, sk1⟩ ⟨g1, g2, g3, g4⟩
  dsimp only
  refine wp_al (wp_bind (in_push (nI y) g1 (by simp)) ?_)
  rintro ⟨⟨ps2, pn2, pf2⟩, mq2, sk2⟩ ⟨k1, k2, k3, k4⟩
  dsimp only
  have L1 : ([] ++ [nI x] : List Int32).length = 1 := rfl
  have L0 : ([] : List Int32).length = 0 := rfl
  rw [L0] at g4
  rw [L1] at k4
  have G := uja_loop hT hTl hS h h8 hB hM hD hμ hDc st a b d e g i j hln m pure_n 0 _ js ps2 lk jq jf pn2 pf2 hf (ui_0 Dx Dy) ⟨rfl, [(x, y)], fun z => z, fun _ => 0, [], rfl, fun z _ => ⟨Nat.le_refl _, Or.inl ⟨hlk z, rfl⟩⟩, fun _ _ _ => rfl, fun _ _ => rfl, k1, by omega, ⟨hj, hjq, List.nodup_nil, (fun x h => by cases h), fun z => ⟨fun q => absurd (hlk z) q, fun q => by cases q⟩⟩, Nat.le_refl _⟩ (by omega) hm2
  rw [nI_0] at G
  refine wp_al (wp_mono G ?_)
  rintro ⟨⟨r, lk', ps', pn', pf', js', jq', jf'⟩, mq, sk⟩ ⟨v1, v2⟩
  refine ⟨v1, ?_, ?_⟩
  · have := v2.1
    show 64 * (mq + mq2 + mq1) + (pn + jq) ≤ pn' + jq'
    omega
  · have := v2.2
    show (sk + sk2 + sk1) + 2 * (pn + jq) ≤ 2 * (pn' + jq')
    omega
