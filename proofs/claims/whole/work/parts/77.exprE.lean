/-! THE REFERENCE'S expression: units, brackets, all of it -/
theorem unitD {fu c p : Nat} {h : mh} (hL : LM h.2) (q : ddM c p h) : fX10_unit fu 299 h = some ((), h) := by
  refine ok_eq ?_
  unfold fX10_unit
  repeat (first | with_reducible apply v_lt | ((with_reducible apply w_MR); exact hL; rfl) | ((with_reducible apply w_lv); exact hL; assumption) | ((with_reducible apply vMI); exact hL) | ((with_reducible apply vMS); exact hL) | ((with_reducible apply vMC); exact hL) | ((with_reducible apply vMZ); exact hL; (first | exact Or.inl rfl | exact Or.inr rfl | exact b2i_01 _ | assumption)) | ((first | with_reducible apply w_MA | with_reducible apply w_MW | with_reducible apply w_MY | with_reducible apply w_MB | with_reducible apply w_MJ | with_reducible apply w_MK); exact hL; rfl; rfl; rfl; (first | with_reducible rfl | with_reducible exact ixo _ | with_reducible exact ixoc _ _ | with_reducible exact ixom _ _ _ | with_reducible exact ixop _ _ | with_reducible exact ixod _ _ | assumption); omega))
  refine v_eq (isD hL q) (v_it rfl ?_)
  repeat (first | with_reducible apply v_lt | ((with_reducible apply w_MR); exact hL; rfl) | ((with_reducible apply w_lv); exact hL; assumption) | ((with_reducible apply vMI); exact hL) | ((with_reducible apply vMS); exact hL) | ((with_reducible apply vMC); exact hL) | ((with_reducible apply vMZ); exact hL; (first | exact Or.inl rfl | exact Or.inr rfl | exact b2i_01 _ | assumption)) | ((first | with_reducible apply w_MA | with_reducible apply w_MW | with_reducible apply w_MY | with_reducible apply w_MB | with_reducible apply w_MJ | with_reducible apply w_MK); exact hL; rfl; rfl; rfl; (first | with_reducible rfl | with_reducible exact ixo _ | with_reducible exact ixoc _ _ | with_reducible exact ixom _ _ _ | with_reducible exact ixop _ _ | with_reducible exact ixod _ _ | assumption); omega))
  refine v_ie (x13 q).2 ?_
  unfold fX10_unit_88
  repeat (first | with_reducible apply v_lt | ((with_reducible apply w_MR); exact hL; rfl) | ((with_reducible apply w_lv); exact hL; assumption) | ((with_reducible apply vMI); exact hL) | ((with_reducible apply vMS); exact hL) | ((with_reducible apply vMC); exact hL) | ((with_reducible apply vMZ); exact hL; (first | exact Or.inl rfl | exact Or.inr rfl | exact b2i_01 _ | assumption)) | ((first | with_reducible apply w_MA | with_reducible apply w_MW | with_reducible apply w_MY | with_reducible apply w_MB | with_reducible apply w_MJ | with_reducible apply w_MK); exact hL; rfl; rfl; rfl; (first | with_reducible rfl | with_reducible exact ixo _ | with_reducible exact ixoc _ _ | with_reducible exact ixom _ _ _ | with_reducible exact ixop _ _ | with_reducible exact ixod _ _ | assumption); omega))
  exact v_eq (failD hL q) (v_rV ⟨rfl, rfl⟩)
set_option maxHeartbeats 2000000 in
theorem unitM {fu c0 i i1 : Nat} {τ : Nat → Tk} {L L1 : LZ} {h h1 : mh} (hL : LM h1.2) (hT : okT τ) (o : eo (sEx c0) h h1) (k40 : tkK (τ i1) ≠ 40)
    (e0 : fate τ L i = fate τ L1 i1) (e1 : i ≤ i1) (e2 : lWu L1 = true) (e3 : ¬ (lMi L1 = true ∧ tkK (τ i1) = 10)) (e5 : ctx L L1) (e6 : wfL L1) (e7 : atM τ i1 h1) (e8 : scM c0 (lQu L1) (lPd L1) h1) (e9 : gI h1 299 12 = nI (lOp L1)) (e10 : c0 + (lQu L1).length + (lPd L1).length ≤ lb9 c0 + i1) : ok (fX10_unit fu 299 h1) (fun _ h2 => exI τ c0 L i false h h2 ∧ mu9 h2 < mu9 h1) := by
  have hlb := lb9_le c0
  have kd := (hT i1).1
  have hi1 := e7.2.2.1
  have pl := pd_le e6
  obtain ⟨s1, s2, s3, s4⟩ := id e8
  obtain ⟨r1, -, r3, -⟩ := e7.2.2.2.2 i1 hi1 e7.2.2.2.1
  have put : ∀ (x : Nat × Int32), tkK (τ i1) ≠ 98 → lst L1 (τ i1) = (0, false, (false, false, lPt L1, lIf L1, lOp L1, lPd L1, lQu L1 ++ [x], lPa L1, lTs L1)) → ok (bd (fX10_emit fu 299 (nI x.1) x.2 h1) (fun (_ : Unit) (h13 : mh) => ckO h13 299 10 (bd (fX10_goesOn fu 299 h13) (fun (_ : Unit) (h14 : mh) => rtV h14)))) (fun _ h2 => exI τ c0 L i false h h2 ∧ mu9 h2 < mu9 h1) := by
    intro x hn e
    obtain ⟨wf2, -, -⟩ := lst_wf e6 (hT i1).2 e
    have wf2 := wf2 rfl
    refine v_eq (emitM (c := c0 + (lQu L1).length) hL (by omega) s3) ?_
    have o2 : eo (fun a k => (a = 299 ∧ k = 43) ∨ ((a = 328 ∨ a = 329) ∧ k = c0 + (lQu L1).length)) h1 (uI (uI (uI h1 328 (c0 + (lQu L1).length) (nI x.1)) 329 (c0 + (lQu L1).length) x.2) 299 43 (nI (c0 + (lQu L1).length + 1))) := eo_uI (eo_uI (eo_uI eo_rf (Or.inr ⟨Or.inl rfl, rfl⟩)) (Or.inr ⟨Or.inr rfl, rfl⟩)) (Or.inl ⟨rfl, rfl⟩)
    have a3 := atM_eo o2 (fun a k z => by omega) e7
    repeat (first | with_reducible apply v_lt | ((with_reducible apply w_MR); exact hL; rfl) | ((with_reducible apply w_lv); exact hL; assumption) | ((with_reducible apply vMI); exact hL) | ((with_reducible apply vMS); exact hL) | ((with_reducible apply vMC); exact hL) | ((with_reducible apply vMZ); exact hL; (first | exact Or.inl rfl | exact Or.inr rfl | exact b2i_01 _ | assumption)) | ((first | with_reducible apply w_MA | with_reducible apply w_MW | with_reducible apply w_MY | with_reducible apply w_MB | with_reducible apply w_MJ | with_reducible apply w_MK); exact hL; rfl; rfl; rfl; (first | with_reducible rfl | with_reducible exact ixo _ | with_reducible exact ixoc _ _ | with_reducible exact ixom _ _ _ | with_reducible exact ixop _ _ | with_reducible exact ixod _ _ | assumption); omega))
    rw [mu_a e7, ← mu_a a3]
    refine v_bd (step9 (c0 := c0) (h := h) hL e0 e hn e1 (eo_tr o (eo_mono o2 (fun a k z => by unfold sEx; omega))) e5 wf2 rfl a3 ⟨?_, ?_, ?_, ?_⟩ ?_ ?_) (fun _ h4 hq => v_rV hq)
    · rw [o2.2 _ _ (fun z => by omega)]
      exact s1
    · exact pil_eo o2 (fun k z => by omega) s2
    · rw [gI_eq]
      show _ = nI (c0 + (lQu L1 ++ [x]).length)
      rw [List.length_append]
      rfl
    · refine segM_app s4 (fun a j ha hj => o2.2 _ _ (fun z => by omega)) ?_ ?_
      · rw [gI_ne (by omega), gI_ne (by omega), gI_eq]
      · rw [gI_ne (by omega), gI_eq]
    · rw [o2.2 _ _ (fun z => by omega)]
      exact e9
    · show c0 + (lQu L1 ++ [x]).length + (lPd L1).length ≤ lb9 c0 + (i1 + 1)
      rw [List.length_append]
      show c0 + ((lQu L1).length + 1) + (lPd L1).length ≤ lb9 c0 + (i1 + 1)
      omega
  unfold fX10_unit
  repeat (first | with_reducible apply v_lt | ((with_reducible apply w_MR); exact hL; rfl) | ((with_reducible apply w_lv); exact hL; assumption) | ((with_reducible apply vMI); exact hL) | ((with_reducible apply vMS); exact hL) | ((with_reducible apply vMC); exact hL) | ((with_reducible apply vMZ); exact hL; (first | exact Or.inl rfl | exact Or.inr rfl | exact b2i_01 _ | assumption)) | ((first | with_reducible apply w_MA | with_reducible apply w_MW | with_reducible apply w_MY | with_reducible apply w_MB | with_reducible apply w_MJ | with_reducible apply w_MK); exact hL; rfl; rfl; rfl; (first | with_reducible rfl | with_reducible exact ixo _ | with_reducible exact ixoc _ _ | with_reducible exact ixom _ _ _ | with_reducible exact ixop _ _ | with_reducible exact ixod _ _ | assumption); omega))
  refine v_eq (isM (x := 23) hL ⟨by omega, Or.inl (by omega)⟩ kd e7) ?_
  by_cases c3 : tkK (τ i1) = 23
  · rw [decide_eq_true c3]
    refine v_ie (by decide) ?_
    repeat (first | with_reducible apply v_lt | ((with_reducible apply w_MR); exact hL; rfl) | ((with_reducible apply w_lv); exact hL; assumption) | ((with_reducible apply vMI); exact hL) | ((with_reducible apply vMS); exact hL) | ((with_reducible apply vMC); exact hL) | ((with_reducible apply vMZ); exact hL; (first | exact Or.inl rfl | exact Or.inr rfl | exact b2i_01 _ | assumption)) | ((first | with_reducible apply w_MA | with_reducible apply w_MW | with_reducible apply w_MY | with_reducible apply w_MB | with_reducible apply w_MJ | with_reducible apply w_MK); exact hL; rfl; rfl; rfl; (first | with_reducible rfl | with_reducible exact ixo _ | with_reducible exact ixoc _ _ | with_reducible exact ixom _ _ _ | with_reducible exact ixop _ _ | with_reducible exact ixod _ _ | assumption); omega))
    rw [e7.1]
    repeat (first | with_reducible apply v_lt | ((with_reducible apply w_MR); exact hL; rfl) | ((with_reducible apply w_lv); exact hL; assumption) | ((with_reducible apply vMI); exact hL) | ((with_reducible apply vMS); exact hL) | ((with_reducible apply vMC); exact hL) | ((with_reducible apply vMZ); exact hL; (first | exact Or.inl rfl | exact Or.inr rfl | exact b2i_01 _ | assumption)) | ((first | with_reducible apply w_MA | with_reducible apply w_MW | with_reducible apply w_MY | with_reducible apply w_MB | with_reducible apply w_MJ | with_reducible apply w_MK); exact hL; rfl; rfl; rfl; (first | with_reducible rfl | with_reducible exact ixo _ | with_reducible exact ixoc _ _ | with_reducible exact ixom _ _ _ | with_reducible exact ixop _ _ | with_reducible exact ixod _ _ | assumption); omega))
    rw [r3 c3]
    refine put (0, nI (tkV (τ i1))) (by omega) ?_
    unfold lst
    dsimp only
    rw [if_pos e2, if_neg e3, if_neg k40, if_pos c3]
  · rw [decide_eq_false c3]
    refine v_it rfl ?_
    repeat (first | with_reducible apply v_lt | ((with_reducible apply w_MR); exact hL; rfl) | ((with_reducible apply w_lv); exact hL; assumption) | ((with_reducible apply vMI); exact hL) | ((with_reducible apply vMS); exact hL) | ((with_reducible apply vMC); exact hL) | ((with_reducible apply vMZ); exact hL; (first | exact Or.inl rfl | exact Or.inr rfl | exact b2i_01 _ | assumption)) | ((first | with_reducible apply w_MA | with_reducible apply w_MW | with_reducible apply w_MY | with_reducible apply w_MB | with_reducible apply w_MJ | with_reducible apply w_MK); exact hL; rfl; rfl; rfl; (first | with_reducible rfl | with_reducible exact ixo _ | with_reducible exact ixoc _ _ | with_reducible exact ixom _ _ _ | with_reducible exact ixop _ _ | with_reducible exact ixod _ _ | assumption); omega))
    rw [e7.2.1]
    refine v_it rfl ?_
    repeat (first | with_reducible apply v_lt | ((with_reducible apply w_MR); exact hL; rfl) | ((with_reducible apply w_lv); exact hL; assumption) | ((with_reducible apply vMI); exact hL) | ((with_reducible apply vMS); exact hL) | ((with_reducible apply vMC); exact hL) | ((with_reducible apply vMZ); exact hL; (first | exact Or.inl rfl | exact Or.inr rfl | exact b2i_01 _ | assumption)) | ((first | with_reducible apply w_MA | with_reducible apply w_MW | with_reducible apply w_MY | with_reducible apply w_MB | with_reducible apply w_MJ | with_reducible apply w_MK); exact hL; rfl; rfl; rfl; (first | with_reducible rfl | with_reducible exact ixo _ | with_reducible exact ixoc _ _ | with_reducible exact ixom _ _ _ | with_reducible exact ixop _ _ | with_reducible exact ixod _ _ | assumption); omega))
    rw [e7.1]
    repeat (first | with_reducible apply v_lt | ((with_reducible apply w_MR); exact hL; rfl) | ((with_reducible apply w_lv); exact hL; assumption) | ((with_reducible apply vMI); exact hL) | ((with_reducible apply vMS); exact hL) | ((with_reducible apply vMC); exact hL) | ((with_reducible apply vMZ); exact hL; (first | exact Or.inl rfl | exact Or.inr rfl | exact b2i_01 _ | assumption)) | ((first | with_reducible apply w_MA | with_reducible apply w_MW | with_reducible apply w_MY | with_reducible apply w_MB | with_reducible apply w_MJ | with_reducible apply w_MK); exact hL; rfl; rfl; rfl; (first | with_reducible rfl | with_reducible exact ixo _ | with_reducible exact ixoc _ _ | with_reducible exact ixom _ _ _ | with_reducible exact ixop _ _ | with_reducible exact ixod _ _ | assumption); omega))
    rw [r1]
    obtain ⟨-, m2, m3, m4⟩ := sm_all _ kd
    by_cases c4 : 13 ≤ tkK (τ i1) ∧ tkK (τ i1) < 22
    · refine v_ie (fun z => m2.mp z c4) ?_
      repeat (first | with_reducible apply v_lt | ((with_reducible apply w_MR); exact hL; rfl) | ((with_reducible apply w_lv); exact hL; assumption) | ((with_reducible apply vMI); exact hL) | ((with_reducible apply vMS); exact hL) | ((with_reducible apply vMC); exact hL) | ((with_reducible apply vMZ); exact hL; (first | exact Or.inl rfl | exact Or.inr rfl | exact b2i_01 _ | assumption)) | ((first | with_reducible apply w_MA | with_reducible apply w_MW | with_reducible apply w_MY | with_reducible apply w_MB | with_reducible apply w_MJ | with_reducible apply w_MK); exact hL; rfl; rfl; rfl; (first | with_reducible rfl | with_reducible exact ixo _ | with_reducible exact ixoc _ _ | with_reducible exact ixom _ _ _ | with_reducible exact ixop _ _ | with_reducible exact ixod _ _ | assumption); omega))
      rw [e7.1]
      repeat (first | with_reducible apply v_lt | ((with_reducible apply w_MR); exact hL; rfl) | ((with_reducible apply w_lv); exact hL; assumption) | ((with_reducible apply vMI); exact hL) | ((with_reducible apply vMS); exact hL) | ((with_reducible apply vMC); exact hL) | ((with_reducible apply vMZ); exact hL; (first | exact Or.inl rfl | exact Or.inr rfl | exact b2i_01 _ | assumption)) | ((first | with_reducible apply w_MA | with_reducible apply w_MW | with_reducible apply w_MY | with_reducible apply w_MB | with_reducible apply w_MJ | with_reducible apply w_MK); exact hL; rfl; rfl; rfl; (first | with_reducible rfl | with_reducible exact ixo _ | with_reducible exact ixoc _ _ | with_reducible exact ixom _ _ _ | with_reducible exact ixop _ _ | with_reducible exact ixod _ _ | assumption); omega))
      rw [r1]
      refine v_ie m3 ?_
      repeat (first | with_reducible apply v_lt | ((with_reducible apply w_MR); exact hL; rfl) | ((with_reducible apply w_lv); exact hL; assumption) | ((with_reducible apply vMI); exact hL) | ((with_reducible apply vMS); exact hL) | ((with_reducible apply vMC); exact hL) | ((with_reducible apply vMZ); exact hL; (first | exact Or.inl rfl | exact Or.inr rfl | exact b2i_01 _ | assumption)) | ((first | with_reducible apply w_MA | with_reducible apply w_MW | with_reducible apply w_MY | with_reducible apply w_MB | with_reducible apply w_MJ | with_reducible apply w_MK); exact hL; rfl; rfl; rfl; (first | with_reducible rfl | with_reducible exact ixo _ | with_reducible exact ixoc _ _ | with_reducible exact ixom _ _ _ | with_reducible exact ixop _ _ | with_reducible exact ixod _ _ | assumption); omega))
      rw [e7.1]
      repeat (first | with_reducible apply v_lt | ((with_reducible apply w_MR); exact hL; rfl) | ((with_reducible apply w_lv); exact hL; assumption) | ((with_reducible apply vMI); exact hL) | ((with_reducible apply vMS); exact hL) | ((with_reducible apply vMC); exact hL) | ((with_reducible apply vMZ); exact hL; (first | exact Or.inl rfl | exact Or.inr rfl | exact b2i_01 _ | assumption)) | ((first | with_reducible apply w_MA | with_reducible apply w_MW | with_reducible apply w_MY | with_reducible apply w_MB | with_reducible apply w_MJ | with_reducible apply w_MK); exact hL; rfl; rfl; rfl; (first | with_reducible rfl | with_reducible exact ixo _ | with_reducible exact ixoc _ _ | with_reducible exact ixom _ _ _ | with_reducible exact ixop _ _ | with_reducible exact ixod _ _ | assumption); omega))
      rw [r1, m4 c4]
      refine put (1, nI (tkK (τ i1) - 13)) (by omega) ?_
      unfold lst
      dsimp only
      rw [if_pos e2, if_neg e3, if_neg k40, if_neg c3, if_pos c4]
    · refine v_it (m2.mpr c4) ?_
      have e : lst L1 (τ i1) = (1, false, L1) := by
        unfold lst
        dsimp only
        rw [if_pos e2, if_neg e3, if_neg k40, if_neg c3, if_neg c4]
      unfold fX10_unit_88
      repeat (first | with_reducible apply v_lt | ((with_reducible apply w_MR); exact hL; rfl) | ((with_reducible apply w_lv); exact hL; assumption) | ((with_reducible apply vMI); exact hL) | ((with_reducible apply vMS); exact hL) | ((with_reducible apply vMC); exact hL) | ((with_reducible apply vMZ); exact hL; (first | exact Or.inl rfl | exact Or.inr rfl | exact b2i_01 _ | assumption)) | ((first | with_reducible apply w_MA | with_reducible apply w_MW | with_reducible apply w_MY | with_reducible apply w_MB | with_reducible apply w_MJ | with_reducible apply w_MK); exact hL; rfl; rfl; rfl; (first | with_reducible rfl | with_reducible exact ixo _ | with_reducible exact ixoc _ _ | with_reducible exact ixom _ _ _ | with_reducible exact ixop _ _ | with_reducible exact ixod _ _ | assumption); omega))
      refine v_bd (stop9 (c := 1) hL e0 e (by omega) o e6 e7 e8 e10) (fun _ h2 hq => ?_)
      obtain ⟨q0, q1, q2, q3⟩ := hq
      refine v_rV ⟨⟨q1, Or.inr ⟨q2, lQu L1, lPd L1, e6.1, by omega, by omega, q3⟩⟩, ?_⟩
      rw [mu_a e7, mu_d q2]
      omega
theorem u84 {fu c0 i m0 : Nat} {τ : Nat → Tk} {L : LZ} {h h1 : mh} {k12 : Int32 × mh → Option (Unit × mh)} (hfu : 1000 ≤ fu) (hL0 : LM h.2) (hk12 : ∀ h2, exI τ c0 L i true h h2 → mu9 h2 < m0 → ok (k12 (1, h2)) (fun _ h2 => exQ τ c0 L i h h2)) (hT : okT τ) (o : eo (sEx c0) h h1) (hm : mu9 h1 ≤ m0)
    (hq : (alv τ c0 L i true h1 ∧ ∀ i1, atM τ i1 h1 → tkK (τ i1) ≠ 40) ∨ ded τ c0 L i h1) : ok (fX10_expression_84 fu k12 299 0 1 h1) (fun _ h2 => exQ τ c0 L i h h2) := by
  have hL : LM h1.2 := by rw [o.1]; exact hL0
  unfold fX10_expression_84
  repeat (first | with_reducible apply v_lt | ((with_reducible apply w_MR); exact hL; rfl) | ((with_reducible apply w_lv); exact hL; assumption) | ((with_reducible apply vMI); exact hL) | ((with_reducible apply vMS); exact hL) | ((with_reducible apply vMC); exact hL) | ((with_reducible apply vMZ); exact hL; (first | exact Or.inl rfl | exact Or.inr rfl | exact b2i_01 _ | assumption)) | ((first | with_reducible apply w_MA | with_reducible apply w_MW | with_reducible apply w_MY | with_reducible apply w_MB | with_reducible apply w_MJ | with_reducible apply w_MK); exact hL; rfl; rfl; rfl; (first | with_reducible rfl | with_reducible exact ixo _ | with_reducible exact ixoc _ _ | with_reducible exact ixom _ _ _ | with_reducible exact ixop _ _ | with_reducible exact ixod _ _ | assumption); omega))
  rcases hq with ⟨⟨L1, i1, e0, e1, e2, e3, e5, e6, e7, e8, e9, e10⟩, k40⟩ | d
  · refine v_bd (unitM hL hT o (k40 i1 e7) e0 e1 e2 e3 e5 e6 e7 e8 e9 e10) (fun _ h2 hq => ?_)
    obtain ⟨⟨o2, q1⟩, q2⟩ := hq
    have hL2 : LM h2.2 := by rw [o2.1]; exact hL0
    repeat (first | with_reducible apply v_lt | ((with_reducible apply w_MR); exact hL2; rfl) | ((with_reducible apply w_lv); exact hL2; assumption) | ((with_reducible apply vMI); exact hL2) | ((with_reducible apply vMS); exact hL2) | ((with_reducible apply vMC); exact hL2) | ((with_reducible apply vMZ); exact hL2; (first | exact Or.inl rfl | exact Or.inr rfl | exact b2i_01 _ | assumption)) | ((first | with_reducible apply w_MA | with_reducible apply w_MW | with_reducible apply w_MY | with_reducible apply w_MB | with_reducible apply w_MJ | with_reducible apply w_MK); exact hL2; rfl; rfl; rfl; (first | with_reducible rfl | with_reducible exact ixo _ | with_reducible exact ixoc _ _ | with_reducible exact ixom _ _ _ | with_reducible exact ixop _ _ | with_reducible exact ixod _ _ | assumption); omega))
    rcases q1 with q1 | q1
    · have f0 : gI h2 299 13 = 0 := by
        obtain ⟨_, _, _, _, _, _, _, _, p7, _⟩ := q1
        exact p7.2.1
      rw [f0]
      exact v_it (by decide) (closeM hfu hL0 hk12 hT ⟨o2, Or.inl q1⟩ (by omega))
    · exact v_ie (x13 q1.1).1 (v_rV ⟨o2, Or.inr q1.1⟩)
  · refine v_eq (unitD hL d.1) ?_
    repeat (first | with_reducible apply v_lt | ((with_reducible apply w_MR); exact hL; rfl) | ((with_reducible apply w_lv); exact hL; assumption) | ((with_reducible apply vMI); exact hL) | ((with_reducible apply vMS); exact hL) | ((with_reducible apply vMC); exact hL) | ((with_reducible apply vMZ); exact hL; (first | exact Or.inl rfl | exact Or.inr rfl | exact b2i_01 _ | assumption)) | ((first | with_reducible apply w_MA | with_reducible apply w_MW | with_reducible apply w_MY | with_reducible apply w_MB | with_reducible apply w_MJ | with_reducible apply w_MK); exact hL; rfl; rfl; rfl; (first | with_reducible rfl | with_reducible exact ixo _ | with_reducible exact ixoc _ _ | with_reducible exact ixom _ _ _ | with_reducible exact ixop _ _ | with_reducible exact ixod _ _ | assumption); omega))
    exact v_ie (x13 d.1).1 (v_rV ⟨o, Or.inr d.1⟩)
