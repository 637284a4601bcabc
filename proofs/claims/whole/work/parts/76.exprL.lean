/-! THE REFERENCE'S expression: its loops -/
theorem tt_w {k : Nat} (h : isOp k) : (k = 42 ∨ k = 47 → tt9 k = 2) ∧ (¬ (k = 42 ∨ k = 47) → tt9 k = 1) := by
  rcases h with rfl | rfl | rfl | rfl <;> decide
set_option maxHeartbeats 2000000 in
theorem behM {fu c0 i m0 : Nat} {τ : Nat → Tk} {L : LZ} {h h1 : mh} {k12 : Int32 × mh → Option (Unit × mh)} (hfu : 1000 ≤ fu) (hL : LM h1.2) (hk12 : ∀ h2, exI τ c0 L i true h h2 → mu9 h2 < m0 → ok (k12 (1, h2)) (fun _ h2 => exQ τ c0 L i h h2)) (hT : okT τ) (o : eo (sEx c0) h h1) (hm : mu9 h1 < m0)
    (hq : (∃ L1 i1, fate τ L i = fate τ L1 i1 ∧ i ≤ i1 ∧ lWu L1 = false ∧ (0 < lOp L1 → tkK (τ i1) ≠ 41) ∧ ctx L L1 ∧ wfL L1 ∧ atM τ i1 h1 ∧ scM c0 (lQu L1) (lPd L1) h1 ∧ gI h1 299 12 = nI (lOp L1) ∧ c0 + (lQu L1).length + (lPd L1).length ≤ lb9 c0 + i1) ∨ (ded τ c0 L i h1)) : ok (fX10_expression_145 fu k12 299 0 1 h1) (fun _ h2 => exQ τ c0 L i h h2) := by
  unfold fX10_expression_145
  repeat (first | with_reducible apply v_lt | ((with_reducible apply w_MR); exact hL; rfl) | ((with_reducible apply w_lv); exact hL; assumption) | ((with_reducible apply vMI); exact hL) | ((with_reducible apply vMS); exact hL) | ((with_reducible apply vMC); exact hL) | ((with_reducible apply vMZ); exact hL; (first | exact Or.inl rfl | exact Or.inr rfl | exact b2i_01 _ | assumption)) | ((first | with_reducible apply w_MA | with_reducible apply w_MW | with_reducible apply w_MY | with_reducible apply w_MB | with_reducible apply w_MJ | with_reducible apply w_MK); exact hL; rfl; rfl; rfl; (first | with_reducible rfl | with_reducible exact ixo _ | with_reducible exact ixoc _ _ | with_reducible exact ixom _ _ _ | with_reducible exact ixop _ _ | with_reducible exact ixod _ _ | assumption); omega))
  rcases hq with ⟨L1, i1, e0, e1, e2, e4, e5, e6, e7, e8, e9, e10⟩ | d
  · have kd := (hT i1).1
    have op : isOp (tkK (τ i1)) → ok (fX10_expression_181 fu k12 299 0 1 h1) (fun _ h2 => exQ τ c0 L i h h2) := by
      intro ho
      obtain ⟨t2, t1⟩ := tt_w ho
      unfold fX10_expression_181 fX10_expression_186
      refine v_ie (by decide) ?_
      repeat (first | with_reducible apply v_lt | ((with_reducible apply w_MR); exact hL; rfl) | ((with_reducible apply w_lv); exact hL; assumption) | ((with_reducible apply vMI); exact hL) | ((with_reducible apply vMS); exact hL) | ((with_reducible apply vMC); exact hL) | ((with_reducible apply vMZ); exact hL; (first | exact Or.inl rfl | exact Or.inr rfl | exact b2i_01 _ | assumption)) | ((first | with_reducible apply w_MA | with_reducible apply w_MW | with_reducible apply w_MY | with_reducible apply w_MB | with_reducible apply w_MJ | with_reducible apply w_MK); exact hL; rfl; rfl; rfl; (first | with_reducible rfl | with_reducible exact ixo _ | with_reducible exact ixoc _ _ | with_reducible exact ixom _ _ _ | with_reducible exact ixop _ _ | with_reducible exact ixod _ _ | assumption); omega))
      refine v_eq (isM (x := 42) hL ⟨by omega, Or.inr rfl⟩ kd e7) ?_
      by_cases z1 : tkK (τ i1) = 42
      · rw [decide_eq_true z1]
        refine v_ie (by decide) ?_
        unfold fX10_expression_229
        exact opM (w := 2) hfu hL hk12 hT o hm (Or.inr ⟨rfl, rfl⟩) (t2 (Or.inl z1)) e0 e1 e2 e5 e6 e7 e8 e9 e10
      · rw [decide_eq_false z1]
        refine v_it rfl ?_
        repeat (first | with_reducible apply v_lt | ((with_reducible apply w_MR); exact hL; rfl) | ((with_reducible apply w_lv); exact hL; assumption) | ((with_reducible apply vMI); exact hL) | ((with_reducible apply vMS); exact hL) | ((with_reducible apply vMC); exact hL) | ((with_reducible apply vMZ); exact hL; (first | exact Or.inl rfl | exact Or.inr rfl | exact b2i_01 _ | assumption)) | ((first | with_reducible apply w_MA | with_reducible apply w_MW | with_reducible apply w_MY | with_reducible apply w_MB | with_reducible apply w_MJ | with_reducible apply w_MK); exact hL; rfl; rfl; rfl; (first | with_reducible rfl | with_reducible exact ixo _ | with_reducible exact ixoc _ _ | with_reducible exact ixom _ _ _ | with_reducible exact ixop _ _ | with_reducible exact ixod _ _ | assumption); omega))
        refine v_eq (isM (x := 47) hL ⟨by omega, Or.inr rfl⟩ kd e7) ?_
        by_cases z2 : tkK (τ i1) = 47
        · rw [decide_eq_true z2]
          refine v_ie (by decide) ?_
          unfold fX10_expression_229
          exact opM (w := 2) hfu hL hk12 hT o hm (Or.inr ⟨rfl, rfl⟩) (t2 (Or.inr z2)) e0 e1 e2 e5 e6 e7 e8 e9 e10
        · rw [decide_eq_false z2]
          refine v_it rfl ?_
          exact opM (w := 1) hfu hL hk12 hT o hm (Or.inl ⟨rfl, rfl⟩) (t1 (by omega)) e0 e1 e2 e5 e6 e7 e8 e9 e10
    refine v_eq (isM (x := 43) hL ⟨by omega, Or.inr rfl⟩ kd e7) ?_
    by_cases z1 : tkK (τ i1) = 43
    · rw [decide_eq_true z1]
      exact v_ie (by decide) (op (Or.inl z1))
    rw [decide_eq_false z1]
    refine v_it rfl ?_
    repeat (first | with_reducible apply v_lt | ((with_reducible apply w_MR); exact hL; rfl) | ((with_reducible apply w_lv); exact hL; assumption) | ((with_reducible apply vMI); exact hL) | ((with_reducible apply vMS); exact hL) | ((with_reducible apply vMC); exact hL) | ((with_reducible apply vMZ); exact hL; (first | exact Or.inl rfl | exact Or.inr rfl | exact b2i_01 _ | assumption)) | ((first | with_reducible apply w_MA | with_reducible apply w_MW | with_reducible apply w_MY | with_reducible apply w_MB | with_reducible apply w_MJ | with_reducible apply w_MK); exact hL; rfl; rfl; rfl; (first | with_reducible rfl | with_reducible exact ixo _ | with_reducible exact ixoc _ _ | with_reducible exact ixom _ _ _ | with_reducible exact ixop _ _ | with_reducible exact ixod _ _ | assumption); omega))
    refine v_eq (isM (x := 45) hL ⟨by omega, Or.inr rfl⟩ kd e7) ?_
    by_cases z2 : tkK (τ i1) = 45
    · rw [decide_eq_true z2]
      exact v_ie (by decide) (op (Or.inr (Or.inl z2)))
    rw [decide_eq_false z2]
    refine v_it rfl ?_
    repeat (first | with_reducible apply v_lt | ((with_reducible apply w_MR); exact hL; rfl) | ((with_reducible apply w_lv); exact hL; assumption) | ((with_reducible apply vMI); exact hL) | ((with_reducible apply vMS); exact hL) | ((with_reducible apply vMC); exact hL) | ((with_reducible apply vMZ); exact hL; (first | exact Or.inl rfl | exact Or.inr rfl | exact b2i_01 _ | assumption)) | ((first | with_reducible apply w_MA | with_reducible apply w_MW | with_reducible apply w_MY | with_reducible apply w_MB | with_reducible apply w_MJ | with_reducible apply w_MK); exact hL; rfl; rfl; rfl; (first | with_reducible rfl | with_reducible exact ixo _ | with_reducible exact ixoc _ _ | with_reducible exact ixom _ _ _ | with_reducible exact ixop _ _ | with_reducible exact ixod _ _ | assumption); omega))
    refine v_eq (isM (x := 42) hL ⟨by omega, Or.inr rfl⟩ kd e7) ?_
    by_cases z3 : tkK (τ i1) = 42
    · rw [decide_eq_true z3]
      exact v_ie (by decide) (op (Or.inr (Or.inr (Or.inl z3))))
    rw [decide_eq_false z3]
    refine v_it rfl ?_
    repeat (first | with_reducible apply v_lt | ((with_reducible apply w_MR); exact hL; rfl) | ((with_reducible apply w_lv); exact hL; assumption) | ((with_reducible apply vMI); exact hL) | ((with_reducible apply vMS); exact hL) | ((with_reducible apply vMC); exact hL) | ((with_reducible apply vMZ); exact hL; (first | exact Or.inl rfl | exact Or.inr rfl | exact b2i_01 _ | assumption)) | ((first | with_reducible apply w_MA | with_reducible apply w_MW | with_reducible apply w_MY | with_reducible apply w_MB | with_reducible apply w_MJ | with_reducible apply w_MK); exact hL; rfl; rfl; rfl; (first | with_reducible rfl | with_reducible exact ixo _ | with_reducible exact ixoc _ _ | with_reducible exact ixom _ _ _ | with_reducible exact ixop _ _ | with_reducible exact ixod _ _ | assumption); omega))
    refine v_eq (isM (x := 47) hL ⟨by omega, Or.inr rfl⟩ kd e7) ?_
    by_cases z4 : tkK (τ i1) = 47
    · rw [decide_eq_true z4]
      exact v_ie (by decide) (op (Or.inr (Or.inr (Or.inr z4))))
    rw [decide_eq_false z4]
    refine v_it rfl ?_
    unfold fX10_expression_186
    refine v_it rfl ?_
    have t0 : tt9 (tkK (τ i1)) = 0 := by
      unfold tt9
      rw [if_neg (by omega), if_neg (by omega)]
    exact endM hfu hL rfl o (Or.inl ⟨L1, i1, e0, e1, e2, t0, e4, e5, e6, e7, e8, e9, e10⟩)
  · refine v_eq (isD hL d.1) (v_it rfl ?_)
    repeat (first | with_reducible apply v_lt | ((with_reducible apply w_MR); exact hL; rfl) | ((with_reducible apply w_lv); exact hL; assumption) | ((with_reducible apply vMI); exact hL) | ((with_reducible apply vMS); exact hL) | ((with_reducible apply vMC); exact hL) | ((with_reducible apply vMZ); exact hL; (first | exact Or.inl rfl | exact Or.inr rfl | exact b2i_01 _ | assumption)) | ((first | with_reducible apply w_MA | with_reducible apply w_MW | with_reducible apply w_MY | with_reducible apply w_MB | with_reducible apply w_MJ | with_reducible apply w_MK); exact hL; rfl; rfl; rfl; (first | with_reducible rfl | with_reducible exact ixo _ | with_reducible exact ixoc _ _ | with_reducible exact ixom _ _ _ | with_reducible exact ixop _ _ | with_reducible exact ixod _ _ | assumption); omega))
    refine v_eq (isD hL d.1) (v_it rfl ?_)
    repeat (first | with_reducible apply v_lt | ((with_reducible apply w_MR); exact hL; rfl) | ((with_reducible apply w_lv); exact hL; assumption) | ((with_reducible apply vMI); exact hL) | ((with_reducible apply vMS); exact hL) | ((with_reducible apply vMC); exact hL) | ((with_reducible apply vMZ); exact hL; (first | exact Or.inl rfl | exact Or.inr rfl | exact b2i_01 _ | assumption)) | ((first | with_reducible apply w_MA | with_reducible apply w_MW | with_reducible apply w_MY | with_reducible apply w_MB | with_reducible apply w_MJ | with_reducible apply w_MK); exact hL; rfl; rfl; rfl; (first | with_reducible rfl | with_reducible exact ixo _ | with_reducible exact ixoc _ _ | with_reducible exact ixom _ _ _ | with_reducible exact ixop _ _ | with_reducible exact ixod _ _ | assumption); omega))
    refine v_eq (isD hL d.1) (v_it rfl ?_)
    repeat (first | with_reducible apply v_lt | ((with_reducible apply w_MR); exact hL; rfl) | ((with_reducible apply w_lv); exact hL; assumption) | ((with_reducible apply vMI); exact hL) | ((with_reducible apply vMS); exact hL) | ((with_reducible apply vMC); exact hL) | ((with_reducible apply vMZ); exact hL; (first | exact Or.inl rfl | exact Or.inr rfl | exact b2i_01 _ | assumption)) | ((first | with_reducible apply w_MA | with_reducible apply w_MW | with_reducible apply w_MY | with_reducible apply w_MB | with_reducible apply w_MJ | with_reducible apply w_MK); exact hL; rfl; rfl; rfl; (first | with_reducible rfl | with_reducible exact ixo _ | with_reducible exact ixoc _ _ | with_reducible exact ixom _ _ _ | with_reducible exact ixop _ _ | with_reducible exact ixod _ _ | assumption); omega))
    refine v_eq (isD hL d.1) (v_it rfl ?_)
    unfold fX10_expression_186
    refine v_it rfl ?_
    exact endM hfu hL rfl o (Or.inr d)
set_option maxHeartbeats 2000000 in
theorem closeM {fu c0 i m0 : Nat} {τ : Nat → Tk} {L : LZ} {h h1 : mh} {k12 : Int32 × mh → Option (Unit × mh)} (hfu : 1000 ≤ fu) (hL0 : LM h.2) (hk12 : ∀ h2, exI τ c0 L i true h h2 → mu9 h2 < m0 → ok (k12 (1, h2)) (fun _ h2 => exQ τ c0 L i h h2)) (hT : okT τ) (hI : exI τ c0 L i false h h1) (hm : mu9 h1 < m0) : ok (itr (bX10_expression_96 fu k12 299 0 1) fu h1) (fun _ h2 => exQ τ c0 L i h h2) := by
  have mb : mu9 h1 < fu := by
    unfold mu9
    split <;> omega
  refine itr_ms (I := fun h2 => exI τ c0 L i false h h2 ∧ mu9 h2 < m0) (P := fun R => ok R _) mu9 ?_ fu _ mb ⟨hI, hm⟩
  intro h2 k hI2 hk
  obtain ⟨⟨o, hq⟩, hm2⟩ := hI2
  have hL : LM h2.2 := by rw [o.1]; exact hL0
  unfold bX10_expression_96
  repeat (first | with_reducible apply v_lt | ((with_reducible apply w_MR); exact hL; rfl) | ((with_reducible apply w_lv); exact hL; assumption) | ((with_reducible apply vMI); exact hL) | ((with_reducible apply vMS); exact hL) | ((with_reducible apply vMC); exact hL) | ((with_reducible apply vMZ); exact hL; (first | exact Or.inl rfl | exact Or.inr rfl | exact b2i_01 _ | assumption)) | ((first | with_reducible apply w_MA | with_reducible apply w_MW | with_reducible apply w_MY | with_reducible apply w_MB | with_reducible apply w_MJ | with_reducible apply w_MK); exact hL; rfl; rfl; rfl; (first | with_reducible rfl | with_reducible exact ixo _ | with_reducible exact ixoc _ _ | with_reducible exact ixom _ _ _ | with_reducible exact ixop _ _ | with_reducible exact ixod _ _ | assumption); omega))
  rcases hq with ⟨L1, i1, e0, e1, e2, e3, e5, e6, e7, e8, e9, e10⟩ | d
  · have kd := (hT i1).1
    have hi1 := e7.2.2.1
    have pl := pd_le e6
    have beh : (0 < lOp L1 → tkK (τ i1) ≠ 41) → ok (fX10_expression_145 fu k12 299 0 1 h2) (fun _ h2 => exQ τ c0 L i h h2) := fun z => behM hfu hL hk12 hT o hm2 (Or.inl ⟨L1, i1, e0, e1, e2, z, e5, e6, e7, e8, e9, e10⟩)
    refine v_eq (isM (x := 41) hL ⟨by omega, Or.inr rfl⟩ kd e7) ?_
    by_cases z : tkK (τ i1) = 41
    · rw [decide_eq_true z]
      refine v_ie (by decide) ?_
      repeat (first | with_reducible apply v_lt | ((with_reducible apply w_MR); exact hL; rfl) | ((with_reducible apply w_lv); exact hL; assumption) | ((with_reducible apply vMI); exact hL) | ((with_reducible apply vMS); exact hL) | ((with_reducible apply vMC); exact hL) | ((with_reducible apply vMZ); exact hL; (first | exact Or.inl rfl | exact Or.inr rfl | exact b2i_01 _ | assumption)) | ((first | with_reducible apply w_MA | with_reducible apply w_MW | with_reducible apply w_MY | with_reducible apply w_MB | with_reducible apply w_MJ | with_reducible apply w_MK); exact hL; rfl; rfl; rfl; (first | with_reducible rfl | with_reducible exact ixo _ | with_reducible exact ixoc _ _ | with_reducible exact ixom _ _ _ | with_reducible exact ixop _ _ | with_reducible exact ixod _ _ | assumption); omega))
      rw [e9]
      by_cases z2 : 0 < lOp L1
      · refine v_ie (show ¬ nI (lOp L1) ≤ nI 0 from nI_ge z2 (by have := e6.2.2.2.1; omega)) ?_
        repeat (first | with_reducible apply v_lt | ((with_reducible apply w_MR); exact hL; rfl) | ((with_reducible apply w_lv); exact hL; assumption) | ((with_reducible apply vMI); exact hL) | ((with_reducible apply vMS); exact hL) | ((with_reducible apply vMC); exact hL) | ((with_reducible apply vMZ); exact hL; (first | exact Or.inl rfl | exact Or.inr rfl | exact b2i_01 _ | assumption)) | ((first | with_reducible apply w_MA | with_reducible apply w_MW | with_reducible apply w_MY | with_reducible apply w_MB | with_reducible apply w_MJ | with_reducible apply w_MK); exact hL; rfl; rfl; rfl; (first | with_reducible rfl | with_reducible exact ixo _ | with_reducible exact ixoc _ _ | with_reducible exact ixom _ _ _ | with_reducible exact ixop _ _ | with_reducible exact ixod _ _ | assumption); omega))
        have w2 := e6.2.1
        rw [e2] at w2
        have w2 : Pre (lQu L1) 0 (ops (lPd L1) + 1) := w2
        obtain ⟨-, -, -, -, i5⟩ := out_ok 1 (Nat.le_refl _) e6.1 w2
        have w3 := e6.2.2.1
        have w4 := e6.2.2.2.1
        obtain ⟨r, hr⟩ := out_1 rfl e6.1 w2 (by omega)
        have e : lst L1 (τ i1) = (0, false, (false, false, lPt L1, lIf L1, lOp L1 - 1, (out9 1 (lQu L1) (lPd L1)).2.tail, (out9 1 (lQu L1) (lPd L1)).1, lPa L1, lTs L1)) := by
          unfold lst
          dsimp only
          rw [e2, if_neg (by decide), if_neg (by rw [z]; decide), if_pos z2, if_pos z]
        obtain ⟨wf2, -, wl2⟩ := lst_wf e6 (hT i1).2 e
        have wf2 := wf2 rfl
        refine v_bd (coM (w := 1) hfu hL (Or.inl ⟨rfl, rfl⟩) e6.1 (by omega) (by omega) e8) (fun _ h3 hq => ?_)
        obtain ⟨q1, q2⟩ := hq
        have hL3 : LM h3.2 := by rw [q1.1]; exact hL
        have a2 := atM_eo q1 (fun a k z => by unfold sCo at z; omega) e7
        obtain ⟨cu, hcu⟩ : ∃ cu, cu = (out9 1 (lQu L1) (lPd L1)).1 := ⟨_, rfl⟩
        rw [hr, ← hcu] at q2 e i5 wf2
        have e : lst L1 (τ i1) = (0, false, (false, false, lPt L1, lIf L1, lOp L1 - 1, r, cu, lPa L1, lTs L1)) := e
        have wf2 : wfL (false, false, lPt L1, lIf L1, lOp L1 - 1, r, cu, lPa L1, lTs L1) := wf2
        have i5 : cu.length + (r.length + 1) = (lQu L1).length + (lPd L1).length := i5
        obtain ⟨s1, s2, s3, s4⟩ := q2
        have s1 : gI h3 299 47 = nI (r.length + 1) := s1
        have s2 : gI h3 330 (r.map soM).length = soM 40 ∧ pil h3 330 (r.map soM) := s2
        have g12 : gI h3 299 12 = nI (lOp L1) := by rw [q1.2 _ _ (fun z => by unfold sCo at z; omega)]; exact e9
        repeat (first | with_reducible apply v_lt | ((with_reducible apply w_MR); exact hL3; rfl) | ((with_reducible apply w_lv); exact hL3; assumption) | ((with_reducible apply vMI); exact hL3) | ((with_reducible apply vMS); exact hL3) | ((with_reducible apply vMC); exact hL3) | ((with_reducible apply vMZ); exact hL3; (first | exact Or.inl rfl | exact Or.inr rfl | exact b2i_01 _ | assumption)) | ((first | with_reducible apply w_MA | with_reducible apply w_MW | with_reducible apply w_MY | with_reducible apply w_MB | with_reducible apply w_MJ | with_reducible apply w_MK); exact hL3; rfl; rfl; rfl; (first | with_reducible rfl | with_reducible exact ixo _ | with_reducible exact ixoc _ _ | with_reducible exact ixom _ _ _ | with_reducible exact ixop _ _ | with_reducible exact ixod _ _ | assumption); omega))
        simp (disch := omega) only [gI_ne, s1, g12]
        rw [nI_pred, show nI (lOp L1) - 1 = nI (lOp L1 - 1) from pk_sub (b := 1) (by omega)]
        have o3 : eo (fun a j => a = 299 ∧ (j = 47 ∨ j = 12)) h3 (uI (uI h3 299 47 (nI r.length)) 299 12 (nI (lOp L1 - 1))) := eo_uI (eo_uI eo_rf ⟨rfl, Or.inl rfl⟩) ⟨rfl, Or.inr rfl⟩
        have a3 := atM_eo o3 (fun a k z => by omega) a2
        have m3 : mu9 (uI (uI h3 299 47 (nI r.length)) 299 12 (nI (lOp L1 - 1))) = mu9 h2 := by rw [mu_a a3, mu_a e7]
        refine v_bd (step9 (c0 := c0) (h := h) hL3 e0 e (by omega) e1 (eo_tr o (eo_tr (eo_mono q1 (fun a k z => by unfold sCo at z; unfold sEx; omega)) (eo_mono o3 (fun a k z => by unfold sEx; omega)))) e5 wf2 rfl a3 ⟨?_, ?_, ?_, ?_⟩ gI_eq ?_) (fun _ h4 hq => ?_)
        · rw [gI_ne (by omega), gI_eq]
          rfl
        · exact pil_eo o3 (fun k z => by omega) s2.2
        · rw [o3.2 _ _ (fun z => by omega)]
          exact s3
        · exact segM_eo o3 (fun k z => by omega) (fun k z => by omega) s4
        · show c0 + cu.length + r.length ≤ lb9 c0 + (i1 + 1)
          omega
        · exact hk h4 ⟨hq.1, by omega⟩ (by omega)
      · exact v_it (show nI (lOp L1) ≤ nI 0 from nI_le (by omega) (by omega)) (beh (fun y => absurd y z2))
    · rw [decide_eq_false z]
      exact v_it rfl (beh (fun _ => z))
  · refine v_eq (isD hL d.1) (v_it rfl ?_)
    exact behM hfu hL hk12 hT o hm2 (Or.inr d)
