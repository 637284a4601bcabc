set_option maxHeartbeats 2000000 in
theorem brM {fu c0 i m0 : Nat} {τ : Nat → Tk} {L : LZ} {h h1 : mh} {k12 : Int32 × mh → Option (Unit × mh)} (hfu : 1000 ≤ fu) (hL0 : LM h.2) (hk12 : ∀ h2, exI τ c0 L i true h h2 → mu9 h2 < m0 → ok (k12 (1, h2)) (fun _ h2 => exQ τ c0 L i h h2)) (hT : okT τ) (hI : exI τ c0 L i true h h1) (hm : mu9 h1 ≤ m0) : ok (itr (bX10_expression_23 fu k12 299 0 1) fu h1) (fun _ h2 => exQ τ c0 L i h h2) := by
  have mb : mu9 h1 < fu := by
    unfold mu9
    split <;> omega
  refine itr_ms (I := fun h2 => exI τ c0 L i true h h2 ∧ mu9 h2 ≤ m0) (P := fun R => ok R _) mu9 ?_ fu _ mb ⟨hI, hm⟩
  intro h2 k hI2 hk
  obtain ⟨⟨o, hq⟩, hm2⟩ := hI2
  have hL : LM h2.2 := by rw [o.1]; exact hL0
  unfold bX10_expression_23
  repeat (first | with_reducible apply v_lt | ((with_reducible apply w_MR); exact hL; rfl) | ((with_reducible apply w_lv); exact hL; assumption) | ((with_reducible apply vMI); exact hL) | ((with_reducible apply vMS); exact hL) | ((with_reducible apply vMC); exact hL) | ((with_reducible apply vMZ); exact hL; (first | exact Or.inl rfl | exact Or.inr rfl | exact b2i_01 _ | assumption)) | ((first | with_reducible apply w_MA | with_reducible apply w_MW | with_reducible apply w_MY | with_reducible apply w_MB | with_reducible apply w_MJ | with_reducible apply w_MK); exact hL; rfl; rfl; rfl; (first | with_reducible rfl | with_reducible exact ixo _ | with_reducible exact ixoc _ _ | with_reducible exact ixom _ _ _ | with_reducible exact ixop _ _ | with_reducible exact ixod _ _ | assumption); omega))
  rcases hq with q | d
  · have qa := q
    obtain ⟨L1, i1, e0, e1, e2, e3, e5, e6, e7, e8, e9, e10⟩ := q
    have kd := (hT i1).1
    have hi1 := e7.2.2.1
    have pl := pd_le e6
    have w4 := e6.2.2.2.1
    refine v_eq (isM (x := 40) hL ⟨by omega, Or.inr rfl⟩ kd e7) ?_
    by_cases z : tkK (τ i1) = 40
    · rw [decide_eq_true z]
      refine v_ie (by decide) ?_
      repeat (first | with_reducible apply v_lt | ((with_reducible apply w_MR); exact hL; rfl) | ((with_reducible apply w_lv); exact hL; assumption) | ((with_reducible apply vMI); exact hL) | ((with_reducible apply vMS); exact hL) | ((with_reducible apply vMC); exact hL) | ((with_reducible apply vMZ); exact hL; (first | exact Or.inl rfl | exact Or.inr rfl | exact b2i_01 _ | assumption)) | ((first | with_reducible apply w_MA | with_reducible apply w_MW | with_reducible apply w_MY | with_reducible apply w_MB | with_reducible apply w_MJ | with_reducible apply w_MK); exact hL; rfl; rfl; rfl; (first | with_reducible rfl | with_reducible exact ixo _ | with_reducible exact ixoc _ _ | with_reducible exact ixom _ _ _ | with_reducible exact ixop _ _ | with_reducible exact ixod _ _ | assumption); omega))
      rw [e9]
      have e : lst L1 (τ i1) = (if lOp L1 + 1 ≤ 6 then 0 else 2, false, (true, false, lPt L1, lIf L1, lOp L1 + 1, 40 :: lPd L1, lQu L1, lPa L1, lTs L1)) := by
        unfold lst
        dsimp only
        rw [if_pos e2, if_neg e3, if_pos z]
      by_cases z6 : lOp L1 = 6
      · rw [if_neg (by omega)] at e
        refine v_it (by rw [z6]; rfl) ?_
        repeat (first | with_reducible apply v_lt | ((with_reducible apply w_MR); exact hL; rfl) | ((with_reducible apply w_lv); exact hL; assumption) | ((with_reducible apply vMI); exact hL) | ((with_reducible apply vMS); exact hL) | ((with_reducible apply vMC); exact hL) | ((with_reducible apply vMZ); exact hL; (first | exact Or.inl rfl | exact Or.inr rfl | exact b2i_01 _ | assumption)) | ((first | with_reducible apply w_MA | with_reducible apply w_MW | with_reducible apply w_MY | with_reducible apply w_MB | with_reducible apply w_MJ | with_reducible apply w_MK); exact hL; rfl; rfl; rfl; (first | with_reducible rfl | with_reducible exact ixo _ | with_reducible exact ixoc _ _ | with_reducible exact ixom _ _ _ | with_reducible exact ixop _ _ | with_reducible exact ixod _ _ | assumption); omega))
        refine v_bd (stop9 (c := 2) hL e0 e (by omega) o e6 e7 e8 e10) (fun _ h3 hq => ?_)
        obtain ⟨q0, q1, q2, q3⟩ := hq
        have hL3 : LM h3.2 := by rw [q1.1]; exact hL0
        unfold fX10_expression_46
        repeat (first | with_reducible apply v_lt | ((with_reducible apply w_MR); exact hL3; rfl) | ((with_reducible apply w_lv); exact hL3; assumption) | ((with_reducible apply vMI); exact hL3) | ((with_reducible apply vMS); exact hL3) | ((with_reducible apply vMC); exact hL3) | ((with_reducible apply vMZ); exact hL3; (first | exact Or.inl rfl | exact Or.inr rfl | exact b2i_01 _ | assumption)) | ((first | with_reducible apply w_MA | with_reducible apply w_MW | with_reducible apply w_MY | with_reducible apply w_MB | with_reducible apply w_MJ | with_reducible apply w_MK); exact hL3; rfl; rfl; rfl; (first | with_reducible rfl | with_reducible exact ixo _ | with_reducible exact ixoc _ _ | with_reducible exact ixom _ _ _ | with_reducible exact ixop _ _ | with_reducible exact ixod _ _ | assumption); omega))
        have o4 : eo (fun a j => a = 299 ∧ j = 12) h3 (uI h3 299 12 (gI h3 299 12 + 1)) := eo_uI eo_rf ⟨rfl, rfl⟩
        have d4 := ddM_eo o4 (fun a k z => by omega) q2
        have s4 := scM_eo o4 (fun a k z => by omega) q3
        refine v_bd (goD hL3 d4) (fun _ h5 hq => ?_)
        obtain ⟨o5, d5⟩ := hq
        have s5 := scM_eo o5 (fun a k z => by unfold sGo at z; omega) s4
        have oo : eo (sEx c0) h h5 := eo_tr q1 (eo_tr (eo_mono o4 (fun a k z => by unfold sEx; omega)) (eo_mono o5 (fun a k z => by unfold sGo at z; unfold sEx; omega)))
        have hL5 : LM h5.2 := by rw [oo.1]; exact hL0
        repeat (first | with_reducible apply v_lt | ((with_reducible apply w_MR); exact hL5; rfl) | ((with_reducible apply w_lv); exact hL5; assumption) | ((with_reducible apply vMI); exact hL5) | ((with_reducible apply vMS); exact hL5) | ((with_reducible apply vMC); exact hL5) | ((with_reducible apply vMZ); exact hL5; (first | exact Or.inl rfl | exact Or.inr rfl | exact b2i_01 _ | assumption)) | ((first | with_reducible apply w_MA | with_reducible apply w_MW | with_reducible apply w_MY | with_reducible apply w_MB | with_reducible apply w_MJ | with_reducible apply w_MK); exact hL5; rfl; rfl; rfl; (first | with_reducible rfl | with_reducible exact ixo _ | with_reducible exact ixoc _ _ | with_reducible exact ixom _ _ _ | with_reducible exact ixop _ _ | with_reducible exact ixod _ _ | assumption); omega))
        rw [s5.1]
        repeat (first | with_reducible apply v_lt | ((with_reducible apply w_MR); exact hL5; rfl) | ((with_reducible apply w_lv); exact hL5; assumption) | ((with_reducible apply vMI); exact hL5) | ((with_reducible apply vMS); exact hL5) | ((with_reducible apply vMC); exact hL5) | ((with_reducible apply vMZ); exact hL5; (first | exact Or.inl rfl | exact Or.inr rfl | exact b2i_01 _ | assumption)) | ((first | with_reducible apply w_MA | with_reducible apply w_MW | with_reducible apply w_MY | with_reducible apply w_MB | with_reducible apply w_MJ | with_reducible apply w_MK); exact hL5; rfl; rfl; rfl; (first | with_reducible rfl | with_reducible exact ixo _ | with_reducible exact ixoc _ _ | with_reducible exact ixom _ _ _ | with_reducible exact ixop _ _ | with_reducible exact ixod _ _ | assumption); omega))
        simp (disch := omega) only [gI_ne, s5.1]
        rw [nI_1]
        have o6 : eo (fun a j => a = 330 ∨ (a = 299 ∧ j = 47)) h5 (uI (uI h5 330 (lPd L1).length 6) 299 47 (nI ((lPd L1).length + 1))) := eo_uI (eo_uI eo_rf (Or.inl rfl)) (Or.inr ⟨rfl, rfl⟩)
        have d6 := ddM_eo o6 (fun a k z => by omega) d5
        refine hk _ ⟨⟨eo_tr oo (eo_mono o6 (fun a k z => by unfold sEx; omega)), Or.inr ⟨d6, lQu L1, 40 :: lPd L1, ⟨Or.inl rfl, e6.1⟩, by show (lPd L1).length + 1 ≤ 30; omega, by show c0 + (lQu L1).length + ((lPd L1).length + 1) ≤ lb9 c0 + 410; omega, push9 (k := 40) s5 rfl⟩⟩, ?_⟩ ?_
        · rw [mu_d d6]
          exact Nat.zero_le _
        · rw [mu_d d6, mu_a e7]
          omega
      · rw [if_pos (by omega)] at e
        obtain ⟨wf2, -, -⟩ := lst_wf e6 (hT i1).2 e
        have wf2 := wf2 rfl
        refine v_ie (fun y => z6 ((nI_eq (a := lOp L1) (b := 6) (by omega) (by omega)).mp y)) ?_
        unfold fX10_expression_46
        repeat (first | with_reducible apply v_lt | ((with_reducible apply w_MR); exact hL; rfl) | ((with_reducible apply w_lv); exact hL; assumption) | ((with_reducible apply vMI); exact hL) | ((with_reducible apply vMS); exact hL) | ((with_reducible apply vMC); exact hL) | ((with_reducible apply vMZ); exact hL; (first | exact Or.inl rfl | exact Or.inr rfl | exact b2i_01 _ | assumption)) | ((first | with_reducible apply w_MA | with_reducible apply w_MW | with_reducible apply w_MY | with_reducible apply w_MB | with_reducible apply w_MJ | with_reducible apply w_MK); exact hL; rfl; rfl; rfl; (first | with_reducible rfl | with_reducible exact ixo _ | with_reducible exact ixoc _ _ | with_reducible exact ixom _ _ _ | with_reducible exact ixop _ _ | with_reducible exact ixod _ _ | assumption); omega))
        rw [e9, nI_1]
        have o4 : eo (fun a j => a = 299 ∧ j = 12) h2 (uI h2 299 12 (nI (lOp L1 + 1))) := eo_uI eo_rf ⟨rfl, rfl⟩
        have a4 := atM_eo o4 (fun a k z => by omega) e7
        have s4 := scM_eo o4 (fun a k z => by omega) e8
        refine v_bd (goM hL (by omega) a4) (fun _ h5 hq => ?_)
        obtain ⟨o5, d5, a5⟩ := hq
        have s5 := scM_eo o5 (fun a k z => by unfold sGo at z; omega) s4
        have oo : eo (sEx c0) h h5 := eo_tr o (eo_tr (eo_mono o4 (fun a k z => by unfold sEx; omega)) (eo_mono o5 (fun a k z => by unfold sGo at z; unfold sEx; omega)))
        have hL5 : LM h5.2 := by rw [oo.1]; exact hL0
        have g12 : gI h5 299 12 = nI (lOp L1 + 1) := by rw [o5.2 _ _ (fun z => by unfold sGo at z; omega), gI_eq]
        repeat (first | with_reducible apply v_lt | ((with_reducible apply w_MR); exact hL5; rfl) | ((with_reducible apply w_lv); exact hL5; assumption) | ((with_reducible apply vMI); exact hL5) | ((with_reducible apply vMS); exact hL5) | ((with_reducible apply vMC); exact hL5) | ((with_reducible apply vMZ); exact hL5; (first | exact Or.inl rfl | exact Or.inr rfl | exact b2i_01 _ | assumption)) | ((first | with_reducible apply w_MA | with_reducible apply w_MW | with_reducible apply w_MY | with_reducible apply w_MB | with_reducible apply w_MJ | with_reducible apply w_MK); exact hL5; rfl; rfl; rfl; (first | with_reducible rfl | with_reducible exact ixo _ | with_reducible exact ixoc _ _ | with_reducible exact ixom _ _ _ | with_reducible exact ixop _ _ | with_reducible exact ixod _ _ | assumption); omega))
        rw [s5.1]
        repeat (first | with_reducible apply v_lt | ((with_reducible apply w_MR); exact hL5; rfl) | ((with_reducible apply w_lv); exact hL5; assumption) | ((with_reducible apply vMI); exact hL5) | ((with_reducible apply vMS); exact hL5) | ((with_reducible apply vMC); exact hL5) | ((with_reducible apply vMZ); exact hL5; (first | exact Or.inl rfl | exact Or.inr rfl | exact b2i_01 _ | assumption)) | ((first | with_reducible apply w_MA | with_reducible apply w_MW | with_reducible apply w_MY | with_reducible apply w_MB | with_reducible apply w_MJ | with_reducible apply w_MK); exact hL5; rfl; rfl; rfl; (first | with_reducible rfl | with_reducible exact ixo _ | with_reducible exact ixoc _ _ | with_reducible exact ixom _ _ _ | with_reducible exact ixop _ _ | with_reducible exact ixod _ _ | assumption); omega))
        simp (disch := omega) only [gI_ne, s5.1]
        rw [nI_1]
        have o6 : eo (fun a j => a = 330 ∨ (a = 299 ∧ j = 47)) h5 (uI (uI h5 330 (lPd L1).length 6) 299 47 (nI ((lPd L1).length + 1))) := eo_uI (eo_uI eo_rf (Or.inl rfl)) (Or.inr ⟨rfl, rfl⟩)
        have o7 := eo_tr oo (eo_mono o6 (fun a k z => by unfold sEx; omega))
        by_cases zi : i1 = 400
        · have d6 := ddM_eo o6 (fun a k z => by omega) (d5 zi)
          refine hk _ ⟨⟨o7, Or.inr ⟨?_, lQu L1, 40 :: lPd L1, ⟨Or.inl rfl, e6.1⟩, by show (lPd L1).length + 1 ≤ 30; omega, by show c0 + (lQu L1).length + ((lPd L1).length + 1) ≤ lb9 c0 + 410; omega, push9 (k := 40) s5 rfl⟩⟩, ?_⟩ ?_
          · rw [e0, fate_r zi e]
            exact d6
          · rw [mu_d d6]
            exact Nat.zero_le _
          · rw [mu_d d6, mu_a e7]
            omega
        · have a6 := atM_eo o6 (fun a k z => by omega) (a5 zi)
          refine hk _ ⟨⟨o7, Or.inl ⟨(true, false, lPt L1, lIf L1, lOp L1 + 1, 40 :: lPd L1, lQu L1, lPa L1, lTs L1), i1 + 1, by rw [e0, fate_s (by omega) e], by omega, rfl, (fun y => by cases y.1), e5, wf2, a6, push9 (k := 40) s5 rfl, ?_, ?_⟩⟩, ?_⟩ ?_
          · rw [o6.2 _ _ (fun z => by omega)]
            exact g12
          · show c0 + (lQu L1).length + ((lPd L1).length + 1) ≤ lb9 c0 + (i1 + 1)
            omega
          · rw [mu_a a6]
            rw [mu_a e7] at hm2
            omega
          · rw [mu_a a6, mu_a e7]
            omega
    · rw [decide_eq_false z]
      refine v_it rfl (u84 hfu hL0 hk12 hT o hm2 (Or.inl ⟨qa, fun j hj => ?_⟩))
      have : j = i1 := by
        have y := hj.1.symm.trans e7.1
        have := hj.2.2.1
        exact (nI_eq (by omega) (by omega)).mp y
      rw [this]
      exact z
  · refine v_eq (isD hL d.1) (v_it rfl ?_)
    exact u84 hfu hL0 hk12 hT o hm2 (Or.inr d)
/-- all of an expression -/
theorem exprM {fu c0 i : Nat} {τ : Nat → Tk} {L : LZ} {h : mh} (hfu : 1000 ≤ fu) (hL : LM h.2) (hT : okT τ) (a : atM τ i h) (g12 : gI h 299 12 = 0) (g43 : gI h 299 43 = nI c0) (w : wfL L) (l1 : lWu L = true) (l2 : lQu L = []) (l3 : lPd L = []) (l4 : lOp L = 0) (l5 : ¬ (lMi L = true ∧ tkK (τ i) = 10)) (hc : c0 ≤ lb9 c0 + i) : ok (fX10_expression fu 299 h) (fun _ h' => exQ τ c0 L i h h') := by
  have hi := a.2.2.1
  unfold fX10_expression
  repeat (first | with_reducible apply v_lt | ((with_reducible apply w_MR); exact hL; rfl) | ((with_reducible apply w_lv); exact hL; assumption) | ((with_reducible apply vMI); exact hL) | ((with_reducible apply vMS); exact hL) | ((with_reducible apply vMC); exact hL) | ((with_reducible apply vMZ); exact hL; (first | exact Or.inl rfl | exact Or.inr rfl | exact b2i_01 _ | assumption)) | ((first | with_reducible apply w_MA | with_reducible apply w_MW | with_reducible apply w_MY | with_reducible apply w_MB | with_reducible apply w_MJ | with_reducible apply w_MK); exact hL; rfl; rfl; rfl; (first | with_reducible rfl | with_reducible exact ixo _ | with_reducible exact ixoc _ _ | with_reducible exact ixom _ _ _ | with_reducible exact ixop _ _ | with_reducible exact ixod _ _ | assumption); omega))
  rw [gI_ne (by omega), g12]
  have o1 : eo (sEx c0) h (uI h 299 47 0) := eo_uI eo_rf (Or.inl ⟨rfl, by omega⟩)
  have a1 : atM τ i (uI h 299 47 0) := atM_eo (eo_uI (S := fun a k => a = 299 ∧ k = 47) eo_rf ⟨rfl, rfl⟩) (fun a k z => by omega) a
  have I1 : exI τ c0 L i true h (uI h 299 47 0) := by
    refine ⟨o1, Or.inl ⟨L, i, rfl, Nat.le_refl _, l1, l5, ⟨rfl, rfl, rfl, rfl⟩, w, a1, ?_, ?_, ?_⟩⟩
    · rw [l2, l3]
      exact ⟨gI_eq, trivial, by rw [gI_ne (by omega)]; exact g43, fun i k v hx => (by cases hx)⟩
    · rw [l4, gI_ne (by omega), g12]
      rfl
    · rw [l2, l3]
      exact hc
  have mb : mu9 (uI h 299 47 0) < fu := by
    rw [mu_a a1]
    omega
  refine itr_ms (I := fun s => s.1 = 1 ∧ exI τ c0 L i true h s.2) (P := fun R => ok R _) (fun s => mu9 s.2) ?_ fu _ mb ⟨rfl, I1⟩
  intro s k hI hk
  obtain ⟨v, h2⟩ := s
  obtain ⟨e1, o2, hq⟩ := hI
  dsimp only at e1 o2 hq hk
  subst e1
  have hL2 : LM h2.2 := by rw [o2.1]; exact hL
  unfold bX10_expression_12
  dsimp only
  refine v_ie (by decide) ?_
  repeat (first | with_reducible apply v_lt | ((with_reducible apply w_MR); exact hL2; rfl) | ((with_reducible apply w_lv); exact hL2; assumption) | ((with_reducible apply vMI); exact hL2) | ((with_reducible apply vMS); exact hL2) | ((with_reducible apply vMC); exact hL2) | ((with_reducible apply vMZ); exact hL2; (first | exact Or.inl rfl | exact Or.inr rfl | exact b2i_01 _ | assumption)) | ((first | with_reducible apply w_MA | with_reducible apply w_MW | with_reducible apply w_MY | with_reducible apply w_MB | with_reducible apply w_MJ | with_reducible apply w_MK); exact hL2; rfl; rfl; rfl; (first | with_reducible rfl | with_reducible exact ixo _ | with_reducible exact ixoc _ _ | with_reducible exact ixom _ _ _ | with_reducible exact ixop _ _ | with_reducible exact ixod _ _ | assumption); omega))
  rcases hq with q | d
  · have f0 : gI h2 299 13 = 0 := by
      obtain ⟨_, _, _, _, _, _, _, _, p7, _⟩ := id q
      exact p7.2.1
    rw [f0]
    refine v_it rfl ?_
    exact brM (m0 := mu9 h2) hfu hL (fun h3 q3 m3 => hk (1, h3) ⟨rfl, q3⟩ m3) hT ⟨o2, Or.inl q⟩ (Nat.le_refl _)
  · exact v_ie (x13 d.1).2 (v_rV ⟨o2, Or.inr d.1⟩)
theorem exprD {fu c p : Nat} {h : mh} (hfu : 1000 ≤ fu) (hL : LM h.2) (q : ddM c p h) : ok (fX10_expression fu 299 h) (fun _ h' => eo (fun a k => a = 299 ∧ k = 47) h h' ∧ ddM c p h') := by
  unfold fX10_expression
  repeat (first | with_reducible apply v_lt | ((with_reducible apply w_MR); exact hL; rfl) | ((with_reducible apply w_lv); exact hL; assumption) | ((with_reducible apply vMI); exact hL) | ((with_reducible apply vMS); exact hL) | ((with_reducible apply vMC); exact hL) | ((with_reducible apply vMZ); exact hL; (first | exact Or.inl rfl | exact Or.inr rfl | exact b2i_01 _ | assumption)) | ((first | with_reducible apply w_MA | with_reducible apply w_MW | with_reducible apply w_MY | with_reducible apply w_MB | with_reducible apply w_MJ | with_reducible apply w_MK); exact hL; rfl; rfl; rfl; (first | with_reducible rfl | with_reducible exact ixo _ | with_reducible exact ixoc _ _ | with_reducible exact ixom _ _ _ | with_reducible exact ixop _ _ | with_reducible exact ixod _ _ | assumption); omega))
  have o1 : eo (fun a k => a = 299 ∧ k = 47) h (uI h 299 47 0) := eo_uI eo_rf ⟨rfl, rfl⟩
  have d1 := ddM_eo o1 (fun a k z => by omega) q
  obtain ⟨f, hf⟩ : ∃ f, fu = f + 1 := ⟨fu - 1, by omega⟩
  obtain ⟨v, hv⟩ : ∃ v, v = gI (uI h 299 47 0) 299 12 := ⟨_, rfl⟩
  rw [← hv]
  have st : ∀ k, ok (bX10_expression_12 fu 299 v k (1, uI h 299 47 0)) (fun _ h' => eo (fun a k => a = 299 ∧ k = 47) h h' ∧ ddM c p h') := by
    intro k
    unfold bX10_expression_12
    dsimp only
    refine v_ie (by decide) ?_
    repeat (first | with_reducible apply v_lt | ((with_reducible apply w_MR); exact hL; rfl) | ((with_reducible apply w_lv); exact hL; assumption) | ((with_reducible apply vMI); exact hL) | ((with_reducible apply vMS); exact hL) | ((with_reducible apply vMC); exact hL) | ((with_reducible apply vMZ); exact hL; (first | exact Or.inl rfl | exact Or.inr rfl | exact b2i_01 _ | assumption)) | ((first | with_reducible apply w_MA | with_reducible apply w_MW | with_reducible apply w_MY | with_reducible apply w_MB | with_reducible apply w_MJ | with_reducible apply w_MK); exact hL; rfl; rfl; rfl; (first | with_reducible rfl | with_reducible exact ixo _ | with_reducible exact ixoc _ _ | with_reducible exact ixom _ _ _ | with_reducible exact ixop _ _ | with_reducible exact ixod _ _ | assumption); omega))
    exact v_ie (x13 d1).2 (v_rV ⟨o1, d1⟩)
  rw [show itr (bX10_expression_12 fu 299 v) fu (1, uI h 299 47 0) = itr (bX10_expression_12 fu 299 v) (f + 1) (1, uI h 299 47 0) from by rw [hf], itr_s]
  exact st _
