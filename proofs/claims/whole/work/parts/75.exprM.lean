/-! THE REFERENCE'S expression -/
def sEx (c0 a k : Nat) : Prop := (a = 299 ∧ (k = 11 ∨ k = 12 ∨ k = 13 ∨ k = 14 ∨ k = 43 ∨ k = 47)) ∨ ((a = 328 ∨ a = 329) ∧ c0 ≤ k ∧ k < lb9 c0 + 420) ∨ a = 330
def ctx (L L1 : LZ) : Prop := lPt L1 = lPt L ∧ lIf L1 = lIf L ∧ lPa L1 = lPa L ∧ lTs L1 = lTs L
/-- tokens as the lexer gives them -/
def okT (τ : Nat → Tk) : Prop := ∀ i, tkK (τ i) < 100 ∧ (tkK (τ i) = 23 → tkV (τ i) < 10000)
def alv (τ : Nat → Tk) (c0 : Nat) (L : LZ) (i : Nat) (wu : Bool) (h1 : mh) : Prop := ∃ L1 i1, fate τ L i = fate τ L1 i1 ∧ i ≤ i1 ∧ lWu L1 = wu ∧ ¬ (lMi L1 = true ∧ tkK (τ i1) = 10) ∧ ctx L L1 ∧ wfL L1 ∧ atM τ i1 h1 ∧ scM c0 (lQu L1) (lPd L1) h1 ∧ gI h1 299 12 = nI (lOp L1) ∧ c0 + (lQu L1).length + (lPd L1).length ≤ lb9 c0 + i1
def ded (τ : Nat → Tk) (c0 : Nat) (L : LZ) (i : Nat) (h1 : mh) : Prop := ddM (fate τ L i).1 (fate τ L i).2.1 h1 ∧ ∃ cu pd, okp pd ∧ pd.length ≤ 30 ∧ c0 + cu.length + pd.length ≤ lb9 c0 + 410 ∧ scM c0 cu pd h1
def fin9 (τ : Nat → Tk) (c0 : Nat) (L : LZ) (i : Nat) (h1 : mh) : Prop := ∃ L1 i1, fate τ L i = fate τ L1 i1 ∧ i ≤ i1 ∧ lWu L1 = false ∧ lOp L1 = 0 ∧ tt9 (tkK (τ i1)) = 0 ∧ ctx L L1 ∧ wfL L1 ∧ atM τ i1 h1 ∧ scM c0 (out9 1 (lQu L1) (lPd L1)).1 [] h1 ∧ gI h1 299 12 = 0 ∧ c0 + (out9 1 (lQu L1) (lPd L1)).1.length ≤ lb9 c0 + i1
def exQ (τ : Nat → Tk) (c0 : Nat) (L : LZ) (i : Nat) (h h1 : mh) : Prop := eo (sEx c0) h h1 ∧ (fin9 τ c0 L i h1 ∨ ddM (fate τ L i).1 (fate τ L i).2.1 h1)
def exI (τ : Nat → Tk) (c0 : Nat) (L : LZ) (i : Nat) (wu : Bool) (h h1 : mh) : Prop := eo (sEx c0) h h1 ∧ (alv τ c0 L i wu h1 ∨ ded τ c0 L i h1)
/-- how much is left -/
def mu9 (h1 : mh) : Nat := if gI h1 299 13 = 0 then 402 - (gI h1 299 11).toNatClampNeg else 0
theorem mu_a {τ : Nat → Tk} {i : Nat} {h : mh} (q : atM τ i h) : mu9 h = 402 - i := by
  unfold mu9
  have := q.2.2.1
  rw [q.2.1, if_pos rfl, q.1, nI_clamp (by omega)]
theorem mu_d {c p : Nat} {h : mh} (q : ddM c p h) : mu9 h = 0 := by
  unfold mu9
  have := q.1
  rw [q.2.1, if_neg (fun z => by have := (nI_z (n := c) (by omega)).mp z; omega)]
theorem pd_le {L : LZ} (h : wfL L) : (lPd L).length ≤ 20 := by
  obtain ⟨w1, w2, w3, w4, -⟩ := h
  have o1 := ops_le w1
  have o2 := top_le w1
  have o3 := len_pd (lPd L)
  omega
theorem x13 {c p : Nat} {h : mh} (q : ddM c p h) : ¬ gI h 299 13 ≤ 0 ∧ ¬ gI h 299 13 = 0 := by
  have := q.1
  rw [q.2.1]
  exact ⟨show ¬ nI c ≤ nI 0 from nI_ge (by omega) (by omega), fun z => by have := (nI_z (n := c) (by omega)).mp z; omega⟩
/-- goesOn behind a token that the machine takes -/
theorem step9 {fu c0 i i1 : Nat} {τ : Nat → Tk} {L L1 L2 : LZ} {h h1 : mh} (hL : LM h1.2) (e0 : fate τ L i = fate τ L1 i1) (e : lst L1 (τ i1) = (0, false, L2)) (hn : tkK (τ i1) ≠ 98) (hi : i ≤ i1) (o : eo (sEx c0) h h1) (cx : ctx L L2) (w : wfL L2) (hm : lMi L2 = false) (a : atM τ i1 h1) (s : scM c0 (lQu L2) (lPd L2) h1) (op : gI h1 299 12 = nI (lOp L2)) (b : c0 + (lQu L2).length + (lPd L2).length ≤ lb9 c0 + (i1 + 1)) : ok (fX10_goesOn fu 299 h1) (fun _ h2 => exI τ c0 L i (lWu L2) h h2 ∧ mu9 h2 < mu9 h1) := by
  refine ok_mono (goM hL hn a) (fun _ h2 q => ?_)
  obtain ⟨q1, q2, q3⟩ := q
  have hi1 := a.2.2.1
  have s2 := scM_eo q1 (fun a k z => by unfold sGo at z; omega) s
  have o2 : eo (sEx c0) h h2 := eo_tr o (eo_mono q1 (fun a k z => by unfold sGo at z; unfold sEx; omega))
  have op2 : gI h2 299 12 = nI (lOp L2) := by rw [q1.2 _ _ (fun z => by unfold sGo at z; omega)]; exact op
  rw [mu_a a]
  by_cases z : i1 = 400
  · have d := q2 z
    rw [mu_d d]
    refine ⟨⟨o2, Or.inr ⟨?_, lQu L2, lPd L2, w.1, by have := pd_le w; omega, by have := pd_le w; omega, s2⟩⟩, by omega⟩
    rw [e0, fate_r z e]
    exact d
  · have d := q3 z
    rw [mu_a d]
    refine ⟨⟨o2, Or.inl ⟨L2, i1 + 1, ?_, by omega, rfl, (fun y => by rw [hm] at y; cases y.1), cx, w, d, s2, op2, b⟩⟩, by omega⟩
    rw [e0, fate_s (by omega) e]
/-- fail at a token that the machine refuses -/
theorem stop9 {fu c0 i i1 c : Nat} {τ : Nat → Tk} {L L1 L2 : LZ} {ov : Bool} {h h1 : mh} (hL : LM h1.2) (e0 : fate τ L i = fate τ L1 i1) (e : lst L1 (τ i1) = (c, ov, L2)) (hc : 1 ≤ c ∧ c ≤ 5) (o : eo (sEx c0) h h1) (w : wfL L1) (a : atM τ i1 h1) (s : scM c0 (lQu L1) (lPd L1) h1) (b : c0 + (lQu L1).length + (lPd L1).length ≤ lb9 c0 + i1) : ok (fX10_fail fu 299 (nI c) h1) (fun _ h2 => eo sFl h1 h2 ∧ eo (sEx c0) h h2 ∧ ddM (fate τ L i).1 (fate τ L i).2.1 h2 ∧ scM c0 (lQu L1) (lPd L1) h2) := by
  have hi1 := a.2.2.1
  refine ok_mono (failM hL hc a) (fun _ h2 q => ?_)
  obtain ⟨q1, q2⟩ := q
  refine ⟨q1, eo_tr o (eo_mono q1 (fun a k z => by unfold sFl at z; unfold sEx; omega)), ?_, scM_eo q1 (fun a k z => by unfold sFl at z; omega) s⟩
  rw [e0, fate_x hi1 e (by omega)]
  exact q2
/-- the end of an expression -/
theorem endM {fu c0 i : Nat} {τ : Nat → Tk} {L : LZ} {v1 v2 : Int32} {h h1 : mh} (hfu : 1000 ≤ fu) (hL : LM h1.2) (hv : v1 = 0) (q : eo (sEx c0) h h1) (hq : (∃ L1 i1, fate τ L i = fate τ L1 i1 ∧ i ≤ i1 ∧ lWu L1 = false ∧ tt9 (tkK (τ i1)) = 0 ∧ (0 < lOp L1 → tkK (τ i1) ≠ 41) ∧ ctx L L1 ∧ wfL L1 ∧ atM τ i1 h1 ∧ scM c0 (lQu L1) (lPd L1) h1 ∧ gI h1 299 12 = nI (lOp L1) ∧ c0 + (lQu L1).length + (lPd L1).length ≤ lb9 c0 + i1) ∨ (ded τ c0 L i h1)) : ok (fX10_expression_191 fu 299 v1 v2 h1) (fun _ h2 => exQ τ c0 L i h h2) := by
  have dead : ∀ h2, LM h2.2 → eo (sEx c0) h h2 → ded τ c0 L i h2 → ok (fX10_expression_204 fu 299 v1 v2 h2) (fun _ h3 => exQ τ c0 L i h h3) := by
    intro h2 hL2 o2 d
    obtain ⟨d1, cu, pd, d2, d3, d4, d5⟩ := d
    unfold fX10_expression_204
    repeat (first | with_reducible apply v_lt | ((with_reducible apply w_MR); exact hL2; rfl) | ((with_reducible apply w_lv); exact hL2; assumption) | ((with_reducible apply vMI); exact hL2) | ((with_reducible apply vMS); exact hL2) | ((with_reducible apply vMC); exact hL2) | ((with_reducible apply vMZ); exact hL2; (first | exact Or.inl rfl | exact Or.inr rfl | exact b2i_01 _ | assumption)) | ((first | with_reducible apply w_MA | with_reducible apply w_MW | with_reducible apply w_MY | with_reducible apply w_MB | with_reducible apply w_MJ | with_reducible apply w_MK); exact hL2; rfl; rfl; rfl; (first | with_reducible rfl | with_reducible exact ixo _ | with_reducible exact ixoc _ _ | with_reducible exact ixom _ _ _ | with_reducible exact ixop _ _ | with_reducible exact ixod _ _ | assumption); omega))
    refine v_bd (coM (w := 1) hfu hL2 (Or.inl ⟨rfl, rfl⟩) d2 (by omega) (by omega) d5) (fun _ h3 hq => ?_)
    refine v_rV ⟨eo_tr o2 (eo_mono hq.1 (fun a k z => by unfold sCo at z; unfold sEx; omega)), Or.inr (ddM_eo hq.1 (fun a k z => by unfold sCo at z; omega) d1)⟩
  subst hv
  unfold fX10_expression_191
  repeat (first | with_reducible apply v_lt | ((with_reducible apply w_MR); exact hL; rfl) | ((with_reducible apply w_lv); exact hL; assumption) | ((with_reducible apply vMI); exact hL) | ((with_reducible apply vMS); exact hL) | ((with_reducible apply vMC); exact hL) | ((with_reducible apply vMZ); exact hL; (first | exact Or.inl rfl | exact Or.inr rfl | exact b2i_01 _ | assumption)) | ((first | with_reducible apply w_MA | with_reducible apply w_MW | with_reducible apply w_MY | with_reducible apply w_MB | with_reducible apply w_MJ | with_reducible apply w_MK); exact hL; rfl; rfl; rfl; (first | with_reducible rfl | with_reducible exact ixo _ | with_reducible exact ixoc _ _ | with_reducible exact ixom _ _ _ | with_reducible exact ixop _ _ | with_reducible exact ixod _ _ | assumption); omega))
  rcases hq with ⟨L1, i1, e0, e1, e2, e3, e4, e5, e6, e7, e8, e9, e10⟩ | d
  · rw [e9]
    have hi1 := e7.2.2.1
    have pl := pd_le e6
    have w4 := e6.2.2.2.1
    by_cases z : 0 < lOp L1
    · refine v_ie (show ¬ nI (lOp L1) ≤ nI 0 from nI_ge z (by omega)) ?_
      repeat (first | with_reducible apply v_lt | ((with_reducible apply w_MR); exact hL; rfl) | ((with_reducible apply w_lv); exact hL; assumption) | ((with_reducible apply vMI); exact hL) | ((with_reducible apply vMS); exact hL) | ((with_reducible apply vMC); exact hL) | ((with_reducible apply vMZ); exact hL; (first | exact Or.inl rfl | exact Or.inr rfl | exact b2i_01 _ | assumption)) | ((first | with_reducible apply w_MA | with_reducible apply w_MW | with_reducible apply w_MY | with_reducible apply w_MB | with_reducible apply w_MJ | with_reducible apply w_MK); exact hL; rfl; rfl; rfl; (first | with_reducible rfl | with_reducible exact ixo _ | with_reducible exact ixoc _ _ | with_reducible exact ixom _ _ _ | with_reducible exact ixop _ _ | with_reducible exact ixod _ _ | assumption); omega))
      have e : lst L1 (τ i1) = (1, false, L1) := by
        unfold lst
        dsimp only
        rw [e2, if_neg (by decide), if_neg (by omega), if_pos z, if_neg (e4 z)]
      refine v_bd (stop9 (c := 1) hL e0 e (by omega) q e6 e7 e8 e10) (fun _ h2 hq => ?_)
      obtain ⟨q0, q1, q2, q3⟩ := hq
      have hL2 : LM h2.2 := by rw [q0.1]; exact hL
      exact dead h2 hL2 q1 ⟨q2, lQu L1, lPd L1, e6.1, by omega, by omega, q3⟩
    · refine v_it (show nI (lOp L1) ≤ nI 0 from nI_le (by omega) (by omega)) ?_
      unfold fX10_expression_204
      repeat (first | with_reducible apply v_lt | ((with_reducible apply w_MR); exact hL; rfl) | ((with_reducible apply w_lv); exact hL; assumption) | ((with_reducible apply vMI); exact hL) | ((with_reducible apply vMS); exact hL) | ((with_reducible apply vMC); exact hL) | ((with_reducible apply vMZ); exact hL; (first | exact Or.inl rfl | exact Or.inr rfl | exact b2i_01 _ | assumption)) | ((first | with_reducible apply w_MA | with_reducible apply w_MW | with_reducible apply w_MY | with_reducible apply w_MB | with_reducible apply w_MJ | with_reducible apply w_MK); exact hL; rfl; rfl; rfl; (first | with_reducible rfl | with_reducible exact ixo _ | with_reducible exact ixoc _ _ | with_reducible exact ixom _ _ _ | with_reducible exact ixop _ _ | with_reducible exact ixod _ _ | assumption); omega))
      refine v_bd (coM (w := 1) hfu hL (Or.inl ⟨rfl, rfl⟩) e6.1 (by omega) (by omega) e8) (fun _ h3 hq => ?_)
      obtain ⟨q1, q2⟩ := hq
      have w2 := e6.2.1
      rw [e2] at w2
      have w2 : Pre (lQu L1) 0 (ops (lPd L1) + 1) := w2
      have w3 := e6.2.2.1
      rw [out_0 rfl e6.1 w2 (by omega)] at q2
      obtain ⟨-, -, -, -, i5⟩ := out_ok 1 (Nat.le_refl _) e6.1 w2
      refine v_rV ⟨eo_tr q (eo_mono q1 (fun a k z => by unfold sCo at z; unfold sEx; omega)), Or.inl ⟨L1, i1, e0, e1, e2, by omega, e3, e5, e6, atM_eo q1 (fun a k z => by unfold sCo at z; omega) e7, q2, ?_, by omega⟩⟩
      rw [q1.2 _ _ (fun z => by unfold sCo at z; omega), e9, show lOp L1 = 0 from by omega]
      rfl
  · refine v_if (fun _ => dead h1 hL q d) (fun _ => ?_)
    repeat (first | with_reducible apply v_lt | ((with_reducible apply w_MR); exact hL; rfl) | ((with_reducible apply w_lv); exact hL; assumption) | ((with_reducible apply vMI); exact hL) | ((with_reducible apply vMS); exact hL) | ((with_reducible apply vMC); exact hL) | ((with_reducible apply vMZ); exact hL; (first | exact Or.inl rfl | exact Or.inr rfl | exact b2i_01 _ | assumption)) | ((first | with_reducible apply w_MA | with_reducible apply w_MW | with_reducible apply w_MY | with_reducible apply w_MB | with_reducible apply w_MJ | with_reducible apply w_MK); exact hL; rfl; rfl; rfl; (first | with_reducible rfl | with_reducible exact ixo _ | with_reducible exact ixoc _ _ | with_reducible exact ixom _ _ _ | with_reducible exact ixop _ _ | with_reducible exact ixod _ _ | assumption); omega))
    exact v_eq (failD hL d.1) (dead h1 hL q d)
theorem push9 {c0 p k : Nat} {cu : Pf} {pd : List Nat} {h : mh} (s : scM c0 cu pd h) (hp : p = pd.length) : scM c0 cu (k :: pd) (uI (uI h 330 p (soM k)) 299 47 (nI (p + 1))) := by
  subst hp
  obtain ⟨s1, s2, s3, s4⟩ := s
  have o : eo (fun a j => a = 330 ∨ (a = 299 ∧ j = 47)) h (uI (uI h 330 pd.length (soM k)) 299 47 (nI (pd.length + 1))) := eo_uI (eo_uI eo_rf (Or.inl rfl)) (Or.inr ⟨rfl, rfl⟩)
  refine ⟨gI_eq, ⟨?_, ?_⟩, ?_, segM_eo o (fun k z => by omega) (fun k z => by omega) s4⟩
  · rw [List.length_map, gI_ne (by omega), gI_eq]
  · exact pil_eo (S := fun a _ => a = 299) (eo_uI eo_rf rfl) (fun k z => by omega) (pil_up (by rw [List.length_map]; exact Nat.le_refl _) s2)
  · rw [o.2 _ _ (fun z => by omega)]
    exact s3
set_option maxHeartbeats 2000000 in
theorem opM {fu c0 i m0 w : Nat} {τ : Nat → Tk} {L L1 : LZ} {i1 : Nat} {v : Int32} {h h1 : mh} {k12 : Int32 × mh → Option (Unit × mh)} {Q : Unit → mh → Prop} (hfu : 1000 ≤ fu) (hL : LM h1.2) (hk12 : ∀ h2, exI τ c0 L i true h h2 → mu9 h2 < m0 → ok (k12 (1, h2)) Q) (hT : okT τ) (o : eo (sEx c0) h h1) (hm : mu9 h1 < m0) (hw : (w = 1 ∧ v = 0) ∨ (w = 2 ∧ v = 1)) (ht : tt9 (tkK (τ i1)) = w)
    (e0 : fate τ L i = fate τ L1 i1) (e1 : i ≤ i1) (e2 : lWu L1 = false) (e5 : ctx L L1) (e6 : wfL L1) (e7 : atM τ i1 h1) (e8 : scM c0 (lQu L1) (lPd L1) h1) (e9 : gI h1 299 12 = nI (lOp L1)) (e10 : c0 + (lQu L1).length + (lPd L1).length ≤ lb9 c0 + i1) : ok (fX10_expression_234 fu k12 299 0 1 299 v h1) Q := by
  have hi1 := e7.2.2.1
  have pl := pd_le e6
  have c1 : 0 < tt9 (tkK (τ i1)) := by omega
  have ho := tt_is c1
  have e : lst L1 (τ i1) = (0, false, (true, false, lPt L1, lIf L1, lOp L1, tkK (τ i1) :: (out9 w (lQu L1) (lPd L1)).2, (out9 w (lQu L1) (lPd L1)).1, lPa L1, lTs L1)) := by
    unfold lst
    dsimp only
    rw [e2, if_neg (by decide), if_pos c1, ht]
  obtain ⟨wf2, -, wl2⟩ := lst_wf e6 (hT i1).2 e
  have wf2 := wf2 rfl
  have pl2 := pd_le wf2
  have w2 := e6.2.1
  rw [e2] at w2
  have w2 : Pre (lQu L1) 0 (ops (lPd L1) + 1) := w2
  obtain ⟨-, -, -, -, i5⟩ := out_ok w (by omega) e6.1 w2
  have pl2 : (out9 w (lQu L1) (lPd L1)).2.length + 1 ≤ 20 := pl2
  unfold fX10_expression_234
  repeat (first | with_reducible apply v_lt | ((with_reducible apply w_MR); exact hL; rfl) | ((with_reducible apply w_lv); exact hL; assumption) | ((with_reducible apply vMI); exact hL) | ((with_reducible apply vMS); exact hL) | ((with_reducible apply vMC); exact hL) | ((with_reducible apply vMZ); exact hL; (first | exact Or.inl rfl | exact Or.inr rfl | exact b2i_01 _ | assumption)) | ((first | with_reducible apply w_MA | with_reducible apply w_MW | with_reducible apply w_MY | with_reducible apply w_MB | with_reducible apply w_MJ | with_reducible apply w_MK); exact hL; rfl; rfl; rfl; (first | with_reducible rfl | with_reducible exact ixo _ | with_reducible exact ixoc _ _ | with_reducible exact ixom _ _ _ | with_reducible exact ixop _ _ | with_reducible exact ixod _ _ | assumption); omega))
  refine v_bd (coM hfu hL hw e6.1 (by omega) (by omega) e8) (fun _ h2 hq => ?_)
  obtain ⟨q1, q2⟩ := hq
  have hL2 : LM h2.2 := by rw [q1.1]; exact hL
  have a2 := atM_eo q1 (fun a k z => by unfold sCo at z; omega) e7
  obtain ⟨pd, hpd⟩ : ∃ pd, pd = (out9 w (lQu L1) (lPd L1)).2 := ⟨_, rfl⟩
  obtain ⟨cu, hcu⟩ : ∃ cu, cu = (out9 w (lQu L1) (lPd L1)).1 := ⟨_, rfl⟩
  rw [← hpd, ← hcu] at q2 e i5
  rw [← hpd] at pl2
  rw [← hpd, ← hcu] at wf2
  have r1 := (a2.2.2.2.2 i1 hi1 a2.2.2.2.1).1
  repeat (first | with_reducible apply v_lt | ((with_reducible apply w_MR); exact hL2; rfl) | ((with_reducible apply w_lv); exact hL2; assumption) | ((with_reducible apply vMI); exact hL2) | ((with_reducible apply vMS); exact hL2) | ((with_reducible apply vMC); exact hL2) | ((with_reducible apply vMZ); exact hL2; (first | exact Or.inl rfl | exact Or.inr rfl | exact b2i_01 _ | assumption)) | ((first | with_reducible apply w_MA | with_reducible apply w_MW | with_reducible apply w_MY | with_reducible apply w_MB | with_reducible apply w_MJ | with_reducible apply w_MK); exact hL2; rfl; rfl; rfl; (first | with_reducible rfl | with_reducible exact ixo _ | with_reducible exact ixoc _ _ | with_reducible exact ixom _ _ _ | with_reducible exact ixop _ _ | with_reducible exact ixod _ _ | assumption); omega))
  rw [q2.1]
  repeat (first | with_reducible apply v_lt | ((with_reducible apply w_MR); exact hL2; rfl) | ((with_reducible apply w_lv); exact hL2; assumption) | ((with_reducible apply vMI); exact hL2) | ((with_reducible apply vMS); exact hL2) | ((with_reducible apply vMC); exact hL2) | ((with_reducible apply vMZ); exact hL2; (first | exact Or.inl rfl | exact Or.inr rfl | exact b2i_01 _ | assumption)) | ((first | with_reducible apply w_MA | with_reducible apply w_MW | with_reducible apply w_MY | with_reducible apply w_MB | with_reducible apply w_MJ | with_reducible apply w_MK); exact hL2; rfl; rfl; rfl; (first | with_reducible rfl | with_reducible exact ixo _ | with_reducible exact ixoc _ _ | with_reducible exact ixom _ _ _ | with_reducible exact ixop _ _ | with_reducible exact ixod _ _ | assumption); omega))
  rw [a2.1]
  repeat (first | with_reducible apply v_lt | ((with_reducible apply w_MR); exact hL2; rfl) | ((with_reducible apply w_lv); exact hL2; assumption) | ((with_reducible apply vMI); exact hL2) | ((with_reducible apply vMS); exact hL2) | ((with_reducible apply vMC); exact hL2) | ((with_reducible apply vMZ); exact hL2; (first | exact Or.inl rfl | exact Or.inr rfl | exact b2i_01 _ | assumption)) | ((first | with_reducible apply w_MA | with_reducible apply w_MW | with_reducible apply w_MY | with_reducible apply w_MB | with_reducible apply w_MJ | with_reducible apply w_MK); exact hL2; rfl; rfl; rfl; (first | with_reducible rfl | with_reducible exact ixo _ | with_reducible exact ixoc _ _ | with_reducible exact ixom _ _ _ | with_reducible exact ixop _ _ | with_reducible exact ixod _ _ | assumption); omega))
  rw [r1]
  simp (disch := omega) only [gI_ne, q2.1]
  rw [nI_1]
  have o3 : eo (fun a j => a = 330 ∨ (a = 299 ∧ j = 47)) h2 (uI (uI h2 330 pd.length (soM (tkK (τ i1)))) 299 47 (nI (pd.length + 1))) := eo_uI (eo_uI eo_rf (Or.inl rfl)) (Or.inr ⟨rfl, rfl⟩)
  have a3 := atM_eo o3 (fun a k z => by omega) a2
  have m3 : mu9 (uI (uI h2 330 pd.length (soM (tkK (τ i1)))) 299 47 (nI (pd.length + 1))) = mu9 h1 := by rw [mu_a a3, mu_a e7]
  refine v_bd (step9 (c0 := c0) (h := h) hL2 e0 e (by have := enc_op ho; unfold isOp at ho; omega) e1 (eo_tr o (eo_tr (eo_mono q1 (fun a k z => by unfold sCo at z; unfold sEx; omega)) (eo_mono o3 (fun a k z => by unfold sEx; omega)))) e5 wf2 rfl a3 (push9 q2 rfl) ?_ ?_) (fun _ h3 hq => ?_)
  · rw [o3.2 _ _ (fun z => by omega), q1.2 _ _ (fun z => by unfold sCo at z; omega)]
    exact e9
  · show c0 + cu.length + (pd.length + 1) ≤ lb9 c0 + (i1 + 1)
    omega
  · exact hk12 h3 hq.1 (by omega)
