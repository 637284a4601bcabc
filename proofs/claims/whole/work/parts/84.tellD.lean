/-! THE REFERENCE'S tellLaw: all of it -/
set_option maxHeartbeats 2000000 in
theorem a38 {fu c0 f0 i0 q i : Nat} {τ : Nat → Tk} {ts : List (Pf × Pf × Pf)} {v1 v2 : Int32} {h h1 : mh} {k12 : Int32 × mh → Option (Unit × mh)} {Q : Unit → mh → Prop} (hfu : 1000 ≤ fu) (hL0 : LM h.2) (hT : okT τ) (hf : f0 ≤ 240) (o : eo (sTl c0 f0 q) h h1) (a : lwA τ c0 f0 i0 ts i h1) (hn : tkK (τ i) = 10) (hts4 : ts.length < 4)
    (hk : ∀ ts2 i2 h2, i < i2 → ts2.length = ts.length + 1 → eo (sTl c0 f0 q) h h2 → lwA τ c0 f0 i0 ts2 i2 h2 → ok (k12 (nI (ts.length + 1), h2)) Q) (hd : ∀ h2, dTl c0 f0 q (f0 + 6) (fate τ LZ0 i0).1 (fate τ LZ0 i0).2.1 h h2 → ok (k12 (nI (ts.length + 1), h2)) Q) : ok (fX10_tellLaw_38 fu k12 299 v1 v2 (nI ts.length) h1) Q := by
  obtain ⟨a1, a2, a3, a4, a5, a6, a7, a8⟩ := a
  have hL : LM h1.2 := by rw [o.1]; exact hL0
  have hi := a2.2.2.1
  obtain ⟨b, hb⟩ : ∃ b, b = f0 + ts.length := ⟨_, rfl⟩
  obtain ⟨c1, hc1⟩ : ∃ c1, c1 = c0 + ln3 ts := ⟨_, rfl⟩
  rw [← hb] at a5
  rw [← hc1] at a4 a8
  have hlb1 : lb9 c1 = lb9 c0 := lb9_eq (by omega) (by omega)
  obtain ⟨L1, hL1⟩ : ∃ L1 : LZ, L1 = (true, false, 0, ts.length + 1, 0, [], [], [], ts) := ⟨_, rfl⟩
  have e1 : lst (LT9 ts) (τ i) = (0, false, L1) := by
    rw [hL1]
    unfold lst
    dsimp only
    rw [if_pos (show lWu (LT9 ts) = true from rfl), if_pos ⟨rfl, hn⟩, if_pos (show lIf (LT9 ts) + 1 ≤ 4 from hts4)]
    rfl
  have w1 : wfL L1 := (lst_wf a7 (hT i).2 e1).1 rfl
  unfold fX10_tellLaw_38
  repeat (first | with_reducible apply v_lt | ((with_reducible apply w_MR); exact hL; rfl) | ((with_reducible apply w_lv); exact hL; assumption) | ((with_reducible apply vMI); exact hL) | ((with_reducible apply vMS); exact hL) | ((with_reducible apply vMC); exact hL) | ((with_reducible apply vMZ); exact hL; (first | exact Or.inl rfl | exact Or.inr rfl | exact b2i_01 _ | assumption)) | ((first | with_reducible apply w_MA | with_reducible apply w_MW | with_reducible apply w_MY | with_reducible apply w_MB | with_reducible apply w_MJ | with_reducible apply w_MK); exact hL; rfl; rfl; rfl; (first | with_reducible rfl | with_reducible exact ixo _ | with_reducible exact ixoc _ _ | with_reducible exact ixom _ _ _ | with_reducible exact ixop _ _ | with_reducible exact ixod _ _ | assumption); omega))
  rw [a2.2.1]
  refine v_it (by decide) ?_
  repeat (first | with_reducible apply v_lt | ((with_reducible apply w_MR); exact hL; rfl) | ((with_reducible apply w_lv); exact hL; assumption) | ((with_reducible apply vMI); exact hL) | ((with_reducible apply vMS); exact hL) | ((with_reducible apply vMC); exact hL) | ((with_reducible apply vMZ); exact hL; (first | exact Or.inl rfl | exact Or.inr rfl | exact b2i_01 _ | assumption)) | ((first | with_reducible apply w_MA | with_reducible apply w_MW | with_reducible apply w_MY | with_reducible apply w_MB | with_reducible apply w_MJ | with_reducible apply w_MK); exact hL; rfl; rfl; rfl; (first | with_reducible rfl | with_reducible exact ixo _ | with_reducible exact ixoc _ _ | with_reducible exact ixom _ _ _ | with_reducible exact ixop _ _ | with_reducible exact ixod _ _ | assumption); omega))
  refine v_bd (goM hL (by omega) a2) (fun _ h2 hq => ?_)
  obtain ⟨o2, q1, q2⟩ := hq
  have hL2 : LM h2.2 := by rw [o2.1]; exact hL
  have b37 : gI h2 299 37 = nI b := by rw [o2.2 _ _ (fun z => by unfold sGo at z; omega)]; exact a5
  have b37' : gI (uI h2 323 b (1 &&& 1)) 299 37 = nI b := by rw [gI_ne (by omega)]; exact b37
  have b43 : gI h2 299 43 = nI c1 := by rw [o2.2 _ _ (fun z => by unfold sGo at z; omega)]; exact a4
  have b12 : gI h2 299 12 = 0 := by rw [o2.2 _ _ (fun z => by unfold sGo at z; omega)]; exact a3
  repeat (first | with_reducible apply v_lt | ((with_reducible apply w_MR); exact hL2; rfl) | ((with_reducible apply w_lv); exact hL2; assumption) | ((with_reducible apply vMI); exact hL2) | ((with_reducible apply vMS); exact hL2) | ((with_reducible apply vMC); exact hL2) | ((with_reducible apply vMZ); exact hL2; (first | exact Or.inl rfl | exact Or.inr rfl | exact b2i_01 _ | assumption)) | ((first | with_reducible apply w_MA | with_reducible apply w_MW | with_reducible apply w_MY | with_reducible apply w_MB | with_reducible apply w_MJ | with_reducible apply w_MK); exact hL2; rfl; rfl; rfl; (first | with_reducible rfl | with_reducible exact ixo _ | with_reducible exact ixoc _ _ | with_reducible exact ixom _ _ _ | with_reducible exact ixop _ _ | with_reducible exact ixod _ _ | assumption); omega))
  rw [gI_ne (by omega), b43]
  obtain ⟨g, hg⟩ : ∃ g, g = uI (uI h2 323 b (1 &&& 1)) 324 b (nI c1) := ⟨_, rfl⟩
  rw [← hg]
  have og : eo (fun a j => (a = 323 ∨ a = 324) ∧ j = b) h2 g := by
    rw [hg]
    exact eo_uI (eo_uI eo_rf ⟨Or.inl rfl, rfl⟩) ⟨Or.inr rfl, rfl⟩
  have g323 : gI g 323 b = 1 := by
    rw [hg, gI_ne (by omega), gI_eq]
    decide
  have g324 : gI g 324 b = nI c1 := by rw [hg, gI_eq]
  have g37 : gI g 299 37 = nI b := by rw [og.2 _ _ (fun z => by omega)]; exact b37
  have g43 : gI g 299 43 = nI c1 := by rw [og.2 _ _ (fun z => by omega)]; exact b43
  have g12 : gI g 299 12 = 0 := by rw [og.2 _ _ (fun z => by omega)]; exact b12
  have hLg : LM g.2 := by rw [og.1]; exact hL2
  have ogo : eo (sTl c0 f0 q) h g := eo_tr o (eo_tr (eo_mono o2 (fun a j z => sGo_Tl z)) (eo_mono og (fun a j z => by unfold sTl; omega)))
  by_cases z4 : i = 400
  · have dF : fate τ LZ0 i0 = (2, tkP (τ i), LT9 ts, i) := by rw [a1, fate_r z4 e1]
    have d2 : ddM (fate τ LZ0 i0).1 (fate τ LZ0 i0).2.1 g := by
      rw [dF]
      exact ddM_eo og (fun a k z => by omega) (q1 z4)
    obtain ⟨c9, p9, hcp⟩ : ∃ c9 p9, c9 = (fate τ LZ0 i0).1 ∧ p9 = (fate τ LZ0 i0).2.1 := ⟨_, _, rfl, rfl⟩
    rw [← hcp.1, ← hcp.2] at d2 hd
    refine v_bd (exprD hfu hLg d2) (fun _ h3 hq => ?_)
    obtain ⟨o3, d3⟩ := hq
    have hL3 : LM h3.2 := by rw [o3.1]; exact hLg
    have c37 : gI h3 299 37 = nI b := by rw [o3.2 _ _ (fun z => by omega)]; exact g37
    repeat (first | with_reducible apply v_lt | ((with_reducible apply w_MR); exact hL3; rfl) | ((with_reducible apply w_lv); exact hL3; assumption) | ((with_reducible apply vMI); exact hL3) | ((with_reducible apply vMS); exact hL3) | ((with_reducible apply vMC); exact hL3) | ((with_reducible apply vMZ); exact hL3; (first | exact Or.inl rfl | exact Or.inr rfl | exact b2i_01 _ | assumption)) | ((first | with_reducible apply w_MA | with_reducible apply w_MW | with_reducible apply w_MY | with_reducible apply w_MB | with_reducible apply w_MJ | with_reducible apply w_MK); exact hL3; rfl; rfl; rfl; (first | with_reducible rfl | with_reducible exact ixo _ | with_reducible exact ixoc _ _ | with_reducible exact ixom _ _ _ | with_reducible exact ixop _ _ | with_reducible exact ixod _ _ | assumption); omega))
    refine v_eq (mustD hL3 d3) ?_
    repeat (first | with_reducible apply v_lt | ((with_reducible apply w_MR); exact hL3; rfl) | ((with_reducible apply w_lv); exact hL3; assumption) | ((with_reducible apply vMI); exact hL3) | ((with_reducible apply vMS); exact hL3) | ((with_reducible apply vMC); exact hL3) | ((with_reducible apply vMZ); exact hL3; (first | exact Or.inl rfl | exact Or.inr rfl | exact b2i_01 _ | assumption)) | ((first | with_reducible apply w_MA | with_reducible apply w_MW | with_reducible apply w_MY | with_reducible apply w_MB | with_reducible apply w_MJ | with_reducible apply w_MK); exact hL3; rfl; rfl; rfl; (first | with_reducible rfl | with_reducible exact ixo _ | with_reducible exact ixoc _ _ | with_reducible exact ixom _ _ _ | with_reducible exact ixop _ _ | with_reducible exact ixod _ _ | assumption); omega))
    have o4 : eo (fun a j => a = 325 ∧ j = b) h3 (uI h3 325 b (gI h3 299 43)) := eo_uI eo_rf ⟨rfl, rfl⟩
    have d4 := ddM_eo o4 (fun a k z => by omega) d3
    refine v_ie (x13 d4).2 ?_
    rw [nI_1]
    refine d110 (m := f0 + 5) hL0 hf (by omega) ⟨eo_tr ogo (eo_tr (eo_mono o3 (fun a j z => by unfold sTl sEx; omega)) (eo_mono o4 (fun a j z => by unfold sTl; omega))), d4, b, by omega, by omega, ?_⟩ hd
    rw [gI_ne (by omega)]
    exact c37
  · have at1 := atM_eo og (fun a k z => by omega) (q2 z4)
    have hF1 : fate τ LZ0 i0 = fate τ L1 (i + 1) := by rw [a1, fate_s (by omega) e1]
    have k1 : lWu L1 = true := by rw [hL1]; rfl
    have k2 : lQu L1 = [] := by rw [hL1]; rfl
    have k3 : lPd L1 = [] := by rw [hL1]; rfl
    have k4 : lOp L1 = 0 := by rw [hL1]; rfl
    have k5 : ¬ (lMi L1 = true ∧ tkK (τ (i + 1)) = 10) := by rw [hL1]; exact fun z => by cases z.1
    have k6 : lPt L1 = 0 := by rw [hL1]; rfl
    refine v_bd (exprM hfu hLg hT at1 g12 g43 w1 k1 k2 k3 k4 k5 (by rw [hlb1]; omega)) (fun _ h3 hq => ?_)
    obtain ⟨o3, hq3⟩ := hq
    have hL3 : LM h3.2 := by rw [o3.1]; exact hLg
    have o03 : eo (sTl c0 f0 q) h h3 := eo_tr ogo (eo_mono o3 (fun a j z => sEx_Tl (by omega) hlb1 z))
    repeat (first | with_reducible apply v_lt | ((with_reducible apply w_MR); exact hL3; rfl) | ((with_reducible apply w_lv); exact hL3; assumption) | ((with_reducible apply vMI); exact hL3) | ((with_reducible apply vMS); exact hL3) | ((with_reducible apply vMC); exact hL3) | ((with_reducible apply vMZ); exact hL3; (first | exact Or.inl rfl | exact Or.inr rfl | exact b2i_01 _ | assumption)) | ((first | with_reducible apply w_MA | with_reducible apply w_MW | with_reducible apply w_MY | with_reducible apply w_MB | with_reducible apply w_MJ | with_reducible apply w_MK); exact hL3; rfl; rfl; rfl; (first | with_reducible rfl | with_reducible exact ixo _ | with_reducible exact ixoc _ _ | with_reducible exact ixom _ _ _ | with_reducible exact ixop _ _ | with_reducible exact ixod _ _ | assumption); omega))
    refine v_bd (mustH (L := L1) (by rw [k6]; rfl) hL3 hT hq3) (fun _ h4 hq4 => ?_)
    obtain ⟨o4, hq4⟩ := hq4
    have hL4 : LM h4.2 := by rw [o4.1]; exact hL3
    have o04 : eo (sTl c0 f0 q) h h4 := eo_tr o03 (eo_mono o4 (fun a j z => sGo_Tl z))
    have fr : ∀ a j, ¬ sEx c1 a j → ¬ sGo a j → gI h4 a j = gI g a j := fun a j z1 z2 => by rw [o4.2 _ _ z2, o3.2 _ _ z1]
    have d37 : gI h4 299 37 = nI b := by rw [fr _ _ (fun z => by unfold sEx at z; omega) (fun z => by unfold sGo at z; omega)]; exact g37
    repeat (first | with_reducible apply v_lt | ((with_reducible apply w_MR); exact hL4; rfl) | ((with_reducible apply w_lv); exact hL4; assumption) | ((with_reducible apply vMI); exact hL4) | ((with_reducible apply vMS); exact hL4) | ((with_reducible apply vMC); exact hL4) | ((with_reducible apply vMZ); exact hL4; (first | exact Or.inl rfl | exact Or.inr rfl | exact b2i_01 _ | assumption)) | ((first | with_reducible apply w_MA | with_reducible apply w_MW | with_reducible apply w_MY | with_reducible apply w_MB | with_reducible apply w_MJ | with_reducible apply w_MK); exact hL4; rfl; rfl; rfl; (first | with_reducible rfl | with_reducible exact ixo _ | with_reducible exact ixoc _ _ | with_reducible exact ixom _ _ _ | with_reducible exact ixop _ _ | with_reducible exact ixod _ _ | assumption); omega))
    have o5 : eo (fun a j => a = 325 ∧ j = b) h4 (uI h4 325 b (gI h4 299 43)) := eo_uI eo_rf ⟨rfl, rfl⟩
    have o05 : eo (sTl c0 f0 q) h (uI h4 325 b (gI h4 299 43)) := eo_tr o04 (eo_mono o5 (fun a j z => by unfold sTl; omega))
    have e37 : gI (uI h4 325 b (gI h4 299 43)) 299 37 = nI b := by rw [gI_ne (by omega)]; exact d37
    have e325 : gI (uI h4 325 b (gI h4 299 43)) 325 b = gI h4 299 43 := gI_eq
    have e43 : gI (uI h4 325 b (gI h4 299 43)) 299 43 = gI h4 299 43 := gI_ne (by omega)
    have hL5 : LM (uI h4 325 b (gI h4 299 43)).2 := hL4
    obtain ⟨g5, hg5⟩ : ∃ g5, g5 = uI h4 325 b (gI h4 299 43) := ⟨_, rfl⟩
    rw [← hg5] at o5 o05 e37 e325 e43 hL5 ⊢
    rw [nI_1]
    rcases hq4 with ⟨L2, i2, f1, f2, f3, f4, f5, f6, f7, f8, f9, f10, f11⟩ | d
    · rw [if_neg (by omega)] at f1
      obtain ⟨x1, x2, x3, x4⟩ := f4
      obtain ⟨j1, -, -, -⟩ := lend_wf f5 f6 f7
      have w2 := j1 (by omega)
      obtain ⟨A, hA⟩ : ∃ A, A = (out9 1 (lQu L2) (lPd L2)).1 := ⟨_, rfl⟩
      rw [← hA] at f9 f11
      have y2 : lIf L1 = ts.length + 1 := by rw [hL1]; rfl
      have y3 : lPa L1 = [] := by rw [hL1]; rfl
      have y4 : lTs L1 = ts := by rw [hL1]; rfl
      have eL3 : lend L2 = (true, false, 1, ts.length + 1, 0, [], [], [A], ts) := by
        unfold lend
        dsimp only
        rw [x1, k6, if_neg (by decide), if_neg (by decide), x2, y2, x3, y3, x4, y4, ← hA]
        rfl
      rw [eL3] at f1 w2
      obtain ⟨L3, hL3'⟩ : ∃ L3 : LZ, L3 = (true, false, 1, ts.length + 1, 0, [], [], [A], ts) := ⟨_, rfl⟩
      rw [← hL3'] at f1 w2
      obtain ⟨s1, s2, s3, s4⟩ := f9
      have at5 := atM_eo o5 (fun a k z => by omega) f8
      have m12 : gI g5 299 12 = 0 := by rw [o5.2 _ _ (fun z => by omega)]; exact f10
      have m43 : gI g5 299 43 = nI (c1 + A.length) := by rw [e43]; exact s3
      rw [at5.2.1]
      refine v_it rfl ?_
      repeat (first | with_reducible apply v_lt | ((with_reducible apply w_MR); exact hL5; rfl) | ((with_reducible apply w_lv); exact hL5; assumption) | ((with_reducible apply vMI); exact hL5) | ((with_reducible apply vMS); exact hL5) | ((with_reducible apply vMC); exact hL5) | ((with_reducible apply vMZ); exact hL5; (first | exact Or.inl rfl | exact Or.inr rfl | exact b2i_01 _ | assumption)) | ((first | with_reducible apply w_MA | with_reducible apply w_MW | with_reducible apply w_MY | with_reducible apply w_MB | with_reducible apply w_MJ | with_reducible apply w_MK); exact hL5; rfl; rfl; rfl; (first | with_reducible rfl | with_reducible exact ixo _ | with_reducible exact ixoc _ _ | with_reducible exact ixom _ _ _ | with_reducible exact ixop _ _ | with_reducible exact ixod _ _ | assumption); omega))
      have n1 : lWu L3 = true := by rw [hL3']; rfl
      have n2 : lQu L3 = [] := by rw [hL3']; rfl
      have n3 : lPd L3 = [] := by rw [hL3']; rfl
      have n4 : lOp L3 = 0 := by rw [hL3']; rfl
      have n5 : ¬ (lMi L3 = true ∧ tkK (τ (i2 + 1)) = 10) := by rw [hL3']; exact fun z => by cases z.1
      have hlb2 : lb9 (c1 + A.length) = lb9 c0 := by rw [← hlb1]; exact lb9_eq (by omega) (by omega)
      refine v_bd (exprM hfu hL5 hT at5 m12 m43 w2 n1 n2 n3 n4 n5 (by rw [hlb2, ← hlb1]; omega)) (fun _ h6 hq6 => ?_)
      obtain ⟨o6, hq6⟩ := hq6
      have o06 : eo (sTl c0 f0 q) h h6 := eo_tr o05 (eo_mono o6 (fun a j z => sEx_Tl (by omega) hlb2 z))
      have fr6 : ∀ a j, ¬ sEx c1 a j → ¬ sGo a j → ¬ (a = 325 ∧ j = b) → gI h6 a j = gI g a j := fun a j z1 z2 z3 => by rw [o6.2 _ _ (fun z => z1 (by unfold sEx at z ⊢; omega)), o5.2 _ _ z3, fr _ _ z1 z2]
      refine a110 (L := L3) (A := A) (ts := ts) (b := b) (c1 := c1) (c2 := c1 + A.length) (i1 := i2 + 1) hfu hL0 hT hf hts4 hb hc1 hlb2 rfl o06 (by rw [hL3']; rfl) (by rw [hL3']; rfl) (by rw [hL3']; rfl) (by rw [hL3']; rfl) (by rw [hF1, f1]) hq6 ?_ ?_ ?_ ?_ ?_ ?_ (fun ts2 i3 h7 n1 n2 n3 n4 => hk ts2 i3 h7 (by omega) n2 n3 n4) hd
      · rw [o6.2 _ _ (fun z => by unfold sEx at z; omega)]
        exact e37
      · rw [fr6 _ _ (fun z => by unfold sEx at z; omega) (fun z => by unfold sGo at z; omega) (by omega)]
        exact g323
      · rw [fr6 _ _ (fun z => by unfold sEx at z; omega) (fun z => by unfold sGo at z; omega) (by omega)]
        exact g324
      · rw [o6.2 _ _ (fun z => by unfold sEx at z; omega), e325]
        exact s3
      · refine segM_lo (h := h4) (b9 := 0) (c9 := c1 + A.length) (fun a j _ _ _ _ => ?_) (by omega) (by omega) s4
        rw [o6.2 _ _ (fun z => by unfold sEx at z; omega), o5.2 _ _ (fun z => by omega)]
      · have br1 : brT g f0 c0 ts := brT_lo (h := h1) (e9 := f0) (f9 := f0 + ts.length) (b9 := c0) (c9 := c0 + ln3 ts) (fun a j _ _ _ hj => by rw [og.2 _ _ (fun z => by omega), o2.2 _ _ (fun z => by unfold sGo at z; omega)]) (fun a j _ _ _ _ => by rw [og.2 _ _ (fun z => by omega), o2.2 _ _ (fun z => by unfold sGo at z; omega)]) (Nat.le_refl _) (Nat.le_refl _) (Nat.le_refl _) (Nat.le_refl _) a6
        exact brT_lo (h := g) (e9 := f0) (f9 := f0 + ts.length) (b9 := c0) (c9 := c0 + ln3 ts) (fun a j _ _ _ hj => fr6 _ _ (fun z => by unfold sEx at z; omega) (fun z => by unfold sGo at z; omega) (by omega)) (fun a j _ _ _ _ => fr6 _ _ (fun z => by unfold sEx at z; omega) (fun z => by unfold sGo at z; omega) (by omega)) (Nat.le_refl _) (Nat.le_refl _) (Nat.le_refl _) (Nat.le_refl _) br1
    · rw [← hF1] at d
      have d5 := ddM_eo o5 (fun a k z => by omega) d
      refine v_ie (x13 d5).2 ?_
      exact d110 (m := f0 + 5) hL0 hf (by omega) ⟨o05, d5, b, by omega, by omega, e37⟩ hd
/-- behind = -/
theorem lawLoop {fu c0 f0 i0 s k : Nat} {τ : Nat → Tk} {h : mh} (hfu : 1000 ≤ fu) (hL0 : LM h.2) (hT : okT τ) (hf : f0 ≤ 240) (hs : s < 2) (hk : k < 4) (g19 : gI h 299 19 = nI s) (a : atM τ i0 h) (g12 : gI h 299 12 = 0) (g43 : gI h 299 43 = nI c0) (g37 : gI h 299 37 = nI f0) (hc : c0 ≤ lb9 c0 + i0) : ok (itr (bX10_tellLaw_12 fu 299 (nI k) (nI f0)) fu (0, h)) (fun _ h2 => lwQ τ c0 f0 (4 * s + k) i0 h h2) := by
  have hi := a.2.2.1
  have A0 : lwA τ c0 f0 i0 [] i0 h := ⟨rfl, a, g12, g43, g37, trivial, wfL0, hc⟩
  have m0 : mu9 h < fu := by
    rw [mu_a a]
    omega
  refine itr_ms (I := fun st => eo (sTl c0 f0 (4 * s + k)) h st.2 ∧ ((∃ ts i, st.1 = nI ts.length ∧ lwA τ c0 f0 i0 ts i st.2) ∨ dTl c0 f0 (4 * s + k) (f0 + 6) (fate τ LZ0 i0).1 (fate τ LZ0 i0).2.1 h st.2)) (P := fun R => ok R _) (fun st => mu9 st.2) ?_ fu _ m0 ⟨eo_rf, Or.inl ⟨[], i0, rfl, A0⟩⟩
  intro st kk hI hkk
  obtain ⟨v3, h1⟩ := st
  obtain ⟨o, hI⟩ := hI
  dsimp only at o hI hkk
  have hL : LM h1.2 := by rw [o.1]; exact hL0
  have h19 : gI h1 299 19 = nI s := by rw [o.2 _ _ (fun z => by unfold sTl sEx at z; omega)]; exact g19
  unfold bX10_tellLaw_12
  dsimp only
  repeat (first | with_reducible apply v_lt | ((with_reducible apply w_MR); exact hL; rfl) | ((with_reducible apply w_lv); exact hL; assumption) | ((with_reducible apply vMI); exact hL) | ((with_reducible apply vMS); exact hL) | ((with_reducible apply vMC); exact hL) | ((with_reducible apply vMZ); exact hL; (first | exact Or.inl rfl | exact Or.inr rfl | exact b2i_01 _ | assumption)) | ((first | with_reducible apply w_MA | with_reducible apply w_MW | with_reducible apply w_MY | with_reducible apply w_MB | with_reducible apply w_MJ | with_reducible apply w_MK); exact hL; rfl; rfl; rfl; (first | with_reducible rfl | with_reducible exact ixo _ | with_reducible exact ixoc _ _ | with_reducible exact ixom _ _ _ | with_reducible exact ixop _ _ | with_reducible exact ixod _ _ | assumption); omega))
  rcases hI with ⟨ts, i, e1, al⟩ | d
  · subst e1
    obtain ⟨a1, a2, a3, a4, a5, a6, a7, a8⟩ := id al
    have ii := a2.2.2.1
    have l4 : ts.length ≤ 4 := a7.2.2.2.2.1
    rw [a2.2.1]
    refine v_it rfl ?_
    repeat (first | with_reducible apply v_lt | ((with_reducible apply w_MR); exact hL; rfl) | ((with_reducible apply w_lv); exact hL; assumption) | ((with_reducible apply vMI); exact hL) | ((with_reducible apply vMS); exact hL) | ((with_reducible apply vMC); exact hL) | ((with_reducible apply vMZ); exact hL; (first | exact Or.inl rfl | exact Or.inr rfl | exact b2i_01 _ | assumption)) | ((first | with_reducible apply w_MA | with_reducible apply w_MW | with_reducible apply w_MY | with_reducible apply w_MB | with_reducible apply w_MJ | with_reducible apply w_MK); exact hL; rfl; rfl; rfl; (first | with_reducible rfl | with_reducible exact ixo _ | with_reducible exact ixoc _ _ | with_reducible exact ixom _ _ _ | with_reducible exact ixop _ _ | with_reducible exact ixod _ _ | assumption); omega))
    refine v_eq (isM (x := 10) hL ⟨by omega, Or.inl (by omega)⟩ (hT i).1 a2) ?_
    by_cases z : tkK (τ i) = 10
    · rw [decide_eq_true z]
      refine v_ie (by decide) ?_
      have hm : mu9 h1 = 402 - i := mu_a a2
      by_cases z5 : ts.length = 4
      · refine v_it (by rw [z5]; rfl) ?_
        repeat (first | with_reducible apply v_lt | ((with_reducible apply w_MR); exact hL; rfl) | ((with_reducible apply w_lv); exact hL; assumption) | ((with_reducible apply vMI); exact hL) | ((with_reducible apply vMS); exact hL) | ((with_reducible apply vMC); exact hL) | ((with_reducible apply vMZ); exact hL; (first | exact Or.inl rfl | exact Or.inr rfl | exact b2i_01 _ | assumption)) | ((first | with_reducible apply w_MA | with_reducible apply w_MW | with_reducible apply w_MY | with_reducible apply w_MB | with_reducible apply w_MJ | with_reducible apply w_MK); exact hL; rfl; rfl; rfl; (first | with_reducible rfl | with_reducible exact ixo _ | with_reducible exact ixoc _ _ | with_reducible exact ixom _ _ _ | with_reducible exact ixop _ _ | with_reducible exact ixod _ _ | assumption); omega))
        refine v_bd (failM (c := 2) hL (by omega) a2) (fun _ h2 hq => ?_)
        obtain ⟨o2, d2⟩ := hq
        have hL2 : LM h2.2 := by rw [o2.1]; exact hL
        have e5 : lst (LT9 ts) (τ i) = (2, false, (true, false, 0, ts.length + 1, 0, [], [], [], ts)) := by
          unfold lst
          dsimp only
          rw [if_pos (show lWu (LT9 ts) = true from rfl), if_pos ⟨rfl, z⟩, if_neg (show ¬ lIf (LT9 ts) + 1 ≤ 4 from fun w => by have w : ts.length + 1 ≤ 4 := w; omega)]
          rfl
        unfold fX10_tellLaw_38
        repeat (first | with_reducible apply v_lt | ((with_reducible apply w_MR); exact hL2; rfl) | ((with_reducible apply w_lv); exact hL2; assumption) | ((with_reducible apply vMI); exact hL2) | ((with_reducible apply vMS); exact hL2) | ((with_reducible apply vMC); exact hL2) | ((with_reducible apply vMZ); exact hL2; (first | exact Or.inl rfl | exact Or.inr rfl | exact b2i_01 _ | assumption)) | ((first | with_reducible apply w_MA | with_reducible apply w_MW | with_reducible apply w_MY | with_reducible apply w_MB | with_reducible apply w_MJ | with_reducible apply w_MK); exact hL2; rfl; rfl; rfl; (first | with_reducible rfl | with_reducible exact ixo _ | with_reducible exact ixoc _ _ | with_reducible exact ixom _ _ _ | with_reducible exact ixop _ _ | with_reducible exact ixod _ _ | assumption); omega))
        refine v_ie (x13 d2).1 (v_rV ⟨eo_tr o (eo_mono o2 (fun a j z => by unfold sFl at z; unfold sTl sEx; omega)), Or.inr ?_⟩)
        rw [a1, fate_x ii e5 (by omega)]
        exact d2
      · refine v_ie (fun w => z5 ((nI_eq (a := ts.length) (b := 4) (by omega) (by omega)).mp w)) ?_
        refine a38 (i := i) hfu hL0 hT hf o al z (by omega) (fun ts2 i2 h2 n1 n2 n3 n4 => ?_) (fun h2 n1 => ?_)
        · have i2b := n4.2.1.2.2.1
          refine hkk _ ⟨n3, Or.inl ⟨ts2, i2, ?_, n4⟩⟩ ?_
          · rw [n2]
          · dsimp only
            rw [mu_a n4.2.1, hm]
            omega
        · refine hkk _ ⟨n1.1, Or.inr n1⟩ ?_
          dsimp only
          rw [mu_d n1.2.1, hm]
          omega
    · rw [decide_eq_false z]
      refine v_it rfl ?_
      exact a129 hfu hL0 hT hf hs hk h19 o al z
  · refine v_ie (x13 d.2.1).2 ?_
    exact ok_mono (d129 hL0 hf (by omega) d) (fun _ h2 q => ⟨q.1, Or.inr q.2.1⟩)
