/-! THE REFERENCE'S tellLaw: an if -/
theorem exprX {fu c1 i : Nat} {τ : Nat → Tk} {L : LZ} {h : mh} (hfu : 1000 ≤ fu) (hL : LM h.2) (hT : okT τ) (w : wfL L) (l1 : lWu L = true) (l2 : lQu L = []) (l3 : lPd L = []) (l4 : lOp L = 0) (l5 : ¬ (lMi L = true ∧ tkK (τ i) = 10)) (hc : c1 ≤ lb9 c1 + i) (hq : (atM τ i h ∧ gI h 299 12 = 0 ∧ gI h 299 43 = nI c1) ∨ ddM (fate τ L i).1 (fate τ L i).2.1 h) : ok (fX10_expression fu 299 h) (fun _ h' => exQ τ c1 L i h h') := by
  rcases hq with ⟨q1, q2, q3⟩ | d
  · exact exprM hfu hL hT q1 q2 q3 w l1 l2 l3 l4 l5 hc
  · exact ok_mono (exprD hfu hL d) (fun _ h' q => ⟨eo_mono q.1 (fun a k z => by unfold sEx; omega), Or.inr q.2⟩)
theorem mustH {fu c0 i : Nat} {τ : Nat → Tk} {L : LZ} {h1 : mh} {x : Int32} (hx : x = soM (eop (lPt L))) (hL : LM h1.2) (hT : okT τ) (hq : fin9 τ c0 L i h1 ∨ ddM (fate τ L i).1 (fate τ L i).2.1 h1) : ok (fX10_must fu 299 x h1) (fun _ h2 => eo sGo h1 h2 ∧ (pthr τ c0 L i h2 ∨ ddM (fate τ L i).1 (fate τ L i).2.1 h2)) := by
  rw [hx]
  exact mustG hL hT hq
theorem sEx_Tl {c0 c1 f0 q a j : Nat} (hc : c0 ≤ c1) (hl : lb9 c1 = lb9 c0) (z : sEx c1 a j) : sTl c0 f0 q a j := by
  unfold sEx at z
  unfold sTl sEx
  omega
theorem sGo_Tl {c0 f0 q a j : Nat} (z : sGo a j) : sTl c0 f0 q a j := by
  unfold sGo at z
  unfold sTl sEx
  omega
theorem sTe_Tl {c0 c1 f0 b q a j : Nat} (hc : c0 ≤ c1) (hl : lb9 c1 = lb9 c0) (hb : f0 ≤ b) (hb8 : b < f0 + 8) (z : sTe c1 b a j) : sTl c0 f0 q a j := by
  unfold sTe sEx at z
  unfold sTl sEx
  omega
set_option maxHeartbeats 2000000 in
theorem a110 {fu c0 f0 i0 q i1 c1 c2 b : Nat} {τ : Nat → Tk} {ts : List (Pf × Pf × Pf)} {A : Pf} {L : LZ} {v1 v2 v3 : Int32} {h h1 : mh} {k12 : Int32 × mh → Option (Unit × mh)} {Q : Unit → mh → Prop} (hfu : 1000 ≤ fu) (hL0 : LM h.2) (hT : okT τ) (hf : f0 ≤ 240) (hts : ts.length < 4) (hb : b = f0 + ts.length) (hc1 : c1 = c0 + ln3 ts) (hlb2 : lb9 c2 = lb9 c0) (hc2 : c2 = c1 + A.length) (o : eo (sTl c0 f0 q) h h1) (p1 : lPt L = 1) (p2 : lIf L = ts.length + 1) (p3 : lPa L = [A]) (p4 : lTs L = ts) (hF : fate τ LZ0 i0 = fate τ L i1) (hq : fin9 τ c2 L i1 h1 ∨ ddM (fate τ L i1).1 (fate τ L i1).2.1 h1) (g37 : gI h1 299 37 = nI b) (g323 : gI h1 323 b = 1) (g324 : gI h1 324 b = nI c1) (g325 : gI h1 325 b = nI c2) (sA : segM h1 c1 A) (br : brT h1 f0 c0 ts)
    (hk : ∀ ts2 i2 h2, i1 < i2 → ts2.length = ts.length + 1 → eo (sTl c0 f0 q) h h2 → lwA τ c0 f0 i0 ts2 i2 h2 → ok (k12 (v3, h2)) Q) (hd : ∀ h2, dTl c0 f0 q (f0 + 6) (fate τ LZ0 i0).1 (fate τ LZ0 i0).2.1 h h2 → ok (k12 (v3, h2)) Q) : ok (fX10_tellLaw_110 fu k12 299 v1 v2 v3 h1) Q := by
  have hL : LM h1.2 := by rw [o.1]; exact hL0
  have n12 : c0 ≤ c1 := by omega
  have n23 : c0 ≤ c2 := by omega
  unfold fX10_tellLaw_110
  repeat (first | with_reducible apply v_lt | ((with_reducible apply w_MR); exact hL; rfl) | ((with_reducible apply w_lv); exact hL; assumption) | ((with_reducible apply vMI); exact hL) | ((with_reducible apply vMS); exact hL) | ((with_reducible apply vMC); exact hL) | ((with_reducible apply vMZ); exact hL; (first | exact Or.inl rfl | exact Or.inr rfl | exact b2i_01 _ | assumption)) | ((first | with_reducible apply w_MA | with_reducible apply w_MW | with_reducible apply w_MY | with_reducible apply w_MB | with_reducible apply w_MJ | with_reducible apply w_MK); exact hL; rfl; rfl; rfl; (first | with_reducible rfl | with_reducible exact ixo _ | with_reducible exact ixoc _ _ | with_reducible exact ixom _ _ _ | with_reducible exact ixop _ _ | with_reducible exact ixod _ _ | assumption); omega))
  refine v_bd (mustH (L := L) (by rw [p1]; rfl) hL hT hq) (fun _ h2 hq2 => ?_)
  obtain ⟨o2, hq2⟩ := hq2
  have hL2 : LM h2.2 := by rw [o2.1]; exact hL
  have o02 : eo (sTl c0 f0 q) h h2 := eo_tr o (eo_mono o2 (fun a j z => sGo_Tl z))
  have b37 : gI h2 299 37 = nI b := by rw [o2.2 _ _ (fun z => by unfold sGo at z; omega)]; exact g37
  repeat (first | with_reducible apply v_lt | ((with_reducible apply w_MR); exact hL2; rfl) | ((with_reducible apply w_lv); exact hL2; assumption) | ((with_reducible apply vMI); exact hL2) | ((with_reducible apply vMS); exact hL2) | ((with_reducible apply vMC); exact hL2) | ((with_reducible apply vMZ); exact hL2; (first | exact Or.inl rfl | exact Or.inr rfl | exact b2i_01 _ | assumption)) | ((first | with_reducible apply w_MA | with_reducible apply w_MW | with_reducible apply w_MY | with_reducible apply w_MB | with_reducible apply w_MJ | with_reducible apply w_MK); exact hL2; rfl; rfl; rfl; (first | with_reducible rfl | with_reducible exact ixo _ | with_reducible exact ixoc _ _ | with_reducible exact ixom _ _ _ | with_reducible exact ixop _ _ | with_reducible exact ixod _ _ | assumption); omega))
  rcases hq2 with ⟨L2, i2, e0, e1, e2, e3, e4, e5, e6, e7, e8, e9, e10⟩ | d
  · rw [if_neg (by omega)] at e0
    obtain ⟨x1, x2, x3, x4⟩ := e3
    obtain ⟨j1, -, -, -⟩ := lend_wf e4 e5 e6
    have w3 := j1 (by omega)
    obtain ⟨B, hB⟩ : ∃ B, B = (out9 1 (lQu L2) (lPd L2)).1 := ⟨_, rfl⟩
    rw [← hB] at e8 e10
    have eL3 : lend L2 = (true, false, 2, ts.length + 1, 0, [], [], [A, B], ts) := by
      unfold lend
      dsimp only
      rw [x1, p1, if_neg (by decide), if_neg (by decide), x2, p2, x3, p3, x4, p4, ← hB]
      rfl
    rw [eL3] at e0 w3
    obtain ⟨L3, hL3⟩ : ∃ L3 : LZ, L3 = (true, false, 2, ts.length + 1, 0, [], [], [A, B], ts) := ⟨_, rfl⟩
    rw [← hL3] at e0 w3
    obtain ⟨s1, s2, s3, s4⟩ := e8
    have t323 : gI h2 323 b = 1 := by rw [o2.2 _ _ (fun z => by unfold sGo at z; omega)]; exact g323
    have t324 : gI h2 324 b = nI c1 := by rw [o2.2 _ _ (fun z => by unfold sGo at z; omega)]; exact g324
    have t325 : gI h2 325 b = nI c2 := by rw [o2.2 _ _ (fun z => by unfold sGo at z; omega)]; exact g325
    have tA : segM h2 c1 A := segM_lo (b9 := 0) (c9 := c1 + A.length) (fun a j _ _ _ _ => o2.2 _ _ (fun z => by unfold sGo at z; omega)) (by omega) (by omega) sA
    have tbr : brT h2 f0 c0 ts := brT_lo (e9 := f0) (f9 := f0 + ts.length) (b9 := c0) (c9 := c0 + ln3 ts) (fun a j _ _ _ hj => o2.2 _ _ (fun z => by unfold sGo at z; omega)) (fun a j _ _ _ _ => o2.2 _ _ (fun z => by unfold sGo at z; omega)) (Nat.le_refl _) (Nat.le_refl _) (Nat.le_refl _) (Nat.le_refl _) br
    have k1 : lWu L3 = true := by rw [hL3]; rfl
    have k2 : lQu L3 = [] := by rw [hL3]; rfl
    have k3 : lPd L3 = [] := by rw [hL3]; rfl
    have k4 : lOp L3 = 0 := by rw [hL3]; rfl
    have k5 : ¬ (lMi L3 = true ∧ tkK (τ (i2 + 1)) = 10) := by rw [hL3]; exact fun z => by cases z.1
    have k6 : lPt L3 = 2 := by rw [hL3]; rfl
    have hi2 := e7.2.2.1
    have hlb3 : lb9 (c2 + B.length) = lb9 c0 := by rw [← hlb2]; exact lb9_eq (by omega) (by omega)
    refine v_bd (termA (c1 := c2 + B.length) (b := b) (L := L3) hfu hL2 hT e7 e9 s3 b37 (by omega) w3 k1 k2 k3 k4 k5 (by rw [hlb3, ← hlb2]; omega)) (fun _ h3 hq3 => ?_)
    obtain ⟨o3, c37, c326, c327, hq3⟩ := hq3
    have hL3' : LM h3.2 := by rw [o3.1]; exact hL2
    have o03 : eo (sTl c0 f0 q) h h3 := eo_tr o02 (eo_mono o3 (fun a j z => sTe_Tl (by omega) hlb3 (by omega) (by omega) z))
    repeat (first | with_reducible apply v_lt | ((with_reducible apply w_MR); exact hL3'; rfl) | ((with_reducible apply w_lv); exact hL3'; assumption) | ((with_reducible apply vMI); exact hL3') | ((with_reducible apply vMS); exact hL3') | ((with_reducible apply vMC); exact hL3') | ((with_reducible apply vMZ); exact hL3'; (first | exact Or.inl rfl | exact Or.inr rfl | exact b2i_01 _ | assumption)) | ((first | with_reducible apply w_MA | with_reducible apply w_MW | with_reducible apply w_MY | with_reducible apply w_MB | with_reducible apply w_MJ | with_reducible apply w_MK); exact hL3'; rfl; rfl; rfl; (first | with_reducible rfl | with_reducible exact ixo _ | with_reducible exact ixoc _ _ | with_reducible exact ixom _ _ _ | with_reducible exact ixop _ _ | with_reducible exact ixod _ _ | assumption); omega))
    refine v_bd (mustH (L := L3) (by rw [k6]; rfl) hL3' hT hq3) (fun _ h4 hq4 => ?_)
    obtain ⟨o4, hq4⟩ := hq4
    have o04 : eo (sTl c0 f0 q) h h4 := eo_tr o03 (eo_mono o4 (fun a j z => sGo_Tl z))
    have d37 : gI h4 299 37 = nI (b + 1) := by rw [o4.2 _ _ (fun z => by unfold sGo at z; omega)]; exact c37
    rcases hq4 with ⟨L4, i4, f0', f1, f2, f3, f4, f5, f6, f7, f8, f9, f10⟩ | d
    · rw [if_neg (by omega)] at f0'
      obtain ⟨y1, y2, y3, y4⟩ := f3
      obtain ⟨j2, -, -, -⟩ := lend_wf f4 f5 f6
      have w5 := j2 (by omega)
      obtain ⟨C, hC⟩ : ∃ C, C = (out9 1 (lQu L4) (lPd L4)).1 := ⟨_, rfl⟩
      rw [← hC] at f8 f10
      have z2 : lIf L3 = ts.length + 1 := by rw [hL3]; rfl
      have z3 : lPa L3 = [A, B] := by rw [hL3]; rfl
      have z4 : lTs L3 = ts := by rw [hL3]; rfl
      have eL5 : lend L4 = LT9 (ts ++ [(A, B, C)]) := by
        unfold lend
        dsimp only
        rw [y1, k6, if_neg (by decide), if_pos rfl, y2, z2, y3, z3, y4, z4, ← hC]
        unfold LT9
        rw [List.length_append]
        rfl
      rw [eL5] at f0' w5
      have ll : (ts ++ [(A, B, C)]).length = ts.length + 1 := by rw [List.length_append]; rfl
      have ln : ln3 (ts ++ [(A, B, C)]) = ln3 ts + (A.length + B.length + C.length) := by
        rw [ln3_app]
        show ln3 ts + (A.length + B.length + C.length + 0) = _
        omega
      obtain ⟨r1, r2, r3, r4⟩ := f8
      have fr : ∀ a j, ¬ sTe (c2 + B.length) b a j → ¬ sGo a j → gI h4 a j = gI h2 a j := fun a j z1 z2 => by rw [o4.2 _ _ z2, o3.2 _ _ z1]
      refine hk (ts ++ [(A, B, C)]) (i4 + 1) h4 (by omega) ll o04 ⟨?_, f7, f9, ?_, ?_, ?_, w5, ?_⟩
      · rw [hF, e0, f0']
      · rw [r3, ln]
        congr 1
        omega
      · rw [d37, ll]
        congr 1
        omega
      · refine brT_app ?_ ⟨⟨?_, ?_, ?_, ?_, ?_, ?_, ?_, ?_⟩, trivial⟩
        · exact brT_lo (e9 := f0) (f9 := f0 + ts.length) (b9 := c0) (c9 := c0 + ln3 ts) (fun a j _ _ _ hj => fr _ _ (fun z => by unfold sTe sEx at z; omega) (fun z => by unfold sGo at z; omega)) (fun a j _ _ _ _ => fr _ _ (fun z => by unfold sTe sEx at z; omega) (fun z => by unfold sGo at z; omega)) (Nat.le_refl _) (Nat.le_refl _) (Nat.le_refl _) (Nat.le_refl _) tbr
        · rw [← hb, fr _ _ (fun z => by unfold sTe sEx at z; omega) (fun z => by unfold sGo at z; omega)]
          exact t323
        · rw [← hb, fr _ _ (fun z => by unfold sTe sEx at z; omega) (fun z => by unfold sGo at z; omega), t324, hc1]
        · rw [← hb, fr _ _ (fun z => by unfold sTe sEx at z; omega) (fun z => by unfold sGo at z; omega), t325, hc2, hc1]
        · rw [← hb, o4.2 _ _ (fun z => by unfold sGo at z; omega), c326, hc2, hc1]
        · rw [← hb, o4.2 _ _ (fun z => by unfold sGo at z; omega), c327, ← o4.2 299 43 (fun z => by unfold sGo at z; omega), r3, hc2, hc1]
        · show segM h4 (c0 + ln3 ts) A
          rw [← hc1]
          exact segM_lo (b9 := 0) (c9 := c1 + A.length) (fun a j _ _ _ _ => fr _ _ (fun z => by unfold sTe sEx at z; omega) (fun z => by unfold sGo at z; omega)) (by omega) (by omega) tA
        · show segM h4 (c0 + ln3 ts + A.length) B
          rw [← hc1, ← hc2]
          exact segM_lo (b9 := 0) (c9 := c2 + B.length) (fun a j _ _ _ _ => fr _ _ (fun z => by unfold sTe sEx at z; omega) (fun z => by unfold sGo at z; omega)) (by omega) (by omega) s4
        · show segM h4 (c0 + ln3 ts + A.length + B.length) C
          rw [← hc1, ← hc2]
          exact r4
      · rw [ln]
        omega
    · refine hd h4 ⟨o04, ?_, b + 1, by omega, by omega, d37⟩
      rw [hF, e0]
      exact d
  · rw [← hF] at d
    refine v_bd (termD (m := f0 + 5) (h := h) hL0 hf (by omega) ⟨o02, d, b, by omega, by omega, b37⟩) (fun _ h3 hq => ?_)
    have hL3 := dTl_L hL0 hq
    repeat (first | with_reducible apply v_lt | ((with_reducible apply w_MR); exact hL3; rfl) | ((with_reducible apply w_lv); exact hL3; assumption) | ((with_reducible apply vMI); exact hL3) | ((with_reducible apply vMS); exact hL3) | ((with_reducible apply vMC); exact hL3) | ((with_reducible apply vMZ); exact hL3; (first | exact Or.inl rfl | exact Or.inr rfl | exact b2i_01 _ | assumption)) | ((first | with_reducible apply w_MA | with_reducible apply w_MW | with_reducible apply w_MY | with_reducible apply w_MB | with_reducible apply w_MJ | with_reducible apply w_MK); exact hL3; rfl; rfl; rfl; (first | with_reducible rfl | with_reducible exact ixo _ | with_reducible exact ixoc _ _ | with_reducible exact ixom _ _ _ | with_reducible exact ixop _ _ | with_reducible exact ixod _ _ | assumption); omega))
    refine v_eq (mustD hL3 hq.2.1) ?_
    exact hd h3 hq
