/-! QUESTIONS: who would, the best, evenings to come -/
theorem st_credit {fu : Nat} (hfu : 1000 ≤ fu) (h : mh) (x0 : Int32) (hS : Sim h) : pr Sim (fX9_credit fu 0 x0 h) (fun h1 => fX10_credit fu 299 x0 h1) := by
  obtain ⟨t, u, l, T, N, D, hS⟩ := hS
  have hC := hS.1
  have hT := LT_of hC.1
  obtain ⟨hy, htx, hng, -, hwT, hwN⟩ := id hC
  have hr6 := hwT.1
  have ho6 := hwT.2.1
  by_cases q : ∃ r, r < nL9 T ∧ x0 = nI r
  · obtain ⟨o, ho, rfl⟩ := q
    refine pr_q (nI (bitsU (fun r => trustB T N o r (said T N r)) (nR T))) hS ?_ (fun h1 hS1 => ?_)
    · unfold fX9_credit
      repeat (first | with_reducible apply v_lt | ((with_reducible apply vXR4); exact hT) | ((with_reducible apply w_XR); exact (LM_T hT); rfl) | ((with_reducible apply w_TR); exact hT; rfl) | ((with_reducible apply w_UR); exact hT; rfl) | ((first | with_reducible apply vXI | with_reducible apply vXS | with_reducible apply vXC); exact (LM_T hT)) | ((first | with_reducible apply vT0I | with_reducible apply vT9I | with_reducible apply vT0C | with_reducible apply vT9C | with_reducible apply vT0S | with_reducible apply vT9S); exact hT) | ((first | with_reducible apply vNR0 | with_reducible apply vNR1 | with_reducible apply vNR2 | with_reducible apply vNR3 | with_reducible apply vNI | with_reducible apply vNS | with_reducible apply vNC); (first | assumption | exact m39 | exact m44); exact (LM_T hT)) | ((first | with_reducible apply w_NA | with_reducible apply w_NW); exact (LM_T hT); (first | assumption | exact m39 | exact m44); rfl; rfl; (first | with_reducible rfl | with_reducible exact ixo _ | with_reducible exact ixoc _ _ | with_reducible exact ixom _ _ _ | with_reducible exact ixop _ _ | with_reducible exact ixod _ _ | assumption); omega) | ((first | with_reducible apply w_TA | with_reducible apply w_TW | with_reducible apply w_TJ | with_reducible apply w_TK); exact hT; rfl; rfl; (first | with_reducible rfl | with_reducible exact ixo _ | with_reducible exact ixoc _ _ | with_reducible exact ixom _ _ _ | with_reducible exact ixop _ _ | with_reducible exact ixod _ _ | assumption); omega))
      refine v_eq (listC1 hC ho) ?_
      refine v_ie (by decide) ?_
      refine ok_mono (bitsL (V := fun h' => eo (sC t) h h') (p := fun r => trustB T N o r (said T N r)) (n := nR T) (by omega) hfu eo_rf ?_ ?_) (fun x h' z => ⟨eo_mono z.1 (fun a k q => sC_Q q), z.2⟩)
      · intro a h2 k hV
        have hC2 := CC_eo hV (fun a k q => q) hC
        have hT2 := LT_of hC2.1
        unfold bX9_credit_17
        dsimp only
        repeat (first | with_reducible apply v_lt | ((with_reducible apply vXR4); exact hT2) | ((with_reducible apply w_XR); exact (LM_T hT2); rfl) | ((with_reducible apply w_TR); exact hT2; rfl) | ((with_reducible apply w_UR); exact hT2; rfl) | ((first | with_reducible apply vXI | with_reducible apply vXS | with_reducible apply vXC); exact (LM_T hT2)) | ((first | with_reducible apply vT0I | with_reducible apply vT9I | with_reducible apply vT0C | with_reducible apply vT9C | with_reducible apply vT0S | with_reducible apply vT9S); exact hT2) | ((first | with_reducible apply vNR0 | with_reducible apply vNR1 | with_reducible apply vNR2 | with_reducible apply vNR3 | with_reducible apply vNI | with_reducible apply vNS | with_reducible apply vNC); (first | assumption | exact m39 | exact m44); exact (LM_T hT2)) | ((first | with_reducible apply w_NA | with_reducible apply w_NW); exact (LM_T hT2); (first | assumption | exact m39 | exact m44); rfl; rfl; (first | with_reducible rfl | with_reducible exact ixo _ | with_reducible exact ixoc _ _ | with_reducible exact ixom _ _ _ | with_reducible exact ixop _ _ | with_reducible exact ixod _ _ | assumption); omega) | ((first | with_reducible apply w_TA | with_reducible apply w_TW | with_reducible apply w_TJ | with_reducible apply w_TK); exact hT2; rfl; rfl; (first | with_reducible rfl | with_reducible exact ixo _ | with_reducible exact ixoc _ _ | with_reducible exact ixom _ _ _ | with_reducible exact ixop _ _ | with_reducible exact ixod _ _ | assumption); omega))
        rw [hC2.2.1.1]
        exact v_it (nI_le (Nat.le_refl _) (by omega)) (v_rI ⟨hV, rfl⟩)
      · intro i a h2 k Q hi hV h0 h1
        have hC2 := CC_eo hV (fun a k q => q) hC
        have hT2 := LT_of hC2.1
        unfold bX9_credit_17
        dsimp only
        repeat (first | with_reducible apply v_lt | ((with_reducible apply vXR4); exact hT2) | ((with_reducible apply w_XR); exact (LM_T hT2); rfl) | ((with_reducible apply w_TR); exact hT2; rfl) | ((with_reducible apply w_UR); exact hT2; rfl) | ((first | with_reducible apply vXI | with_reducible apply vXS | with_reducible apply vXC); exact (LM_T hT2)) | ((first | with_reducible apply vT0I | with_reducible apply vT9I | with_reducible apply vT0C | with_reducible apply vT9C | with_reducible apply vT0S | with_reducible apply vT9S); exact hT2) | ((first | with_reducible apply vNR0 | with_reducible apply vNR1 | with_reducible apply vNR2 | with_reducible apply vNR3 | with_reducible apply vNI | with_reducible apply vNS | with_reducible apply vNC); (first | assumption | exact m39 | exact m44); exact (LM_T hT2)) | ((first | with_reducible apply w_NA | with_reducible apply w_NW); exact (LM_T hT2); (first | assumption | exact m39 | exact m44); rfl; rfl; (first | with_reducible rfl | with_reducible exact ixo _ | with_reducible exact ixoc _ _ | with_reducible exact ixom _ _ _ | with_reducible exact ixop _ _ | with_reducible exact ixod _ _ | assumption); omega) | ((first | with_reducible apply w_TA | with_reducible apply w_TW | with_reducible apply w_TJ | with_reducible apply w_TK); exact hT2; rfl; rfl; (first | with_reducible rfl | with_reducible exact ixo _ | with_reducible exact ixoc _ _ | with_reducible exact ixom _ _ _ | with_reducible exact ixop _ _ | with_reducible exact ixod _ _ | assumption); omega))
        rw [hC2.2.1.1]
        refine v_ie (nI_ge hi (by omega)) ?_
        repeat (first | with_reducible apply v_lt | ((with_reducible apply vXR4); exact hT2) | ((with_reducible apply w_XR); exact (LM_T hT2); rfl) | ((with_reducible apply w_TR); exact hT2; rfl) | ((with_reducible apply w_UR); exact hT2; rfl) | ((first | with_reducible apply vXI | with_reducible apply vXS | with_reducible apply vXC); exact (LM_T hT2)) | ((first | with_reducible apply vT0I | with_reducible apply vT9I | with_reducible apply vT0C | with_reducible apply vT9C | with_reducible apply vT0S | with_reducible apply vT9S); exact hT2) | ((first | with_reducible apply vNR0 | with_reducible apply vNR1 | with_reducible apply vNR2 | with_reducible apply vNR3 | with_reducible apply vNI | with_reducible apply vNS | with_reducible apply vNC); (first | assumption | exact m39 | exact m44); exact (LM_T hT2)) | ((first | with_reducible apply w_NA | with_reducible apply w_NW); exact (LM_T hT2); (first | assumption | exact m39 | exact m44); rfl; rfl; (first | with_reducible rfl | with_reducible exact ixo _ | with_reducible exact ixoc _ _ | with_reducible exact ixom _ _ _ | with_reducible exact ixop _ _ | with_reducible exact ixod _ _ | assumption); omega) | ((first | with_reducible apply w_TA | with_reducible apply w_TW | with_reducible apply w_TJ | with_reducible apply w_TK); exact hT2; rfl; rfl; (first | with_reducible rfl | with_reducible exact ixo _ | with_reducible exact ixoc _ _ | with_reducible exact ixom _ _ _ | with_reducible exact ixop _ _ | with_reducible exact ixod _ _ | assumption); omega))
        refine v_bd (saidC hC2 hfu hi) (fun x h3 hq => ?_)
        obtain ⟨o3, rfl⟩ := hq
        have hC3 := CC_eo o3 (fun a k q => q) hC2
        have hT3 := LT_of hC3.1
        repeat (first | with_reducible apply v_lt | ((with_reducible apply vXR4); exact hT3) | ((with_reducible apply w_XR); exact (LM_T hT3); rfl) | ((with_reducible apply w_TR); exact hT3; rfl) | ((with_reducible apply w_UR); exact hT3; rfl) | ((first | with_reducible apply vXI | with_reducible apply vXS | with_reducible apply vXC); exact (LM_T hT3)) | ((first | with_reducible apply vT0I | with_reducible apply vT9I | with_reducible apply vT0C | with_reducible apply vT9C | with_reducible apply vT0S | with_reducible apply vT9S); exact hT3) | ((first | with_reducible apply vNR0 | with_reducible apply vNR1 | with_reducible apply vNR2 | with_reducible apply vNR3 | with_reducible apply vNI | with_reducible apply vNS | with_reducible apply vNC); (first | assumption | exact m39 | exact m44); exact (LM_T hT3)) | ((first | with_reducible apply w_NA | with_reducible apply w_NW); exact (LM_T hT3); (first | assumption | exact m39 | exact m44); rfl; rfl; (first | with_reducible rfl | with_reducible exact ixo _ | with_reducible exact ixoc _ _ | with_reducible exact ixom _ _ _ | with_reducible exact ixop _ _ | with_reducible exact ixod _ _ | assumption); omega) | ((first | with_reducible apply w_TA | with_reducible apply w_TW | with_reducible apply w_TJ | with_reducible apply w_TK); exact hT3; rfl; rfl; (first | with_reducible rfl | with_reducible exact ixo _ | with_reducible exact ixoc _ _ | with_reducible exact ixom _ _ _ | with_reducible exact ixop _ _ | with_reducible exact ixod _ _ | assumption); omega))
        refine tell1C (k := 1) hC3 hfu (by decide) hi ho (said_lt _ _ _) (fun h4 o4 => ?_)
        exact v_nl (h0 _ (eo_tr hV (eo_tr o3 o4))) (h1 _ (eo_tr hV (eo_tr o3 o4)))
    · have hM1 := hS1.2.1
      obtain ⟨hy1, hl, hlv1, htx1, hng1, -, -⟩ := id hM1
      have hL1 := LM_of hy1
      unfold fX10_credit
      repeat (first | with_reducible apply v_lt | ((with_reducible apply w_MR); exact hL1; rfl) | ((with_reducible apply w_lv); exact hL1; assumption) | ((with_reducible apply vMI); exact hL1) | ((with_reducible apply vMS); exact hL1) | ((with_reducible apply vMC); exact hL1) | ((with_reducible apply vMZ); exact hL1; (first | exact Or.inl rfl | exact Or.inr rfl | exact b2i_01 _ | assumption)) | ((first | with_reducible apply w_MA | with_reducible apply w_MW | with_reducible apply w_MY | with_reducible apply w_MB | with_reducible apply w_MJ | with_reducible apply w_MK); exact hL1; rfl; rfl; rfl; (first | with_reducible rfl | with_reducible exact ixo _ | with_reducible exact ixoc _ _ | with_reducible exact ixom _ _ _ | with_reducible exact ixop _ _ | with_reducible exact ixod _ _ | assumption); omega))
      refine v_eq (listM1 hM1 ho) ?_
      refine v_ie (by decide) ?_
      repeat (first | with_reducible apply v_lt | ((with_reducible apply w_MR); exact hL1; rfl) | ((with_reducible apply w_lv); exact hL1; assumption) | ((with_reducible apply vMI); exact hL1) | ((with_reducible apply vMS); exact hL1) | ((with_reducible apply vMC); exact hL1) | ((with_reducible apply vMZ); exact hL1; (first | exact Or.inl rfl | exact Or.inr rfl | exact b2i_01 _ | assumption)) | ((first | with_reducible apply w_MA | with_reducible apply w_MW | with_reducible apply w_MY | with_reducible apply w_MB | with_reducible apply w_MJ | with_reducible apply w_MK); exact hL1; rfl; rfl; rfl; (first | with_reducible rfl | with_reducible exact ixo _ | with_reducible exact ixoc _ _ | with_reducible exact ixom _ _ _ | with_reducible exact ixop _ _ | with_reducible exact ixod _ _ | assumption); omega))
      refine v_bd (copyM hM1 hfu) (fun _ h2 hq => ?_)
      obtain ⟨o2, hM2, s2, b2⟩ := hq
      obtain ⟨hy2, -, hlv2, htx2, hng2, -, -⟩ := id hM2
      have hL2 := LM_of hy2
      refine ok_mono (bitsL (V := fun h' => eo sV h2 h') (p := fun r => trustB T N o r (said T N r)) (n := nR T) (by omega) hfu eo_rf ?_ ?_) (fun x h' z => ⟨eo_tr o2 (eo_mono z.1 (fun a k q => sV_R q)), z.2⟩)
      · intro a h3 k hV
        have hM3 := MC_eo hV (fun a k q => by unfold sV at q; omega) hM2
        obtain ⟨hy3, -, hlv3, htx3, -⟩ := id hM3
        have hL3 := LM_of hy3
        unfold bX10_credit_18
        dsimp only
        repeat (first | with_reducible apply v_lt | ((with_reducible apply w_MR); exact hL3; rfl) | ((with_reducible apply w_lv); exact hL3; assumption) | ((with_reducible apply vMI); exact hL3) | ((with_reducible apply vMS); exact hL3) | ((with_reducible apply vMC); exact hL3) | ((with_reducible apply vMZ); exact hL3; (first | exact Or.inl rfl | exact Or.inr rfl | exact b2i_01 _ | assumption)) | ((first | with_reducible apply w_MA | with_reducible apply w_MW | with_reducible apply w_MY | with_reducible apply w_MB | with_reducible apply w_MJ | with_reducible apply w_MK); exact hL3; rfl; rfl; rfl; (first | with_reducible rfl | with_reducible exact ixo _ | with_reducible exact ixoc _ _ | with_reducible exact ixom _ _ _ | with_reducible exact ixop _ _ | with_reducible exact ixod _ _ | assumption); omega))
        rw [htx3.1]
        exact v_it (nI_le (Nat.le_refl _) (by omega)) (v_rI ⟨hV, rfl⟩)
      · intro i a h3 k Q hi hV h0 h1
        have hM3 := MC_eo hV (fun a k q => by unfold sV at q; omega) hM2
        obtain ⟨hy3, -, hlv3, htx3, -⟩ := id hM3
        have hL3 := LM_of hy3
        unfold bX10_credit_18
        dsimp only
        repeat (first | with_reducible apply v_lt | ((with_reducible apply w_MR); exact hL3; rfl) | ((with_reducible apply w_lv); exact hL3; assumption) | ((with_reducible apply vMI); exact hL3) | ((with_reducible apply vMS); exact hL3) | ((with_reducible apply vMC); exact hL3) | ((with_reducible apply vMZ); exact hL3; (first | exact Or.inl rfl | exact Or.inr rfl | exact b2i_01 _ | assumption)) | ((first | with_reducible apply w_MA | with_reducible apply w_MW | with_reducible apply w_MY | with_reducible apply w_MB | with_reducible apply w_MJ | with_reducible apply w_MK); exact hL3; rfl; rfl; rfl; (first | with_reducible rfl | with_reducible exact ixo _ | with_reducible exact ixoc _ _ | with_reducible exact ixom _ _ _ | with_reducible exact ixop _ _ | with_reducible exact ixod _ _ | assumption); omega))
        rw [htx3.1]
        refine v_ie (nI_ge hi (by omega)) ?_
        repeat (first | with_reducible apply v_lt | ((with_reducible apply w_MR); exact hL3; rfl) | ((with_reducible apply w_lv); exact hL3; assumption) | ((with_reducible apply vMI); exact hL3) | ((with_reducible apply vMS); exact hL3) | ((with_reducible apply vMC); exact hL3) | ((with_reducible apply vMZ); exact hL3; (first | exact Or.inl rfl | exact Or.inr rfl | exact b2i_01 _ | assumption)) | ((first | with_reducible apply w_MA | with_reducible apply w_MW | with_reducible apply w_MY | with_reducible apply w_MB | with_reducible apply w_MJ | with_reducible apply w_MK); exact hL3; rfl; rfl; rfl; (first | with_reducible rfl | with_reducible exact ixo _ | with_reducible exact ixoc _ _ | with_reducible exact ixom _ _ _ | with_reducible exact ixop _ _ | with_reducible exact ixod _ _ | assumption); omega))
        refine v_bd (saidM hM3 hfu hi) (fun x h4 hq => ?_)
        obtain ⟨o4, rfl⟩ := hq
        have hM4 := MC_eo o4 (fun a k q => by unfold sV at q; omega) hM3
        have hL4 := LM_of hM4.1
        repeat (first | with_reducible apply v_lt | ((with_reducible apply w_MR); exact hL4; rfl) | ((with_reducible apply w_lv); exact hL4; assumption) | ((with_reducible apply vMI); exact hL4) | ((with_reducible apply vMS); exact hL4) | ((with_reducible apply vMC); exact hL4) | ((with_reducible apply vMZ); exact hL4; (first | exact Or.inl rfl | exact Or.inr rfl | exact b2i_01 _ | assumption)) | ((first | with_reducible apply w_MA | with_reducible apply w_MW | with_reducible apply w_MY | with_reducible apply w_MB | with_reducible apply w_MJ | with_reducible apply w_MK); exact hL4; rfl; rfl; rfl; (first | with_reducible rfl | with_reducible exact ixo _ | with_reducible exact ixoc _ _ | with_reducible exact ixom _ _ _ | with_reducible exact ixop _ _ | with_reducible exact ixod _ _ | assumption); omega))
        refine v_bd (trustM hM4 hfu hi ho (said_lt _ _ _)) (fun x h5 hq => ?_)
        obtain ⟨o5, rfl⟩ := hq
        exact v_b (h0 _ (eo_tr hV (eo_tr o4 o5))) (h1 _ (eo_tr hV (eo_tr o4 o5)))
  · refine pr_q (-1) hS ?_ (fun h1 hS1 => ?_)
    · unfold fX9_credit
      repeat (first | with_reducible apply v_lt | ((with_reducible apply vXR4); exact hT) | ((with_reducible apply w_XR); exact (LM_T hT); rfl) | ((with_reducible apply w_TR); exact hT; rfl) | ((with_reducible apply w_UR); exact hT; rfl) | ((first | with_reducible apply vXI | with_reducible apply vXS | with_reducible apply vXC); exact (LM_T hT)) | ((first | with_reducible apply vT0I | with_reducible apply vT9I | with_reducible apply vT0C | with_reducible apply vT9C | with_reducible apply vT0S | with_reducible apply vT9S); exact hT) | ((first | with_reducible apply vNR0 | with_reducible apply vNR1 | with_reducible apply vNR2 | with_reducible apply vNR3 | with_reducible apply vNI | with_reducible apply vNS | with_reducible apply vNC); (first | assumption | exact m39 | exact m44); exact (LM_T hT)) | ((first | with_reducible apply w_NA | with_reducible apply w_NW); exact (LM_T hT); (first | assumption | exact m39 | exact m44); rfl; rfl; (first | with_reducible rfl | with_reducible exact ixo _ | with_reducible exact ixoc _ _ | with_reducible exact ixom _ _ _ | with_reducible exact ixop _ _ | with_reducible exact ixod _ _ | assumption); omega) | ((first | with_reducible apply w_TA | with_reducible apply w_TW | with_reducible apply w_TJ | with_reducible apply w_TK); exact hT; rfl; rfl; (first | with_reducible rfl | with_reducible exact ixo _ | with_reducible exact ixoc _ _ | with_reducible exact ixom _ _ _ | with_reducible exact ixop _ _ | with_reducible exact ixod _ _ | assumption); omega))
      exact v_eq (listC0 hC q) (v_it rfl (v_rI ⟨eo_rf, rfl⟩))
    · have hM1 := hS1.2.1
      obtain ⟨hy1, hl, hlv1, htx1, hng1, -, -⟩ := id hM1
      have hL1 := LM_of hy1
      unfold fX10_credit
      repeat (first | with_reducible apply v_lt | ((with_reducible apply w_MR); exact hL1; rfl) | ((with_reducible apply w_lv); exact hL1; assumption) | ((with_reducible apply vMI); exact hL1) | ((with_reducible apply vMS); exact hL1) | ((with_reducible apply vMC); exact hL1) | ((with_reducible apply vMZ); exact hL1; (first | exact Or.inl rfl | exact Or.inr rfl | exact b2i_01 _ | assumption)) | ((first | with_reducible apply w_MA | with_reducible apply w_MW | with_reducible apply w_MY | with_reducible apply w_MB | with_reducible apply w_MJ | with_reducible apply w_MK); exact hL1; rfl; rfl; rfl; (first | with_reducible rfl | with_reducible exact ixo _ | with_reducible exact ixoc _ _ | with_reducible exact ixom _ _ _ | with_reducible exact ixop _ _ | with_reducible exact ixod _ _ | assumption); omega))
      exact v_eq (listM0 hM1 q) (v_it rfl (v_rI ⟨eo_rf, rfl⟩))
theorem st_callers {fu : Nat} (hfu : 1000 ≤ fu) (h : mh) (x0 : Int32) (hS : Sim h) : pr Sim (fX9_callers fu 0 x0 h) (fun h1 => fX10_callers fu 299 x0 h1) := by
  obtain ⟨t, u, l, T, N, D, hS⟩ := hS
  have hC := hS.1
  have hT := LT_of hC.1
  obtain ⟨hy, htx, hng, -, hwT, hwN⟩ := id hC
  have hr6 := hwT.1
  have ho6 := hwT.2.1
  by_cases q : ∃ r, r < nR T ∧ x0 = nI r
  · obtain ⟨r, hr, rfl⟩ := q
    refine pr_q (nI (bitsU (fun o => onB N o && reB T o r && ringB T N o r (said T N r)) (nL9 T))) hS ?_ (fun h1 hS1 => ?_)
    · unfold fX9_callers
      repeat (first | with_reducible apply v_lt | ((with_reducible apply vXR4); exact hT) | ((with_reducible apply w_XR); exact (LM_T hT); rfl) | ((with_reducible apply w_TR); exact hT; rfl) | ((with_reducible apply w_UR); exact hT; rfl) | ((first | with_reducible apply vXI | with_reducible apply vXS | with_reducible apply vXC); exact (LM_T hT)) | ((first | with_reducible apply vT0I | with_reducible apply vT9I | with_reducible apply vT0C | with_reducible apply vT9C | with_reducible apply vT0S | with_reducible apply vT9S); exact hT) | ((first | with_reducible apply vNR0 | with_reducible apply vNR1 | with_reducible apply vNR2 | with_reducible apply vNR3 | with_reducible apply vNI | with_reducible apply vNS | with_reducible apply vNC); (first | assumption | exact m39 | exact m44); exact (LM_T hT)) | ((first | with_reducible apply w_NA | with_reducible apply w_NW); exact (LM_T hT); (first | assumption | exact m39 | exact m44); rfl; rfl; (first | with_reducible rfl | with_reducible exact ixo _ | with_reducible exact ixoc _ _ | with_reducible exact ixom _ _ _ | with_reducible exact ixop _ _ | with_reducible exact ixod _ _ | assumption); omega) | ((first | with_reducible apply w_TA | with_reducible apply w_TW | with_reducible apply w_TJ | with_reducible apply w_TK); exact hT; rfl; rfl; (first | with_reducible rfl | with_reducible exact ixo _ | with_reducible exact ixoc _ _ | with_reducible exact ixom _ _ _ | with_reducible exact ixop _ _ | with_reducible exact ixod _ _ | assumption); omega))
      refine v_eq (roleC1 hC hr) ?_
      refine v_ie (by decide) ?_
      repeat (first | with_reducible apply v_lt | ((with_reducible apply vXR4); exact hT) | ((with_reducible apply w_XR); exact (LM_T hT); rfl) | ((with_reducible apply w_TR); exact hT; rfl) | ((with_reducible apply w_UR); exact hT; rfl) | ((first | with_reducible apply vXI | with_reducible apply vXS | with_reducible apply vXC); exact (LM_T hT)) | ((first | with_reducible apply vT0I | with_reducible apply vT9I | with_reducible apply vT0C | with_reducible apply vT9C | with_reducible apply vT0S | with_reducible apply vT9S); exact hT) | ((first | with_reducible apply vNR0 | with_reducible apply vNR1 | with_reducible apply vNR2 | with_reducible apply vNR3 | with_reducible apply vNI | with_reducible apply vNS | with_reducible apply vNC); (first | assumption | exact m39 | exact m44); exact (LM_T hT)) | ((first | with_reducible apply w_NA | with_reducible apply w_NW); exact (LM_T hT); (first | assumption | exact m39 | exact m44); rfl; rfl; (first | with_reducible rfl | with_reducible exact ixo _ | with_reducible exact ixoc _ _ | with_reducible exact ixom _ _ _ | with_reducible exact ixop _ _ | with_reducible exact ixod _ _ | assumption); omega) | ((first | with_reducible apply w_TA | with_reducible apply w_TW | with_reducible apply w_TJ | with_reducible apply w_TK); exact hT; rfl; rfl; (first | with_reducible rfl | with_reducible exact ixo _ | with_reducible exact ixoc _ _ | with_reducible exact ixom _ _ _ | with_reducible exact ixop _ _ | with_reducible exact ixod _ _ | assumption); omega))
      refine v_bd (saidC hC hfu hr) (fun x h1 hq => ?_)
      obtain ⟨o1, rfl⟩ := hq
      refine ok_mono (bitsL (V := fun h' => eo (sC t) h h') (p := fun o => onB N o && reB T o r && ringB T N o r (said T N r)) (n := nL9 T) (by omega) hfu o1 ?_ ?_) (fun x h' z => ⟨eo_mono z.1 (fun a k q => sC_Q q), z.2⟩)
      · intro a h2 k hV
        have hC2 := CC_eo hV (fun a k q => q) hC
        have hT2 := LT_of hC2.1
        unfold bX9_callers_31
        dsimp only
        repeat (first | with_reducible apply v_lt | ((with_reducible apply vXR4); exact hT2) | ((with_reducible apply w_XR); exact (LM_T hT2); rfl) | ((with_reducible apply w_TR); exact hT2; rfl) | ((with_reducible apply w_UR); exact hT2; rfl) | ((first | with_reducible apply vXI | with_reducible apply vXS | with_reducible apply vXC); exact (LM_T hT2)) | ((first | with_reducible apply vT0I | with_reducible apply vT9I | with_reducible apply vT0C | with_reducible apply vT9C | with_reducible apply vT0S | with_reducible apply vT9S); exact hT2) | ((first | with_reducible apply vNR0 | with_reducible apply vNR1 | with_reducible apply vNR2 | with_reducible apply vNR3 | with_reducible apply vNI | with_reducible apply vNS | with_reducible apply vNC); (first | assumption | exact m39 | exact m44); exact (LM_T hT2)) | ((first | with_reducible apply w_NA | with_reducible apply w_NW); exact (LM_T hT2); (first | assumption | exact m39 | exact m44); rfl; rfl; (first | with_reducible rfl | with_reducible exact ixo _ | with_reducible exact ixoc _ _ | with_reducible exact ixom _ _ _ | with_reducible exact ixop _ _ | with_reducible exact ixod _ _ | assumption); omega) | ((first | with_reducible apply w_TA | with_reducible apply w_TW | with_reducible apply w_TJ | with_reducible apply w_TK); exact hT2; rfl; rfl; (first | with_reducible rfl | with_reducible exact ixo _ | with_reducible exact ixoc _ _ | with_reducible exact ixom _ _ _ | with_reducible exact ixop _ _ | with_reducible exact ixod _ _ | assumption); omega))
        rw [hC2.2.1.2.1]
        exact v_it (nI_le (Nat.le_refl _) (by omega)) (v_rI ⟨hV, rfl⟩)
      · intro i a h2 k Q hi hV h0 h1
        have hC2 := CC_eo hV (fun a k q => q) hC
        have hT2 := LT_of hC2.1
        unfold bX9_callers_31
        dsimp only
        repeat (first | with_reducible apply v_lt | ((with_reducible apply vXR4); exact hT2) | ((with_reducible apply w_XR); exact (LM_T hT2); rfl) | ((with_reducible apply w_TR); exact hT2; rfl) | ((with_reducible apply w_UR); exact hT2; rfl) | ((first | with_reducible apply vXI | with_reducible apply vXS | with_reducible apply vXC); exact (LM_T hT2)) | ((first | with_reducible apply vT0I | with_reducible apply vT9I | with_reducible apply vT0C | with_reducible apply vT9C | with_reducible apply vT0S | with_reducible apply vT9S); exact hT2) | ((first | with_reducible apply vNR0 | with_reducible apply vNR1 | with_reducible apply vNR2 | with_reducible apply vNR3 | with_reducible apply vNI | with_reducible apply vNS | with_reducible apply vNC); (first | assumption | exact m39 | exact m44); exact (LM_T hT2)) | ((first | with_reducible apply w_NA | with_reducible apply w_NW); exact (LM_T hT2); (first | assumption | exact m39 | exact m44); rfl; rfl; (first | with_reducible rfl | with_reducible exact ixo _ | with_reducible exact ixoc _ _ | with_reducible exact ixom _ _ _ | with_reducible exact ixop _ _ | with_reducible exact ixod _ _ | assumption); omega) | ((first | with_reducible apply w_TA | with_reducible apply w_TW | with_reducible apply w_TJ | with_reducible apply w_TK); exact hT2; rfl; rfl; (first | with_reducible rfl | with_reducible exact ixo _ | with_reducible exact ixoc _ _ | with_reducible exact ixom _ _ _ | with_reducible exact ixop _ _ | with_reducible exact ixod _ _ | assumption); omega))
        rw [hC2.2.1.2.1]
        refine v_ie (nI_ge hi (by omega)) ?_
        repeat (first | with_reducible apply v_lt | ((with_reducible apply vXR4); exact hT2) | ((with_reducible apply w_XR); exact (LM_T hT2); rfl) | ((with_reducible apply w_TR); exact hT2; rfl) | ((with_reducible apply w_UR); exact hT2; rfl) | ((first | with_reducible apply vXI | with_reducible apply vXS | with_reducible apply vXC); exact (LM_T hT2)) | ((first | with_reducible apply vT0I | with_reducible apply vT9I | with_reducible apply vT0C | with_reducible apply vT9C | with_reducible apply vT0S | with_reducible apply vT9S); exact hT2) | ((first | with_reducible apply vNR0 | with_reducible apply vNR1 | with_reducible apply vNR2 | with_reducible apply vNR3 | with_reducible apply vNI | with_reducible apply vNS | with_reducible apply vNC); (first | assumption | exact m39 | exact m44); exact (LM_T hT2)) | ((first | with_reducible apply w_NA | with_reducible apply w_NW); exact (LM_T hT2); (first | assumption | exact m39 | exact m44); rfl; rfl; (first | with_reducible rfl | with_reducible exact ixo _ | with_reducible exact ixoc _ _ | with_reducible exact ixom _ _ _ | with_reducible exact ixop _ _ | with_reducible exact ixod _ _ | assumption); omega) | ((first | with_reducible apply w_TA | with_reducible apply w_TW | with_reducible apply w_TJ | with_reducible apply w_TK); exact hT2; rfl; rfl; (first | with_reducible rfl | with_reducible exact ixo _ | with_reducible exact ixoc _ _ | with_reducible exact ixom _ _ _ | with_reducible exact ixop _ _ | with_reducible exact ixod _ _ | assumption); omega))
        refine v_bd (lookAtC hC2 hfu hr hi (said_lt _ _ _)) (fun _ h3 hq => ?_)
        obtain ⟨o3, hv⟩ := hq
        have hC3 : CC t u T 39 N h3 := CC_eo o3 (fun a k q => Or.inl q) hC2
        have hT3 := LT_of hC3.1
        have o13 : eo (sC t) h h3 := eo_tr hV (eo_mono o3 (fun a k q => Or.inl q))
        repeat (first | with_reducible apply v_lt | ((with_reducible apply vXR4); exact hT3) | ((with_reducible apply w_XR); exact (LM_T hT3); rfl) | ((with_reducible apply w_TR); exact hT3; rfl) | ((with_reducible apply w_UR); exact hT3; rfl) | ((first | with_reducible apply vXI | with_reducible apply vXS | with_reducible apply vXC); exact (LM_T hT3)) | ((first | with_reducible apply vT0I | with_reducible apply vT9I | with_reducible apply vT0C | with_reducible apply vT9C | with_reducible apply vT0S | with_reducible apply vT9S); exact hT3) | ((first | with_reducible apply vNR0 | with_reducible apply vNR1 | with_reducible apply vNR2 | with_reducible apply vNR3 | with_reducible apply vNI | with_reducible apply vNS | with_reducible apply vNC); (first | assumption | exact m39 | exact m44); exact (LM_T hT3)) | ((first | with_reducible apply w_NA | with_reducible apply w_NW); exact (LM_T hT3); (first | assumption | exact m39 | exact m44); rfl; rfl; (first | with_reducible rfl | with_reducible exact ixo _ | with_reducible exact ixoc _ _ | with_reducible exact ixom _ _ _ | with_reducible exact ixop _ _ | with_reducible exact ixod _ _ | assumption); omega) | ((first | with_reducible apply w_TA | with_reducible apply w_TW | with_reducible apply w_TJ | with_reducible apply w_TK); exact hT3; rfl; rfl; (first | with_reducible rfl | with_reducible exact ixo _ | with_reducible exact ixoc _ _ | with_reducible exact ixom _ _ _ | with_reducible exact ixop _ _ | with_reducible exact ixod _ _ | assumption); omega))
        refine v_eq (isOnC hC3 (by omega)) ?_
        refine v_b (fun e => h0 _ o13 (by rw [e]; rfl)) (fun e => ?_)
        repeat (first | with_reducible apply v_lt | ((with_reducible apply vXR4); exact hT3) | ((with_reducible apply w_XR); exact (LM_T hT3); rfl) | ((with_reducible apply w_TR); exact hT3; rfl) | ((with_reducible apply w_UR); exact hT3; rfl) | ((first | with_reducible apply vXI | with_reducible apply vXS | with_reducible apply vXC); exact (LM_T hT3)) | ((first | with_reducible apply vT0I | with_reducible apply vT9I | with_reducible apply vT0C | with_reducible apply vT9C | with_reducible apply vT0S | with_reducible apply vT9S); exact hT3) | ((first | with_reducible apply vNR0 | with_reducible apply vNR1 | with_reducible apply vNR2 | with_reducible apply vNR3 | with_reducible apply vNI | with_reducible apply vNS | with_reducible apply vNC); (first | assumption | exact m39 | exact m44); exact (LM_T hT3)) | ((first | with_reducible apply w_NA | with_reducible apply w_NW); exact (LM_T hT3); (first | assumption | exact m39 | exact m44); rfl; rfl; (first | with_reducible rfl | with_reducible exact ixo _ | with_reducible exact ixoc _ _ | with_reducible exact ixom _ _ _ | with_reducible exact ixop _ _ | with_reducible exact ixod _ _ | assumption); omega) | ((first | with_reducible apply w_TA | with_reducible apply w_TW | with_reducible apply w_TJ | with_reducible apply w_TK); exact hT3; rfl; rfl; (first | with_reducible rfl | with_reducible exact ixo _ | with_reducible exact ixoc _ _ | with_reducible exact ixom _ _ _ | with_reducible exact ixop _ _ | with_reducible exact ixod _ _ | assumption); omega))
        refine v_eq (isReallyC hC3 hr hi) ?_
        refine v_b (fun e2 => h0 _ o13 (by rw [e2, Bool.and_false]; rfl)) (fun e2 => ?_)
        repeat (first | with_reducible apply v_lt | ((with_reducible apply vXR4); exact hT3) | ((with_reducible apply w_XR); exact (LM_T hT3); rfl) | ((with_reducible apply w_TR); exact hT3; rfl) | ((with_reducible apply w_UR); exact hT3; rfl) | ((first | with_reducible apply vXI | with_reducible apply vXS | with_reducible apply vXC); exact (LM_T hT3)) | ((first | with_reducible apply vT0I | with_reducible apply vT9I | with_reducible apply vT0C | with_reducible apply vT9C | with_reducible apply vT0S | with_reducible apply vT9S); exact hT3) | ((first | with_reducible apply vNR0 | with_reducible apply vNR1 | with_reducible apply vNR2 | with_reducible apply vNR3 | with_reducible apply vNI | with_reducible apply vNS | with_reducible apply vNC); (first | assumption | exact m39 | exact m44); exact (LM_T hT3)) | ((first | with_reducible apply w_NA | with_reducible apply w_NW); exact (LM_T hT3); (first | assumption | exact m39 | exact m44); rfl; rfl; (first | with_reducible rfl | with_reducible exact ixo _ | with_reducible exact ixoc _ _ | with_reducible exact ixom _ _ _ | with_reducible exact ixop _ _ | with_reducible exact ixod _ _ | assumption); omega) | ((first | with_reducible apply w_TA | with_reducible apply w_TW | with_reducible apply w_TJ | with_reducible apply w_TK); exact hT3; rfl; rfl; (first | with_reducible rfl | with_reducible exact ixo _ | with_reducible exact ixoc _ _ | with_reducible exact ixom _ _ _ | with_reducible exact ixop _ _ | with_reducible exact ixod _ _ | assumption); omega))
        refine v_bd (lawForC (k := 3) hC3 hfu (by decide) hv) (fun x h4 hq => ?_)
        obtain ⟨o4, rfl⟩ := hq
        have o14 : eo (sC t) h h4 := eo_tr o13 (eo_mono o4 (fun a k q => by unfold sTC at q; unfold sC; omega))
        exact v_nl (fun e3 => h0 _ o14 (by rw [show ringB T N i r (said T N r) = false from e3, Bool.and_false])) (fun e3 => h1 _ o14 (by rw [e, e2, show ringB T N i r (said T N r) = true from e3]; rfl))
    · have hM1 := hS1.2.1
      obtain ⟨hy1, hl, hlv1, htx1, hng1, -, -⟩ := id hM1
      have hL1 := LM_of hy1
      unfold fX10_callers
      repeat (first | with_reducible apply v_lt | ((with_reducible apply w_MR); exact hL1; rfl) | ((with_reducible apply w_lv); exact hL1; assumption) | ((with_reducible apply vMI); exact hL1) | ((with_reducible apply vMS); exact hL1) | ((with_reducible apply vMC); exact hL1) | ((with_reducible apply vMZ); exact hL1; (first | exact Or.inl rfl | exact Or.inr rfl | exact b2i_01 _ | assumption)) | ((first | with_reducible apply w_MA | with_reducible apply w_MW | with_reducible apply w_MY | with_reducible apply w_MB | with_reducible apply w_MJ | with_reducible apply w_MK); exact hL1; rfl; rfl; rfl; (first | with_reducible rfl | with_reducible exact ixo _ | with_reducible exact ixoc _ _ | with_reducible exact ixom _ _ _ | with_reducible exact ixop _ _ | with_reducible exact ixod _ _ | assumption); omega))
      refine v_eq (roleM1 hM1 hr) ?_
      refine v_ie (by decide) ?_
      repeat (first | with_reducible apply v_lt | ((with_reducible apply w_MR); exact hL1; rfl) | ((with_reducible apply w_lv); exact hL1; assumption) | ((with_reducible apply vMI); exact hL1) | ((with_reducible apply vMS); exact hL1) | ((with_reducible apply vMC); exact hL1) | ((with_reducible apply vMZ); exact hL1; (first | exact Or.inl rfl | exact Or.inr rfl | exact b2i_01 _ | assumption)) | ((first | with_reducible apply w_MA | with_reducible apply w_MW | with_reducible apply w_MY | with_reducible apply w_MB | with_reducible apply w_MJ | with_reducible apply w_MK); exact hL1; rfl; rfl; rfl; (first | with_reducible rfl | with_reducible exact ixo _ | with_reducible exact ixoc _ _ | with_reducible exact ixom _ _ _ | with_reducible exact ixop _ _ | with_reducible exact ixod _ _ | assumption); omega))
      refine v_bd (copyM hM1 hfu) (fun _ h2 hq => ?_)
      obtain ⟨o2, hM2, s2, b2⟩ := hq
      obtain ⟨hy2, -, hlv2, htx2, hng2, -, -⟩ := id hM2
      have hL2 := LM_of hy2
      repeat (first | with_reducible apply v_lt | ((with_reducible apply w_MR); exact hL2; rfl) | ((with_reducible apply w_lv); exact hL2; assumption) | ((with_reducible apply vMI); exact hL2) | ((with_reducible apply vMS); exact hL2) | ((with_reducible apply vMC); exact hL2) | ((with_reducible apply vMZ); exact hL2; (first | exact Or.inl rfl | exact Or.inr rfl | exact b2i_01 _ | assumption)) | ((first | with_reducible apply w_MA | with_reducible apply w_MW | with_reducible apply w_MY | with_reducible apply w_MB | with_reducible apply w_MJ | with_reducible apply w_MK); exact hL2; rfl; rfl; rfl; (first | with_reducible rfl | with_reducible exact ixo _ | with_reducible exact ixoc _ _ | with_reducible exact ixom _ _ _ | with_reducible exact ixop _ _ | with_reducible exact ixod _ _ | assumption); omega))
      refine v_bd (saidM hM2 hfu hr) (fun x h3 hq => ?_)
      obtain ⟨o3, rfl⟩ := hq
      refine ok_mono (bitsL (V := fun h' => eo sV h2 h') (p := fun o => onB N o && reB T o r && ringB T N o r (said T N r)) (n := nL9 T) (by omega) hfu o3 ?_ ?_) (fun x h' z => ⟨eo_tr o2 (eo_mono z.1 (fun a k q => sV_R q)), z.2⟩)
      · intro a h3 k hV
        have hM3 := MC_eo hV (fun a k q => by unfold sV at q; omega) hM2
        obtain ⟨hy3, -, hlv3, htx3, -⟩ := id hM3
        have hL3 := LM_of hy3
        unfold bX10_callers_25
        dsimp only
        repeat (first | with_reducible apply v_lt | ((with_reducible apply w_MR); exact hL3; rfl) | ((with_reducible apply w_lv); exact hL3; assumption) | ((with_reducible apply vMI); exact hL3) | ((with_reducible apply vMS); exact hL3) | ((with_reducible apply vMC); exact hL3) | ((with_reducible apply vMZ); exact hL3; (first | exact Or.inl rfl | exact Or.inr rfl | exact b2i_01 _ | assumption)) | ((first | with_reducible apply w_MA | with_reducible apply w_MW | with_reducible apply w_MY | with_reducible apply w_MB | with_reducible apply w_MJ | with_reducible apply w_MK); exact hL3; rfl; rfl; rfl; (first | with_reducible rfl | with_reducible exact ixo _ | with_reducible exact ixoc _ _ | with_reducible exact ixom _ _ _ | with_reducible exact ixop _ _ | with_reducible exact ixod _ _ | assumption); omega))
        rw [htx3.2.1]
        exact v_it (nI_le (Nat.le_refl _) (by omega)) (v_rI ⟨hV, rfl⟩)
      · intro i a h3 k Q hi hV h0 h1
        have hM3 := MC_eo hV (fun a k q => by unfold sV at q; omega) hM2
        obtain ⟨hy3, -, hlv3, htx3, -⟩ := id hM3
        have hL3 := LM_of hy3
        unfold bX10_callers_25
        dsimp only
        repeat (first | with_reducible apply v_lt | ((with_reducible apply w_MR); exact hL3; rfl) | ((with_reducible apply w_lv); exact hL3; assumption) | ((with_reducible apply vMI); exact hL3) | ((with_reducible apply vMS); exact hL3) | ((with_reducible apply vMC); exact hL3) | ((with_reducible apply vMZ); exact hL3; (first | exact Or.inl rfl | exact Or.inr rfl | exact b2i_01 _ | assumption)) | ((first | with_reducible apply w_MA | with_reducible apply w_MW | with_reducible apply w_MY | with_reducible apply w_MB | with_reducible apply w_MJ | with_reducible apply w_MK); exact hL3; rfl; rfl; rfl; (first | with_reducible rfl | with_reducible exact ixo _ | with_reducible exact ixoc _ _ | with_reducible exact ixom _ _ _ | with_reducible exact ixop _ _ | with_reducible exact ixod _ _ | assumption); omega))
        rw [htx3.2.1]
        refine v_ie (nI_ge hi (by omega)) ?_
        repeat (first | with_reducible apply v_lt | ((with_reducible apply w_MR); exact hL3; rfl) | ((with_reducible apply w_lv); exact hL3; assumption) | ((with_reducible apply vMI); exact hL3) | ((with_reducible apply vMS); exact hL3) | ((with_reducible apply vMC); exact hL3) | ((with_reducible apply vMZ); exact hL3; (first | exact Or.inl rfl | exact Or.inr rfl | exact b2i_01 _ | assumption)) | ((first | with_reducible apply w_MA | with_reducible apply w_MW | with_reducible apply w_MY | with_reducible apply w_MB | with_reducible apply w_MJ | with_reducible apply w_MK); exact hL3; rfl; rfl; rfl; (first | with_reducible rfl | with_reducible exact ixo _ | with_reducible exact ixoc _ _ | with_reducible exact ixom _ _ _ | with_reducible exact ixop _ _ | with_reducible exact ixod _ _ | assumption); omega))
        refine v_eq (isReallyM hM3 hr hi) ?_
        refine v_b (fun e2 => h0 _ hV (by rw [show reB T i r = false from e2, Bool.and_false]; rfl)) (fun e2 => ?_)
        repeat (first | with_reducible apply v_lt | ((with_reducible apply w_MR); exact hL3; rfl) | ((with_reducible apply w_lv); exact hL3; assumption) | ((with_reducible apply vMI); exact hL3) | ((with_reducible apply vMS); exact hL3) | ((with_reducible apply vMC); exact hL3) | ((with_reducible apply vMZ); exact hL3; (first | exact Or.inl rfl | exact Or.inr rfl | exact b2i_01 _ | assumption)) | ((first | with_reducible apply w_MA | with_reducible apply w_MW | with_reducible apply w_MY | with_reducible apply w_MB | with_reducible apply w_MJ | with_reducible apply w_MK); exact hL3; rfl; rfl; rfl; (first | with_reducible rfl | with_reducible exact ixo _ | with_reducible exact ixoc _ _ | with_reducible exact ixom _ _ _ | with_reducible exact ixop _ _ | with_reducible exact ixod _ _ | assumption); omega))
        refine v_eq (isOnM hM3 (by omega)) ?_
        refine v_b (fun e => h0 _ hV (by rw [e]; rfl)) (fun e => ?_)
        repeat (first | with_reducible apply v_lt | ((with_reducible apply w_MR); exact hL3; rfl) | ((with_reducible apply w_lv); exact hL3; assumption) | ((with_reducible apply vMI); exact hL3) | ((with_reducible apply vMS); exact hL3) | ((with_reducible apply vMC); exact hL3) | ((with_reducible apply vMZ); exact hL3; (first | exact Or.inl rfl | exact Or.inr rfl | exact b2i_01 _ | assumption)) | ((first | with_reducible apply w_MA | with_reducible apply w_MW | with_reducible apply w_MY | with_reducible apply w_MB | with_reducible apply w_MJ | with_reducible apply w_MK); exact hL3; rfl; rfl; rfl; (first | with_reducible rfl | with_reducible exact ixo _ | with_reducible exact ixoc _ _ | with_reducible exact ixom _ _ _ | with_reducible exact ixop _ _ | with_reducible exact ixod _ _ | assumption); omega))
        refine v_bd (ringM hM3 hfu hr hi (said_lt _ _ _)) (fun x h5 hq => ?_)
        obtain ⟨o5, rfl⟩ := hq
        exact v_b (fun e3 => h0 _ (eo_tr hV o5) (by rw [e3, Bool.and_false])) (fun e3 => h1 _ (eo_tr hV o5) (by rw [e, show reB T i r = true from e2, e3]; rfl))
  · refine pr_q (-1) hS ?_ (fun h1 hS1 => ?_)
    · unfold fX9_callers
      repeat (first | with_reducible apply v_lt | ((with_reducible apply vXR4); exact hT) | ((with_reducible apply w_XR); exact (LM_T hT); rfl) | ((with_reducible apply w_TR); exact hT; rfl) | ((with_reducible apply w_UR); exact hT; rfl) | ((first | with_reducible apply vXI | with_reducible apply vXS | with_reducible apply vXC); exact (LM_T hT)) | ((first | with_reducible apply vT0I | with_reducible apply vT9I | with_reducible apply vT0C | with_reducible apply vT9C | with_reducible apply vT0S | with_reducible apply vT9S); exact hT) | ((first | with_reducible apply vNR0 | with_reducible apply vNR1 | with_reducible apply vNR2 | with_reducible apply vNR3 | with_reducible apply vNI | with_reducible apply vNS | with_reducible apply vNC); (first | assumption | exact m39 | exact m44); exact (LM_T hT)) | ((first | with_reducible apply w_NA | with_reducible apply w_NW); exact (LM_T hT); (first | assumption | exact m39 | exact m44); rfl; rfl; (first | with_reducible rfl | with_reducible exact ixo _ | with_reducible exact ixoc _ _ | with_reducible exact ixom _ _ _ | with_reducible exact ixop _ _ | with_reducible exact ixod _ _ | assumption); omega) | ((first | with_reducible apply w_TA | with_reducible apply w_TW | with_reducible apply w_TJ | with_reducible apply w_TK); exact hT; rfl; rfl; (first | with_reducible rfl | with_reducible exact ixo _ | with_reducible exact ixoc _ _ | with_reducible exact ixom _ _ _ | with_reducible exact ixop _ _ | with_reducible exact ixod _ _ | assumption); omega))
      exact v_eq (roleC0 hC q) (v_it rfl (v_rI ⟨eo_rf, rfl⟩))
    · have hM1 := hS1.2.1
      obtain ⟨hy1, hl, hlv1, htx1, hng1, -, -⟩ := id hM1
      have hL1 := LM_of hy1
      unfold fX10_callers
      repeat (first | with_reducible apply v_lt | ((with_reducible apply w_MR); exact hL1; rfl) | ((with_reducible apply w_lv); exact hL1; assumption) | ((with_reducible apply vMI); exact hL1) | ((with_reducible apply vMS); exact hL1) | ((with_reducible apply vMC); exact hL1) | ((with_reducible apply vMZ); exact hL1; (first | exact Or.inl rfl | exact Or.inr rfl | exact b2i_01 _ | assumption)) | ((first | with_reducible apply w_MA | with_reducible apply w_MW | with_reducible apply w_MY | with_reducible apply w_MB | with_reducible apply w_MJ | with_reducible apply w_MK); exact hL1; rfl; rfl; rfl; (first | with_reducible rfl | with_reducible exact ixo _ | with_reducible exact ixoc _ _ | with_reducible exact ixom _ _ _ | with_reducible exact ixop _ _ | with_reducible exact ixod _ _ | assumption); omega))
      exact v_eq (roleM0 hM1 q) (v_it rfl (v_rI ⟨eo_rf, rfl⟩))
theorem st_sway {fu : Nat} (hfu : 1000 ≤ fu) (h : mh) (x0 : Int32) (hS : Sim h) : pr Sim (fX9_sway fu 0 x0 h) (fun h1 => fX10_sway fu 299 x0 h1) := by
  obtain ⟨t, u, l, T, N, D, hS⟩ := hS
  have hC := hS.1
  have hT := LT_of hC.1
  obtain ⟨hy, htx, hng, -, hwT, hwN⟩ := id hC
  have hr6 := hwT.1
  have ho6 := hwT.2.1
  by_cases q : ∃ r, r < nR T ∧ x0 = nI r
  · obtain ⟨r, hr, rfl⟩ := q
    refine pr_q (beV (pass T N (some r) false) - beV N) hS ?_ (fun h1 hS1 => ?_)
    · unfold fX9_sway
      repeat (first | with_reducible apply v_lt | ((with_reducible apply vXR4); exact hT) | ((with_reducible apply w_XR); exact (LM_T hT); rfl) | ((with_reducible apply w_TR); exact hT; rfl) | ((with_reducible apply w_UR); exact hT; rfl) | ((first | with_reducible apply vXI | with_reducible apply vXS | with_reducible apply vXC); exact (LM_T hT)) | ((first | with_reducible apply vT0I | with_reducible apply vT9I | with_reducible apply vT0C | with_reducible apply vT9C | with_reducible apply vT0S | with_reducible apply vT9S); exact hT) | ((first | with_reducible apply vNR0 | with_reducible apply vNR1 | with_reducible apply vNR2 | with_reducible apply vNR3 | with_reducible apply vNI | with_reducible apply vNS | with_reducible apply vNC); (first | assumption | exact m39 | exact m44); exact (LM_T hT)) | ((first | with_reducible apply w_NA | with_reducible apply w_NW); exact (LM_T hT); (first | assumption | exact m39 | exact m44); rfl; rfl; (first | with_reducible rfl | with_reducible exact ixo _ | with_reducible exact ixoc _ _ | with_reducible exact ixom _ _ _ | with_reducible exact ixop _ _ | with_reducible exact ixod _ _ | assumption); omega) | ((first | with_reducible apply w_TA | with_reducible apply w_TW | with_reducible apply w_TJ | with_reducible apply w_TK); exact hT; rfl; rfl; (first | with_reducible rfl | with_reducible exact ixo _ | with_reducible exact ixoc _ _ | with_reducible exact ixom _ _ _ | with_reducible exact ixop _ _ | with_reducible exact ixod _ _ | assumption); omega))
      refine v_eq (roleC1 hC hr) ?_
      refine v_ie (by decide) ?_
      repeat (first | with_reducible apply v_lt | ((with_reducible apply vXR4); exact hT) | ((with_reducible apply w_XR); exact (LM_T hT); rfl) | ((with_reducible apply w_TR); exact hT; rfl) | ((with_reducible apply w_UR); exact hT; rfl) | ((first | with_reducible apply vXI | with_reducible apply vXS | with_reducible apply vXC); exact (LM_T hT)) | ((first | with_reducible apply vT0I | with_reducible apply vT9I | with_reducible apply vT0C | with_reducible apply vT9C | with_reducible apply vT0S | with_reducible apply vT9S); exact hT) | ((first | with_reducible apply vNR0 | with_reducible apply vNR1 | with_reducible apply vNR2 | with_reducible apply vNR3 | with_reducible apply vNI | with_reducible apply vNS | with_reducible apply vNC); (first | assumption | exact m39 | exact m44); exact (LM_T hT)) | ((first | with_reducible apply w_NA | with_reducible apply w_NW); exact (LM_T hT); (first | assumption | exact m39 | exact m44); rfl; rfl; (first | with_reducible rfl | with_reducible exact ixo _ | with_reducible exact ixoc _ _ | with_reducible exact ixom _ _ _ | with_reducible exact ixop _ _ | with_reducible exact ixod _ _ | assumption); omega) | ((first | with_reducible apply w_TA | with_reducible apply w_TW | with_reducible apply w_TJ | with_reducible apply w_TK); exact hT; rfl; rfl; (first | with_reducible rfl | with_reducible exact ixo _ | with_reducible exact ixoc _ _ | with_reducible exact ixom _ _ _ | with_reducible exact ixop _ _ | with_reducible exact ixod _ _ | assumption); omega))
      refine v_bd (tryC hC hfu hr) (fun _ h1 hq => ?_)
      obtain ⟨o1, hC1, hD1⟩ := hq
      have hT1 := LT_of hC1.1
      repeat (first | with_reducible apply v_lt | ((with_reducible apply vXR4); exact hT1) | ((with_reducible apply w_XR); exact (LM_T hT1); rfl) | ((with_reducible apply w_TR); exact hT1; rfl) | ((with_reducible apply w_UR); exact hT1; rfl) | ((first | with_reducible apply vXI | with_reducible apply vXS | with_reducible apply vXC); exact (LM_T hT1)) | ((first | with_reducible apply vT0I | with_reducible apply vT9I | with_reducible apply vT0C | with_reducible apply vT9C | with_reducible apply vT0S | with_reducible apply vT9S); exact hT1) | ((first | with_reducible apply vNR0 | with_reducible apply vNR1 | with_reducible apply vNR2 | with_reducible apply vNR3 | with_reducible apply vNI | with_reducible apply vNS | with_reducible apply vNC); (first | assumption | exact m39 | exact m44); exact (LM_T hT1)) | ((first | with_reducible apply w_NA | with_reducible apply w_NW); exact (LM_T hT1); (first | assumption | exact m39 | exact m44); rfl; rfl; (first | with_reducible rfl | with_reducible exact ixo _ | with_reducible exact ixoc _ _ | with_reducible exact ixom _ _ _ | with_reducible exact ixop _ _ | with_reducible exact ixod _ _ | assumption); omega) | ((first | with_reducible apply w_TA | with_reducible apply w_TW | with_reducible apply w_TJ | with_reducible apply w_TK); exact hT1; rfl; rfl; (first | with_reducible rfl | with_reducible exact ixo _ | with_reducible exact ixoc _ _ | with_reducible exact ixom _ _ _ | with_reducible exact ixop _ _ | with_reducible exact ixod _ _ | assumption); omega))
      refine v_eq (beliefC hD1 hfu) ?_
      repeat (first | with_reducible apply v_lt | ((with_reducible apply vXR4); exact hT1) | ((with_reducible apply w_XR); exact (LM_T hT1); rfl) | ((with_reducible apply w_TR); exact hT1; rfl) | ((with_reducible apply w_UR); exact hT1; rfl) | ((first | with_reducible apply vXI | with_reducible apply vXS | with_reducible apply vXC); exact (LM_T hT1)) | ((first | with_reducible apply vT0I | with_reducible apply vT9I | with_reducible apply vT0C | with_reducible apply vT9C | with_reducible apply vT0S | with_reducible apply vT9S); exact hT1) | ((first | with_reducible apply vNR0 | with_reducible apply vNR1 | with_reducible apply vNR2 | with_reducible apply vNR3 | with_reducible apply vNI | with_reducible apply vNS | with_reducible apply vNC); (first | assumption | exact m39 | exact m44); exact (LM_T hT1)) | ((first | with_reducible apply w_NA | with_reducible apply w_NW); exact (LM_T hT1); (first | assumption | exact m39 | exact m44); rfl; rfl; (first | with_reducible rfl | with_reducible exact ixo _ | with_reducible exact ixoc _ _ | with_reducible exact ixom _ _ _ | with_reducible exact ixop _ _ | with_reducible exact ixod _ _ | assumption); omega) | ((first | with_reducible apply w_TA | with_reducible apply w_TW | with_reducible apply w_TJ | with_reducible apply w_TK); exact hT1; rfl; rfl; (first | with_reducible rfl | with_reducible exact ixo _ | with_reducible exact ixoc _ _ | with_reducible exact ixom _ _ _ | with_reducible exact ixop _ _ | with_reducible exact ixod _ _ | assumption); omega))
      exact v_eq (beliefC hC1 hfu) (v_rI ⟨o1, rfl⟩)
    · have hM1 := hS1.2.1
      obtain ⟨hy1, hl, hlv1, htx1, hng1, -, -⟩ := id hM1
      have hL1 := LM_of hy1
      unfold fX10_sway
      repeat (first | with_reducible apply v_lt | ((with_reducible apply w_MR); exact hL1; rfl) | ((with_reducible apply w_lv); exact hL1; assumption) | ((with_reducible apply vMI); exact hL1) | ((with_reducible apply vMS); exact hL1) | ((with_reducible apply vMC); exact hL1) | ((with_reducible apply vMZ); exact hL1; (first | exact Or.inl rfl | exact Or.inr rfl | exact b2i_01 _ | assumption)) | ((first | with_reducible apply w_MA | with_reducible apply w_MW | with_reducible apply w_MY | with_reducible apply w_MB | with_reducible apply w_MJ | with_reducible apply w_MK); exact hL1; rfl; rfl; rfl; (first | with_reducible rfl | with_reducible exact ixo _ | with_reducible exact ixoc _ _ | with_reducible exact ixom _ _ _ | with_reducible exact ixop _ _ | with_reducible exact ixod _ _ | assumption); omega))
      refine v_eq (roleM1 hM1 hr) ?_
      refine v_ie (by decide) ?_
      repeat (first | with_reducible apply v_lt | ((with_reducible apply w_MR); exact hL1; rfl) | ((with_reducible apply w_lv); exact hL1; assumption) | ((with_reducible apply vMI); exact hL1) | ((with_reducible apply vMS); exact hL1) | ((with_reducible apply vMC); exact hL1) | ((with_reducible apply vMZ); exact hL1; (first | exact Or.inl rfl | exact Or.inr rfl | exact b2i_01 _ | assumption)) | ((first | with_reducible apply w_MA | with_reducible apply w_MW | with_reducible apply w_MY | with_reducible apply w_MB | with_reducible apply w_MJ | with_reducible apply w_MK); exact hL1; rfl; rfl; rfl; (first | with_reducible rfl | with_reducible exact ixo _ | with_reducible exact ixoc _ _ | with_reducible exact ixom _ _ _ | with_reducible exact ixop _ _ | with_reducible exact ixod _ _ | assumption); omega))
      refine v_bd (copyM hM1 hfu) (fun _ h2 hq => ?_)
      obtain ⟨o2, hM2, s2, b2⟩ := hq
      obtain ⟨hy2, -, hlv2, htx2, hng2, -, -⟩ := id hM2
      have hL2 := LM_of hy2
      repeat (first | with_reducible apply v_lt | ((with_reducible apply w_MR); exact hL2; rfl) | ((with_reducible apply w_lv); exact hL2; assumption) | ((with_reducible apply vMI); exact hL2) | ((with_reducible apply vMS); exact hL2) | ((with_reducible apply vMC); exact hL2) | ((with_reducible apply vMZ); exact hL2; (first | exact Or.inl rfl | exact Or.inr rfl | exact b2i_01 _ | assumption)) | ((first | with_reducible apply w_MA | with_reducible apply w_MW | with_reducible apply w_MY | with_reducible apply w_MB | with_reducible apply w_MJ | with_reducible apply w_MK); exact hL2; rfl; rfl; rfl; (first | with_reducible rfl | with_reducible exact ixo _ | with_reducible exact ixoc _ _ | with_reducible exact ixom _ _ _ | with_reducible exact ixop _ _ | with_reducible exact ixod _ _ | assumption); omega))
      refine v_eq (sum18M hM2 hfu) ?_
      have hN2 := MN_eo o2 (fun a k q => q) hM1
      repeat (first | with_reducible apply v_lt | ((with_reducible apply w_MR); exact hL2; rfl) | ((with_reducible apply w_lv); exact hL2; assumption) | ((with_reducible apply vMI); exact hL2) | ((with_reducible apply vMS); exact hL2) | ((with_reducible apply vMC); exact hL2) | ((with_reducible apply vMZ); exact hL2; (first | exact Or.inl rfl | exact Or.inr rfl | exact b2i_01 _ | assumption)) | ((first | with_reducible apply w_MA | with_reducible apply w_MW | with_reducible apply w_MY | with_reducible apply w_MB | with_reducible apply w_MJ | with_reducible apply w_MK); exact hL2; rfl; rfl; rfl; (first | with_reducible rfl | with_reducible exact ixo _ | with_reducible exact ixoc _ _ | with_reducible exact ixom _ _ _ | with_reducible exact ixop _ _ | with_reducible exact ixod _ _ | assumption); omega))
      refine v_bd (tonM hN2 hfu hr) (fun x h5 hq => ?_)
      obtain ⟨o5, hM5, rfl⟩ := hq
      have hL5 := LM_of hM5.1
      repeat (first | with_reducible apply v_lt | ((with_reducible apply w_MR); exact hL5; rfl) | ((with_reducible apply w_lv); exact hL5; assumption) | ((with_reducible apply vMI); exact hL5) | ((with_reducible apply vMS); exact hL5) | ((with_reducible apply vMC); exact hL5) | ((with_reducible apply vMZ); exact hL5; (first | exact Or.inl rfl | exact Or.inr rfl | exact b2i_01 _ | assumption)) | ((first | with_reducible apply w_MA | with_reducible apply w_MW | with_reducible apply w_MY | with_reducible apply w_MB | with_reducible apply w_MJ | with_reducible apply w_MK); exact hL5; rfl; rfl; rfl; (first | with_reducible rfl | with_reducible exact ixo _ | with_reducible exact ixoc _ _ | with_reducible exact ixom _ _ _ | with_reducible exact ixop _ _ | with_reducible exact ixod _ _ | assumption); omega))
      exact v_eq (sum18M hM5 hfu) (v_rI ⟨eo_tr o2 o5, rfl⟩)
  · refine pr_q (-100000) hS ?_ (fun h1 hS1 => ?_)
    · unfold fX9_sway
      repeat (first | with_reducible apply v_lt | ((with_reducible apply vXR4); exact hT) | ((with_reducible apply w_XR); exact (LM_T hT); rfl) | ((with_reducible apply w_TR); exact hT; rfl) | ((with_reducible apply w_UR); exact hT; rfl) | ((first | with_reducible apply vXI | with_reducible apply vXS | with_reducible apply vXC); exact (LM_T hT)) | ((first | with_reducible apply vT0I | with_reducible apply vT9I | with_reducible apply vT0C | with_reducible apply vT9C | with_reducible apply vT0S | with_reducible apply vT9S); exact hT) | ((first | with_reducible apply vNR0 | with_reducible apply vNR1 | with_reducible apply vNR2 | with_reducible apply vNR3 | with_reducible apply vNI | with_reducible apply vNS | with_reducible apply vNC); (first | assumption | exact m39 | exact m44); exact (LM_T hT)) | ((first | with_reducible apply w_NA | with_reducible apply w_NW); exact (LM_T hT); (first | assumption | exact m39 | exact m44); rfl; rfl; (first | with_reducible rfl | with_reducible exact ixo _ | with_reducible exact ixoc _ _ | with_reducible exact ixom _ _ _ | with_reducible exact ixop _ _ | with_reducible exact ixod _ _ | assumption); omega) | ((first | with_reducible apply w_TA | with_reducible apply w_TW | with_reducible apply w_TJ | with_reducible apply w_TK); exact hT; rfl; rfl; (first | with_reducible rfl | with_reducible exact ixo _ | with_reducible exact ixoc _ _ | with_reducible exact ixom _ _ _ | with_reducible exact ixop _ _ | with_reducible exact ixod _ _ | assumption); omega))
      exact v_eq (roleC0 hC q) (v_it rfl (v_rI ⟨eo_rf, rfl⟩))
    · have hM1 := hS1.2.1
      obtain ⟨hy1, hl, hlv1, htx1, hng1, -, -⟩ := id hM1
      have hL1 := LM_of hy1
      unfold fX10_sway
      repeat (first | with_reducible apply v_lt | ((with_reducible apply w_MR); exact hL1; rfl) | ((with_reducible apply w_lv); exact hL1; assumption) | ((with_reducible apply vMI); exact hL1) | ((with_reducible apply vMS); exact hL1) | ((with_reducible apply vMC); exact hL1) | ((with_reducible apply vMZ); exact hL1; (first | exact Or.inl rfl | exact Or.inr rfl | exact b2i_01 _ | assumption)) | ((first | with_reducible apply w_MA | with_reducible apply w_MW | with_reducible apply w_MY | with_reducible apply w_MB | with_reducible apply w_MJ | with_reducible apply w_MK); exact hL1; rfl; rfl; rfl; (first | with_reducible rfl | with_reducible exact ixo _ | with_reducible exact ixoc _ _ | with_reducible exact ixom _ _ _ | with_reducible exact ixop _ _ | with_reducible exact ixod _ _ | assumption); omega))
      exact v_eq (roleM0 hM1 q) (v_it rfl (v_rI ⟨eo_rf, rfl⟩))
/-- the first of the most -/
def argU (g : Nat → Option Int32) : Nat → Int32 × Int32
  | 0 => (-2, -2)
  | i + 1 => match g i with
    | none => argU g i
    | some x => if (argU g i).2 < x then (nI i, x) else argU g i
theorem argU_ge (g : Nat → Option Int32) : ∀ n, -2 ≤ (argU g n).2
  | 0 => by show (-2 : Int32) ≤ -2; decide
  | n + 1 => by
    unfold argU
    have ih := argU_ge g n
    split
    · exact ih
    · split
      · next z => exact Int32.le_of_lt (Int32.lt_of_le_of_lt ih z)
      · exact ih
theorem argL {B : (Int32 × Int32 × Int32 × mh → Option (Int32 × mh)) → Int32 × Int32 × Int32 × mh → Option (Int32 × mh)} {fu n : Nat} {g : Nat → Option Int32} {V : mh → Prop} {Q : Int32 → mh → Prop} (hn : n ≤ 8) (hfu : 1000 ≤ fu) {h : mh} (hV : V h)
    (he : ∀ (h : mh) (k : Int32 × Int32 × Int32 × mh → Option (Int32 × mh)), V h → ok (B k ((argU g n).1, (argU g n).2, nI n, h)) Q)
    (hs : ∀ (j : Nat) (v w : Int32) (h : mh) (k : Int32 × Int32 × Int32 × mh → Option (Int32 × mh)), j < n → V h → -2 ≤ w → (∀ h', V h' → (g j = none ∨ ∃ x, g j = some x ∧ x ≤ w) → ok (k (v, w, nI j + 1, h')) Q) → (∀ h' x, V h' → g j = some x → w < x → ok (k (nI j, x, nI j + 1, h')) Q) → ok (B k (v, w, nI j, h)) Q) : ok (itr B fu (-2, -2, 0, h)) Q := by
  refine loop4 (I := fun j v w h => v = (argU g j).1 ∧ w = (argU g j).2 ∧ V h) (n := n) (by omega) hfu ⟨rfl, rfl, hV⟩ ?_ ?_
  · intro v w h k hI
    obtain ⟨rfl, rfl, q⟩ := hI
    exact he h k q
  · intro j v w h k hj hI hk
    obtain ⟨rfl, rfl, q⟩ := hI
    refine hs j _ _ h k hj q (argU_ge g j) (fun h' q' e => hk _ _ h' ?_) (fun h' x q' e1 e2 => hk _ _ h' ?_)
    · have : argU g (j + 1) = argU g j := by
        rcases e with e | ⟨x, e, z⟩
        · show (match g j with | none => argU g j | some x => _) = _
          rw [e]
        · show (match g j with | none => argU g j | some x => if (argU g j).2 < x then (nI j, x) else argU g j) = _
          rw [e]
          exact if_neg (Int32.not_lt.mpr z)
      rw [this]
      exact ⟨rfl, rfl, q'⟩
    · have : argU g (j + 1) = (nI j, x) := by
        show (match g j with | none => argU g j | some x => if (argU g j).2 < x then (nI j, x) else argU g j) = _
        rw [e1]
        exact if_pos e2
      rw [this]
      exact ⟨rfl, rfl, q'⟩
theorem r_2 {x v w : Int32} {h : mh} {Q : Int32 → mh → Prop} (q : Q (if x = 0 then v else w) h) : ok (if x = 0 then rtI v h else rtI w h) Q := v_if (fun e => v_rI (by rw [if_pos e] at q; exact q)) (fun e => v_rI (by rw [if_neg e] at q; exact q))
theorem st_star {fu : Nat} (hfu : 1000 ≤ fu) (h : mh) (x0 : Int32) (hS : Sim h) : pr Sim (fX9_star fu 0 x0 h) (fun h1 => fX10_star fu 299 x0 h1) := by
  obtain ⟨t, u, l, T, N, D, hS⟩ := hS
  have hC := hS.1
  have hT := LT_of hC.1
  obtain ⟨hy, htx, hng, -, hwT, hwN⟩ := id hC
  have hr6 := hwT.1
  have ho6 := hwT.2.1
  by_cases q : ∃ w, w < 2 ∧ x0 = nI w
  · obtain ⟨w, hw, rfl⟩ := q
    have hpop : ∀ r, toV T N r < 256 := fun r => bitsU_256 _ (by omega)
    refine pr_q (if nI w = 0 then (argU (fun r => some (nI (pop (toV T N r) 8))) (nR T)).1 else (argU (fun r => some (nI (pop (toV T N r) 8))) (nR T)).2) hS ?_ (fun h1 hS1 => ?_)
    · unfold fX9_star
      refine v_in (n := 1) (by omega) (by decide) ?_
      refine argL (g := fun r => some (nI (pop (toV T N r) 8))) (V := fun h' => eo (sC t) h h') (n := nR T) (by omega) hfu eo_rf ?_ ?_
      · intro h2 k hV
        have hC2 := CC_eo hV (fun a k q => q) hC
        have hT2 := LT_of hC2.1
        unfold bX9_star_20
        dsimp only
        repeat (first | with_reducible apply v_lt | ((with_reducible apply vXR4); exact hT2) | ((with_reducible apply w_XR); exact (LM_T hT2); rfl) | ((with_reducible apply w_TR); exact hT2; rfl) | ((with_reducible apply w_UR); exact hT2; rfl) | ((first | with_reducible apply vXI | with_reducible apply vXS | with_reducible apply vXC); exact (LM_T hT2)) | ((first | with_reducible apply vT0I | with_reducible apply vT9I | with_reducible apply vT0C | with_reducible apply vT9C | with_reducible apply vT0S | with_reducible apply vT9S); exact hT2) | ((first | with_reducible apply vNR0 | with_reducible apply vNR1 | with_reducible apply vNR2 | with_reducible apply vNR3 | with_reducible apply vNI | with_reducible apply vNS | with_reducible apply vNC); (first | assumption | exact m39 | exact m44); exact (LM_T hT2)) | ((first | with_reducible apply w_NA | with_reducible apply w_NW); exact (LM_T hT2); (first | assumption | exact m39 | exact m44); rfl; rfl; (first | with_reducible rfl | with_reducible exact ixo _ | with_reducible exact ixoc _ _ | with_reducible exact ixom _ _ _ | with_reducible exact ixop _ _ | with_reducible exact ixod _ _ | assumption); omega) | ((first | with_reducible apply w_TA | with_reducible apply w_TW | with_reducible apply w_TJ | with_reducible apply w_TK); exact hT2; rfl; rfl; (first | with_reducible rfl | with_reducible exact ixo _ | with_reducible exact ixoc _ _ | with_reducible exact ixom _ _ _ | with_reducible exact ixop _ _ | with_reducible exact ixod _ _ | assumption); omega))
        rw [hC2.2.1.1]
        refine v_it (nI_le (Nat.le_refl _) (by omega)) ?_
        exact r_2 ⟨eo_mono hV (fun a k q => sC_Q q), rfl⟩
      · intro j v y h2 k hj hV hy hk0 hk1
        have hC2 := CC_eo hV (fun a k q => q) hC
        have hT2 := LT_of hC2.1
        unfold bX9_star_20
        dsimp only
        repeat (first | with_reducible apply v_lt | ((with_reducible apply vXR4); exact hT2) | ((with_reducible apply w_XR); exact (LM_T hT2); rfl) | ((with_reducible apply w_TR); exact hT2; rfl) | ((with_reducible apply w_UR); exact hT2; rfl) | ((first | with_reducible apply vXI | with_reducible apply vXS | with_reducible apply vXC); exact (LM_T hT2)) | ((first | with_reducible apply vT0I | with_reducible apply vT9I | with_reducible apply vT0C | with_reducible apply vT9C | with_reducible apply vT0S | with_reducible apply vT9S); exact hT2) | ((first | with_reducible apply vNR0 | with_reducible apply vNR1 | with_reducible apply vNR2 | with_reducible apply vNR3 | with_reducible apply vNI | with_reducible apply vNS | with_reducible apply vNC); (first | assumption | exact m39 | exact m44); exact (LM_T hT2)) | ((first | with_reducible apply w_NA | with_reducible apply w_NW); exact (LM_T hT2); (first | assumption | exact m39 | exact m44); rfl; rfl; (first | with_reducible rfl | with_reducible exact ixo _ | with_reducible exact ixoc _ _ | with_reducible exact ixom _ _ _ | with_reducible exact ixop _ _ | with_reducible exact ixod _ _ | assumption); omega) | ((first | with_reducible apply w_TA | with_reducible apply w_TW | with_reducible apply w_TJ | with_reducible apply w_TK); exact hT2; rfl; rfl; (first | with_reducible rfl | with_reducible exact ixo _ | with_reducible exact ixoc _ _ | with_reducible exact ixom _ _ _ | with_reducible exact ixop _ _ | with_reducible exact ixod _ _ | assumption); omega))
        rw [hC2.2.1.1]
        refine v_ie (nI_ge hj (by omega)) ?_
        repeat (first | with_reducible apply v_lt | ((with_reducible apply vXR4); exact hT2) | ((with_reducible apply w_XR); exact (LM_T hT2); rfl) | ((with_reducible apply w_TR); exact hT2; rfl) | ((with_reducible apply w_UR); exact hT2; rfl) | ((first | with_reducible apply vXI | with_reducible apply vXS | with_reducible apply vXC); exact (LM_T hT2)) | ((first | with_reducible apply vT0I | with_reducible apply vT9I | with_reducible apply vT0C | with_reducible apply vT9C | with_reducible apply vT0S | with_reducible apply vT9S); exact hT2) | ((first | with_reducible apply vNR0 | with_reducible apply vNR1 | with_reducible apply vNR2 | with_reducible apply vNR3 | with_reducible apply vNI | with_reducible apply vNS | with_reducible apply vNC); (first | assumption | exact m39 | exact m44); exact (LM_T hT2)) | ((first | with_reducible apply w_NA | with_reducible apply w_NW); exact (LM_T hT2); (first | assumption | exact m39 | exact m44); rfl; rfl; (first | with_reducible rfl | with_reducible exact ixo _ | with_reducible exact ixoc _ _ | with_reducible exact ixom _ _ _ | with_reducible exact ixop _ _ | with_reducible exact ixod _ _ | assumption); omega) | ((first | with_reducible apply w_TA | with_reducible apply w_TW | with_reducible apply w_TJ | with_reducible apply w_TK); exact hT2; rfl; rfl; (first | with_reducible rfl | with_reducible exact ixo _ | with_reducible exact ixoc _ _ | with_reducible exact ixom _ _ _ | with_reducible exact ixop _ _ | with_reducible exact ixod _ _ | assumption); omega))
        refine v_bd (trustingC hC2 hfu hj) (fun x h3 hq => ?_)
        obtain ⟨o3, rfl⟩ := hq
        have hC3 := CC_eo o3 (fun a k q => q) hC2
        have hT3 := LT_of hC3.1
        repeat (first | with_reducible apply v_lt | ((with_reducible apply vXR4); exact hT3) | ((with_reducible apply w_XR); exact (LM_T hT3); rfl) | ((with_reducible apply w_TR); exact hT3; rfl) | ((with_reducible apply w_UR); exact hT3; rfl) | ((first | with_reducible apply vXI | with_reducible apply vXS | with_reducible apply vXC); exact (LM_T hT3)) | ((first | with_reducible apply vT0I | with_reducible apply vT9I | with_reducible apply vT0C | with_reducible apply vT9C | with_reducible apply vT0S | with_reducible apply vT9S); exact hT3) | ((first | with_reducible apply vNR0 | with_reducible apply vNR1 | with_reducible apply vNR2 | with_reducible apply vNR3 | with_reducible apply vNI | with_reducible apply vNS | with_reducible apply vNC); (first | assumption | exact m39 | exact m44); exact (LM_T hT3)) | ((first | with_reducible apply w_NA | with_reducible apply w_NW); exact (LM_T hT3); (first | assumption | exact m39 | exact m44); rfl; rfl; (first | with_reducible rfl | with_reducible exact ixo _ | with_reducible exact ixoc _ _ | with_reducible exact ixom _ _ _ | with_reducible exact ixop _ _ | with_reducible exact ixod _ _ | assumption); omega) | ((first | with_reducible apply w_TA | with_reducible apply w_TW | with_reducible apply w_TJ | with_reducible apply w_TK); exact hT3; rfl; rfl; (first | with_reducible rfl | with_reducible exact ixo _ | with_reducible exact ixoc _ _ | with_reducible exact ixom _ _ _ | with_reducible exact ixop _ _ | with_reducible exact ixod _ _ | assumption); omega))
        rw [hC3.2.2.1.2.1, fa_and, toV_eq]
        refine v_eq (bitC (hpop j)) ?_
        exact v_if (fun e => hk0 _ (eo_tr hV o3) (Or.inr ⟨_, rfl, e⟩)) (fun e => hk1 _ _ (eo_tr hV o3) rfl (Int32.not_le.mp e))
    · have hM1 := hS1.2.1
      obtain ⟨hy1, hl, hlv1, htx1, hng1, -, -⟩ := id hM1
      have hL1 := LM_of hy1
      unfold fX10_star
      refine v_eq (in_1 (b := 1) (by omega) (by decide)) ?_
      refine v_ie (by decide) ?_
      repeat (first | with_reducible apply v_lt | ((with_reducible apply w_MR); exact hL1; rfl) | ((with_reducible apply w_lv); exact hL1; assumption) | ((with_reducible apply vMI); exact hL1) | ((with_reducible apply vMS); exact hL1) | ((with_reducible apply vMC); exact hL1) | ((with_reducible apply vMZ); exact hL1; (first | exact Or.inl rfl | exact Or.inr rfl | exact b2i_01 _ | assumption)) | ((first | with_reducible apply w_MA | with_reducible apply w_MW | with_reducible apply w_MY | with_reducible apply w_MB | with_reducible apply w_MJ | with_reducible apply w_MK); exact hL1; rfl; rfl; rfl; (first | with_reducible rfl | with_reducible exact ixo _ | with_reducible exact ixoc _ _ | with_reducible exact ixom _ _ _ | with_reducible exact ixop _ _ | with_reducible exact ixod _ _ | assumption); omega))
      refine v_bd (copyM hM1 hfu) (fun _ h2 hq => ?_)
      obtain ⟨o2, hM2, s2, b2⟩ := hq
      obtain ⟨hy2, -, hlv2, htx2, hng2, -, -⟩ := id hM2
      have hL2 := LM_of hy2
      refine argL (g := fun r => some (nI (pop (toV T N r) 8))) (V := fun h' => eo sV h2 h') (n := nR T) (by omega) hfu eo_rf ?_ ?_
      · intro h3 k hV
        have hM3 := MC_eo hV (fun a k q => by unfold sV at q; omega) hM2
        obtain ⟨hy3, -, hlv3, htx3, -⟩ := id hM3
        have hL3 := LM_of hy3
        unfold bX10_star_24
        dsimp only
        repeat (first | with_reducible apply v_lt | ((with_reducible apply w_MR); exact hL3; rfl) | ((with_reducible apply w_lv); exact hL3; assumption) | ((with_reducible apply vMI); exact hL3) | ((with_reducible apply vMS); exact hL3) | ((with_reducible apply vMC); exact hL3) | ((with_reducible apply vMZ); exact hL3; (first | exact Or.inl rfl | exact Or.inr rfl | exact b2i_01 _ | assumption)) | ((first | with_reducible apply w_MA | with_reducible apply w_MW | with_reducible apply w_MY | with_reducible apply w_MB | with_reducible apply w_MJ | with_reducible apply w_MK); exact hL3; rfl; rfl; rfl; (first | with_reducible rfl | with_reducible exact ixo _ | with_reducible exact ixoc _ _ | with_reducible exact ixom _ _ _ | with_reducible exact ixop _ _ | with_reducible exact ixod _ _ | assumption); omega))
        rw [htx3.1]
        refine v_it (nI_le (Nat.le_refl _) (by omega)) ?_
        exact r_2 ⟨eo_tr o2 (eo_mono hV (fun a k q => sV_R q)), rfl⟩
      · intro j v y h3 k hj hV hy hk0 hk1
        have hM3 := MC_eo hV (fun a k q => by unfold sV at q; omega) hM2
        obtain ⟨hy3, -, hlv3, htx3, -⟩ := id hM3
        have hL3 := LM_of hy3
        unfold bX10_star_24
        dsimp only
        repeat (first | with_reducible apply v_lt | ((with_reducible apply w_MR); exact hL3; rfl) | ((with_reducible apply w_lv); exact hL3; assumption) | ((with_reducible apply vMI); exact hL3) | ((with_reducible apply vMS); exact hL3) | ((with_reducible apply vMC); exact hL3) | ((with_reducible apply vMZ); exact hL3; (first | exact Or.inl rfl | exact Or.inr rfl | exact b2i_01 _ | assumption)) | ((first | with_reducible apply w_MA | with_reducible apply w_MW | with_reducible apply w_MY | with_reducible apply w_MB | with_reducible apply w_MJ | with_reducible apply w_MK); exact hL3; rfl; rfl; rfl; (first | with_reducible rfl | with_reducible exact ixo _ | with_reducible exact ixoc _ _ | with_reducible exact ixom _ _ _ | with_reducible exact ixop _ _ | with_reducible exact ixod _ _ | assumption); omega))
        rw [htx3.1]
        refine v_ie (nI_ge hj (by omega)) ?_
        repeat (first | with_reducible apply v_lt | ((with_reducible apply w_MR); exact hL3; rfl) | ((with_reducible apply w_lv); exact hL3; assumption) | ((with_reducible apply vMI); exact hL3) | ((with_reducible apply vMS); exact hL3) | ((with_reducible apply vMC); exact hL3) | ((with_reducible apply vMZ); exact hL3; (first | exact Or.inl rfl | exact Or.inr rfl | exact b2i_01 _ | assumption)) | ((first | with_reducible apply w_MA | with_reducible apply w_MW | with_reducible apply w_MY | with_reducible apply w_MB | with_reducible apply w_MJ | with_reducible apply w_MK); exact hL3; rfl; rfl; rfl; (first | with_reducible rfl | with_reducible exact ixo _ | with_reducible exact ixoc _ _ | with_reducible exact ixom _ _ _ | with_reducible exact ixop _ _ | with_reducible exact ixod _ _ | assumption); omega))
        refine v_bd (saidM hM3 hfu hj) (fun x h4 hq => ?_)
        obtain ⟨o4, rfl⟩ := hq
        have hM4 := MC_eo o4 (fun a k q => by unfold sV at q; omega) hM3
        have hL4 := LM_of hM4.1
        repeat (first | with_reducible apply v_lt | ((with_reducible apply w_MR); exact hL4; rfl) | ((with_reducible apply w_lv); exact hL4; assumption) | ((with_reducible apply vMI); exact hL4) | ((with_reducible apply vMS); exact hL4) | ((with_reducible apply vMC); exact hL4) | ((with_reducible apply vMZ); exact hL4; (first | exact Or.inl rfl | exact Or.inr rfl | exact b2i_01 _ | assumption)) | ((first | with_reducible apply w_MA | with_reducible apply w_MW | with_reducible apply w_MY | with_reducible apply w_MB | with_reducible apply w_MJ | with_reducible apply w_MK); exact hL4; rfl; rfl; rfl; (first | with_reducible rfl | with_reducible exact ixo _ | with_reducible exact ixoc _ _ | with_reducible exact ixom _ _ _ | with_reducible exact ixop _ _ | with_reducible exact ixod _ _ | assumption); omega))
        refine v_bd (trustBM hM4 hfu hj) (fun x h5 hq => ?_)
        obtain ⟨o5, rfl⟩ := hq
        refine v_eq (bitM (by omega) (hpop j)) ?_
        exact v_if (fun e => hk1 _ _ (eo_tr hV (eo_tr o4 o5)) rfl e) (fun e => hk0 _ (eo_tr hV (eo_tr o4 o5)) (Or.inr ⟨_, rfl, Int32.not_lt.mp e⟩))
  · refine pr_q (-1) hS ?_ (fun h1 hS1 => ?_)
    · unfold fX9_star
      exact v_out (n := 1) q (by decide) (v_rI ⟨eo_rf, rfl⟩) (v_rI ⟨eo_rf, rfl⟩)
    · unfold fX10_star
      exact v_eq (in_0 (b := 2) (by decide) (by decide) q) (v_it rfl (v_rI ⟨eo_rf, rfl⟩))
/-- what a role brings, if it isn't quiet -/
def gnV (T : AT) (N : AN) (r : Nat) : Option Int32 := if 0 < qu N r then none else some (knV (pass T N (some r) false) - knV N)
theorem st_best {fu : Nat} (hfu : 1000 ≤ fu) (h : mh) (x0 : Int32) (hS : Sim h) : pr Sim (fX9_best fu 0 x0 h) (fun h1 => fX10_best fu 299 x0 h1) := by
  obtain ⟨t, u, l, T, N, D, hS⟩ := hS
  have hC := hS.1
  have hT := LT_of hC.1
  obtain ⟨hy, htx, hng, -, hwT, hwN⟩ := id hC
  have hr6 := hwT.1
  have ho6 := hwT.2.1
  by_cases q : ∃ w, w < 2 ∧ x0 = nI w
  · obtain ⟨w, hw, rfl⟩ := q
    refine pr_q (if nI w = 0 then (argU (gnV T N) (nR T)).1 else (argU (gnV T N) (nR T)).2) hS ?_ (fun h1 hS1 => ?_)
    · unfold fX9_best
      refine v_in (n := 1) (by omega) (by decide) ?_
      refine argL (g := gnV T N) (V := fun h' => eo (sQ t) h h') (n := nR T) (by omega) hfu eo_rf ?_ ?_
      · intro h2 k hV
        have hC2 := CC_q hV (fun a k q => q) hC
        have hT2 := LT_of hC2.1
        unfold bX9_best_20
        dsimp only
        repeat (first | with_reducible apply v_lt | ((with_reducible apply vXR4); exact hT2) | ((with_reducible apply w_XR); exact (LM_T hT2); rfl) | ((with_reducible apply w_TR); exact hT2; rfl) | ((with_reducible apply w_UR); exact hT2; rfl) | ((first | with_reducible apply vXI | with_reducible apply vXS | with_reducible apply vXC); exact (LM_T hT2)) | ((first | with_reducible apply vT0I | with_reducible apply vT9I | with_reducible apply vT0C | with_reducible apply vT9C | with_reducible apply vT0S | with_reducible apply vT9S); exact hT2) | ((first | with_reducible apply vNR0 | with_reducible apply vNR1 | with_reducible apply vNR2 | with_reducible apply vNR3 | with_reducible apply vNI | with_reducible apply vNS | with_reducible apply vNC); (first | assumption | exact m39 | exact m44); exact (LM_T hT2)) | ((first | with_reducible apply w_NA | with_reducible apply w_NW); exact (LM_T hT2); (first | assumption | exact m39 | exact m44); rfl; rfl; (first | with_reducible rfl | with_reducible exact ixo _ | with_reducible exact ixoc _ _ | with_reducible exact ixom _ _ _ | with_reducible exact ixop _ _ | with_reducible exact ixod _ _ | assumption); omega) | ((first | with_reducible apply w_TA | with_reducible apply w_TW | with_reducible apply w_TJ | with_reducible apply w_TK); exact hT2; rfl; rfl; (first | with_reducible rfl | with_reducible exact ixo _ | with_reducible exact ixoc _ _ | with_reducible exact ixom _ _ _ | with_reducible exact ixop _ _ | with_reducible exact ixod _ _ | assumption); omega))
        rw [hC2.2.1.1]
        refine v_it (nI_le (Nat.le_refl _) (by omega)) ?_
        exact r_2 ⟨hV, rfl⟩
      · intro j v y h2 k hj hV hy hk0 hk1
        have hC2 := CC_q hV (fun a k q => q) hC
        have hT2 := LT_of hC2.1
        have hq := (hwN.1 j (by omega)).2.2
        unfold bX9_best_20
        dsimp only
        repeat (first | with_reducible apply v_lt | ((with_reducible apply vXR4); exact hT2) | ((with_reducible apply w_XR); exact (LM_T hT2); rfl) | ((with_reducible apply w_TR); exact hT2; rfl) | ((with_reducible apply w_UR); exact hT2; rfl) | ((first | with_reducible apply vXI | with_reducible apply vXS | with_reducible apply vXC); exact (LM_T hT2)) | ((first | with_reducible apply vT0I | with_reducible apply vT9I | with_reducible apply vT0C | with_reducible apply vT9C | with_reducible apply vT0S | with_reducible apply vT9S); exact hT2) | ((first | with_reducible apply vNR0 | with_reducible apply vNR1 | with_reducible apply vNR2 | with_reducible apply vNR3 | with_reducible apply vNI | with_reducible apply vNS | with_reducible apply vNC); (first | assumption | exact m39 | exact m44); exact (LM_T hT2)) | ((first | with_reducible apply w_NA | with_reducible apply w_NW); exact (LM_T hT2); (first | assumption | exact m39 | exact m44); rfl; rfl; (first | with_reducible rfl | with_reducible exact ixo _ | with_reducible exact ixoc _ _ | with_reducible exact ixom _ _ _ | with_reducible exact ixop _ _ | with_reducible exact ixod _ _ | assumption); omega) | ((first | with_reducible apply w_TA | with_reducible apply w_TW | with_reducible apply w_TJ | with_reducible apply w_TK); exact hT2; rfl; rfl; (first | with_reducible rfl | with_reducible exact ixo _ | with_reducible exact ixoc _ _ | with_reducible exact ixom _ _ _ | with_reducible exact ixop _ _ | with_reducible exact ixod _ _ | assumption); omega))
        rw [hC2.2.1.1]
        refine v_ie (nI_ge hj (by omega)) ?_
        repeat (first | with_reducible apply v_lt | ((with_reducible apply vXR4); exact hT2) | ((with_reducible apply w_XR); exact (LM_T hT2); rfl) | ((with_reducible apply w_TR); exact hT2; rfl) | ((with_reducible apply w_UR); exact hT2; rfl) | ((first | with_reducible apply vXI | with_reducible apply vXS | with_reducible apply vXC); exact (LM_T hT2)) | ((first | with_reducible apply vT0I | with_reducible apply vT9I | with_reducible apply vT0C | with_reducible apply vT9C | with_reducible apply vT0S | with_reducible apply vT9S); exact hT2) | ((first | with_reducible apply vNR0 | with_reducible apply vNR1 | with_reducible apply vNR2 | with_reducible apply vNR3 | with_reducible apply vNI | with_reducible apply vNS | with_reducible apply vNC); (first | assumption | exact m39 | exact m44); exact (LM_T hT2)) | ((first | with_reducible apply w_NA | with_reducible apply w_NW); exact (LM_T hT2); (first | assumption | exact m39 | exact m44); rfl; rfl; (first | with_reducible rfl | with_reducible exact ixo _ | with_reducible exact ixoc _ _ | with_reducible exact ixom _ _ _ | with_reducible exact ixop _ _ | with_reducible exact ixod _ _ | assumption); omega) | ((first | with_reducible apply w_TA | with_reducible apply w_TW | with_reducible apply w_TJ | with_reducible apply w_TK); exact hT2; rfl; rfl; (first | with_reducible rfl | with_reducible exact ixo _ | with_reducible exact ixoc _ _ | with_reducible exact ixom _ _ _ | with_reducible exact ixop _ _ | with_reducible exact ixod _ _ | assumption); omega))
        rw [(hC2.2.2.1.1 j (by omega)).2.2.2]
        refine v_z (by omega) (fun e => ?_) (fun e => ?_)
        · have eg : gnV T N j = some (knV (pass T N (some j) false) - knV N) := if_neg (by omega)
          repeat (first | with_reducible apply v_lt | ((with_reducible apply vXR4); exact hT2) | ((with_reducible apply w_XR); exact (LM_T hT2); rfl) | ((with_reducible apply w_TR); exact hT2; rfl) | ((with_reducible apply w_UR); exact hT2; rfl) | ((first | with_reducible apply vXI | with_reducible apply vXS | with_reducible apply vXC); exact (LM_T hT2)) | ((first | with_reducible apply vT0I | with_reducible apply vT9I | with_reducible apply vT0C | with_reducible apply vT9C | with_reducible apply vT0S | with_reducible apply vT9S); exact hT2) | ((first | with_reducible apply vNR0 | with_reducible apply vNR1 | with_reducible apply vNR2 | with_reducible apply vNR3 | with_reducible apply vNI | with_reducible apply vNS | with_reducible apply vNC); (first | assumption | exact m39 | exact m44); exact (LM_T hT2)) | ((first | with_reducible apply w_NA | with_reducible apply w_NW); exact (LM_T hT2); (first | assumption | exact m39 | exact m44); rfl; rfl; (first | with_reducible rfl | with_reducible exact ixo _ | with_reducible exact ixoc _ _ | with_reducible exact ixom _ _ _ | with_reducible exact ixop _ _ | with_reducible exact ixod _ _ | assumption); omega) | ((first | with_reducible apply w_TA | with_reducible apply w_TW | with_reducible apply w_TJ | with_reducible apply w_TK); exact hT2; rfl; rfl; (first | with_reducible rfl | with_reducible exact ixo _ | with_reducible exact ixoc _ _ | with_reducible exact ixom _ _ _ | with_reducible exact ixop _ _ | with_reducible exact ixod _ _ | assumption); omega))
          refine v_bd (gainC hC2 hfu hj) (fun x h3 hq => ?_)
          obtain ⟨o3, rfl⟩ := hq
          exact v_if (fun e => hk0 _ (eo_tr hV o3) (Or.inr ⟨_, eg, e⟩)) (fun e => hk1 _ _ (eo_tr hV o3) eg (Int32.not_le.mp e))
        · have eg : gnV T N j = none := if_pos e
          exact v_it hy (hk0 _ hV (Or.inl eg))
    · have hM1 := hS1.2.1
      obtain ⟨hy1, hl, hlv1, htx1, hng1, -, -⟩ := id hM1
      have hL1 := LM_of hy1
      unfold fX10_best
      refine v_eq (in_1 (b := 1) (by omega) (by decide)) ?_
      refine v_ie (by decide) ?_
      refine argL (g := gnV T N) (V := fun h' => eo sR h1 h') (n := nR T) (by omega) hfu eo_rf ?_ ?_
      · intro h3 k hV
        have hM3 := MN_eo hV (fun a k q => q) hM1
        obtain ⟨hy3, -, hlv3, htx3, -⟩ := id hM3
        have hL3 := LM_of hy3
        unfold bX10_best_20
        dsimp only
        repeat (first | with_reducible apply v_lt | ((with_reducible apply w_MR); exact hL3; rfl) | ((with_reducible apply w_lv); exact hL3; assumption) | ((with_reducible apply vMI); exact hL3) | ((with_reducible apply vMS); exact hL3) | ((with_reducible apply vMC); exact hL3) | ((with_reducible apply vMZ); exact hL3; (first | exact Or.inl rfl | exact Or.inr rfl | exact b2i_01 _ | assumption)) | ((first | with_reducible apply w_MA | with_reducible apply w_MW | with_reducible apply w_MY | with_reducible apply w_MB | with_reducible apply w_MJ | with_reducible apply w_MK); exact hL3; rfl; rfl; rfl; (first | with_reducible rfl | with_reducible exact ixo _ | with_reducible exact ixoc _ _ | with_reducible exact ixom _ _ _ | with_reducible exact ixop _ _ | with_reducible exact ixod _ _ | assumption); omega))
        rw [htx3.1]
        refine v_it (nI_le (Nat.le_refl _) (by omega)) ?_
        exact r_2 ⟨hV, rfl⟩
      · intro j v y h3 k hj hV hy hk0 hk1
        have hM3 := MN_eo hV (fun a k q => q) hM1
        obtain ⟨hy3, -, hlv3, htx3, hng3, -⟩ := id hM3
        have hL3 := LM_of hy3
        have hq := (hwN.1 j (by omega)).2.2
        unfold bX10_best_20
        dsimp only
        repeat (first | with_reducible apply v_lt | ((with_reducible apply w_MR); exact hL3; rfl) | ((with_reducible apply w_lv); exact hL3; assumption) | ((with_reducible apply vMI); exact hL3) | ((with_reducible apply vMS); exact hL3) | ((with_reducible apply vMC); exact hL3) | ((with_reducible apply vMZ); exact hL3; (first | exact Or.inl rfl | exact Or.inr rfl | exact b2i_01 _ | assumption)) | ((first | with_reducible apply w_MA | with_reducible apply w_MW | with_reducible apply w_MY | with_reducible apply w_MB | with_reducible apply w_MJ | with_reducible apply w_MK); exact hL3; rfl; rfl; rfl; (first | with_reducible rfl | with_reducible exact ixo _ | with_reducible exact ixoc _ _ | with_reducible exact ixom _ _ _ | with_reducible exact ixop _ _ | with_reducible exact ixod _ _ | assumption); omega))
        rw [htx3.1]
        refine v_ie (nI_ge hj (by omega)) ?_
        repeat (first | with_reducible apply v_lt | ((with_reducible apply w_MR); exact hL3; rfl) | ((with_reducible apply w_lv); exact hL3; assumption) | ((with_reducible apply vMI); exact hL3) | ((with_reducible apply vMS); exact hL3) | ((with_reducible apply vMC); exact hL3) | ((with_reducible apply vMZ); exact hL3; (first | exact Or.inl rfl | exact Or.inr rfl | exact b2i_01 _ | assumption)) | ((first | with_reducible apply w_MA | with_reducible apply w_MW | with_reducible apply w_MY | with_reducible apply w_MB | with_reducible apply w_MJ | with_reducible apply w_MK); exact hL3; rfl; rfl; rfl; (first | with_reducible rfl | with_reducible exact ixo _ | with_reducible exact ixoc _ _ | with_reducible exact ixom _ _ _ | with_reducible exact ixop _ _ | with_reducible exact ixod _ _ | assumption); omega))
        rw [(hng3.1 j (by omega)).2.1]
        refine v_zp (by omega) (fun e => ?_) (fun e => ?_)
        · have eg : gnV T N j = none := if_pos e
          exact hk0 _ hV (Or.inl eg)
        · have eg : gnV T N j = some (knV (pass T N (some j) false) - knV N) := if_neg (by omega)
          repeat (first | with_reducible apply v_lt | ((with_reducible apply w_MR); exact hL3; rfl) | ((with_reducible apply w_lv); exact hL3; assumption) | ((with_reducible apply vMI); exact hL3) | ((with_reducible apply vMS); exact hL3) | ((with_reducible apply vMC); exact hL3) | ((with_reducible apply vMZ); exact hL3; (first | exact Or.inl rfl | exact Or.inr rfl | exact b2i_01 _ | assumption)) | ((first | with_reducible apply w_MA | with_reducible apply w_MW | with_reducible apply w_MY | with_reducible apply w_MB | with_reducible apply w_MJ | with_reducible apply w_MK); exact hL3; rfl; rfl; rfl; (first | with_reducible rfl | with_reducible exact ixo _ | with_reducible exact ixoc _ _ | with_reducible exact ixom _ _ _ | with_reducible exact ixop _ _ | with_reducible exact ixod _ _ | assumption); omega))
          refine v_bd (tonM hM3 hfu hj) (fun x h4 hq => ?_)
          obtain ⟨o4, hM4, rfl⟩ := hq
          have hN4 := MN_eo o4 (fun a k q => q) hM3
          have hL4 := LM_of hN4.1
          refine v_if (fun e => ?_) (fun e => hk0 _ (eo_tr hV o4) (Or.inr ⟨_, eg, Int32.not_lt.mp e⟩))
          repeat (first | with_reducible apply v_lt | ((with_reducible apply w_MR); exact hL4; rfl) | ((with_reducible apply w_lv); exact hL4; assumption) | ((with_reducible apply vMI); exact hL4) | ((with_reducible apply vMS); exact hL4) | ((with_reducible apply vMC); exact hL4) | ((with_reducible apply vMZ); exact hL4; (first | exact Or.inl rfl | exact Or.inr rfl | exact b2i_01 _ | assumption)) | ((first | with_reducible apply w_MA | with_reducible apply w_MW | with_reducible apply w_MY | with_reducible apply w_MB | with_reducible apply w_MJ | with_reducible apply w_MK); exact hL4; rfl; rfl; rfl; (first | with_reducible rfl | with_reducible exact ixo _ | with_reducible exact ixoc _ _ | with_reducible exact ixom _ _ _ | with_reducible exact ixop _ _ | with_reducible exact ixod _ _ | assumption); omega))
          refine v_bd (tonM hN4 hfu hj) (fun x h5 hq => ?_)
          obtain ⟨o5, hM5, rfl⟩ := hq
          exact hk1 _ _ (eo_tr hV (eo_tr o4 o5)) eg e
  · refine pr_q (-1) hS ?_ (fun h1 hS1 => ?_)
    · unfold fX9_best
      exact v_out (n := 1) q (by decide) (v_rI ⟨eo_rf, rfl⟩) (v_rI ⟨eo_rf, rfl⟩)
    · unfold fX10_best
      exact v_eq (in_0 (b := 2) (by decide) (by decide) q) (v_it rfl (v_rI ⟨eo_rf, rfl⟩))
