/-! THE REFERENCE READS -/
set_option maxHeartbeats 2000000 in
theorem readM {fu l n : Nat} {B : Nat → Nat} {h : mh} (hfu : 5000 ≤ fu) (hl : l < 2) (hL : LM h.2) (hw : wdM h) (hn : n ≤ 2000) (g2 : gI h 299 2 = nI n) (g18 : gI h 299 18 = nI l) (hB : ∀ i, i < n → B i < 256 ∧ gI h 300 i = byN (B i)) : ok (fX10_read fu 299 h) (fun x h' => rdM (1 - l) (run (tk B n) (bd9 A0) 0) h x h') := by
  have hT := tk_tkOk (B := B) hn
  unfold fX10_read
  repeat (first | with_reducible apply v_lt | ((with_reducible apply w_MR); exact hL; rfl) | ((with_reducible apply w_lv); exact hL; assumption) | ((with_reducible apply vMI); exact hL) | ((with_reducible apply vMS); exact hL) | ((with_reducible apply vMC); exact hL) | ((with_reducible apply vMZ); exact hL; (first | exact Or.inl rfl | exact Or.inr rfl | exact b2i_01 _ | assumption)) | ((first | with_reducible apply w_MA | with_reducible apply w_MW | with_reducible apply w_MY | with_reducible apply w_MB | with_reducible apply w_MJ | with_reducible apply w_MK); exact hL; rfl; rfl; rfl; (first | with_reducible rfl | with_reducible exact ixo _ | with_reducible exact ixoc _ _ | with_reducible exact ixom _ _ _ | with_reducible exact ixop _ _ | with_reducible exact ixod _ _ | assumption); omega))
  rw [g2]
  have o0 : eo (fun a k => a = 299 ∧ k = 4) h (uI h 299 4 (nI n)) := eo_uI eo_rf ⟨rfl, rfl⟩
  have b4 : gI (uI h 299 4 (nI n)) 299 4 = nI n := gI_eq
  have hL0 : LM (uI h 299 4 (nI n)).2 := hL
  obtain ⟨h0, hh0⟩ : ∃ h0, h0 = uI h 299 4 (nI n) := ⟨_, rfl⟩
  rw [← hh0] at o0 b4 hL0 ⊢
  refine loop2L (n := n) (I := fun j h' => eo (fun a _ => a = 301) h0 h' ∧ ∀ i, i < j → gI h' 301 i = byN (B i)) (by omega) ⟨eo_rf, fun i hi => absurd hi (Nat.not_lt_zero i)⟩ ?_ ?_
  · intro h1 k hI
    obtain ⟨o1, f1⟩ := hI
    have hL1 : LM h1.2 := by rw [o1.1]; exact hL0
    unfold bX10_read_10
    dsimp only
    repeat (first | with_reducible apply v_lt | ((with_reducible apply w_MR); exact hL1; rfl) | ((with_reducible apply w_lv); exact hL1; assumption) | ((with_reducible apply vMI); exact hL1) | ((with_reducible apply vMS); exact hL1) | ((with_reducible apply vMC); exact hL1) | ((with_reducible apply vMZ); exact hL1; (first | exact Or.inl rfl | exact Or.inr rfl | exact b2i_01 _ | assumption)) | ((first | with_reducible apply w_MA | with_reducible apply w_MW | with_reducible apply w_MY | with_reducible apply w_MB | with_reducible apply w_MJ | with_reducible apply w_MK); exact hL1; rfl; rfl; rfl; (first | with_reducible rfl | with_reducible exact ixo _ | with_reducible exact ixoc _ _ | with_reducible exact ixom _ _ _ | with_reducible exact ixop _ _ | with_reducible exact ixod _ _ | assumption); omega))
    rw [o1.2 _ _ (fun z => by omega), b4]
    refine v_it (nI_le (Nat.le_refl _) (by omega)) ?_
    unfold fX10_read_36
    repeat (first | with_reducible apply v_lt | ((with_reducible apply w_MR); exact hL1; rfl) | ((with_reducible apply w_lv); exact hL1; assumption) | ((with_reducible apply vMI); exact hL1) | ((with_reducible apply vMS); exact hL1) | ((with_reducible apply vMC); exact hL1) | ((with_reducible apply vMZ); exact hL1; (first | exact Or.inl rfl | exact Or.inr rfl | exact b2i_01 _ | assumption)) | ((first | with_reducible apply w_MA | with_reducible apply w_MW | with_reducible apply w_MY | with_reducible apply w_MB | with_reducible apply w_MJ | with_reducible apply w_MK); exact hL1; rfl; rfl; rfl; (first | with_reducible rfl | with_reducible exact ixo _ | with_reducible exact ixoc _ _ | with_reducible exact ixom _ _ _ | with_reducible exact ixop _ _ | with_reducible exact ixod _ _ | assumption); omega))
    have o2 : eo (fun a k => (a = 299 ∧ (k = 4 ∨ k = 2)) ∨ a = 301) h (uI h1 299 2 0) := eo_uI (eo_tr (eo_mono o0 (fun a k z => by omega)) (eo_mono o1 (fun a k z => by omega))) (by omega)
    have tp2 : tpM B n (uI h1 299 2 0) := by
      refine ⟨hn, ?_, fun i hi => ⟨(hB i hi).1, ?_⟩⟩
      · rw [gI_ne (by omega), o1.2 _ _ (fun z => by omega)]
        exact b4
      · rw [gI_ne (by omega)]
        exact f1 i hi
    have wd2 : wdM (uI h1 299 2 0) := fun i hi => by
      have : gL (uI h1 299 2 0) 306 i = gL h 306 i := by
        unfold gL
        rw [o2.1]
      rw [this]
      exact hw i hi
    have c2 : gI (uI h1 299 2 0) 299 2 = nI 0 := gI_eq
    have hL2 : LM (uI h1 299 2 0).2 := hL1
    obtain ⟨h2, hh2⟩ : ∃ h2, h2 = uI h1 299 2 0 := ⟨_, rfl⟩
    rw [← hh2] at o2 tp2 wd2 c2 hL2 ⊢
    refine v_bd (cutM hfu hL2 wd2 tp2) (fun _ h3 q3 => ?_)
    obtain ⟨o3, al⟩ := q3
    have hL3 := LM_eL o3 hL2
    have e3 : eL (sRf (1 - l)) lRf h h3 := eL_tr (eL_mono (eL_eo (SL := lRf) o2) (fun a k z => Or.inr (by omega)) (fun a k z => z)) (eL_mono o3 (fun a k z => Or.inr (by unfold sCu at z; omega)) (fun a k z => Or.inl z))
    have k3 : ∀ a k, ¬ sCu a k → ¬ ((a = 299 ∧ (k = 4 ∨ k = 2)) ∨ a = 301) → gI h3 a k = gI h a k := fun a k z1 z2 => by rw [o3.2.1 _ _ z1, o2.2 _ _ z2]
    have d18 : gI (uI (uI (uI (uI h3 299 11 0) 299 12 0) 299 13 0) 299 15 0) 299 18 = nI l := by
      rw [gI_ne (by omega), gI_ne (by omega), gI_ne (by omega), gI_ne (by omega), k3 _ _ (fun z => by unfold sCu at z; omega) (by omega)]
      exact g18
    repeat (first | with_reducible apply v_lt | ((with_reducible apply w_MR); exact hL3; rfl) | ((with_reducible apply w_lv); exact hL3; assumption) | ((with_reducible apply vMI); exact hL3) | ((with_reducible apply vMS); exact hL3) | ((with_reducible apply vMC); exact hL3) | ((with_reducible apply vMZ); exact hL3; (first | exact Or.inl rfl | exact Or.inr rfl | exact b2i_01 _ | assumption)) | ((first | with_reducible apply w_MA | with_reducible apply w_MW | with_reducible apply w_MY | with_reducible apply w_MB | with_reducible apply w_MJ | with_reducible apply w_MK); exact hL3; rfl; rfl; rfl; (first | with_reducible rfl | with_reducible exact ixo _ | with_reducible exact ixoc _ _ | with_reducible exact ixom _ _ _ | with_reducible exact ixop _ _ | with_reducible exact ixod _ _ | assumption); omega))
    rw [show (1 : Int32) - nI l = nI (1 - l) from pk_sub (a := 1) (by omega)]
    obtain ⟨s, hs⟩ : ∃ s, s = 1 - l := ⟨_, rfl⟩
    rw [← hs] at e3 ⊢
    obtain ⟨h4, hh4⟩ : ∃ h4, h4 = uI (uI (uI (uI (uI (uI h3 299 11 0) 299 12 0) 299 13 0) 299 15 0) 299 19 (nI s)) 299 20 0 := ⟨_, rfl⟩
    have o4 : eo (fun a k => a = 299 ∧ (k = 11 ∨ k = 12 ∨ k = 13 ∨ k = 15 ∨ k = 19 ∨ k = 20)) h3 h4 := by
      rw [hh4]
      exact eo_uI (eo_uI (eo_uI (eo_uI (eo_uI (eo_uI eo_rf ⟨rfl, by omega⟩) ⟨rfl, by omega⟩) ⟨rfl, by omega⟩) ⟨rfl, by omega⟩) ⟨rfl, by omega⟩) ⟨rfl, by omega⟩
    have u11 : gI h4 299 11 = nI 0 := by
      rw [hh4, gI_ne (by omega), gI_ne (by omega), gI_ne (by omega), gI_ne (by omega), gI_ne (by omega), gI_eq]
      rfl
    have u12 : gI h4 299 12 = 0 := by rw [hh4, gI_ne (by omega), gI_ne (by omega), gI_ne (by omega), gI_ne (by omega), gI_eq]
    have u13 : gI h4 299 13 = 0 := by rw [hh4, gI_ne (by omega), gI_ne (by omega), gI_ne (by omega), gI_eq]
    have u15 : gI h4 299 15 = 0 := by rw [hh4, gI_ne (by omega), gI_ne (by omega), gI_eq]
    have u19 : gI h4 299 19 = nI s := by rw [hh4, gI_ne (by omega), gI_eq]
    have u20 : gI h4 299 20 = 0 := by rw [hh4, gI_eq]
    have hL4 : LM h4.2 := by rw [o4.1]; exact hL3
    rw [← hh4, u19]
    refine v_bd (plainM (by omega) (by omega) hL4) (fun _ h5 q5 => ?_)
    obtain ⟨o5, t5, l5⟩ := q5
    have hL5 : LM h5.2 := by rw [o5.1]; exact hL4
    have k5 : ∀ a k, (a < 309 ∨ 322 < a) → gI h5 a k = gI h4 a k := fun a k z => o5.2 _ _ (fun y => by unfold sPn at y; omega)
    have v19 : gI h5 299 19 = nI s := by rw [k5 _ _ (by omega)]; exact u19
    repeat (first | with_reducible apply v_lt | ((with_reducible apply w_MR); exact hL5; rfl) | ((with_reducible apply w_lv); exact hL5; assumption) | ((with_reducible apply vMI); exact hL5) | ((with_reducible apply vMS); exact hL5) | ((with_reducible apply vMC); exact hL5) | ((with_reducible apply vMZ); exact hL5; (first | exact Or.inl rfl | exact Or.inr rfl | exact b2i_01 _ | assumption)) | ((first | with_reducible apply w_MA | with_reducible apply w_MW | with_reducible apply w_MY | with_reducible apply w_MB | with_reducible apply w_MJ | with_reducible apply w_MK); exact hL5; rfl; rfl; rfl; (first | with_reducible rfl | with_reducible exact ixo _ | with_reducible exact ixoc _ _ | with_reducible exact ixom _ _ _ | with_reducible exact ixop _ _ | with_reducible exact ixod _ _ | assumption); omega))
    rw [v19]
    have v19' : gI (uI h5 299 37 (130 * nI s)) 299 19 = nI s := by rw [gI_ne (by omega)]; exact v19
    rw [v19']
    obtain ⟨g, hg⟩ : ∃ g, g = uI (uI h5 299 37 (130 * nI s)) 299 43 (420 * nI s) := ⟨_, rfl⟩
    rw [← hg]
    have og : eo (fun a k => a = 299 ∧ (k = 37 ∨ k = 43)) h5 g := by
      rw [hg]
      exact eo_uI (eo_uI eo_rf ⟨rfl, Or.inl rfl⟩) ⟨rfl, Or.inr rfl⟩
    have s01 : s = 0 ∨ s = 1 := by omega
    have p37 : gI g 299 37 = nI (130 * s + 0) := by
      rw [hg, gI_ne (by omega), gI_eq]
      rcases s01 with z | z <;> rw [z] <;> decide
    have p43 : gI g 299 43 = nI (420 * s + 0) := by
      rw [hg, gI_eq]
      rcases s01 with z | z <;> rw [z] <;> decide
    have hLg : LM g.2 := by rw [og.1]; exact hL5
    have kg : ∀ a k, (a < 309 ∨ 322 < a) → ¬ (a = 299 ∧ (k = 37 ∨ k = 43)) → gI g a k = gI h4 a k := fun a k z1 z2 => by rw [og.2 _ _ z2, k5 _ _ z1]
    have eg : eL (sRf s) lRf h g := by
      refine eL_tr e3 (eL_tr (eL_mono (eL_eo (SL := lRf) o4) (fun a k z => ?_) (fun a k z => z)) (eL_tr (eL_mono (eL_eo (SL := lRf) o5) (fun a k z => ?_) (fun a k z => z)) (eL_mono (eL_eo (SL := lRf) og) (fun a k z => ?_) (fun a k z => z))))
      · rcases z with ⟨z1, z2⟩
        rcases z2 with y | y | y | y | y | y
        · exact Or.inl (Or.inl ⟨z1, by omega⟩)
        · exact Or.inl (Or.inl ⟨z1, by omega⟩)
        · exact Or.inl (Or.inl ⟨z1, by omega⟩)
        · exact Or.inl (Or.inl ⟨z1, by omega⟩)
        · exact Or.inr (Or.inl ⟨z1, by omega⟩)
        · exact Or.inl (Or.inl ⟨z1, by omega⟩)
      · rcases z with z | z | z
        · exact Or.inl (Or.inr (Or.inr (Or.inl z)))
        · exact Or.inl (Or.inr (Or.inr (Or.inr (Or.inl ⟨by omega, z.2⟩))))
        · exact Or.inl (Or.inr (Or.inr (Or.inr (Or.inr (Or.inl z)))))
      · exact Or.inl (Or.inl ⟨z.1, by omega⟩)
    have g9 : ∀ a k, gL g a k = gL h3 a k := fun a k => by
      unfold gL
      rw [og.1, o5.1, o4.1]
    have r0 : relM (tk B n) s A0 0 g := by
      refine ⟨⟨⟨?_, ?_, by omega, fun j hj => absurd hj (Nat.not_lt_zero j), fun j hj hno => ?_⟩, ?_, ?_⟩, tcM_eo og (fun a k z => by omega) t5, ⟨fun _ => 0, ?_, fun k hk => absurd hk (Nat.not_lt_zero k), fun k hk => absurd hk (Nat.not_lt_zero k), fun k hk => absurd hk (Nat.not_lt_zero k), fun k1 k2 _ hk => absurd hk (Nat.not_lt_zero k2)⟩, ⟨?_, fun z => absurd rfl z, by decide⟩, fun z => absurd rfl z, ⟨0, 0, p43, Nat.le_refl _, p37, Nat.le_refl _, fun k hk => ?_⟩, wM0⟩
      · rw [kg _ _ (by omega) (by omega)]; exact u11
      · rw [kg _ _ (by omega) (by omega)]; exact u13
      · obtain ⟨w1, w2, w3, w4⟩ := al j hj hno
        have f : ∀ a, 302 ≤ a → a ≤ 305 → gI g a j = gI h3 a j := fun a z1 z2 => by rw [kg _ _ (by omega) (by omega), o4.2 _ _ (fun z => by omega)]
        exact ⟨by rw [f _ (by omega) (by omega)]; exact w1, by rw [f _ (by omega) (by omega)]; exact w2, fun z => by rw [f _ (by omega) (by omega)]; exact w3 z, fun z => by rw [g9]; exact w4 z⟩
      · rw [kg _ _ (by omega) (by omega)]; exact u12
      · rw [kg _ _ (by omega) (by omega)]; exact u19
      · rw [kg _ _ (by omega) (by omega)]; exact u20
      · rw [kg _ _ (by omega) (by omega)]; exact u15
      · intro h9 f1 f2 _ _
        show gI h9 321 (4 * s + k) = gI h9 322 (4 * s + k)
        rw [f1, f2, og.2 _ _ (fun z => by omega), og.2 _ _ (fun z => by omega), (l5 k hk).1, (l5 k hk).2]
    refine tellsL (by omega) hT (by omega) hLg r0 rfl (fun h6 o6 q6 => ?_)
    refine end134 (by omega) (by omega) (LM_eL o6 hLg) eg o6 ?_ ?_ q6
    · rw [kg _ _ (by omega) (by omega), o4.2 _ _ (fun z => by omega), o3.2.1 _ _ (fun z => by unfold sCu at z; omega)]
      exact c2
    · rw [kg _ _ (by omega) (by omega)]
      exact u19
  · intro j h1 k hj hI hk
    obtain ⟨o1, f1⟩ := hI
    have hL1 : LM h1.2 := by rw [o1.1]; exact hL0
    obtain ⟨b1, b2⟩ := hB j hj
    unfold bX10_read_10
    dsimp only
    repeat (first | with_reducible apply v_lt | ((with_reducible apply w_MR); exact hL1; rfl) | ((with_reducible apply w_lv); exact hL1; assumption) | ((with_reducible apply vMI); exact hL1) | ((with_reducible apply vMS); exact hL1) | ((with_reducible apply vMC); exact hL1) | ((with_reducible apply vMZ); exact hL1; (first | exact Or.inl rfl | exact Or.inr rfl | exact b2i_01 _ | assumption)) | ((first | with_reducible apply w_MA | with_reducible apply w_MW | with_reducible apply w_MY | with_reducible apply w_MB | with_reducible apply w_MJ | with_reducible apply w_MK); exact hL1; rfl; rfl; rfl; (first | with_reducible rfl | with_reducible exact ixo _ | with_reducible exact ixoc _ _ | with_reducible exact ixom _ _ _ | with_reducible exact ixop _ _ | with_reducible exact ixod _ _ | assumption); omega))
    rw [o1.2 _ _ (fun z => by omega), b4]
    refine v_ie (nI_ge hj (by omega)) ?_
    repeat (first | with_reducible apply v_lt | ((with_reducible apply w_MR); exact hL1; rfl) | ((with_reducible apply w_lv); exact hL1; assumption) | ((with_reducible apply vMI); exact hL1) | ((with_reducible apply vMS); exact hL1) | ((with_reducible apply vMC); exact hL1) | ((with_reducible apply vMZ); exact hL1; (first | exact Or.inl rfl | exact Or.inr rfl | exact b2i_01 _ | assumption)) | ((first | with_reducible apply w_MA | with_reducible apply w_MW | with_reducible apply w_MY | with_reducible apply w_MB | with_reducible apply w_MJ | with_reducible apply w_MK); exact hL1; rfl; rfl; rfl; (first | with_reducible rfl | with_reducible exact ixo _ | with_reducible exact ixoc _ _ | with_reducible exact ixom _ _ _ | with_reducible exact ixop _ _ | with_reducible exact ixod _ _ | assumption); omega))
    have b3 : gI h1 300 j = byN (B j) := by
      rw [o1.2 _ _ (fun z => by omega), o0.2 _ _ (fun z => by omega)]
      exact b2
    rw [b3, (by_all _ b1).2.2.2.2.2.2]
    refine hk _ ⟨eo_uI o1 rfl, fun i hi => ?_⟩
    by_cases e : i = j
    · rw [e, gI_eq]
    · rw [gI_ne (by omega)]
      exact f1 i (by omega)
