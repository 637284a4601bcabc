/-! THE REFERENCE READS: a listener -/
set_option maxHeartbeats 4000000 in
theorem listT {fu s i : Nat} {τ : Nat → Tk} {A : RT} {h : mh} (hfu : 1000 ≤ fu) (hT : tkOk τ) (hs : s < 2) (hL : LM h.2) (r : relM τ s A i h) (hk : tkK (τ i) = 1) : ok (fX10_tellOne fu 299 h) (fun _ h' => tellQ τ s A i h h') := by
  obtain ⟨⟨a, g12, g19⟩, t, ⟨no, nm⟩, f, fp, lw, w⟩ := r
  obtain ⟨⟨t1, t2, t3, t4, t5, t6⟩, t7, t8, t9⟩ := id t
  have wa : wA A := w.1
  obtain ⟨w0, w1, -⟩ := wa.1
  have hi := a.2.2.1
  have a1 := a.1
  have row := (a.2.2.2.2 i hi a.2.2.2.1).1
  obtain ⟨O1, O2, O3⟩ := openX hi w hk (by omega)
  rw [ful_1] at O1 O2 O3
  obtain ⟨R, hR⟩ : ∃ R, R = run τ (bd9 A) i := ⟨_, rfl⟩
  unfold tellQ
  rw [← hR] at O1 O2 O3 ⊢
  unfold fX10_tellOne
  repeat (first | with_reducible apply v_lt | ((with_reducible apply w_MR); exact hL; rfl) | ((with_reducible apply w_lv); exact hL; assumption) | ((with_reducible apply vMI); exact hL) | ((with_reducible apply vMS); exact hL) | ((with_reducible apply vMC); exact hL) | ((with_reducible apply vMZ); exact hL; (first | exact Or.inl rfl | exact Or.inr rfl | exact b2i_01 _ | assumption)) | ((first | with_reducible apply w_MA | with_reducible apply w_MW | with_reducible apply w_MY | with_reducible apply w_MB | with_reducible apply w_MJ | with_reducible apply w_MK); exact hL; rfl; rfl; rfl; (first | with_reducible rfl | with_reducible exact ixo _ | with_reducible exact ixoc _ _ | with_reducible exact ixom _ _ _ | with_reducible exact ixop _ _ | with_reducible exact ixod _ _ | assumption); omega))
  rw [row, hk]
  refine v_ie (by decide) (v_it rfl ?_)
  repeat (first | with_reducible apply v_lt | ((with_reducible apply w_MR); exact hL; rfl) | ((with_reducible apply w_lv); exact hL; assumption) | ((with_reducible apply vMI); exact hL) | ((with_reducible apply vMS); exact hL) | ((with_reducible apply vMC); exact hL) | ((with_reducible apply vMZ); exact hL; (first | exact Or.inl rfl | exact Or.inr rfl | exact b2i_01 _ | assumption)) | ((first | with_reducible apply w_MA | with_reducible apply w_MW | with_reducible apply w_MY | with_reducible apply w_MB | with_reducible apply w_MJ | with_reducible apply w_MK); exact hL; rfl; rfl; rfl; (first | with_reducible rfl | with_reducible exact ixo _ | with_reducible exact ixoc _ _ | with_reducible exact ixom _ _ _ | with_reducible exact ixop _ _ | with_reducible exact ixod _ _ | assumption); omega))
  rw [t2]
  refine v_bd (roomW hL w1 (by omega) a) (fun _ h8 q8 => ?_)
  obtain ⟨o8, q8⟩ := q8
  have hL8 : LM h8.2 := by rw [o8.1]; exact hL
  have e8 : eL (sRm s) lEn h h8 := eL_mono (eL_eo (SL := lEn) o8) (fun a k z => sGo_Rm z) (fun a k z => z)
  have g19_8 : gI h8 299 19 = nI s := by rw [o8.2 _ _ (fun z => by unfold sGo at z; omega)]; exact g19
  have t2_8 : gI h8 312 s = nI (tX A 0 1) := by rw [o8.2 _ _ (fun z => by unfold sGo at z; omega)]; exact t2
  repeat (first | with_reducible apply v_lt | ((with_reducible apply w_MR); exact hL8; rfl) | ((with_reducible apply w_lv); exact hL8; assumption) | ((with_reducible apply vMI); exact hL8) | ((with_reducible apply vMS); exact hL8) | ((with_reducible apply vMC); exact hL8) | ((with_reducible apply vMZ); exact hL8; (first | exact Or.inl rfl | exact Or.inr rfl | exact b2i_01 _ | assumption)) | ((first | with_reducible apply w_MA | with_reducible apply w_MW | with_reducible apply w_MY | with_reducible apply w_MB | with_reducible apply w_MJ | with_reducible apply w_MK); exact hL8; rfl; rfl; rfl; (first | with_reducible rfl | with_reducible exact ixo _ | with_reducible exact ixoc _ _ | with_reducible exact ixom _ _ _ | with_reducible exact ixop _ _ | with_reducible exact ixod _ _ | assumption); omega))
  rcases q8 with ⟨n6, i4, a8⟩ | ⟨y, d8⟩
  · have n6' : (tX A 0 1 == 6) = false := by simp; omega
    obtain ⟨R1, W1⟩ := O3 n6' (by omega)
    have nm8 := nmM_eL (SL := fun _ _ => False) (eL_eo o8) (fun a k z => by unfold sGo at z; omega) (fun k z => z) nm
    have alv1 : alvF τ R A 1 0 none (i + 1) h8 := ⟨R1, W1, a8, flM_eo o8 (fun a k z => by unfold sGo at z; omega) f, (fpl_nF (c := 3) hT (show tkK (τ i) ≠ 98 by omega) fp).1⟩
    rw [a8.2.1]
    refine v_it (by decide) ?_
    repeat (first | with_reducible apply v_lt | ((with_reducible apply w_MR); exact hL8; rfl) | ((with_reducible apply w_lv); exact hL8; assumption) | ((with_reducible apply vMI); exact hL8) | ((with_reducible apply vMS); exact hL8) | ((with_reducible apply vMC); exact hL8) | ((with_reducible apply vMZ); exact hL8; (first | exact Or.inl rfl | exact Or.inr rfl | exact b2i_01 _ | assumption)) | ((first | with_reducible apply w_MA | with_reducible apply w_MW | with_reducible apply w_MY | with_reducible apply w_MB | with_reducible apply w_MJ | with_reducible apply w_MK); exact hL8; rfl; rfl; rfl; (first | with_reducible rfl | with_reducible exact ixo _ | with_reducible exact ixoc _ _ | with_reducible exact ixom _ _ _ | with_reducible exact ixop _ _ | with_reducible exact ixod _ _ | assumption); omega))
    rw [g19_8, t2_8]
    refine v_bd (namedX (tl := 1) hfu hL8 hT (by omega) nm8 (Or.inl alv1)) (fun x16 h15 q15 => ?_)
    obtain ⟨o15, j0, hj0, e16, q15⟩ := q15
    subst e16
    have hL15 : LM h15.2 := by rw [o15.1]; exact hL8
    repeat (first | with_reducible apply v_lt | ((with_reducible apply w_MR); exact hL15; rfl) | ((with_reducible apply w_lv); exact hL15; assumption) | ((with_reducible apply vMI); exact hL15) | ((with_reducible apply vMS); exact hL15) | ((with_reducible apply vMC); exact hL15) | ((with_reducible apply vMZ); exact hL15; (first | exact Or.inl rfl | exact Or.inr rfl | exact b2i_01 _ | assumption)) | ((first | with_reducible apply w_MA | with_reducible apply w_MW | with_reducible apply w_MY | with_reducible apply w_MB | with_reducible apply w_MJ | with_reducible apply w_MK); exact hL15; rfl; rfl; rfl; (first | with_reducible rfl | with_reducible exact ixo _ | with_reducible exact ixoc _ _ | with_reducible exact ixom _ _ _ | with_reducible exact ixop _ _ | with_reducible exact ixod _ _ | assumption); omega))
    refine v_bd (boundP (P := tkK (τ (i + 1)) = 22 ∧ j0 = i + 1) (tl := 1) (st := 1) hL15 hT rfl rfl (by omega) (by omega) rfl (q15.imp (fun z => ⟨⟨z.1, z.2.2.1⟩, z.2.2.2⟩) id)) (fun x19 h18 q18 => ?_)
    obtain ⟨o18, q18⟩ := q18
    clear q15
    have hL18 : LM h18.2 := by rw [o18.1]; exact hL15
    repeat (first | with_reducible apply v_lt | ((with_reducible apply w_MR); exact hL18; rfl) | ((with_reducible apply w_lv); exact hL18; assumption) | ((with_reducible apply vMI); exact hL18) | ((with_reducible apply vMS); exact hL18) | ((with_reducible apply vMC); exact hL18) | ((with_reducible apply vMZ); exact hL18; (first | exact Or.inl rfl | exact Or.inr rfl | exact b2i_01 _ | assumption)) | ((first | with_reducible apply w_MA | with_reducible apply w_MW | with_reducible apply w_MY | with_reducible apply w_MB | with_reducible apply w_MJ | with_reducible apply w_MK); exact hL18; rfl; rfl; rfl; (first | with_reducible rfl | with_reducible exact ixo _ | with_reducible exact ixoc _ _ | with_reducible exact ixom _ _ _ | with_reducible exact ixop _ _ | with_reducible exact ixod _ _ | assumption); omega))
    have o20 : eo (fun a k => a = 313 ∧ k = 6 * s + tX A 0 1) h18 (uI h18 313 (6 * s + tX A 0 1) x19) := eo_uI eo_rf ⟨rfl, rfl⟩
    have g313 : gI (uI h18 313 (6 * s + tX A 0 1) x19) 313 (6 * s + tX A 0 1) = x19 := gI_eq
    have hL20 : LM (uI h18 313 (6 * s + tX A 0 1) x19).2 := hL18
    obtain ⟨h20, hh20⟩ : ∃ h20, h20 = uI h18 313 (6 * s + tX A 0 1) x19 := ⟨_, rfl⟩
    rw [← hh20] at o20 g313 hL20 ⊢
    have q20 := alvP_eo (P := (tkK (τ (i + 1)) = 22 ∧ j0 = i + 1) ∧ x19 = nI (tkV (τ (i + 1 + 1)))) o20 (fun a k z => by omega) (q18.imp (fun z => ⟨⟨z.1, z.2.1.2.2⟩, z.2.2⟩) id)
    clear q18
    refine v_bd (boundP (tl := 1) (st := 2) hL20 hT rfl rfl (by omega) (by omega) rfl q20) (fun x23 h22 q22 => ?_)
    obtain ⟨o22, q22⟩ := q22
    clear q20
    have hL22 : LM h22.2 := by rw [o22.1]; exact hL20
    repeat (first | with_reducible apply v_lt | ((with_reducible apply w_MR); exact hL22; rfl) | ((with_reducible apply w_lv); exact hL22; assumption) | ((with_reducible apply vMI); exact hL22) | ((with_reducible apply vMS); exact hL22) | ((with_reducible apply vMC); exact hL22) | ((with_reducible apply vMZ); exact hL22; (first | exact Or.inl rfl | exact Or.inr rfl | exact b2i_01 _ | assumption)) | ((first | with_reducible apply w_MA | with_reducible apply w_MW | with_reducible apply w_MY | with_reducible apply w_MB | with_reducible apply w_MJ | with_reducible apply w_MK); exact hL22; rfl; rfl; rfl; (first | with_reducible rfl | with_reducible exact ixo _ | with_reducible exact ixoc _ _ | with_reducible exact ixom _ _ _ | with_reducible exact ixop _ _ | with_reducible exact ixod _ _ | assumption); omega))
    have o24 : eo (fun a k => a = 314 ∧ k = 6 * s + tX A 0 1) h22 (uI h22 314 (6 * s + tX A 0 1) x23) := eo_uI eo_rf ⟨rfl, rfl⟩
    have g314 : gI (uI h22 314 (6 * s + tX A 0 1) x23) 314 (6 * s + tX A 0 1) = x23 := gI_eq
    have hL24 : LM (uI h22 314 (6 * s + tX A 0 1) x23).2 := hL22
    obtain ⟨h24, hh24⟩ : ∃ h24, h24 = uI h22 314 (6 * s + tX A 0 1) x23 := ⟨_, rfl⟩
    rw [← hh24] at o24 g314 hL24 ⊢
    have q24 := alvP_eo (P := ((tkK (τ (i + 1)) = 22 ∧ j0 = i + 1) ∧ x19 = nI (tkV (τ (i + 1 + 1)))) ∧ x23 = nI (tkV (τ (i + 1 + 1 + 1)))) o24 (fun a k z => by omega) (q22.imp (fun z => ⟨⟨z.1, z.2.1.2.2⟩, z.2.2⟩) id)
    clear q22
    refine v_bd (boundP (tl := 1) (st := 3) hL24 hT rfl rfl (by omega) (by omega) rfl q24) (fun x27 h26 q26 => ?_)
    obtain ⟨o26, q26⟩ := q26
    clear q24
    have hL26 : LM h26.2 := by rw [o26.1]; exact hL24
    repeat (first | with_reducible apply v_lt | ((with_reducible apply w_MR); exact hL26; rfl) | ((with_reducible apply w_lv); exact hL26; assumption) | ((with_reducible apply vMI); exact hL26) | ((with_reducible apply vMS); exact hL26) | ((with_reducible apply vMC); exact hL26) | ((with_reducible apply vMZ); exact hL26; (first | exact Or.inl rfl | exact Or.inr rfl | exact b2i_01 _ | assumption)) | ((first | with_reducible apply w_MA | with_reducible apply w_MW | with_reducible apply w_MY | with_reducible apply w_MB | with_reducible apply w_MJ | with_reducible apply w_MK); exact hL26; rfl; rfl; rfl; (first | with_reducible rfl | with_reducible exact ixo _ | with_reducible exact ixoc _ _ | with_reducible exact ixom _ _ _ | with_reducible exact ixop _ _ | with_reducible exact ixod _ _ | assumption); omega))
    have o27 : eo (fun a k => a = 315 ∧ k = 6 * s + tX A 0 1) h26 (uI h26 315 (6 * s + tX A 0 1) x27) := eo_uI eo_rf ⟨rfl, rfl⟩
    have g315 : gI (uI h26 315 (6 * s + tX A 0 1) x27) 315 (6 * s + tX A 0 1) = x27 := gI_eq
    have hL27 : LM (uI h26 315 (6 * s + tX A 0 1) x27).2 := hL26
    obtain ⟨h27, hh27⟩ : ∃ h27, h27 = uI h26 315 (6 * s + tX A 0 1) x27 := ⟨_, rfl⟩
    rw [← hh27] at o27 g315 hL27 ⊢
    have q27 := alvP_eo (P := (((tkK (τ (i + 1)) = 22 ∧ j0 = i + 1) ∧ x19 = nI (tkV (τ (i + 1 + 1)))) ∧ x23 = nI (tkV (τ (i + 1 + 1 + 1)))) ∧ x27 = nI (tkV (τ (i + 1 + 1 + 1 + 1)))) o27 (fun a k z => by omega) (q26.imp (fun z => ⟨⟨z.1, z.2.1.2.2⟩, z.2.2⟩) id)
    clear q26
    have fr27 : ∀ a k, ¬ sBo a k → ¬ ((a = 313 ∨ a = 314 ∨ a = 315) ∧ k = 6 * s + tX A 0 1) → gI h27 a k = gI h8 a k := fun a k z1 z2 => by
      rw [o27.2 _ _ (fun y => z2 ⟨Or.inr (Or.inr y.1), y.2⟩), o26.2 _ _ z1, o24.2 _ _ (fun y => z2 ⟨Or.inr (Or.inl y.1), y.2⟩), o22.2 _ _ z1, o20.2 _ _ (fun y => z2 ⟨Or.inl y.1, y.2⟩), o18.2 _ _ z1, o15.2 _ _ z1]
    have fr2 : h27.2 = h8.2 := by rw [o27.1, o26.1, o24.1, o22.1, o20.1, o18.1, o15.1]
    have frL : ∀ a k, gL h27 a k = gL h8 a k := fun a k => by
      unfold gL
      rw [fr2]
    have g19_27 : gI h27 299 19 = nI s := by rw [fr27 _ _ (fun z => by unfold sBo at z; omega) (by omega)]; exact g19_8
    have t2_27 : gI h27 312 s = nI (tX A 0 1) := by rw [fr27 _ _ (fun z => by unfold sBo at z; omega) (by omega)]; exact t2_8
    have n20_27 : gI h27 299 20 = nI (tX A 0 0 + tX A 0 1) := by rw [fr27 _ _ (fun z => by unfold sBo at z; omega) (by omega)]; exact nm8.1
    have e27 : eL (sRm s) lEn h h27 := eL_tr e8 ⟨by rw [fr2], fun a k z => fr27 a k (fun y => z (sBo_Rm y)) (fun y => z (Or.inr (Or.inr (Or.inr (Or.inl ⟨by omega, by omega, by omega⟩))))), fun a k _ => frL a k⟩
    repeat (first | with_reducible apply v_lt | ((with_reducible apply w_MR); exact hL27; rfl) | ((with_reducible apply w_lv); exact hL27; assumption) | ((with_reducible apply vMI); exact hL27) | ((with_reducible apply vMS); exact hL27) | ((with_reducible apply vMC); exact hL27) | ((with_reducible apply vMZ); exact hL27; (first | exact Or.inl rfl | exact Or.inr rfl | exact b2i_01 _ | assumption)) | ((first | with_reducible apply w_MA | with_reducible apply w_MW | with_reducible apply w_MY | with_reducible apply w_MB | with_reducible apply w_MJ | with_reducible apply w_MK); exact hL27; rfl; rfl; rfl; (first | with_reducible rfl | with_reducible exact ixo _ | with_reducible exact ixoc _ _ | with_reducible exact ixom _ _ _ | with_reducible exact ixop _ _ | with_reducible exact ixod _ _ | assumption); omega))
    rw [t2_27]
    refine v_bd (endsP (tl := 1) (st := 4) (n := tX A 0 0 + tX A 0 1) hL27 hT rfl (by omega) (by omega) hj0 (by omega) n20_27 q27) (fun _ h28 q28 => ?_)
    obtain ⟨o28, q28⟩ := q28
    clear q27
    have hL28 : LM h28.2 := LM_eL o28 hL27
    have e28 : eL (sRm s) lEn h h28 := eL_tr e27 (eL_mono o28 (fun a k z => sEn_Rm z) (fun a k z => z))
    have g19_28 : gI h28 299 19 = nI s := by rw [o28.2.1 _ _ (fun z => by unfold sEn at z; omega)]; exact g19_27
    have t2_28 : gI h28 312 s = nI (tX A 0 1) := by rw [o28.2.1 _ _ (fun z => by unfold sEn at z; omega)]; exact t2_27
    repeat (first | with_reducible apply v_lt | ((with_reducible apply w_MR); exact hL28; rfl) | ((with_reducible apply w_lv); exact hL28; assumption) | ((with_reducible apply vMI); exact hL28) | ((with_reducible apply vMS); exact hL28) | ((with_reducible apply vMC); exact hL28) | ((with_reducible apply vMZ); exact hL28; (first | exact Or.inl rfl | exact Or.inr rfl | exact b2i_01 _ | assumption)) | ((first | with_reducible apply w_MA | with_reducible apply w_MW | with_reducible apply w_MY | with_reducible apply w_MB | with_reducible apply w_MJ | with_reducible apply w_MK); exact hL28; rfl; rfl; rfl; (first | with_reducible rfl | with_reducible exact ixo _ | with_reducible exact ixoc _ _ | with_reducible exact ixom _ _ _ | with_reducible exact ixop _ _ | with_reducible exact ixod _ _ | assumption); omega))
    rcases q28 with ⟨⟨⟨⟨⟨k22, ej⟩, ex19⟩, ex23⟩, ex27⟩, j4, R5, W5, a5, f5, fp5, n5, l5, m5, r5⟩ | d
    · rw [a5.2.1]
      refine v_it rfl ?_
      repeat (first | with_reducible apply v_lt | ((with_reducible apply w_MR); exact hL28; rfl) | ((with_reducible apply w_lv); exact hL28; assumption) | ((with_reducible apply vMI); exact hL28) | ((with_reducible apply vMS); exact hL28) | ((with_reducible apply vMC); exact hL28) | ((with_reducible apply vMZ); exact hL28; (first | exact Or.inl rfl | exact Or.inr rfl | exact b2i_01 _ | assumption)) | ((first | with_reducible apply w_MA | with_reducible apply w_MW | with_reducible apply w_MY | with_reducible apply w_MB | with_reducible apply w_MJ | with_reducible apply w_MK); exact hL28; rfl; rfl; rfl; (first | with_reducible rfl | with_reducible exact ixo _ | with_reducible exact ixoc _ _ | with_reducible exact ixom _ _ _ | with_reducible exact ixop _ _ | with_reducible exact ixod _ _ | assumption); omega))
      rw [t2_28, nI_1]
      subst ej
      have nj : gL h27 305 (i + 1) = lN (cod 27 (tkN (τ (i + 1)))) := by
        rw [frL]
        exact (a8.2.2.2.2 (i + 1) (by omega) a8.2.2.2.1).2.2.2 k22
      have o33 : eo (fun a k => a = 312 ∧ k = s) h28 (uI h28 312 s (nI (tX A 0 1 + 1))) := eo_uI eo_rf ⟨rfl, rfl⟩
      have e33 : eL (sRm s) lEn h (uI h28 312 s (nI (tX A 0 1 + 1))) := eL_tr e28 (eL_mono (eL_eo (SL := lEn) o33) (fun a k z => Or.inr (Or.inr (Or.inl ⟨by omega, z.2⟩))) (fun a k z => z))
      have eX : tX (num (num (num (nw9 A 1 (tkN (τ (i + 1))) (tkP (τ (i + 1)))) 1 1 (tkV (τ (i + 1 + 1))) (tkP (τ (i + 1 + 1)))) 1 2 (tkV (τ (i + 1 + 1 + 1))) (tkP (τ (i + 1 + 1 + 1)))) 1 3 (tkV (τ (i + 1 + 1 + 1 + 1))) (tkP (τ (i + 1 + 1 + 1 + 1)))) = up2 (up2 (up2 (up2 (tX A) 0 1 (tX A 0 1 + 1)) 3 (tX A 0 1) (tkV (τ (i + 1 + 1)))) 4 (tX A 0 1) (tkV (τ (i + 1 + 1 + 1)))) 5 (tX A 0 1) (tkV (τ (i + 1 + 1 + 1 + 1))) := by
        have j1 : ∀ B : RT, tX B 0 1 = tX A 0 1 + 1 → fj9 B 1 = tX A 0 1 := fun B e => by
          unfold fj9
          rw [if_neg (by decide), if_pos rfl, e]
          omega
        have n1 : ∀ (B : RT) (st v p : Nat), tX B 0 1 = tX A 0 1 + 1 → tX (num B 1 st v p) 0 1 = tX A 0 1 + 1 := fun B st v p e => by
          rw [num_X.1]
          show up2 (tX B) (st + 2) _ _ 0 1 = _
          rw [up_ne (by omega)]
          exact e
        have b0 : tX (nw9 A 1 (tkN (τ (i + 1))) (tkP (τ (i + 1)))) 0 1 = tX A 0 1 + 1 := by rw [nw_X.1, up_eq]
        rw [num_X.1, num_X.1, num_X.1, nw_X.1, j1 _ b0, j1 _ (n1 _ _ _ _ b0), j1 _ (n1 _ _ _ _ (n1 _ _ _ _ b0))]
        rfl
      have eN : tN (num (num (num (nw9 A 1 (tkN (τ (i + 1))) (tkP (τ (i + 1)))) 1 1 (tkV (τ (i + 1 + 1))) (tkP (τ (i + 1 + 1)))) 1 2 (tkV (τ (i + 1 + 1 + 1))) (tkP (τ (i + 1 + 1 + 1)))) 1 3 (tkV (τ (i + 1 + 1 + 1 + 1))) (tkP (τ (i + 1 + 1 + 1 + 1)))) = up2 (tN A) 1 (tX A 0 1) (tkN (τ (i + 1))) := by rw [num_X.2, num_X.2, num_X.2, nw_X.2]
      have eW : tW (num (num (num (nw9 A 1 (tkN (τ (i + 1))) (tkP (τ (i + 1)))) 1 1 (tkV (τ (i + 1 + 1))) (tkP (τ (i + 1 + 1)))) 1 2 (tkV (τ (i + 1 + 1 + 1))) (tkP (τ (i + 1 + 1 + 1)))) 1 3 (tkV (τ (i + 1 + 1 + 1 + 1))) (tkP (τ (i + 1 + 1 + 1 + 1)))) = tW A := by rw [W_num, W_num, W_num, W_nw]
      obtain ⟨A', hA'⟩ : ∃ A', A' = num (num (num (nw9 A 1 (tkN (τ (i + 1))) (tkP (τ (i + 1)))) 1 1 (tkV (τ (i + 1 + 1))) (tkP (τ (i + 1 + 1)))) 1 2 (tkV (τ (i + 1 + 1 + 1))) (tkP (τ (i + 1 + 1 + 1)))) 1 3 (tkV (τ (i + 1 + 1 + 1 + 1))) (tkP (τ (i + 1 + 1 + 1 + 1))) := ⟨_, rfl⟩
      rw [← hA'] at eX eN eW R5 W5 f5 fp5
      have e33' : eL (fun a k => sBo a k ∨ sEn a k ∨ ((a = 313 ∨ a = 314 ∨ a = 315) ∧ k = 6 * s + tX A 0 1) ∨ (a = 312 ∧ k = s)) lEn h8 (uI h28 312 s (nI (tX A 0 1 + 1))) := by
        refine eL_tr (h1 := h27) ⟨by rw [fr2], fun a k z => fr27 a k (fun y => z (Or.inl y)) (fun y => z (Or.inr (Or.inr (Or.inl y)))), fun a k _ => frL a k⟩ (eL_tr (eL_mono o28 (fun a k z => Or.inr (Or.inl z)) (fun a k z => z)) (eL_mono (eL_eo (SL := lEn) o33) (fun a k z => Or.inr (Or.inr (Or.inr z))) (fun a k z => z)))
      have k8 : ∀ a k, 309 ≤ a → ¬ ((a = 313 ∨ a = 314 ∨ a = 315) ∧ k = 6 * s + tX A 0 1) → ¬ (a = 312 ∧ k = s) → gI (uI h28 312 s (nI (tX A 0 1 + 1))) a k = gI h a k := fun a k z1 z2 z3 => by
        rw [e33'.2.1 _ _ (fun y => by unfold sBo sEn at y; omega), o8.2 _ _ (fun y => by unfold sGo at y; omega)]
      have xs : ∀ b j, ¬ (b = 0 ∧ j = 1) → ¬ ((b = 3 ∨ b = 4 ∨ b = 5) ∧ j = tX A 0 1) → tX A' b j = tX A b j := fun b j z1 z2 => by
        rw [eX, up_ne (fun y => z2 ⟨by omega, y.2⟩), up_ne (fun y => z2 ⟨by omega, y.2⟩), up_ne (fun y => z2 ⟨by omega, y.2⟩), up_ne z1]
      have x1 : tX A' 0 1 = tX A 0 1 + 1 := by rw [eX, up_ne (by omega), up_ne (by omega), up_ne (by omega), up_eq]
      refine v_rV ⟨e33, Or.inl ⟨A', i + 1 + 1 + 1 + 1 + 1 + 1, R5, by omega, ⟨atM_eo o33 (fun a k z => by omega) a5, ?_, ?_⟩, ⟨⟨?_, ?_, ?_, ?_, ?_, ?_⟩, ?_, ?_, ?_⟩, ?_, flM_eo o33 (fun a k z => by omega) f5, fp5, ?_, W5⟩⟩
      · rw [e33'.2.1 _ _ (fun y => by unfold sBo sEn at y; omega), o8.2 _ _ (fun y => by unfold sGo at y; omega)]
        exact g12
      · rw [gI_ne (by omega)]
        exact g19_28
      · rw [k8 _ _ (by omega) (by omega) (by omega), xs _ _ (by omega) (by omega)]; exact t1
      · rw [gI_eq, x1]
      · rw [k8 _ _ (by omega) (by omega) (by omega), xs _ _ (by omega) (by omega)]; exact t3
      · rw [k8 _ _ (by omega) (by omega) (by omega), xs _ _ (by omega) (by omega)]; exact t4
      · rw [k8 _ _ (by omega) (by omega) (by omega), xs _ _ (by omega) (by omega)]; exact t5
      · rw [k8 _ _ (by omega) (by omega) (by omega), xs _ _ (by omega) (by omega)]; exact t6
      · intro r hr
        rw [xs _ _ (by omega) (by omega)] at hr
        rw [k8 _ _ (by omega) (by omega) (by omega), k8 _ _ (by omega) (by omega) (by omega), xs _ _ (by omega) (by omega), xs _ _ (by omega) (by omega)]
        exact t7 r hr
      · intro l hl
        rw [x1] at hl
        by_cases e : l = tX A 0 1
        · rw [e]
          refine ⟨?_, ?_, ?_⟩
          · rw [gI_ne (by omega), o28.2.1 _ _ (fun z => by unfold sEn at z; omega), o27.2 _ _ (fun z => by omega), o26.2 _ _ (fun z => by unfold sBo at z; omega), o24.2 _ _ (fun z => by omega), o22.2 _ _ (fun z => by unfold sBo at z; omega), g313, ex19, eX, up_ne (by omega), up_ne (by omega), up_eq]
          · rw [gI_ne (by omega), o28.2.1 _ _ (fun z => by unfold sEn at z; omega), o27.2 _ _ (fun z => by omega), o26.2 _ _ (fun z => by unfold sBo at z; omega), g314, ex23, eX, up_ne (by omega), up_eq]
          · rw [gI_ne (by omega), o28.2.1 _ _ (fun z => by unfold sEn at z; omega), g315, ex27, eX, up_eq]
        · rw [k8 _ _ (by omega) (by omega) (by omega), k8 _ _ (by omega) (by omega) (by omega), k8 _ _ (by omega) (by omega) (by omega), xs _ _ (by omega) (by omega), xs _ _ (by omega) (by omega), xs _ _ (by omega) (by omega)]
          exact t8 l (by omega)
      · intro l hl
        rw [k8 _ _ (by omega) (by omega) (by omega), xs _ _ (by omega) (by omega)]
        exact t9 l hl
      · refine nmM_new (k9 := 1) (by omega) wa n6 nm8 rfl (fun k hk => ?_) eN ?_ ?_ ?_ (fun k hk => ⟨?_, ?_⟩)
        · rcases (show k = 0 ∨ k = 1 by omega) with rfl | rfl
          · rw [if_neg (by omega)]; exact xs _ _ (by omega) (by omega)
          · rw [if_pos rfl]; exact x1
        · rw [gI_ne (by omega)]; exact n5
        · rw [gL_uI, l5, nj]
        · rw [gI_ne (by omega), m5, if_neg (by decide)]
          exact nI_add 10 _
        · rw [gL_uI, (r5 k hk).1, frL]
        · rw [gI_ne (by omega), (r5 k hk).2, fr27 _ _ (fun z => by unfold sBo at z; omega) (by omega)]
      · exact lwM_eL (eL_tr (eL_mono (eL_eo (SL := lEn) o8) (fun a k z => Or.inr z) (fun a k z => z)) (eL_mono e33' (fun a k z => Or.inl z) (fun a k z => z))) (fun a k z => by unfold sBo sEn sGo at z; omega) (by omega) eW lw
    · exact v_ie (x13 d).2 (v_rV ⟨e28, Or.inr d⟩)
  · refine v_ie (x13 d8).1 (v_rV ⟨e8, Or.inr ?_⟩)
    have : R = (2, tkP (τ i), A) := by
      by_cases z : tX A 0 1 = 6
      · exact O1 (by simp [z])
      · exact O2 (by simp [z]) (by omega)
    rw [this]
    exact d8
