/-! THE REFERENCE READS: all of it -/
theorem isE {fu i : Nat} {τ : Nat → Tk} {h : mh} (hL : LM h.2) (hk : tkK (τ i) < 100) (q : atM τ i h) : fX10_is fu 299 0 h = some (b2i (decide (tkK (τ i) = 98)), h) := by
  obtain ⟨q1, q2, q3, q4, q5⟩ := q
  obtain ⟨w1, -, -, -⟩ := q5 i q3 q4
  refine ok_eq ?_
  unfold fX10_is
  repeat (first | with_reducible apply v_lt | ((with_reducible apply w_MR); exact hL; rfl) | ((with_reducible apply w_lv); exact hL; assumption) | ((with_reducible apply vMI); exact hL) | ((with_reducible apply vMS); exact hL) | ((with_reducible apply vMC); exact hL) | ((with_reducible apply vMZ); exact hL; (first | exact Or.inl rfl | exact Or.inr rfl | exact b2i_01 _ | assumption)) | ((first | with_reducible apply w_MA | with_reducible apply w_MW | with_reducible apply w_MY | with_reducible apply w_MB | with_reducible apply w_MJ | with_reducible apply w_MK); exact hL; rfl; rfl; rfl; (first | with_reducible rfl | with_reducible exact ixo _ | with_reducible exact ixoc _ _ | with_reducible exact ixom _ _ _ | with_reducible exact ixop _ _ | with_reducible exact ixod _ _ | assumption); omega))
  rw [q2]
  refine v_it rfl ?_
  repeat (first | with_reducible apply v_lt | ((with_reducible apply w_MR); exact hL; rfl) | ((with_reducible apply w_lv); exact hL; assumption) | ((with_reducible apply vMI); exact hL) | ((with_reducible apply vMS); exact hL) | ((with_reducible apply vMC); exact hL) | ((with_reducible apply vMZ); exact hL; (first | exact Or.inl rfl | exact Or.inr rfl | exact b2i_01 _ | assumption)) | ((first | with_reducible apply w_MA | with_reducible apply w_MW | with_reducible apply w_MY | with_reducible apply w_MB | with_reducible apply w_MJ | with_reducible apply w_MK); exact hL; rfl; rfl; rfl; (first | with_reducible rfl | with_reducible exact ixo _ | with_reducible exact ixoc _ _ | with_reducible exact ixom _ _ _ | with_reducible exact ixop _ _ | with_reducible exact ixod _ _ | assumption); omega))
  rw [w1]
  have e := (sm_all _ hk).1
  by_cases z : tkK (τ i) = 98
  · exact v_it (e.mpr z) (v_rZ (Or.inr rfl) ⟨by rw [decide_eq_true z]; rfl, rfl⟩)
  · exact v_ie (fun w => z (e.mp w)) (v_rZ (Or.inl rfl) ⟨by rw [decide_eq_false z]; rfl, rfl⟩)
/-- tell by tell -/
theorem tellsL {fu s : Nat} {τ : Nat → Tk} {R : Nat × Nat × RT} {v : Int32} {g : mh} {Q : Int32 → mh → Prop} (hfu : 1000 ≤ fu) (hT : tkOk τ) (hs : s < 2) (hL : LM g.2) (r : relM τ s A0 0 g) (hR : R = run τ (bd9 A0) 0)
    (hE : ∀ h', eL (sRm s) lEn g h' → ((∃ A i, R = ((tF A).1, (tF A).2, A) ∧ relM τ s A i h') ∨ ddR R h') → ok (fX10_read_134 fu 299 v h') Q) : ok (itr (bX10_read_112 fu 299 v) fu g) Q := by
  have mb : mu9 g < fu := by
    rw [mu_a r.1.1]
    omega
  refine itr_ms (I := fun h' => eL (sRm s) lEn g h' ∧ ((∃ A i, R = run τ (bd9 A) i ∧ relM τ s A i h') ∨ ddR R h')) (P := fun R => ok R _) mu9 ?_ fu _ mb ⟨eL_rf, Or.inl ⟨A0, 0, hR, r⟩⟩
  intro h1 k hI hk
  obtain ⟨o1, hI⟩ := hI
  have hL1 := LM_eL o1 hL
  unfold bX10_read_112
  repeat (first | with_reducible apply v_lt | ((with_reducible apply w_MR); exact hL1; rfl) | ((with_reducible apply w_lv); exact hL1; assumption) | ((with_reducible apply vMI); exact hL1) | ((with_reducible apply vMS); exact hL1) | ((with_reducible apply vMC); exact hL1) | ((with_reducible apply vMZ); exact hL1; (first | exact Or.inl rfl | exact Or.inr rfl | exact b2i_01 _ | assumption)) | ((first | with_reducible apply w_MA | with_reducible apply w_MW | with_reducible apply w_MY | with_reducible apply w_MB | with_reducible apply w_MJ | with_reducible apply w_MK); exact hL1; rfl; rfl; rfl; (first | with_reducible rfl | with_reducible exact ixo _ | with_reducible exact ixoc _ _ | with_reducible exact ixom _ _ _ | with_reducible exact ixop _ _ | with_reducible exact ixod _ _ | assumption); omega))
  rcases hI with ⟨A, i, R1, r1⟩ | d
  · have a := r1.1.1
    have hi := a.2.2.1
    rw [a.2.1]
    refine v_it rfl ?_
    repeat (first | with_reducible apply v_lt | ((with_reducible apply w_MR); exact hL1; rfl) | ((with_reducible apply w_lv); exact hL1; assumption) | ((with_reducible apply vMI); exact hL1) | ((with_reducible apply vMS); exact hL1) | ((with_reducible apply vMC); exact hL1) | ((with_reducible apply vMZ); exact hL1; (first | exact Or.inl rfl | exact Or.inr rfl | exact b2i_01 _ | assumption)) | ((first | with_reducible apply w_MA | with_reducible apply w_MW | with_reducible apply w_MY | with_reducible apply w_MB | with_reducible apply w_MJ | with_reducible apply w_MK); exact hL1; rfl; rfl; rfl; (first | with_reducible rfl | with_reducible exact ixo _ | with_reducible exact ixoc _ _ | with_reducible exact ixom _ _ _ | with_reducible exact ixop _ _ | with_reducible exact ixod _ _ | assumption); omega))
    refine v_eq (isE hL1 (hT.1 i).1 a) ?_
    by_cases z : tkK (τ i) = 98
    · rw [decide_eq_true z]
      refine v_ie (by decide) (hE h1 o1 (Or.inl ⟨A, i, ?_, r1⟩))
      rw [R1, run_e hi z]
    · rw [decide_eq_false z]
      refine v_it rfl ?_
      repeat (first | with_reducible apply v_lt | ((with_reducible apply w_MR); exact hL1; rfl) | ((with_reducible apply w_lv); exact hL1; assumption) | ((with_reducible apply vMI); exact hL1) | ((with_reducible apply vMS); exact hL1) | ((with_reducible apply vMC); exact hL1) | ((with_reducible apply vMZ); exact hL1; (first | exact Or.inl rfl | exact Or.inr rfl | exact b2i_01 _ | assumption)) | ((first | with_reducible apply w_MA | with_reducible apply w_MW | with_reducible apply w_MY | with_reducible apply w_MB | with_reducible apply w_MJ | with_reducible apply w_MK); exact hL1; rfl; rfl; rfl; (first | with_reducible rfl | with_reducible exact ixo _ | with_reducible exact ixoc _ _ | with_reducible exact ixom _ _ _ | with_reducible exact ixop _ _ | with_reducible exact ixod _ _ | assumption); omega))
      refine v_bd (tellT hfu hT hs hL1 r1 z) (fun _ h2 q => ?_)
      obtain ⟨o2, q⟩ := q
      rcases q with ⟨A', i', y1, y2, y3⟩ | d
      · refine hk h2 ⟨eL_tr o1 o2, Or.inl ⟨A', i', R1.trans y1, y3⟩⟩ ?_
        rw [mu_a a, mu_a y3.1.1]
        have := y3.1.1.2.2.1
        omega
      · refine hk h2 ⟨eL_tr o1 o2, Or.inr (by rw [R1]; exact d)⟩ ?_
        rw [mu_a a, mu_d d]
        omega
  · exact v_ie (x13 d).2 (hE h1 o1 (Or.inr d))
def sRf (s a k : Nat) : Prop := sRm s a k ∨ (a = 299 ∧ (k = 2 ∨ k = 4 ∨ k = 10 ∨ k = 17 ∨ k = 19)) ∨ (301 ≤ a ∧ a ≤ 304)
def sRs (s a k : Nat) : Prop := sRf s a k ∨ a = 333 ∨ a = 334 ∨ (a = 299 ∧ (k = 18 ∨ k = 53 ∨ k = 54 ∨ k = 58 ∨ k = 63)) ∨ a = 341
def lRf (a _k : Nat) : Prop := a = 305 ∨ a = 307
/-- what reading comes to in the reference -/
def rdM (s : Nat) (R : Nat × Nat × RT) (h : mh) (x : Int32) (h' : mh) : Prop := x = nI R.1 ∧ gI h' 299 2 = nI 0 ∧ gI h' 299 17 = (if R.1 = 0 then -1 else nI R.2.1) ∧ (R.1 ≠ 0 → eL (sRf s) lRf h h') ∧ (R.1 = 0 → eL (sRs s) lRf h h' ∧ gI h' 299 18 = nI s ∧ tcM s R.2.2 h' ∧ (∀ k, k < 4 → lawM h' s k (tW R.2.2 k)) ∧ ngM h' 333 (NB R.2.2) ∧ gI h' 299 58 = nI 0 ∧ gI h' 299 63 = nI 0 ∧ ∀ j, j < 3 → gI h' 341 j = 0)
theorem tcM_eo {S : Nat → Nat → Prop} {s : Nat} {A : RT} {h h1 : mh} (o : eo S h h1) (hs : ∀ a k, S a k → ¬ (309 ≤ a ∧ a ≤ 320)) (q : tcM s A h) : tcM s A h1 := by
  obtain ⟨⟨t1, t2, t3, t4, t5, t6⟩, t7, t8, t9⟩ := q
  have kk : ∀ a j, 309 ≤ a → a ≤ 320 → gI h1 a j = gI h a j := fun a j z1 z2 => o.2 _ _ (fun y => hs a j y ⟨z1, z2⟩)
  exact ⟨⟨by rw [kk _ _ (by omega) (by omega)]; exact t1, by rw [kk _ _ (by omega) (by omega)]; exact t2, by rw [kk _ _ (by omega) (by omega)]; exact t3, by rw [kk _ _ (by omega) (by omega)]; exact t4, by rw [kk _ _ (by omega) (by omega)]; exact t5, by rw [kk _ _ (by omega) (by omega)]; exact t6⟩, fun r hr => by rw [kk _ _ (by omega) (by omega), kk _ _ (by omega) (by omega)]; exact t7 r hr, fun r hr => by rw [kk _ _ (by omega) (by omega), kk _ _ (by omega) (by omega), kk _ _ (by omega) (by omega)]; exact t8 r hr, fun r hr => by rw [kk _ _ (by omega) (by omega)]; exact t9 r hr⟩
theorem end134 {fu s : Nat} {τ : Nat → Tk} {R : Nat × Nat × RT} {v : Int32} {h g h1 : mh} (hfu : 1000 ≤ fu) (hs : s < 2) (hL : LM h1.2) (og : eL (sRf s) lRf h g) (o1 : eL (sRm s) lEn g h1) (g2 : gI g 299 2 = nI 0) (g19 : gI g 299 19 = nI s) (q : (∃ A i, R = ((tF A).1, (tF A).2, A) ∧ relM τ s A i h1) ∨ ddR R h1) : ok (fX10_read_134 fu 299 v h1) (fun x h' => rdM s R h x h') := by
  have e1 : eL (sRf s) lRf h h1 := eL_tr og (eL_mono o1 (fun a k z => Or.inl z) (fun a k z => Or.inr z))
  have k2 : gI h1 299 2 = nI 0 := by
    rw [o1.2.1 _ _ (fun z => ?_)]
    · exact g2
    · rcases z with z | z | z | z | z | z | z | z <;> omega
  unfold fX10_read_134
  repeat (first | with_reducible apply v_lt | ((with_reducible apply w_MR); exact hL; rfl) | ((with_reducible apply w_lv); exact hL; assumption) | ((with_reducible apply vMI); exact hL) | ((with_reducible apply vMS); exact hL) | ((with_reducible apply vMC); exact hL) | ((with_reducible apply vMZ); exact hL; (first | exact Or.inl rfl | exact Or.inr rfl | exact b2i_01 _ | assumption)) | ((first | with_reducible apply w_MA | with_reducible apply w_MW | with_reducible apply w_MY | with_reducible apply w_MB | with_reducible apply w_MJ | with_reducible apply w_MK); exact hL; rfl; rfl; rfl; (first | with_reducible rfl | with_reducible exact ixo _ | with_reducible exact ixoc _ _ | with_reducible exact ixom _ _ _ | with_reducible exact ixop _ _ | with_reducible exact ixod _ _ | assumption); omega))
  rcases q with ⟨A, i, R1, r⟩ | d
  · obtain ⟨⟨a, g12, g19'⟩, t, -, f, -, lw, w⟩ := r
    rw [a.2.1]
    refine v_it (by decide) ?_
    repeat (first | with_reducible apply v_lt | ((with_reducible apply w_MR); exact hL; rfl) | ((with_reducible apply w_lv); exact hL; assumption) | ((with_reducible apply vMI); exact hL) | ((with_reducible apply vMS); exact hL) | ((with_reducible apply vMC); exact hL) | ((with_reducible apply vMZ); exact hL; (first | exact Or.inl rfl | exact Or.inr rfl | exact b2i_01 _ | assumption)) | ((first | with_reducible apply w_MA | with_reducible apply w_MW | with_reducible apply w_MY | with_reducible apply w_MB | with_reducible apply w_MJ | with_reducible apply w_MK); exact hL; rfl; rfl; rfl; (first | with_reducible rfl | with_reducible exact ixo _ | with_reducible exact ixoc _ _ | with_reducible exact ixom _ _ _ | with_reducible exact ixop _ _ | with_reducible exact ixod _ _ | assumption); omega))
    obtain ⟨f1, f2, f3⟩ := f
    rw [f1]
    by_cases z : (tF A).1 = 0
    · refine v_it (by rw [z]; decide) ?_
      unfold fX10_read_164
      repeat (first | with_reducible apply v_lt | ((with_reducible apply w_MR); exact hL; rfl) | ((with_reducible apply w_lv); exact hL; assumption) | ((with_reducible apply vMI); exact hL) | ((with_reducible apply vMS); exact hL) | ((with_reducible apply vMC); exact hL) | ((with_reducible apply vMZ); exact hL; (first | exact Or.inl rfl | exact Or.inr rfl | exact b2i_01 _ | assumption)) | ((first | with_reducible apply w_MA | with_reducible apply w_MW | with_reducible apply w_MY | with_reducible apply w_MB | with_reducible apply w_MJ | with_reducible apply w_MK); exact hL; rfl; rfl; rfl; (first | with_reducible rfl | with_reducible exact ixo _ | with_reducible exact ixoc _ _ | with_reducible exact ixom _ _ _ | with_reducible exact ixop _ _ | with_reducible exact ixod _ _ | assumption); omega))
      rw [gI_ne (by omega), a.2.1]
      refine v_it (by decide) ?_
      repeat (first | with_reducible apply v_lt | ((with_reducible apply w_MR); exact hL; rfl) | ((with_reducible apply w_lv); exact hL; assumption) | ((with_reducible apply vMI); exact hL) | ((with_reducible apply vMS); exact hL) | ((with_reducible apply vMC); exact hL) | ((with_reducible apply vMZ); exact hL; (first | exact Or.inl rfl | exact Or.inr rfl | exact b2i_01 _ | assumption)) | ((first | with_reducible apply w_MA | with_reducible apply w_MW | with_reducible apply w_MY | with_reducible apply w_MB | with_reducible apply w_MJ | with_reducible apply w_MK); exact hL; rfl; rfl; rfl; (first | with_reducible rfl | with_reducible exact ixo _ | with_reducible exact ixoc _ _ | with_reducible exact ixom _ _ _ | with_reducible exact ixop _ _ | with_reducible exact ixod _ _ | assumption); omega))
      rw [gI_ne (by omega), f1]
      refine v_it (by rw [z]; decide) ?_
      repeat (first | with_reducible apply v_lt | ((with_reducible apply w_MR); exact hL; rfl) | ((with_reducible apply w_lv); exact hL; assumption) | ((with_reducible apply vMI); exact hL) | ((with_reducible apply vMS); exact hL) | ((with_reducible apply vMC); exact hL) | ((with_reducible apply vMZ); exact hL; (first | exact Or.inl rfl | exact Or.inr rfl | exact b2i_01 _ | assumption)) | ((first | with_reducible apply w_MA | with_reducible apply w_MW | with_reducible apply w_MY | with_reducible apply w_MB | with_reducible apply w_MJ | with_reducible apply w_MK); exact hL; rfl; rfl; rfl; (first | with_reducible rfl | with_reducible exact ixo _ | with_reducible exact ixoc _ _ | with_reducible exact ixom _ _ _ | with_reducible exact ixop _ _ | with_reducible exact ixod _ _ | assumption); omega))
      rw [gI_ne (by omega), g19']
      have o2 : eo (fun a k => a = 299 ∧ (k = 17 ∨ k = 18)) h1 (uI (uI h1 299 17 (-1)) 299 18 (nI s)) := eo_uI (eo_uI eo_rf ⟨rfl, Or.inl rfl⟩) ⟨rfl, Or.inr rfl⟩
      have b17 : gI (uI (uI h1 299 17 (-1)) 299 18 (nI s)) 299 17 = -1 := by rw [gI_ne (by omega), gI_eq]
      have b18 : gI (uI (uI h1 299 17 (-1)) 299 18 (nI s)) 299 18 = nI s := gI_eq
      have hL2 : LM (uI (uI h1 299 17 (-1)) 299 18 (nI s)).2 := hL
      obtain ⟨h2, hh2⟩ : ∃ h2, h2 = uI (uI h1 299 17 (-1)) 299 18 (nI s) := ⟨_, rfl⟩
      rw [← hh2] at o2 b17 b18 hL2 ⊢
      have t2 := tcM_eo o2 (fun a k z => by omega) t
      refine v_bd (beginM hfu hs hL2 w.1 t2 b18) (fun _ h3 q3 => ?_)
      obtain ⟨o3, n3⟩ := q3
      have hL3 : LM h3.2 := by rw [o3.1]; exact hL2
      repeat (first | with_reducible apply v_lt | ((with_reducible apply w_MR); exact hL3; rfl) | ((with_reducible apply w_lv); exact hL3; assumption) | ((with_reducible apply vMI); exact hL3) | ((with_reducible apply vMS); exact hL3) | ((with_reducible apply vMC); exact hL3) | ((with_reducible apply vMZ); exact hL3; (first | exact Or.inl rfl | exact Or.inr rfl | exact b2i_01 _ | assumption)) | ((first | with_reducible apply w_MA | with_reducible apply w_MW | with_reducible apply w_MY | with_reducible apply w_MB | with_reducible apply w_MJ | with_reducible apply w_MK); exact hL3; rfl; rfl; rfl; (first | with_reducible rfl | with_reducible exact ixo _ | with_reducible exact ixoc _ _ | with_reducible exact ixom _ _ _ | with_reducible exact ixop _ _ | with_reducible exact ixod _ _ | assumption); omega))
      refine v_bd (keepM hL3 hfu n3) (fun _ h4 q4 => ?_)
      obtain ⟨o4, n4⟩ := q4
      have hL4 : LM h4.2 := by rw [o4.1]; exact hL3
      repeat (first | with_reducible apply v_lt | ((with_reducible apply w_MR); exact hL4; rfl) | ((with_reducible apply w_lv); exact hL4; assumption) | ((with_reducible apply vMI); exact hL4) | ((with_reducible apply vMS); exact hL4) | ((with_reducible apply vMC); exact hL4) | ((with_reducible apply vMZ); exact hL4; (first | exact Or.inl rfl | exact Or.inr rfl | exact b2i_01 _ | assumption)) | ((first | with_reducible apply w_MA | with_reducible apply w_MW | with_reducible apply w_MY | with_reducible apply w_MB | with_reducible apply w_MJ | with_reducible apply w_MK); exact hL4; rfl; rfl; rfl; (first | with_reducible rfl | with_reducible exact ixo _ | with_reducible exact ixoc _ _ | with_reducible exact ixom _ _ _ | with_reducible exact ixop _ _ | with_reducible exact ixod _ _ | assumption); omega))
      have o5 : eo (fun a k => a = 299 ∧ (k = 58 ∨ k = 63)) h4 (uI (uI h4 299 58 0) 299 63 0) := eo_uI (eo_uI eo_rf ⟨rfl, Or.inl rfl⟩) ⟨rfl, Or.inr rfl⟩
      have c58 : gI (uI (uI h4 299 58 0) 299 63 0) 299 58 = nI 0 := by
        rw [gI_ne (by omega), gI_eq]
        rfl
      have c63 : gI (uI (uI h4 299 58 0) 299 63 0) 299 63 = nI 0 := gI_eq
      have hL5 : LM (uI (uI h4 299 58 0) 299 63 0).2 := hL4
      obtain ⟨h5, hh5⟩ : ∃ h5, h5 = uI (uI h4 299 58 0) 299 63 0 := ⟨_, rfl⟩
      rw [← hh5] at o5 c58 c63 hL5 ⊢
      refine loop2 (n := 3) (I := fun j h' => eo (fun a _ => a = 341) h5 h' ∧ ∀ i, i < j → gI h' 341 i = 0) (by omega) hfu ⟨eo_rf, fun i hi => absurd hi (Nat.not_lt_zero i)⟩ ?_ ?_
      · intro h6 k hI
        obtain ⟨o6, f6⟩ := hI
        unfold bX10_read_219
        dsimp only
        have oo : eo (fun a k => (a = 299 ∧ (k = 17 ∨ k = 18 ∨ k = 53 ∨ k = 54 ∨ k = 58 ∨ k = 63)) ∨ a = 333 ∨ a = 334 ∨ a = 341) h1 h6 := eo_tr (eo_mono o2 (fun a k z => by omega)) (eo_tr (eo_mono o3 (fun a k z => by omega)) (eo_tr (eo_mono o4 (fun a k z => by omega)) (eo_tr (eo_mono o5 (fun a k z => by omega)) (eo_mono o6 (fun a k z => by omega)))))
        refine v_it (show nI 3 ≤ nI 3 from nI_le (by omega) (by omega)) (v_rI ?_)
        rw [R1]
        refine ⟨?_, ?_, ?_, fun y => absurd z y, fun _ => ⟨eL_tr (eL_mono e1 (fun a k z => Or.inl z) (fun a k z => z)) (eL_mono (eL_eo (SL := lRf) oo) (fun a k z => ?_) (fun a k z => z)), ?_, tcM_eo oo (fun a k z => by omega) t, fun k hk => ?_, ?_, ?_, ?_, f6⟩⟩
        · show 0 = nI (tF A).1
          rw [z]
          rfl
        · rw [oo.2 _ _ (fun y => by omega)]
          exact k2
        · show gI h6 299 17 = if (tF A).1 = 0 then -1 else nI (tF A).2
          rw [if_pos z, o6.2 _ _ (fun y => by omega), o5.2 _ _ (fun y => by omega), o4.2 _ _ (fun y => by omega), o3.2 _ _ (fun y => by omega)]
          exact b17
        · rcases z with z | z | z | z
          · rcases z.2 with y | y | y | y | y | y
            · exact Or.inl (Or.inr (Or.inl ⟨z.1, by omega⟩))
            · exact Or.inr (Or.inr (Or.inr (Or.inl ⟨z.1, by omega⟩)))
            · exact Or.inr (Or.inr (Or.inr (Or.inl ⟨z.1, by omega⟩)))
            · exact Or.inr (Or.inr (Or.inr (Or.inl ⟨z.1, by omega⟩)))
            · exact Or.inr (Or.inr (Or.inr (Or.inl ⟨z.1, by omega⟩)))
            · exact Or.inr (Or.inr (Or.inr (Or.inl ⟨z.1, by omega⟩)))
          · exact Or.inr (Or.inl z)
          · exact Or.inr (Or.inr (Or.inl z))
          · exact Or.inr (Or.inr (Or.inr (Or.inr z)))
        · rw [o6.2 _ _ (fun y => by omega), o5.2 _ _ (fun y => by omega), o4.2 _ _ (fun y => by omega), o3.2 _ _ (fun y => by omega)]
          exact b18
        · obtain ⟨cr, nb, -, -, -, -, l5⟩ := lw
          exact lawN_M (lawN_fr (l5 k hk) (Nat.le_refl _) (Nat.le_refl _) (oo.2 _ _ (fun y => by omega)) (oo.2 _ _ (fun y => by omega)) (fun a j _ _ _ _ => oo.2 _ _ (fun y => by omega)) (fun a j _ _ _ _ => oo.2 _ _ (fun y => by omega)))
        · exact ngM_eo (eo_tr (S := fun a k => (a = 299 ∧ (k = 58 ∨ k = 63)) ∨ a = 341) (eo_mono o5 (fun a k z => Or.inl z)) (eo_mono o6 (fun a k z => Or.inr z))) (fun k y => by omega) n4
        · rw [o6.2 _ _ (fun y => by omega)]
          exact c58
        · rw [o6.2 _ _ (fun y => by omega)]
          exact c63
      · intro j h6 k hj hI hk
        obtain ⟨o6, f6⟩ := hI
        have hL6 : LM h6.2 := by rw [o6.1]; exact hL5
        unfold bX10_read_219
        dsimp only
        refine v_ie (show ¬ nI 3 ≤ nI j from nI_ge hj (by omega)) ?_
        repeat (first | with_reducible apply v_lt | ((with_reducible apply w_MR); exact hL6; rfl) | ((with_reducible apply w_lv); exact hL6; assumption) | ((with_reducible apply vMI); exact hL6) | ((with_reducible apply vMS); exact hL6) | ((with_reducible apply vMC); exact hL6) | ((with_reducible apply vMZ); exact hL6; (first | exact Or.inl rfl | exact Or.inr rfl | exact b2i_01 _ | assumption)) | ((first | with_reducible apply w_MA | with_reducible apply w_MW | with_reducible apply w_MY | with_reducible apply w_MB | with_reducible apply w_MJ | with_reducible apply w_MK); exact hL6; rfl; rfl; rfl; (first | with_reducible rfl | with_reducible exact ixo _ | with_reducible exact ixoc _ _ | with_reducible exact ixom _ _ _ | with_reducible exact ixop _ _ | with_reducible exact ixod _ _ | assumption); omega))
        refine hk _ ⟨eo_uI o6 rfl, fun i hi => ?_⟩
        by_cases e : i = j
        · rw [e, gI_eq]
          decide
        · rw [gI_ne (by omega)]
          exact f6 i (by omega)
    · refine v_ie (show ¬ nI (tF A).1 ≤ nI 0 from nI_ge (by omega) (by omega)) ?_
      repeat (first | with_reducible apply v_lt | ((with_reducible apply w_MR); exact hL; rfl) | ((with_reducible apply w_lv); exact hL; assumption) | ((with_reducible apply vMI); exact hL) | ((with_reducible apply vMS); exact hL) | ((with_reducible apply vMC); exact hL) | ((with_reducible apply vMZ); exact hL; (first | exact Or.inl rfl | exact Or.inr rfl | exact b2i_01 _ | assumption)) | ((first | with_reducible apply w_MA | with_reducible apply w_MW | with_reducible apply w_MY | with_reducible apply w_MB | with_reducible apply w_MJ | with_reducible apply w_MK); exact hL; rfl; rfl; rfl; (first | with_reducible rfl | with_reducible exact ixo _ | with_reducible exact ixoc _ _ | with_reducible exact ixom _ _ _ | with_reducible exact ixop _ _ | with_reducible exact ixod _ _ | assumption); omega))
      rw [f2 z]
      unfold fX10_read_164
      repeat (first | with_reducible apply v_lt | ((with_reducible apply w_MR); exact hL; rfl) | ((with_reducible apply w_lv); exact hL; assumption) | ((with_reducible apply vMI); exact hL) | ((with_reducible apply vMS); exact hL) | ((with_reducible apply vMC); exact hL) | ((with_reducible apply vMZ); exact hL; (first | exact Or.inl rfl | exact Or.inr rfl | exact b2i_01 _ | assumption)) | ((first | with_reducible apply w_MA | with_reducible apply w_MW | with_reducible apply w_MY | with_reducible apply w_MB | with_reducible apply w_MJ | with_reducible apply w_MK); exact hL; rfl; rfl; rfl; (first | with_reducible rfl | with_reducible exact ixo _ | with_reducible exact ixoc _ _ | with_reducible exact ixom _ _ _ | with_reducible exact ixop _ _ | with_reducible exact ixod _ _ | assumption); omega))
      rw [gI_ne (by omega), a.2.1]
      refine v_it (by decide) ?_
      repeat (first | with_reducible apply v_lt | ((with_reducible apply w_MR); exact hL; rfl) | ((with_reducible apply w_lv); exact hL; assumption) | ((with_reducible apply vMI); exact hL) | ((with_reducible apply vMS); exact hL) | ((with_reducible apply vMC); exact hL) | ((with_reducible apply vMZ); exact hL; (first | exact Or.inl rfl | exact Or.inr rfl | exact b2i_01 _ | assumption)) | ((first | with_reducible apply w_MA | with_reducible apply w_MW | with_reducible apply w_MY | with_reducible apply w_MB | with_reducible apply w_MJ | with_reducible apply w_MK); exact hL; rfl; rfl; rfl; (first | with_reducible rfl | with_reducible exact ixo _ | with_reducible exact ixoc _ _ | with_reducible exact ixom _ _ _ | with_reducible exact ixop _ _ | with_reducible exact ixod _ _ | assumption); omega))
      rw [gI_ne (by omega), f1]
      refine v_ie (show ¬ nI (tF A).1 ≤ nI 0 from nI_ge (by omega) (by omega)) ?_
      repeat (first | with_reducible apply v_lt | ((with_reducible apply w_MR); exact hL; rfl) | ((with_reducible apply w_lv); exact hL; assumption) | ((with_reducible apply vMI); exact hL) | ((with_reducible apply vMS); exact hL) | ((with_reducible apply vMC); exact hL) | ((with_reducible apply vMZ); exact hL; (first | exact Or.inl rfl | exact Or.inr rfl | exact b2i_01 _ | assumption)) | ((first | with_reducible apply w_MA | with_reducible apply w_MW | with_reducible apply w_MY | with_reducible apply w_MB | with_reducible apply w_MJ | with_reducible apply w_MK); exact hL; rfl; rfl; rfl; (first | with_reducible rfl | with_reducible exact ixo _ | with_reducible exact ixoc _ _ | with_reducible exact ixom _ _ _ | with_reducible exact ixop _ _ | with_reducible exact ixod _ _ | assumption); omega))
      rw [gI_ne (by omega), f1]
      refine v_rI ?_
      rw [R1]
      refine ⟨rfl, ?_, ?_, fun _ => eL_uI e1 (Or.inr (Or.inl ⟨rfl, by omega⟩)), fun y => absurd y z⟩
      · rw [gI_ne (by omega)]
        exact k2
      · rw [gI_eq]
        show _ = if (tF A).1 = 0 then -1 else nI (tF A).2
        rw [if_neg z]
  · have d0 : ddM R.1 R.2.1 h1 := d
    obtain ⟨d1, d2, d3, -⟩ := id d0
    have x := (x13 d0).1
    rw [d2] at x ⊢
    refine v_ie x ?_
    repeat (first | with_reducible apply v_lt | ((with_reducible apply w_MR); exact hL; rfl) | ((with_reducible apply w_lv); exact hL; assumption) | ((with_reducible apply vMI); exact hL) | ((with_reducible apply vMS); exact hL) | ((with_reducible apply vMC); exact hL) | ((with_reducible apply vMZ); exact hL; (first | exact Or.inl rfl | exact Or.inr rfl | exact b2i_01 _ | assumption)) | ((first | with_reducible apply w_MA | with_reducible apply w_MW | with_reducible apply w_MY | with_reducible apply w_MB | with_reducible apply w_MJ | with_reducible apply w_MK); exact hL; rfl; rfl; rfl; (first | with_reducible rfl | with_reducible exact ixo _ | with_reducible exact ixoc _ _ | with_reducible exact ixom _ _ _ | with_reducible exact ixop _ _ | with_reducible exact ixod _ _ | assumption); omega))
    rw [d3]
    unfold fX10_read_164
    repeat (first | with_reducible apply v_lt | ((with_reducible apply w_MR); exact hL; rfl) | ((with_reducible apply w_lv); exact hL; assumption) | ((with_reducible apply vMI); exact hL) | ((with_reducible apply vMS); exact hL) | ((with_reducible apply vMC); exact hL) | ((with_reducible apply vMZ); exact hL; (first | exact Or.inl rfl | exact Or.inr rfl | exact b2i_01 _ | assumption)) | ((first | with_reducible apply w_MA | with_reducible apply w_MW | with_reducible apply w_MY | with_reducible apply w_MB | with_reducible apply w_MJ | with_reducible apply w_MK); exact hL; rfl; rfl; rfl; (first | with_reducible rfl | with_reducible exact ixo _ | with_reducible exact ixoc _ _ | with_reducible exact ixom _ _ _ | with_reducible exact ixop _ _ | with_reducible exact ixod _ _ | assumption); omega))
    rw [gI_ne (by omega), d2]
    refine v_ie x ?_
    repeat (first | with_reducible apply v_lt | ((with_reducible apply w_MR); exact hL; rfl) | ((with_reducible apply w_lv); exact hL; assumption) | ((with_reducible apply vMI); exact hL) | ((with_reducible apply vMS); exact hL) | ((with_reducible apply vMC); exact hL) | ((with_reducible apply vMZ); exact hL; (first | exact Or.inl rfl | exact Or.inr rfl | exact b2i_01 _ | assumption)) | ((first | with_reducible apply w_MA | with_reducible apply w_MW | with_reducible apply w_MY | with_reducible apply w_MB | with_reducible apply w_MJ | with_reducible apply w_MK); exact hL; rfl; rfl; rfl; (first | with_reducible rfl | with_reducible exact ixo _ | with_reducible exact ixoc _ _ | with_reducible exact ixom _ _ _ | with_reducible exact ixop _ _ | with_reducible exact ixod _ _ | assumption); omega))
    rw [gI_ne (by omega), d2]
    refine v_rI ⟨rfl, ?_, ?_, fun _ => eL_uI e1 (Or.inr (Or.inl ⟨rfl, by omega⟩)), fun y => by omega⟩
    · rw [gI_ne (by omega)]
      exact k2
    · rw [gI_eq, if_neg (by omega)]
