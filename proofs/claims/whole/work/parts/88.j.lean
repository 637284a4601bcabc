/-! THE REFERENCE READS: a number alone; a law; what is no tell; any tell -/
theorem sm_k : ∀ k, k < 10 → soM k = nI (20 + k) := by decide +kernel
theorem toldX {fu i k : Nat} {τ : Nat → Tk} {A : RT} {x y : Int32} {h : mh} (hT : tkOk τ) (hL : LM h.2) (hk : tkK (τ i) = k) (h7 : 7 ≤ k) (h9 : k ≤ 9) (w : wM (bd9 A)) (a : atM τ i h) (f : flM (tF A) h) (fp : fpl τ (tF A) i) (hx : x = nI (lo9 k)) (hy : y = nI (hi9 k 0)) : ok (fX10_toldInt fu 299 x y h) (fun v h' => eo sBo h h' ∧ ((i + 2 < 400 ∧ v = nI (tkV (τ (i + 1))) ∧ run τ (bd9 A) i = run τ (bd9 (num A k 0 (tkV (τ (i + 1))) (tkP (τ (i + 1))))) (i + 3) ∧ wM (bd9 (num A k 0 (tkV (τ (i + 1))) (tkP (τ (i + 1))))) ∧ atM τ (i + 3) h' ∧ flM (tF (num A k 0 (tkV (τ (i + 1))) (tkP (τ (i + 1))))) h' ∧ fpl τ (tF (num A k 0 (tkV (τ (i + 1))) (tkP (τ (i + 1))))) (i + 3)) ∨ ddR (run τ (bd9 A) i) h')) := by
  have hi := a.2.2.1
  obtain ⟨-, O2, O3⟩ := openX hi w hk h9
  have ff : fulB A k = false := ful_9 (by omega)
  have O2 := O2 ff
  have O3 := O3 ff
  have f0 : fm k 0 = 23 := by
    unfold fm
    rw [if_neg (by omega), if_neg (by omega), if_neg (by omega), if_pos rfl]
  have f1 : fm k 1 = 59 := by
    unfold fm
    rw [if_neg (by omega), if_neg (by omega), if_neg (by omega), if_neg (by omega)]
  obtain ⟨R, hR⟩ : ∃ R, R = run τ (bd9 A) i := ⟨_, rfl⟩
  rw [← hR] at O2 O3 ⊢
  unfold fX10_toldInt
  repeat (first | with_reducible apply v_lt | ((with_reducible apply w_MR); exact hL; rfl) | ((with_reducible apply w_lv); exact hL; assumption) | ((with_reducible apply vMI); exact hL) | ((with_reducible apply vMS); exact hL) | ((with_reducible apply vMC); exact hL) | ((with_reducible apply vMZ); exact hL; (first | exact Or.inl rfl | exact Or.inr rfl | exact b2i_01 _ | assumption)) | ((first | with_reducible apply w_MA | with_reducible apply w_MW | with_reducible apply w_MY | with_reducible apply w_MB | with_reducible apply w_MJ | with_reducible apply w_MK); exact hL; rfl; rfl; rfl; (first | with_reducible rfl | with_reducible exact ixo _ | with_reducible exact ixoc _ _ | with_reducible exact ixom _ _ _ | with_reducible exact ixop _ _ | with_reducible exact ixod _ _ | assumption); omega))
  refine v_bd (goM hL (by omega) a) (fun _ h1 q1 => ?_)
  obtain ⟨o1, q1, q2⟩ := q1
  have hL1 : LM h1.2 := by rw [o1.1]; exact hL
  have hq1 : (True ∧ alvF τ R A k 0 none (i + 1) h1) ∨ ddR R h1 := by
    by_cases z4 : i = 400
    · refine Or.inr ?_
      rw [O2 z4]
      exact q1 z4
    · obtain ⟨R1, W1⟩ := O3 z4
      exact Or.inl ⟨trivial, R1, W1, q2 z4, flM_eo o1 (fun a k z => by unfold sGo at z; omega) f, (fpl_nF (c := 3) hT (show tkK (τ i) ≠ 98 by omega) fp).1⟩
  repeat (first | with_reducible apply v_lt | ((with_reducible apply w_MR); exact hL1; rfl) | ((with_reducible apply w_lv); exact hL1; assumption) | ((with_reducible apply vMI); exact hL1) | ((with_reducible apply vMS); exact hL1) | ((with_reducible apply vMC); exact hL1) | ((with_reducible apply vMZ); exact hL1; (first | exact Or.inl rfl | exact Or.inr rfl | exact b2i_01 _ | assumption)) | ((first | with_reducible apply w_MA | with_reducible apply w_MW | with_reducible apply w_MY | with_reducible apply w_MB | with_reducible apply w_MJ | with_reducible apply w_MK); exact hL1; rfl; rfl; rfl; (first | with_reducible rfl | with_reducible exact ixo _ | with_reducible exact ixoc _ _ | with_reducible exact ixom _ _ _ | with_reducible exact ixop _ _ | with_reducible exact ixod _ _ | assumption); omega))
  refine v_bd (boundP (tl := k) (st := 0) hL1 hT hx hy (by omega) (by omega) f0 hq1) (fun v h2 q3 => ?_)
  obtain ⟨o2, q3⟩ := q3
  have hL2 : LM h2.2 := by rw [o2.1]; exact hL1
  have o12 : eo sBo h h2 := eo_tr (eo_mono o1 (fun a k z => by unfold sGo at z; unfold sBo; omega)) o2
  repeat (first | with_reducible apply v_lt | ((with_reducible apply w_MR); exact hL2; rfl) | ((with_reducible apply w_lv); exact hL2; assumption) | ((with_reducible apply vMI); exact hL2) | ((with_reducible apply vMS); exact hL2) | ((with_reducible apply vMC); exact hL2) | ((with_reducible apply vMZ); exact hL2; (first | exact Or.inl rfl | exact Or.inr rfl | exact b2i_01 _ | assumption)) | ((first | with_reducible apply w_MA | with_reducible apply w_MW | with_reducible apply w_MY | with_reducible apply w_MB | with_reducible apply w_MJ | with_reducible apply w_MK); exact hL2; rfl; rfl; rfl; (first | with_reducible rfl | with_reducible exact ixo _ | with_reducible exact ixoc _ _ | with_reducible exact ixom _ _ _ | with_reducible exact ixop _ _ | with_reducible exact ixod _ _ | assumption); omega))
  rcases q3 with ⟨-, ⟨z1, z2, z3⟩, z4⟩ | d
  · refine v_bd (semiX (tl := k) (st := 1) hL2 hT f1 (by omega) (by omega) z4) (fun _ h3 q4 => ?_)
    obtain ⟨o3, q4⟩ := q4
    refine v_rI ⟨eo_tr o12 (eo_mono o3 (fun a k z => by unfold sGo at z; unfold sBo; omega)), ?_⟩
    rcases q4 with ⟨y1, y2, y3, y4, y5, y6⟩ | d
    · exact Or.inl ⟨by omega, z3, y1, y3, y4, y5, y6⟩
    · exact Or.inr d
  · have d0 : ddM R.1 R.2.1 h2 := d
    refine v_eq (mustD hL2 d0) (v_rI ⟨o12, Or.inr d⟩)
/-- what a number alone comes to -/
theorem intE {s i k : Nat} {τ : Nat → Tk} {A : RT} {no : Nat → Nat} {v : Int32} {h h1 : mh} (h7 : 7 ≤ k) (h9 : k ≤ 9) (hs : s < 2) (g12 : gI h 299 12 = 0) (g19 : gI h 299 19 = nI s) (t : tcM s A h) (nm : nmM A no h) (lw : lwM s A i h) (o : eo sBo h h1) (q : (i + 2 < 400 ∧ v = nI (tkV (τ (i + 1))) ∧ run τ (bd9 A) i = run τ (bd9 (num A k 0 (tkV (τ (i + 1))) (tkP (τ (i + 1))))) (i + 3) ∧ wM (bd9 (num A k 0 (tkV (τ (i + 1))) (tkP (τ (i + 1))))) ∧ atM τ (i + 3) h1 ∧ flM (tF (num A k 0 (tkV (τ (i + 1))) (tkP (τ (i + 1))))) h1 ∧ fpl τ (tF (num A k 0 (tkV (τ (i + 1))) (tkP (τ (i + 1))))) (i + 3)) ∨ ddR (run τ (bd9 A) i) h1) : tellQ τ s A i h (uI h1 (311 + k) s v) := by
  obtain ⟨⟨t1, t2, t3, t4, t5, t6⟩, t7, t8, t9⟩ := id t
  have o2 : eo (fun a j => a = 311 + k ∧ j = s) h1 (uI h1 (311 + k) s v) := eo_uI eo_rf ⟨rfl, rfl⟩
  have oo : eo (fun a j => sBo a j ∨ (a = 311 + k ∧ j = s)) h (uI h1 (311 + k) s v) := eo_tr (eo_mono o (fun a k z => Or.inl z)) (eo_mono o2 (fun a k z => Or.inr z))
  refine ⟨eL_mono (eL_eo (SL := lEn) oo) (fun a j z => ?_) (fun a k z => z), ?_⟩
  · rcases z with z | z
    · exact sBo_Rm z
    · exact Or.inr (Or.inr (Or.inl ⟨by omega, z.2⟩))
  · rcases q with ⟨y0, y1, y2, y3, y4, y5, y6⟩ | d
    · obtain ⟨A', hA'⟩ : ∃ A', A' = num A k 0 (tkV (τ (i + 1))) (tkP (τ (i + 1))) := ⟨_, rfl⟩
      have eX : tX A' = up2 (tX A) 0 (k - 4) (tkV (τ (i + 1))) := by
        rw [hA', num_X.1]
        have e1 : fa9 k 0 = 0 := by
          unfold fa9
          rw [if_neg (by omega), if_neg (by omega)]
        have e2 : fj9 A k = k - 4 := by
          unfold fj9
          rw [if_neg (by omega), if_neg (by omega)]
        rw [e1, e2]
      have eN : tN A' = tN A := by rw [hA']; exact num_X.2
      have eW : tW A' = tW A := by rw [hA']; exact W_num
      rw [← hA'] at y2 y3 y5 y6
      have k2 : ∀ a j, 300 ≤ a → ¬ (a = 311 + k ∧ j = s) → gI (uI h1 (311 + k) s v) a j = gI h a j := fun a j z1 z2 => oo.2 _ _ (fun y => by unfold sBo at y; omega)
      have xs : ∀ b j, ¬ (b = 0 ∧ j = k - 4) → tX A' b j = tX A b j := fun b j z => by rw [eX, up_ne z]
      have xk : tX A' 0 (k - 4) = tkV (τ (i + 1)) := by rw [eX, up_eq]
      have one : ∀ a j, 318 ≤ a → a ≤ 320 → j = a - 315 → gI h a s = nI (tX A 0 j) → gI (uI h1 (311 + k) s v) a s = nI (tX A' 0 j) := fun a j z1 z2 z3 z4 => by
        by_cases e : a = 311 + k
        · rw [z3, e, gI_eq, y1, show 311 + k - 315 = k - 4 from by omega, xk]
        · rw [k2 _ _ (by omega) (by omega), xs _ _ (by omega)]
          exact z4
      refine Or.inl ⟨A', i + 3, y2, by omega, ⟨atM_eo o2 (fun a k z => by omega) y4, ?_, ?_⟩, ⟨⟨?_, ?_, ?_, one 318 3 (by omega) (by omega) rfl t4, one 319 4 (by omega) (by omega) rfl t5, one 320 5 (by omega) (by omega) rfl t6⟩, fun r hr => ?_, fun r hr => ?_, fun r hr => ?_⟩, ⟨no, ?_⟩, flM_eo o2 (fun a k z => by omega) y5, y6, ?_, y3⟩
      · rw [oo.2 _ _ (fun y => by unfold sBo at y; omega)]; exact g12
      · rw [oo.2 _ _ (fun y => by unfold sBo at y; omega)]; exact g19
      · rw [k2 _ _ (by omega) (by omega), xs _ _ (by omega)]; exact t1
      · rw [k2 _ _ (by omega) (by omega), xs _ _ (by omega)]; exact t2
      · rw [k2 _ _ (by omega) (by omega), xs _ _ (by omega)]; exact t3
      · rw [xs _ _ (by omega)] at hr
        rw [k2 _ _ (by omega) (by omega), k2 _ _ (by omega) (by omega), xs _ _ (by omega), xs _ _ (by omega)]
        exact t7 r hr
      · rw [xs _ _ (by omega)] at hr
        rw [k2 _ _ (by omega) (by omega), k2 _ _ (by omega) (by omega), k2 _ _ (by omega) (by omega), xs _ _ (by omega), xs _ _ (by omega), xs _ _ (by omega)]
        exact t8 r hr
      · rw [k2 _ _ (by omega) (by omega), xs _ _ (by omega)]
        exact t9 r hr
      · have nm2 := nmM_eL (SL := fun _ _ => False) (eL_eo oo) (fun a k z => by unfold sBo at z; omega) (fun k z => z) nm
        have nmo9 : ∀ a, nmo A' a = nmo A a := fun a => by
          unfold nmo
          rw [eN]
        unfold nmM at nm2 ⊢
        rw [xs 0 0 (by omega), xs 0 1 (by omega)]
        refine ⟨nm2.1, fun k hk => ?_, nm2.2.2⟩
        rw [nmo9]
        exact nm2.2.1 k hk
      · exact lwM_eL (SL := fun _ _ => False) (eL_eo oo) (fun a k z => by unfold sBo at z; omega) (by omega) eW lw
    · exact Or.inr (ddM_eo o2 (fun a k z => by omega) d)
theorem intT {fu s i k : Nat} {τ : Nat → Tk} {A : RT} {h : mh} (hT : tkOk τ) (hs : s < 2) (hL : LM h.2) (r : relM τ s A i h) (hk : tkK (τ i) = k) (h7 : 7 ≤ k) (h9 : k ≤ 9) : ok (fX10_tellOne fu 299 h) (fun _ h' => tellQ τ s A i h h') := by
  obtain ⟨⟨a, g12, g19⟩, t, ⟨no, nm⟩, f, fp, lw, w⟩ := r
  have hi := a.2.2.1
  have a1 := a.1
  have row := (a.2.2.2.2 i hi a.2.2.2.1).1
  unfold fX10_tellOne
  repeat (first | with_reducible apply v_lt | ((with_reducible apply w_MR); exact hL; rfl) | ((with_reducible apply w_lv); exact hL; assumption) | ((with_reducible apply vMI); exact hL) | ((with_reducible apply vMS); exact hL) | ((with_reducible apply vMC); exact hL) | ((with_reducible apply vMZ); exact hL; (first | exact Or.inl rfl | exact Or.inr rfl | exact b2i_01 _ | assumption)) | ((first | with_reducible apply w_MA | with_reducible apply w_MW | with_reducible apply w_MY | with_reducible apply w_MB | with_reducible apply w_MJ | with_reducible apply w_MK); exact hL; rfl; rfl; rfl; (first | with_reducible rfl | with_reducible exact ixo _ | with_reducible exact ixoc _ _ | with_reducible exact ixom _ _ _ | with_reducible exact ixop _ _ | with_reducible exact ixod _ _ | assumption); omega))
  rw [row, hk]
  rcases (show k = 7 ∨ k = 8 ∨ k = 9 by omega) with rfl | rfl | rfl
  · refine v_ie (by decide) (v_ie (by decide) (v_ie (by decide) (v_ie (by decide) (v_ie (by decide) (v_ie (by decide) (v_ie (by decide) (v_it rfl ?_)))))))
    repeat (first | with_reducible apply v_lt | ((with_reducible apply w_MR); exact hL; rfl) | ((with_reducible apply w_lv); exact hL; assumption) | ((with_reducible apply vMI); exact hL) | ((with_reducible apply vMS); exact hL) | ((with_reducible apply vMC); exact hL) | ((with_reducible apply vMZ); exact hL; (first | exact Or.inl rfl | exact Or.inr rfl | exact b2i_01 _ | assumption)) | ((first | with_reducible apply w_MA | with_reducible apply w_MW | with_reducible apply w_MY | with_reducible apply w_MB | with_reducible apply w_MJ | with_reducible apply w_MK); exact hL; rfl; rfl; rfl; (first | with_reducible rfl | with_reducible exact ixo _ | with_reducible exact ixoc _ _ | with_reducible exact ixom _ _ _ | with_reducible exact ixop _ _ | with_reducible exact ixod _ _ | assumption); omega))
    refine v_bd (toldX (A := A) hT hL hk (by omega) (by omega) w a f fp rfl rfl) (fun v h1 q => ?_)
    obtain ⟨o1, q⟩ := q
    have hL1 : LM h1.2 := by rw [o1.1]; exact hL
    repeat (first | with_reducible apply v_lt | ((with_reducible apply w_MR); exact hL1; rfl) | ((with_reducible apply w_lv); exact hL1; assumption) | ((with_reducible apply vMI); exact hL1) | ((with_reducible apply vMS); exact hL1) | ((with_reducible apply vMC); exact hL1) | ((with_reducible apply vMZ); exact hL1; (first | exact Or.inl rfl | exact Or.inr rfl | exact b2i_01 _ | assumption)) | ((first | with_reducible apply w_MA | with_reducible apply w_MW | with_reducible apply w_MY | with_reducible apply w_MB | with_reducible apply w_MJ | with_reducible apply w_MK); exact hL1; rfl; rfl; rfl; (first | with_reducible rfl | with_reducible exact ixo _ | with_reducible exact ixoc _ _ | with_reducible exact ixom _ _ _ | with_reducible exact ixop _ _ | with_reducible exact ixod _ _ | assumption); omega))
    exact v_rV (intE (k := 7) (by omega) (by omega) hs g12 g19 t nm lw o1 q)
  · refine v_ie (by decide) (v_ie (by decide) (v_ie (by decide) (v_ie (by decide) (v_ie (by decide) (v_ie (by decide) (v_ie (by decide) (v_ie (by decide) (v_it rfl ?_))))))))
    repeat (first | with_reducible apply v_lt | ((with_reducible apply w_MR); exact hL; rfl) | ((with_reducible apply w_lv); exact hL; assumption) | ((with_reducible apply vMI); exact hL) | ((with_reducible apply vMS); exact hL) | ((with_reducible apply vMC); exact hL) | ((with_reducible apply vMZ); exact hL; (first | exact Or.inl rfl | exact Or.inr rfl | exact b2i_01 _ | assumption)) | ((first | with_reducible apply w_MA | with_reducible apply w_MW | with_reducible apply w_MY | with_reducible apply w_MB | with_reducible apply w_MJ | with_reducible apply w_MK); exact hL; rfl; rfl; rfl; (first | with_reducible rfl | with_reducible exact ixo _ | with_reducible exact ixoc _ _ | with_reducible exact ixom _ _ _ | with_reducible exact ixop _ _ | with_reducible exact ixod _ _ | assumption); omega))
    refine v_bd (toldX (A := A) hT hL hk (by omega) (by omega) w a f fp rfl rfl) (fun v h1 q => ?_)
    obtain ⟨o1, q⟩ := q
    have hL1 : LM h1.2 := by rw [o1.1]; exact hL
    repeat (first | with_reducible apply v_lt | ((with_reducible apply w_MR); exact hL1; rfl) | ((with_reducible apply w_lv); exact hL1; assumption) | ((with_reducible apply vMI); exact hL1) | ((with_reducible apply vMS); exact hL1) | ((with_reducible apply vMC); exact hL1) | ((with_reducible apply vMZ); exact hL1; (first | exact Or.inl rfl | exact Or.inr rfl | exact b2i_01 _ | assumption)) | ((first | with_reducible apply w_MA | with_reducible apply w_MW | with_reducible apply w_MY | with_reducible apply w_MB | with_reducible apply w_MJ | with_reducible apply w_MK); exact hL1; rfl; rfl; rfl; (first | with_reducible rfl | with_reducible exact ixo _ | with_reducible exact ixoc _ _ | with_reducible exact ixom _ _ _ | with_reducible exact ixop _ _ | with_reducible exact ixod _ _ | assumption); omega))
    exact v_rV (intE (k := 8) (by omega) (by omega) hs g12 g19 t nm lw o1 q)
  · refine v_ie (by decide) (v_ie (by decide) (v_ie (by decide) (v_ie (by decide) (v_ie (by decide) (v_ie (by decide) (v_ie (by decide) (v_ie (by decide) (v_ie (by decide) (v_it rfl ?_)))))))))
    repeat (first | with_reducible apply v_lt | ((with_reducible apply w_MR); exact hL; rfl) | ((with_reducible apply w_lv); exact hL; assumption) | ((with_reducible apply vMI); exact hL) | ((with_reducible apply vMS); exact hL) | ((with_reducible apply vMC); exact hL) | ((with_reducible apply vMZ); exact hL; (first | exact Or.inl rfl | exact Or.inr rfl | exact b2i_01 _ | assumption)) | ((first | with_reducible apply w_MA | with_reducible apply w_MW | with_reducible apply w_MY | with_reducible apply w_MB | with_reducible apply w_MJ | with_reducible apply w_MK); exact hL; rfl; rfl; rfl; (first | with_reducible rfl | with_reducible exact ixo _ | with_reducible exact ixoc _ _ | with_reducible exact ixom _ _ _ | with_reducible exact ixop _ _ | with_reducible exact ixod _ _ | assumption); omega))
    refine v_bd (toldX (A := A) hT hL hk (by omega) (by omega) w a f fp rfl rfl) (fun v h1 q => ?_)
    obtain ⟨o1, q⟩ := q
    have hL1 : LM h1.2 := by rw [o1.1]; exact hL
    repeat (first | with_reducible apply v_lt | ((with_reducible apply w_MR); exact hL1; rfl) | ((with_reducible apply w_lv); exact hL1; assumption) | ((with_reducible apply vMI); exact hL1) | ((with_reducible apply vMS); exact hL1) | ((with_reducible apply vMC); exact hL1) | ((with_reducible apply vMZ); exact hL1; (first | exact Or.inl rfl | exact Or.inr rfl | exact b2i_01 _ | assumption)) | ((first | with_reducible apply w_MA | with_reducible apply w_MW | with_reducible apply w_MY | with_reducible apply w_MB | with_reducible apply w_MJ | with_reducible apply w_MK); exact hL1; rfl; rfl; rfl; (first | with_reducible rfl | with_reducible exact ixo _ | with_reducible exact ixoc _ _ | with_reducible exact ixom _ _ _ | with_reducible exact ixop _ _ | with_reducible exact ixod _ _ | assumption); omega))
    exact v_rV (intE (k := 9) (by omega) (by omega) hs g12 g19 t nm lw o1 q)
