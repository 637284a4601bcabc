/-! THE REFERENCE READS: roles and listeners -/
theorem flM_eL {S SL : Nat → Nat → Prop} {F : Nat × Nat} {h h1 : mh} (o : eL S SL h h1) (hs : ∀ a k, S a k → ¬ (a = 299 ∧ (k = 15 ∨ k = 16))) (q : flM F h) : flM F h1 := ⟨by rw [o.2.1 _ _ (fun z => hs _ _ z (by omega))]; exact q.1, fun z => by rw [o.2.1 _ _ (fun z => hs _ _ z (by omega))]; exact q.2.1 z, q.2.2⟩
theorem namedX {fu j tl : Nat} {τ : Nat → Tk} {R : Nat × Nat × RT} {A : RT} {no : Nat → Nat} {h : mh} (hfu : 1000 ≤ fu) (hL : LM h.2) (hT : tkOk τ) (ht : tl < 2) (q : nmM A no h) (hq : alvF τ R A tl 0 none j h ∨ ddR R h) : ok (fX10_named fu 299 h) (fun x h' => eo sBo h h' ∧ ∃ j0, j0 ≤ 400 ∧ x = nI j0 ∧ ((tkK (τ j) = 22 ∧ j < 400 ∧ j0 = j ∧ alvF τ R (nw9 A tl (tkN (τ j)) (tkP (τ j))) tl 1 none (j + 1) h') ∨ ddR R h')) := by
  have hf : fm tl 0 = 22 := by
    rcases (show tl = 0 ∨ tl = 1 by omega) with rfl | rfl <;> rfl
  rcases hq with ⟨q1, q2, q3, q4, q5⟩ | d
  · refine ok_mono (namedW (A := A) hfu hL hT ht q2.1 q q3 q4 q5) (fun v h' q => ?_)
    obtain ⟨e, o, q⟩ := q
    refine ⟨o, j, q3.2.2.1, e, ?_⟩
    rcases q with ⟨z1, z2, z4, z5⟩ | d
    · have es := stp_f (A := A) (st := 0) (rl := none) (lz := none) (q := τ j) (show tl ≠ 10 by omega) (by omega)
      rw [if_neg (fun y => y (by omega)), if_neg (by omega), if_neg (by omega), if_neg (by omega)] at es
      obtain ⟨-, -, r3⟩ := run_m (A := A) (rl := none) (st := 0) (τ := τ) (j := j) (by omega) (show tl ≠ 10 by omega) (by omega)
      have r3 := r3 (by omega) (by omega)
      rw [es] at r3
      refine Or.inl ⟨z1, z2, rfl, q1.trans r3, wM_stp q2 (fun _ => rfl) (hT.1 j).2 (hT.2.1 j) es, z4, by rw [tF_nw]; exact z5, ?_⟩
      rw [tF_nw]
      unfold nwF
      have f9 := fpl_nF (c := 3) hT (show tkK (τ j) ≠ 98 by omega) q5
      split
      · exact f9.1
      · exact f9.2
    · refine Or.inr ?_
      rw [q1]
      exact d
  · have d0 : ddM R.1 R.2.1 h := d
    obtain ⟨-, -, -, t, t1, t2⟩ := id d0
    unfold fX10_named
    repeat (first | with_reducible apply v_lt | ((with_reducible apply w_MR); exact hL; rfl) | ((with_reducible apply w_lv); exact hL; assumption) | ((with_reducible apply vMI); exact hL) | ((with_reducible apply vMS); exact hL) | ((with_reducible apply vMC); exact hL) | ((with_reducible apply vMZ); exact hL; (first | exact Or.inl rfl | exact Or.inr rfl | exact b2i_01 _ | assumption)) | ((first | with_reducible apply w_MA | with_reducible apply w_MW | with_reducible apply w_MY | with_reducible apply w_MB | with_reducible apply w_MJ | with_reducible apply w_MK); exact hL; rfl; rfl; rfl; (first | with_reducible rfl | with_reducible exact ixo _ | with_reducible exact ixoc _ _ | with_reducible exact ixom _ _ _ | with_reducible exact ixop _ _ | with_reducible exact ixod _ _ | assumption); omega))
    rw [t2]
    refine v_eq (mustD hL d0) ?_
    obtain ⟨m, hm⟩ : ∃ m, fu = m + 1 := ⟨fu - 1, by omega⟩
    have st : ∀ kk, ok (bX10_named_12 fu 299 (nI t) kk (0, h)) (fun x h' => eo sBo h h' ∧ ∃ j0, j0 ≤ 400 ∧ x = nI j0 ∧ ((tkK (τ j) = 22 ∧ j < 400 ∧ j0 = j ∧ alvF τ R (nw9 A tl (tkN (τ j)) (tkP (τ j))) tl 1 none (j + 1) h') ∨ ddR R h')) := by
      intro kk
      unfold bX10_named_12
      dsimp only
      repeat (first | with_reducible apply v_lt | ((with_reducible apply w_MR); exact hL; rfl) | ((with_reducible apply w_lv); exact hL; assumption) | ((with_reducible apply vMI); exact hL) | ((with_reducible apply vMS); exact hL) | ((with_reducible apply vMC); exact hL) | ((with_reducible apply vMZ); exact hL; (first | exact Or.inl rfl | exact Or.inr rfl | exact b2i_01 _ | assumption)) | ((first | with_reducible apply w_MA | with_reducible apply w_MW | with_reducible apply w_MY | with_reducible apply w_MB | with_reducible apply w_MJ | with_reducible apply w_MK); exact hL; rfl; rfl; rfl; (first | with_reducible rfl | with_reducible exact ixo _ | with_reducible exact ixoc _ _ | with_reducible exact ixom _ _ _ | with_reducible exact ixop _ _ | with_reducible exact ixod _ _ | assumption); omega))
      refine v_if (fun _ => v_rI ⟨eo_rf, t, t1, rfl, Or.inr d⟩) (fun _ => ?_)
      repeat (first | with_reducible apply v_lt | ((with_reducible apply w_MR); exact hL; rfl) | ((with_reducible apply w_lv); exact hL; assumption) | ((with_reducible apply vMI); exact hL) | ((with_reducible apply vMS); exact hL) | ((with_reducible apply vMC); exact hL) | ((with_reducible apply vMZ); exact hL; (first | exact Or.inl rfl | exact Or.inr rfl | exact b2i_01 _ | assumption)) | ((first | with_reducible apply w_MA | with_reducible apply w_MW | with_reducible apply w_MY | with_reducible apply w_MB | with_reducible apply w_MJ | with_reducible apply w_MK); exact hL; rfl; rfl; rfl; (first | with_reducible rfl | with_reducible exact ixo _ | with_reducible exact ixoc _ _ | with_reducible exact ixom _ _ _ | with_reducible exact ixop _ _ | with_reducible exact ixod _ _ | assumption); omega))
      exact v_ie (x13 d0).2 (v_rI ⟨eo_rf, t, t1, rfl, Or.inr d⟩)
    rw [show itr (bX10_named_12 fu 299 (nI t)) fu (0, h) = itr (bX10_named_12 fu 299 (nI t)) (m + 1) (0, h) from by rw [← hm], itr_s]
    exact st _
theorem endsX {fu j j0 n tl st : Nat} {τ : Nat → Tk} {R : Nat × Nat × RT} {A : RT} {y : Int32} {h : mh} (hL : LM h.2) (hT : tkOk τ) (hf : fm tl st = 59) (h1 : tl ≠ 10) (h2 : ¬ (3 ≤ tl ∧ tl < 7)) (hj0 : j0 ≤ 400) (hn : n < 12) (n20 : gI h 299 20 = nI n) (hq : alvF τ R A tl st none j h ∨ ddR R h) : ok (fX10_endsName fu 299 (nI j0) y h) (fun _ h' => eL sEn lEn h h' ∧ ((j < 400 ∧ R = run τ (bd9 A) (j + 1) ∧ wM (bd9 A) ∧ atM τ (j + 1) h' ∧ flM (tF A) h' ∧ fpl τ (tF A) (j + 1) ∧ gI h' 299 20 = nI (n + 1) ∧ gL h' 307 n = gL h 305 j0 ∧ gI h' 308 n = y ∧ ∀ k, k ≠ n → gL h' 307 k = gL h 307 k ∧ gI h' 308 k = gI h 308 k) ∨ ddR R h')) := by
  rcases hq with ⟨q1, q2, q3, q4, q5⟩ | d
  · refine ok_mono (endsW (A := A) hL hT.1 hf h1 h2 hj0 hn n20 q3) (fun v h' q => ?_)
    obtain ⟨o, q⟩ := q
    refine ⟨o, ?_⟩
    rcases q with ⟨z1, z2, z3⟩ | d
    · have es := stp_f (A := A) (st := st) (rl := none) (lz := none) (q := τ j) h1 h2
      rw [if_neg (fun y => y (by omega)), if_pos z1] at es
      obtain ⟨-, -, r3⟩ := run_m (A := A) (rl := none) (st := st) (τ := τ) (j := j) (by omega) h1 h2
      have r3 := r3 (by omega) (by omega)
      rw [es] at r3
      exact Or.inl ⟨z2, q1.trans r3, wM_stp q2 (fun _ => rfl) (hT.1 j).2 (hT.2.1 j) es, z3.1, flM_eL o (fun a k z => by unfold sEn at z; omega) q4, (fpl_nF (c := 5) hT (show tkK (τ j) ≠ 98 by omega) q5).1, z3.2⟩
    · refine Or.inr ?_
      rw [q1]
      exact d
  · rw [endsD hL d]
    exact ⟨(), h, rfl, eL_rf, Or.inr d⟩
/-- one more name -/
theorem nmM_new {A A' : RT} {no : Nat → Nat} {k9 n : Nat} {l : List Nat} {h h' : mh} (hk : k9 < 2) (w : wA A) (hlt : tX A 0 k9 < 6) (q : nmM A no h) (hn : n = tX A 0 0 + tX A 0 1) (eX : ∀ k, k < 2 → tX A' 0 k = if k = k9 then tX A 0 k + 1 else tX A 0 k) (eN : tN A' = up2 (tN A) k9 (tX A 0 k9) l) (g1 : gI h' 299 20 = nI (n + 1)) (g2 : gL h' 307 n = lN (cod 27 l)) (g3 : gI h' 308 n = nI ((if k9 = 0 then 0 else 10) + tX A 0 k9)) (g4 : ∀ k, k ≠ n → gL h' 307 k = gL h 307 k ∧ gI h' 308 k = gI h 308 k) : ∃ no', nmM A' no' h' := by
  obtain ⟨q1, q2, q3, q4, q5⟩ := q
  have w0 := w.1.1
  have w1 := w.1.2.1
  have x0 := eX 0 (by omega)
  have x1 := eX 1 (by omega)
  obtain ⟨no', n1, n2⟩ : ∃ no' : Nat → Nat, no' n = (if k9 = 0 then 0 else 10) + tX A 0 k9 ∧ ∀ k, k ≠ n → no' k = no k := ⟨fun k => if k = n then (if k9 = 0 then 0 else 10) + tX A 0 k9 else no k, if_pos rfl, fun k h => if_neg h⟩
  refine ⟨no', ?_⟩
  have nm : ∀ a, (a < tX A 0 0 ∨ (10 ≤ a ∧ a - 10 < tX A 0 1)) → nmo A' a = nmo A a := by
    intro a ha
    unfold nmo
    rw [eN]
    by_cases z : a < 10
    · rw [if_pos z, if_pos z, up_ne]
      intro y
      have : k9 = 0 := y.1.symm
      rw [this] at y
      omega
    · rw [if_neg z, if_neg z, up_ne]
      intro y
      have : k9 = 1 := y.1.symm
      rw [this] at y
      omega
  rcases (show k9 = 0 ∨ k9 = 1 by omega) with rfl | rfl
  · rw [if_pos rfl] at x0 g3 n1
    rw [if_neg (by omega)] at x1
    unfold nmM
    rw [x0, x1]
    refine ⟨by rw [g1, hn]; congr 1; omega, fun k hk => ?_, fun r hr => ?_, fun r hr => ?_, fun k1 k2 h1 h2 h3 => ?_⟩
    · by_cases e : k = n
      · rw [e, n1]
        refine ⟨g3, ?_, Or.inl (by omega)⟩
        rw [g2]
        unfold nmo
        rw [if_pos (by omega), eN, Nat.zero_add, up_eq]
      · rw [n2 k e, (g4 k e).1, (g4 k e).2]
        obtain ⟨y1, y2, y3⟩ := q2 k (by omega)
        rw [nm _ y3]
        exact ⟨y1, y2, by omega⟩
    · by_cases e : r = tX A 0 0
      · exact ⟨n, by omega, by rw [n1]; omega⟩
      · obtain ⟨k, y1, y2⟩ := q3 r (by omega)
        exact ⟨k, by omega, by rw [n2 k (by omega)]; exact y2⟩
    · obtain ⟨k, y1, y2⟩ := q4 r (by omega)
      exact ⟨k, by omega, by rw [n2 k (by omega)]; exact y2⟩
    · rw [n2 k1 (by omega)] at h3 ⊢
      by_cases e : k2 = n
      · rw [e, n1] at h3 ⊢
        have := (q2 k1 (by omega)).2.2
        omega
      · rw [n2 k2 e] at h3 ⊢
        exact q5 k1 k2 h1 (by omega) h3
  · rw [if_neg (by omega)] at x0 g3 n1
    rw [if_pos rfl] at x1
    unfold nmM
    rw [x0, x1]
    refine ⟨by rw [g1, hn]; congr 1, fun k hk => ?_, fun r hr => ?_, fun r hr => ?_, fun k1 k2 h1 h2 h3 => ?_⟩
    · by_cases e : k = n
      · rw [e, n1]
        refine ⟨g3, ?_, Or.inr (by omega)⟩
        rw [g2]
        unfold nmo
        rw [if_neg (by omega), eN, show 10 + tX A 0 1 - 10 = tX A 0 1 from by omega, up_eq]
      · rw [n2 k e, (g4 k e).1, (g4 k e).2]
        obtain ⟨y1, y2, y3⟩ := q2 k (by omega)
        rw [nm _ y3]
        exact ⟨y1, y2, by omega⟩
    · obtain ⟨k, y1, y2⟩ := q3 r (by omega)
      exact ⟨k, by omega, by rw [n2 k (by omega)]; exact y2⟩
    · by_cases e : r = tX A 0 1
      · exact ⟨n, by omega, by rw [n1]; omega⟩
      · obtain ⟨k, y1, y2⟩ := q4 r (by omega)
        exact ⟨k, by omega, by rw [n2 k (by omega)]; exact y2⟩
    · rw [n2 k1 (by omega)] at h3 ⊢
      by_cases e : k2 = n
      · rw [e, n1] at h3 ⊢
        have := (q2 k1 (by omega)).2.2
        omega
      · rw [n2 k2 e] at h3 ⊢
        exact q5 k1 k2 h1 (by omega) h3
