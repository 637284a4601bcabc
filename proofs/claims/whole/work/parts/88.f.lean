/-! THE REFERENCE READS: a role -/
theorem boundP {P : Prop} {fu j tl st : Nat} {τ : Nat → Tk} {R : Nat × Nat × RT} {A : RT} {rl : Option Nat} {x y : Int32} {h : mh} (hL : LM h.2) (hT : tkOk τ) (hx : x = nI (lo9 tl)) (hy : y = nI (hi9 tl st)) (h1 : tl ≠ 10) (h2 : ¬ (3 ≤ tl ∧ tl < 7)) (hf : fm tl st = 23) (hq : (P ∧ alvF τ R A tl st rl j h) ∨ ddR R h) : ok (fX10_bounded fu 299 x y h) (fun v h' => eo sBo h h' ∧ ((P ∧ (tkK (τ j) = 23 ∧ j < 400 ∧ v = nI (tkV (τ j))) ∧ alvF τ R (num A tl st (tkV (τ j)) (tkP (τ j))) tl (st + 1) rl (j + 1) h') ∨ ddR R h')) := by
  rcases hq with ⟨p, q⟩ | d
  · refine ok_mono (boundX hL hT hx hy h1 h2 hf (Or.inl q)) (fun v h' q => ⟨q.1, ?_⟩)
    rcases q.2 with ⟨z1, z2, z3, z4⟩ | d
    · exact Or.inl ⟨p, ⟨z1, z2, z3⟩, z4⟩
    · exact Or.inr d
  · rw [boundD hL d]
    exact ⟨x, h, rfl, eo_rf, Or.inr d⟩
theorem alvP_eo {P : Prop} {S : Nat → Nat → Prop} {τ : Nat → Tk} {R : Nat × Nat × RT} {A : RT} {tl st j : Nat} {rl : Option Nat} {h h1 : mh} (o : eo S h h1) (hs : ∀ a k, S a k → ¬ ((a = 299 ∧ (k = 11 ∨ k = 13 ∨ k = 14 ∨ k = 15 ∨ k = 16)) ∨ (302 ≤ a ∧ a ≤ 305))) (q : (P ∧ alvF τ R A tl st rl j h) ∨ ddR R h) : (P ∧ alvF τ R A tl st rl j h1) ∨ ddR R h1 := by
  rcases q with ⟨p, q1, q2, q3, q4, q5⟩ | d
  · exact Or.inl ⟨p, q1, q2, atM_eo o (fun a k z => by have := hs a k z; omega) q3, flM_eo o (fun a k z => by have := hs a k z; omega) q4, q5⟩
  · exact Or.inr (ddM_eo o (fun a k z => by have := hs a k z; omega) d)
theorem endsP {P : Prop} {fu j j0 n tl st : Nat} {τ : Nat → Tk} {R : Nat × Nat × RT} {A : RT} {y : Int32} {h : mh} (hL : LM h.2) (hT : tkOk τ) (hf : fm tl st = 59) (h1 : tl ≠ 10) (h2 : ¬ (3 ≤ tl ∧ tl < 7)) (hj0 : j0 ≤ 400) (hn : n < 12) (n20 : gI h 299 20 = nI n) (hq : (P ∧ alvF τ R A tl st none j h) ∨ ddR R h) : ok (fX10_endsName fu 299 (nI j0) y h) (fun _ h' => eL sEn lEn h h' ∧ ((P ∧ j < 400 ∧ R = run τ (bd9 A) (j + 1) ∧ wM (bd9 A) ∧ atM τ (j + 1) h' ∧ flM (tF A) h' ∧ fpl τ (tF A) (j + 1) ∧ gI h' 299 20 = nI (n + 1) ∧ gL h' 307 n = gL h 305 j0 ∧ gI h' 308 n = y ∧ ∀ k, k ≠ n → gL h' 307 k = gL h 307 k ∧ gI h' 308 k = gI h 308 k) ∨ ddR R h')) := by
  rcases hq with ⟨p, q⟩ | d
  · refine ok_mono (endsX (A := A) hL hT hf h1 h2 hj0 hn n20 (Or.inl q)) (fun v h' q => ⟨q.1, ?_⟩)
    rcases q.2 with z | d
    · exact Or.inl ⟨p, z⟩
    · exact Or.inr d
  · rw [endsD hL d]
    exact ⟨(), h, rfl, eL_rf, Or.inr d⟩
theorem ful_0 {A : RT} : fulB A 0 = (tX A 0 0 == 6) := by unfold fulB; simp
theorem ful_1 {A : RT} : fulB A 1 = (tX A 0 1 == 6) := by unfold fulB; simp
theorem ful_2 {A : RT} : fulB A 2 = (tX A 0 2 == 6) := by unfold fulB; simp
theorem ful_9 {A : RT} {k : Nat} (h : 3 ≤ k) : fulB A k = false := by
  unfold fulB
  have h0 : (k == 0) = false := by simp; omega
  have h1 : (k == 1) = false := by simp; omega
  have h2 : (k == 2) = false := by simp; omega
  rw [h0, h1, h2]
  rfl
theorem sBo_Rm {s a k : Nat} (z : sBo a k) : sRm s a k := Or.inl ⟨z.1, by have := z.2; omega⟩
theorem sGo_Rm {s a k : Nat} (z : sGo a k) : sRm s a k := Or.inl ⟨z.1, by have := z.2; omega⟩
theorem sEn_Rm {s a k : Nat} (z : sEn a k) : sRm s a k := by
  rcases z with z | z
  · exact Or.inl ⟨z.1, by have := z.2; omega⟩
  · exact Or.inr (Or.inl z)
theorem num_X {A : RT} {tl st v p : Nat} : tX (num A tl st v p) = up2 (tX A) (fa9 tl st) (fj9 A tl) v ∧ tN (num A tl st v p) = tN A := by
  unfold num
  constructor
  · show up2 (tX (if v < lo9 tl ∨ hi9 tl st < v then nt A 5 p else A)) _ _ _ = _
    split
    · rw [nt_X]
    · rfl
  · show tN (if v < lo9 tl ∨ hi9 tl st < v then nt A 5 p else A) = _
    split
    · exact nt_N
    · rfl
theorem nw_X {A : RT} {k p : Nat} {l : List Nat} : tX (nw9 A k l p) = up2 (tX A) 0 k (tX A 0 k + 1) ∧ tN (nw9 A k l p) = up2 (tN A) k (tX A 0 k) l := by
  unfold nw9
  constructor
  · show up2 (tX (if rN9 A l = none ∧ lN9 A l = none then A else nt A 3 p)) _ _ _ = _
    split
    · rfl
    · rw [nt_X]
  · show up2 (tN (if rN9 A l = none ∧ lN9 A l = none then A else nt A 3 p)) _ _ _ = _
    split
    · rfl
    · rw [nt_N]
theorem ok_in {β : Type} {R : Option (β × mh)} {Q : β → mh → Prop} (h : ok R Q) : ok R Q := h
set_option maxHeartbeats 4000000 in
theorem roleT {fu s i : Nat} {τ : Nat → Tk} {A : RT} {h : mh} (hfu : 1000 ≤ fu) (hT : tkOk τ) (hs : s < 2) (hL : LM h.2) (r : relM τ s A i h) (hk : tkK (τ i) = 0) : ok (fX10_tellOne fu 299 h) (fun _ h' => tellQ τ s A i h h') := by
  obtain ⟨⟨a, g12, g19⟩, t, ⟨no, nm⟩, f, fp, lw, w⟩ := r
  obtain ⟨⟨t1, t2, t3, t4, t5, t6⟩, t7, t8, t9⟩ := id t
  have wa : wA A := w.1
  obtain ⟨w0, w1, -⟩ := wa.1
  have hi := a.2.2.1
  have a1 := a.1
  have row := (a.2.2.2.2 i hi a.2.2.2.1).1
  obtain ⟨O1, O2, O3⟩ := openX hi w hk (by omega)
  rw [ful_0] at O1 O2 O3
  obtain ⟨R, hR⟩ : ∃ R, R = run τ (bd9 A) i := ⟨_, rfl⟩
  unfold tellQ
  rw [← hR] at O1 O2 O3 ⊢
  unfold fX10_tellOne
  repeat (first | with_reducible apply v_lt | ((with_reducible apply w_MR); exact hL; rfl) | ((with_reducible apply w_lv); exact hL; assumption) | ((with_reducible apply vMI); exact hL) | ((with_reducible apply vMS); exact hL) | ((with_reducible apply vMC); exact hL) | ((with_reducible apply vMZ); exact hL; (first | exact Or.inl rfl | exact Or.inr rfl | exact b2i_01 _ | assumption)) | ((first | with_reducible apply w_MA | with_reducible apply w_MW | with_reducible apply w_MY | with_reducible apply w_MB | with_reducible apply w_MJ | with_reducible apply w_MK); exact hL; rfl; rfl; rfl; (first | with_reducible rfl | with_reducible exact ixo _ | with_reducible exact ixoc _ _ | with_reducible exact ixom _ _ _ | with_reducible exact ixop _ _ | with_reducible exact ixod _ _ | assumption); omega))
  rw [row, hk]
  refine v_it rfl ?_
  repeat (first | with_reducible apply v_lt | ((with_reducible apply w_MR); exact hL; rfl) | ((with_reducible apply w_lv); exact hL; assumption) | ((with_reducible apply vMI); exact hL) | ((with_reducible apply vMS); exact hL) | ((with_reducible apply vMC); exact hL) | ((with_reducible apply vMZ); exact hL; (first | exact Or.inl rfl | exact Or.inr rfl | exact b2i_01 _ | assumption)) | ((first | with_reducible apply w_MA | with_reducible apply w_MW | with_reducible apply w_MY | with_reducible apply w_MB | with_reducible apply w_MJ | with_reducible apply w_MK); exact hL; rfl; rfl; rfl; (first | with_reducible rfl | with_reducible exact ixo _ | with_reducible exact ixoc _ _ | with_reducible exact ixom _ _ _ | with_reducible exact ixop _ _ | with_reducible exact ixod _ _ | assumption); omega))
  rw [t1]
  refine v_bd (roomW hL w0 (by omega) a) (fun _ h8 q8 => ?_)
  obtain ⟨o8, q8⟩ := q8
  have hL8 : LM h8.2 := by rw [o8.1]; exact hL
  have e8 : eL (sRm s) lEn h h8 := eL_mono (eL_eo (SL := lEn) o8) (fun a k z => sGo_Rm z) (fun a k z => z)
  have g19_8 : gI h8 299 19 = nI s := by rw [o8.2 _ _ (fun z => by unfold sGo at z; omega)]; exact g19
  have t1_8 : gI h8 309 s = nI (tX A 0 0) := by rw [o8.2 _ _ (fun z => by unfold sGo at z; omega)]; exact t1
  repeat (first | with_reducible apply v_lt | ((with_reducible apply w_MR); exact hL8; rfl) | ((with_reducible apply w_lv); exact hL8; assumption) | ((with_reducible apply vMI); exact hL8) | ((with_reducible apply vMS); exact hL8) | ((with_reducible apply vMC); exact hL8) | ((with_reducible apply vMZ); exact hL8; (first | exact Or.inl rfl | exact Or.inr rfl | exact b2i_01 _ | assumption)) | ((first | with_reducible apply w_MA | with_reducible apply w_MW | with_reducible apply w_MY | with_reducible apply w_MB | with_reducible apply w_MJ | with_reducible apply w_MK); exact hL8; rfl; rfl; rfl; (first | with_reducible rfl | with_reducible exact ixo _ | with_reducible exact ixoc _ _ | with_reducible exact ixom _ _ _ | with_reducible exact ixop _ _ | with_reducible exact ixod _ _ | assumption); omega))
  rcases q8 with ⟨n6, i4, a8⟩ | ⟨y, d8⟩
  · have n6' : (tX A 0 0 == 6) = false := by simp; omega
    obtain ⟨R1, W1⟩ := O3 n6' (by omega)
    have nm8 := nmM_eL (SL := fun _ _ => False) (eL_eo o8) (fun a k z => by unfold sGo at z; omega) (fun k z => z) nm
    have alv1 : alvF τ R A 0 0 none (i + 1) h8 := ⟨R1, W1, a8, flM_eo o8 (fun a k z => by unfold sGo at z; omega) f, (fpl_nF (c := 3) hT (show tkK (τ i) ≠ 98 by omega) fp).1⟩
    rw [a8.2.1]
    refine v_it (by decide) ?_
    repeat (first | with_reducible apply v_lt | ((with_reducible apply w_MR); exact hL8; rfl) | ((with_reducible apply w_lv); exact hL8; assumption) | ((with_reducible apply vMI); exact hL8) | ((with_reducible apply vMS); exact hL8) | ((with_reducible apply vMC); exact hL8) | ((with_reducible apply vMZ); exact hL8; (first | exact Or.inl rfl | exact Or.inr rfl | exact b2i_01 _ | assumption)) | ((first | with_reducible apply w_MA | with_reducible apply w_MW | with_reducible apply w_MY | with_reducible apply w_MB | with_reducible apply w_MJ | with_reducible apply w_MK); exact hL8; rfl; rfl; rfl; (first | with_reducible rfl | with_reducible exact ixo _ | with_reducible exact ixoc _ _ | with_reducible exact ixom _ _ _ | with_reducible exact ixop _ _ | with_reducible exact ixod _ _ | assumption); omega))
    rw [g19_8, t1_8]
    refine v_bd (namedX (tl := 0) hfu hL8 hT (by omega) nm8 (Or.inl alv1)) (fun x16 h15 q15 => ?_)
    obtain ⟨o15, j0, hj0, e16, q15⟩ := q15
    subst e16
    have hL15 : LM h15.2 := by rw [o15.1]; exact hL8
    repeat (first | with_reducible apply v_lt | ((with_reducible apply w_MR); exact hL15; rfl) | ((with_reducible apply w_lv); exact hL15; assumption) | ((with_reducible apply vMI); exact hL15) | ((with_reducible apply vMS); exact hL15) | ((with_reducible apply vMC); exact hL15) | ((with_reducible apply vMZ); exact hL15; (first | exact Or.inl rfl | exact Or.inr rfl | exact b2i_01 _ | assumption)) | ((first | with_reducible apply w_MA | with_reducible apply w_MW | with_reducible apply w_MY | with_reducible apply w_MB | with_reducible apply w_MJ | with_reducible apply w_MK); exact hL15; rfl; rfl; rfl; (first | with_reducible rfl | with_reducible exact ixo _ | with_reducible exact ixoc _ _ | with_reducible exact ixom _ _ _ | with_reducible exact ixop _ _ | with_reducible exact ixod _ _ | assumption); omega))
    refine v_bd (boundP (P := tkK (τ (i + 1)) = 22 ∧ j0 = i + 1) (tl := 0) (st := 1) hL15 hT rfl rfl (by omega) (by omega) rfl (q15.imp (fun z => ⟨⟨z.1, z.2.2.1⟩, z.2.2.2⟩) id)) (fun x19 h18 q18 => ?_)
    obtain ⟨o18, q18⟩ := q18
    clear q15
    have hL18 : LM h18.2 := by rw [o18.1]; exact hL15
    repeat (first | with_reducible apply v_lt | ((with_reducible apply w_MR); exact hL18; rfl) | ((with_reducible apply w_lv); exact hL18; assumption) | ((with_reducible apply vMI); exact hL18) | ((with_reducible apply vMS); exact hL18) | ((with_reducible apply vMC); exact hL18) | ((with_reducible apply vMZ); exact hL18; (first | exact Or.inl rfl | exact Or.inr rfl | exact b2i_01 _ | assumption)) | ((first | with_reducible apply w_MA | with_reducible apply w_MW | with_reducible apply w_MY | with_reducible apply w_MB | with_reducible apply w_MJ | with_reducible apply w_MK); exact hL18; rfl; rfl; rfl; (first | with_reducible rfl | with_reducible exact ixo _ | with_reducible exact ixoc _ _ | with_reducible exact ixom _ _ _ | with_reducible exact ixop _ _ | with_reducible exact ixod _ _ | assumption); omega))
    have o20 : eo (fun a k => a = 310 ∧ k = 6 * s + tX A 0 0) h18 (uI h18 310 (6 * s + tX A 0 0) x19) := eo_uI eo_rf ⟨rfl, rfl⟩
    have g310 : gI (uI h18 310 (6 * s + tX A 0 0) x19) 310 (6 * s + tX A 0 0) = x19 := gI_eq
    have hL20 : LM (uI h18 310 (6 * s + tX A 0 0) x19).2 := hL18
    obtain ⟨h20, hh20⟩ : ∃ h20, h20 = uI h18 310 (6 * s + tX A 0 0) x19 := ⟨_, rfl⟩
    rw [← hh20] at o20 g310 hL20 ⊢
    have q20 := alvP_eo (P := (tkK (τ (i + 1)) = 22 ∧ j0 = i + 1) ∧ tkK (τ (i + 1 + 1)) = 23 ∧ i + 1 + 1 < 400 ∧ x19 = nI (tkV (τ (i + 1 + 1)))) o20 (fun a k z => by omega) (q18.imp (fun z => ⟨⟨z.1, z.2.1⟩, z.2.2⟩) id)
    clear q18
    refine v_bd (boundP (tl := 0) (st := 2) hL20 hT rfl rfl (by omega) (by omega) rfl q20) (fun x23 h22 q22 => ?_)
    obtain ⟨o22, q22⟩ := q22
    clear q20
    have hL22 : LM h22.2 := by rw [o22.1]; exact hL20
    repeat (first | with_reducible apply v_lt | ((with_reducible apply w_MR); exact hL22; rfl) | ((with_reducible apply w_lv); exact hL22; assumption) | ((with_reducible apply vMI); exact hL22) | ((with_reducible apply vMS); exact hL22) | ((with_reducible apply vMC); exact hL22) | ((with_reducible apply vMZ); exact hL22; (first | exact Or.inl rfl | exact Or.inr rfl | exact b2i_01 _ | assumption)) | ((first | with_reducible apply w_MA | with_reducible apply w_MW | with_reducible apply w_MY | with_reducible apply w_MB | with_reducible apply w_MJ | with_reducible apply w_MK); exact hL22; rfl; rfl; rfl; (first | with_reducible rfl | with_reducible exact ixo _ | with_reducible exact ixoc _ _ | with_reducible exact ixom _ _ _ | with_reducible exact ixop _ _ | with_reducible exact ixod _ _ | assumption); omega))
    have o24 : eo (fun a k => a = 311 ∧ k = 6 * s + tX A 0 0) h22 (uI h22 311 (6 * s + tX A 0 0) x23) := eo_uI eo_rf ⟨rfl, rfl⟩
    have g311 : gI (uI h22 311 (6 * s + tX A 0 0) x23) 311 (6 * s + tX A 0 0) = x23 := gI_eq
    have hL24 : LM (uI h22 311 (6 * s + tX A 0 0) x23).2 := hL22
    obtain ⟨h24, hh24⟩ : ∃ h24, h24 = uI h22 311 (6 * s + tX A 0 0) x23 := ⟨_, rfl⟩
    rw [← hh24] at o24 g311 hL24 ⊢
    have q24 := alvP_eo (P := ((tkK (τ (i + 1)) = 22 ∧ j0 = i + 1) ∧ tkK (τ (i + 1 + 1)) = 23 ∧ i + 1 + 1 < 400 ∧ x19 = nI (tkV (τ (i + 1 + 1)))) ∧ tkK (τ (i + 1 + 1 + 1)) = 23 ∧ i + 1 + 1 + 1 < 400 ∧ x23 = nI (tkV (τ (i + 1 + 1 + 1)))) o24 (fun a k z => by omega) (q22.imp (fun z => ⟨⟨z.1, z.2.1⟩, z.2.2⟩) id)
    clear q22
    have fr24 : ∀ a k, ¬ sBo a k → ¬ (a = 310 ∧ k = 6 * s + tX A 0 0) → ¬ (a = 311 ∧ k = 6 * s + tX A 0 0) → gI h24 a k = gI h8 a k := fun a k z1 z2 z3 => by
      rw [o24.2 _ _ z3, o22.2 _ _ z1, o20.2 _ _ z2, o18.2 _ _ z1, o15.2 _ _ z1]
    have frL : ∀ a k, gL h24 a k = gL h8 a k := fun a k => by
      unfold gL
      rw [o24.1, o22.1, o20.1, o18.1, o15.1]
    have g19_24 : gI h24 299 19 = nI s := by rw [fr24 _ _ (fun z => by unfold sBo at z; omega) (by omega) (by omega)]; exact g19_8
    have t1_24 : gI h24 309 s = nI (tX A 0 0) := by rw [fr24 _ _ (fun z => by unfold sBo at z; omega) (by omega) (by omega)]; exact t1_8
    have n20_24 : gI h24 299 20 = nI (tX A 0 0 + tX A 0 1) := by rw [fr24 _ _ (fun z => by unfold sBo at z; omega) (by omega) (by omega)]; exact nm8.1
    have e24 : eL (sRm s) lEn h h24 := by
      refine eL_tr e8 ⟨?_, fun a k z => fr24 a k (fun y => z (sBo_Rm y)) (fun y => z (by unfold sRm; omega)) (fun y => z (by unfold sRm; omega)), fun a k _ => frL a k⟩
      rw [o24.1, o22.1, o20.1, o18.1, o15.1]
    repeat (first | with_reducible apply v_lt | ((with_reducible apply w_MR); exact hL24; rfl) | ((with_reducible apply w_lv); exact hL24; assumption) | ((with_reducible apply vMI); exact hL24) | ((with_reducible apply vMS); exact hL24) | ((with_reducible apply vMC); exact hL24) | ((with_reducible apply vMZ); exact hL24; (first | exact Or.inl rfl | exact Or.inr rfl | exact b2i_01 _ | assumption)) | ((first | with_reducible apply w_MA | with_reducible apply w_MW | with_reducible apply w_MY | with_reducible apply w_MB | with_reducible apply w_MJ | with_reducible apply w_MK); exact hL24; rfl; rfl; rfl; (first | with_reducible rfl | with_reducible exact ixo _ | with_reducible exact ixoc _ _ | with_reducible exact ixom _ _ _ | with_reducible exact ixop _ _ | with_reducible exact ixod _ _ | assumption); omega))
    rw [t1_24]
    refine v_bd (endsP (tl := 0) (st := 3) (n := tX A 0 0 + tX A 0 1) hL24 hT rfl (by omega) (by omega) hj0 (by omega) n20_24 q24) (fun _ h28 q28 => ?_)
    obtain ⟨o28, q28⟩ := q28
    clear q24
    have hL28 : LM h28.2 := LM_eL o28 hL24
    have e28 : eL (sRm s) lEn h h28 := eL_tr e24 (eL_mono o28 (fun a k z => sEn_Rm z) (fun a k z => z))
    have g19_28 : gI h28 299 19 = nI s := by rw [o28.2.1 _ _ (fun z => by unfold sEn at z; omega)]; exact g19_24
    have t1_28 : gI h28 309 s = nI (tX A 0 0) := by rw [o28.2.1 _ _ (fun z => by unfold sEn at z; omega)]; exact t1_24
    repeat (first | with_reducible apply v_lt | ((with_reducible apply w_MR); exact hL28; rfl) | ((with_reducible apply w_lv); exact hL28; assumption) | ((with_reducible apply vMI); exact hL28) | ((with_reducible apply vMS); exact hL28) | ((with_reducible apply vMC); exact hL28) | ((with_reducible apply vMZ); exact hL28; (first | exact Or.inl rfl | exact Or.inr rfl | exact b2i_01 _ | assumption)) | ((first | with_reducible apply w_MA | with_reducible apply w_MW | with_reducible apply w_MY | with_reducible apply w_MB | with_reducible apply w_MJ | with_reducible apply w_MK); exact hL28; rfl; rfl; rfl; (first | with_reducible rfl | with_reducible exact ixo _ | with_reducible exact ixoc _ _ | with_reducible exact ixom _ _ _ | with_reducible exact ixop _ _ | with_reducible exact ixod _ _ | assumption); omega))
    rcases q28 with ⟨⟨⟨⟨k22, ej⟩, k23, -, ex19⟩, k23', -, ex23⟩, j4, R5, W5, a5, f5, fp5, n5, l5, m5, r5⟩ | d
    · rw [a5.2.1]
      refine v_it rfl ?_
      repeat (first | with_reducible apply v_lt | ((with_reducible apply w_MR); exact hL28; rfl) | ((with_reducible apply w_lv); exact hL28; assumption) | ((with_reducible apply vMI); exact hL28) | ((with_reducible apply vMS); exact hL28) | ((with_reducible apply vMC); exact hL28) | ((with_reducible apply vMZ); exact hL28; (first | exact Or.inl rfl | exact Or.inr rfl | exact b2i_01 _ | assumption)) | ((first | with_reducible apply w_MA | with_reducible apply w_MW | with_reducible apply w_MY | with_reducible apply w_MB | with_reducible apply w_MJ | with_reducible apply w_MK); exact hL28; rfl; rfl; rfl; (first | with_reducible rfl | with_reducible exact ixo _ | with_reducible exact ixoc _ _ | with_reducible exact ixom _ _ _ | with_reducible exact ixop _ _ | with_reducible exact ixod _ _ | assumption); omega))
      rw [t1_28, nI_1]
      subst ej
      have nj : gL h24 305 (i + 1) = lN (cod 27 (tkN (τ (i + 1)))) := by
        rw [frL]
        exact (a8.2.2.2.2 (i + 1) (by omega) a8.2.2.2.1).2.2.2 k22
      have o33 : eo (fun a k => a = 309 ∧ k = s) h28 (uI h28 309 s (nI (tX A 0 0 + 1))) := eo_uI eo_rf ⟨rfl, rfl⟩
      have e33 : eL (sRm s) lEn h (uI h28 309 s (nI (tX A 0 0 + 1))) := eL_tr e28 (eL_mono (eL_eo (SL := lEn) o33) (fun a k z => by unfold sRm; omega) (fun a k z => z))
      have eX : tX (num (num (nw9 A 0 (tkN (τ (i + 1))) (tkP (τ (i + 1)))) 0 1 (tkV (τ (i + 1 + 1))) (tkP (τ (i + 1 + 1)))) 0 2 (tkV (τ (i + 1 + 1 + 1))) (tkP (τ (i + 1 + 1 + 1)))) = up2 (up2 (up2 (tX A) 0 0 (tX A 0 0 + 1)) 1 (tX A 0 0) (tkV (τ (i + 1 + 1)))) 2 (tX A 0 0) (tkV (τ (i + 1 + 1 + 1))) := by
        rw [num_X.1, num_X.1, nw_X.1]
        have j1 : ∀ B : RT, tX B 0 0 = tX A 0 0 + 1 → fj9 B 0 = tX A 0 0 := fun B e => by
          unfold fj9
          rw [if_pos rfl, e]
          omega
        rw [j1 (nw9 A 0 (tkN (τ (i + 1))) (tkP (τ (i + 1)))) (by rw [nw_X.1, up_eq]), j1 (num (nw9 A 0 (tkN (τ (i + 1))) (tkP (τ (i + 1)))) 0 1 (tkV (τ (i + 1 + 1))) (tkP (τ (i + 1 + 1)))) (by rw [num_X.1, nw_X.1]; show up2 (up2 (tX A) 0 0 (tX A 0 0 + 1)) 1 _ _ 0 0 = _; rw [up_ne (by omega), up_eq])]
        rfl
      have eN : tN (num (num (nw9 A 0 (tkN (τ (i + 1))) (tkP (τ (i + 1)))) 0 1 (tkV (τ (i + 1 + 1))) (tkP (τ (i + 1 + 1)))) 0 2 (tkV (τ (i + 1 + 1 + 1))) (tkP (τ (i + 1 + 1 + 1)))) = up2 (tN A) 0 (tX A 0 0) (tkN (τ (i + 1))) := by rw [num_X.2, num_X.2, nw_X.2]
      have eW : tW (num (num (nw9 A 0 (tkN (τ (i + 1))) (tkP (τ (i + 1)))) 0 1 (tkV (τ (i + 1 + 1))) (tkP (τ (i + 1 + 1)))) 0 2 (tkV (τ (i + 1 + 1 + 1))) (tkP (τ (i + 1 + 1 + 1)))) = tW A := by rw [W_num, W_num, W_nw]
      obtain ⟨A', hA'⟩ : ∃ A', A' = num (num (nw9 A 0 (tkN (τ (i + 1))) (tkP (τ (i + 1)))) 0 1 (tkV (τ (i + 1 + 1))) (tkP (τ (i + 1 + 1)))) 0 2 (tkV (τ (i + 1 + 1 + 1))) (tkP (τ (i + 1 + 1 + 1))) := ⟨_, rfl⟩
      rw [← hA'] at eX eN eW R5 W5 f5 fp5
      have e33' : eL (fun a k => sBo a k ∨ sEn a k ∨ ((a = 310 ∨ a = 311) ∧ k = 6 * s + tX A 0 0) ∨ (a = 309 ∧ k = s)) lEn h8 (uI h28 309 s (nI (tX A 0 0 + 1))) := by
        refine eL_tr (h1 := h24) ⟨by rw [o24.1, o22.1, o20.1, o18.1, o15.1], fun a k z => fr24 a k (fun y => z (Or.inl y)) (fun y => z (by omega)) (fun y => z (by omega)), fun a k _ => frL a k⟩ (eL_tr (eL_mono o28 (fun a k z => Or.inr (Or.inl z)) (fun a k z => z)) (eL_mono (eL_eo (SL := lEn) o33) (fun a k z => Or.inr (Or.inr (Or.inr z))) (fun a k z => z)))
      have k8 : ∀ a k, 309 ≤ a → ¬ ((a = 310 ∨ a = 311) ∧ k = 6 * s + tX A 0 0) → ¬ (a = 309 ∧ k = s) → gI (uI h28 309 s (nI (tX A 0 0 + 1))) a k = gI h a k := fun a k z1 z2 z3 => by
        rw [e33'.2.1 _ _ (fun y => by unfold sBo sEn at y; omega), o8.2 _ _ (fun y => by unfold sGo at y; omega)]
      have xs : ∀ b j, ¬ (b = 0 ∧ j = 0) → ¬ (b = 1 ∧ j = tX A 0 0) → ¬ (b = 2 ∧ j = tX A 0 0) → tX A' b j = tX A b j := fun b j z1 z2 z3 => by
        rw [eX, up_ne z3, up_ne z2, up_ne z1]
      have x0 : tX A' 0 0 = tX A 0 0 + 1 := by rw [eX, up_ne (by omega), up_ne (by omega), up_eq]
      refine v_rV ⟨e33, Or.inl ⟨A', i + 1 + 1 + 1 + 1 + 1, R5, by omega, ⟨atM_eo o33 (fun a k z => by omega) a5, ?_, ?_⟩, ⟨⟨?_, ?_, ?_, ?_, ?_, ?_⟩, ?_, ?_, ?_⟩, ?_, flM_eo o33 (fun a k z => by omega) f5, fp5, ?_, W5⟩⟩
      · rw [e33'.2.1 _ _ (fun y => by unfold sBo sEn at y; omega), o8.2 _ _ (fun y => by unfold sGo at y; omega)]
        exact g12
      · rw [gI_ne (by omega)]
        exact g19_28
      · rw [gI_eq, x0]
      · rw [k8 _ _ (by omega) (by omega) (by omega), xs _ _ (by omega) (by omega) (by omega)]; exact t2
      · rw [k8 _ _ (by omega) (by omega) (by omega), xs _ _ (by omega) (by omega) (by omega)]; exact t3
      · rw [k8 _ _ (by omega) (by omega) (by omega), xs _ _ (by omega) (by omega) (by omega)]; exact t4
      · rw [k8 _ _ (by omega) (by omega) (by omega), xs _ _ (by omega) (by omega) (by omega)]; exact t5
      · rw [k8 _ _ (by omega) (by omega) (by omega), xs _ _ (by omega) (by omega) (by omega)]; exact t6
      · intro r hr
        rw [x0] at hr
        by_cases e : r = tX A 0 0
        · rw [e]
          constructor
          · rw [gI_ne (by omega), o28.2.1 _ _ (fun z => by unfold sEn at z; omega), o24.2 _ _ (fun z => by omega), o22.2 _ _ (fun z => by unfold sBo at z; omega), g310, ex19, eX, up_ne (by omega), up_eq]
          · rw [gI_ne (by omega), o28.2.1 _ _ (fun z => by unfold sEn at z; omega), g311, ex23, eX, up_eq]
        · rw [k8 _ _ (by omega) (by omega) (by omega), k8 _ _ (by omega) (by omega) (by omega), xs _ _ (by omega) (by omega) (by omega), xs _ _ (by omega) (by omega) (by omega)]
          exact t7 r (by omega)
      · intro l hl
        rw [xs _ _ (by omega) (by omega) (by omega)] at hl
        rw [k8 _ _ (by omega) (by omega) (by omega), k8 _ _ (by omega) (by omega) (by omega), k8 _ _ (by omega) (by omega) (by omega), xs _ _ (by omega) (by omega) (by omega), xs _ _ (by omega) (by omega) (by omega), xs _ _ (by omega) (by omega) (by omega)]
        exact t8 l hl
      · intro l hl
        rw [k8 _ _ (by omega) (by omega) (by omega), xs _ _ (by omega) (by omega) (by omega)]
        exact t9 l hl
      · refine nmM_new (k9 := 0) (by omega) wa n6 nm8 rfl (fun k hk => ?_) eN ?_ ?_ ?_ (fun k hk => ⟨?_, ?_⟩)
        · rcases (show k = 0 ∨ k = 1 by omega) with rfl | rfl
          · rw [if_pos rfl]; exact x0
          · rw [if_neg (by omega)]; exact xs _ _ (by omega) (by omega) (by omega)
        · rw [gI_ne (by omega)]; exact n5
        · rw [gL_uI, l5, nj]
        · rw [gI_ne (by omega), m5, if_pos rfl, Nat.zero_add]
        · rw [gL_uI, (r5 k hk).1, frL]
        · rw [gI_ne (by omega), (r5 k hk).2, fr24 _ _ (fun z => by unfold sBo at z; omega) (by omega) (by omega)]
      · exact lwM_eL (eL_tr (eL_mono (eL_eo (SL := lEn) o8) (fun a k z => Or.inr z) (fun a k z => z)) (eL_mono e33' (fun a k z => Or.inl z) (fun a k z => z))) (fun a k z => by unfold sBo sEn sGo at z; omega) (by omega) eW lw
    · exact v_ie (x13 d).2 (v_rV ⟨e28, Or.inr d⟩)
  · refine v_ie (x13 d8).1 (v_rV ⟨e8, Or.inr ?_⟩)
    have : R = (2, tkP (τ i), A) := by
      by_cases z : tX A 0 0 = 6
      · exact O1 (by simp [z])
      · exact O2 (by simp [z]) (by omega)
    rw [this]
    exact d8
