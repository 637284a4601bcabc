/-! BOTH READ ALIKE -/
set_option maxHeartbeats 1000000 in
theorem beginC0 {fu u : Nat} {A : RT} {h : mh} (hfu : 1000 ≤ fu) (hT : LT u h.2) (w : wA A) (t : tcC u A 10 0 h) (hu : u = 7 ∨ u = 23) : ok (fX6_begin fu u 39 h) (fun _ h' => eo (fun a _ => 39 ≤ a ∧ a ≤ 43) h h' ∧ ngC h' 39 (NB A)) := by
  have hL := LM_T hT
  have hU : LU u h.2 := ⟨hL, hu⟩
  have w1 := w.1.2.1
  obtain ⟨⟨a1, a2, a3, a4, a5, a6⟩, a7, a8, a9, a10, a11, a12⟩ := t
  unfold fX6_begin
  repeat (first | with_reducible apply v_lt | ((with_reducible apply vXR4); exact hT) | ((with_reducible apply w_XR); exact (LM_T hT); rfl) | ((with_reducible apply w_TR); exact hT; rfl) | ((with_reducible apply w_UR); exact hT; rfl) | ((first | with_reducible apply vXI | with_reducible apply vXS | with_reducible apply vXC); exact (LM_T hT)) | ((first | with_reducible apply vT0I | with_reducible apply vT9I | with_reducible apply vT0C | with_reducible apply vT9C | with_reducible apply vT0S | with_reducible apply vT9S); exact hT) | ((first | with_reducible apply vNR0 | with_reducible apply vNR1 | with_reducible apply vNR2 | with_reducible apply vNR3 | with_reducible apply vNI | with_reducible apply vNS | with_reducible apply vNC); (first | assumption | exact m39 | exact m44); exact (LM_T hT)) | ((first | with_reducible apply w_NA | with_reducible apply w_NW); exact (LM_T hT); (first | assumption | exact m39 | exact m44); rfl; rfl; (first | with_reducible rfl | with_reducible exact ixo _ | with_reducible exact ixoc _ _ | with_reducible exact ixom _ _ _ | with_reducible exact ixop _ _ | with_reducible exact ixod _ _ | assumption); omega) | ((first | with_reducible apply w_TA | with_reducible apply w_TW | with_reducible apply w_TJ | with_reducible apply w_TK); exact hT; rfl; rfl; (first | with_reducible rfl | with_reducible exact ixo _ | with_reducible exact ixoc _ _ | with_reducible exact ixom _ _ _ | with_reducible exact ixop _ _ | with_reducible exact ixod _ _ | assumption); omega))
  refine v_cp (y_c hU rfl rfl).1 (NA_c hL m39 rfl rfl) ?_
  repeat (first | with_reducible apply v_lt | ((with_reducible apply vXR4); exact hT) | ((with_reducible apply w_XR); exact (LM_T hT); rfl) | ((with_reducible apply w_TR); exact hT; rfl) | ((with_reducible apply w_UR); exact hT; rfl) | ((first | with_reducible apply vXI | with_reducible apply vXS | with_reducible apply vXC); exact (LM_T hT)) | ((first | with_reducible apply vT0I | with_reducible apply vT9I | with_reducible apply vT0C | with_reducible apply vT9C | with_reducible apply vT0S | with_reducible apply vT9S); exact hT) | ((first | with_reducible apply vNR0 | with_reducible apply vNR1 | with_reducible apply vNR2 | with_reducible apply vNR3 | with_reducible apply vNI | with_reducible apply vNS | with_reducible apply vNC); (first | assumption | exact m39 | exact m44); exact (LM_T hT)) | ((first | with_reducible apply w_NA | with_reducible apply w_NW); exact (LM_T hT); (first | assumption | exact m39 | exact m44); rfl; rfl; (first | with_reducible rfl | with_reducible exact ixo _ | with_reducible exact ixoc _ _ | with_reducible exact ixom _ _ _ | with_reducible exact ixop _ _ | with_reducible exact ixod _ _ | assumption); omega) | ((first | with_reducible apply w_TA | with_reducible apply w_TW | with_reducible apply w_TJ | with_reducible apply w_TK); exact hT; rfl; rfl; (first | with_reducible rfl | with_reducible exact ixo _ | with_reducible exact ixoc _ _ | with_reducible exact ixom _ _ _ | with_reducible exact ixop _ _ | with_reducible exact ixod _ _ | assumption); omega))
  refine v_cp (y_c (h := uA h (39 + 1) _) hU rfl rfl).1 (NA_c (h := uA h (39 + 1) _) hL m39 rfl rfl) ?_
  repeat (first | with_reducible apply v_lt | ((with_reducible apply vXR4); exact hT) | ((with_reducible apply w_XR); exact (LM_T hT); rfl) | ((with_reducible apply w_TR); exact hT; rfl) | ((with_reducible apply w_UR); exact hT; rfl) | ((first | with_reducible apply vXI | with_reducible apply vXS | with_reducible apply vXC); exact (LM_T hT)) | ((first | with_reducible apply vT0I | with_reducible apply vT9I | with_reducible apply vT0C | with_reducible apply vT9C | with_reducible apply vT0S | with_reducible apply vT9S); exact hT) | ((first | with_reducible apply vNR0 | with_reducible apply vNR1 | with_reducible apply vNR2 | with_reducible apply vNR3 | with_reducible apply vNI | with_reducible apply vNS | with_reducible apply vNC); (first | assumption | exact m39 | exact m44); exact (LM_T hT)) | ((first | with_reducible apply w_NA | with_reducible apply w_NW); exact (LM_T hT); (first | assumption | exact m39 | exact m44); rfl; rfl; (first | with_reducible rfl | with_reducible exact ixo _ | with_reducible exact ixoc _ _ | with_reducible exact ixom _ _ _ | with_reducible exact ixop _ _ | with_reducible exact ixod _ _ | assumption); omega) | ((first | with_reducible apply w_TA | with_reducible apply w_TW | with_reducible apply w_TJ | with_reducible apply w_TK); exact hT; rfl; rfl; (first | with_reducible rfl | with_reducible exact ixo _ | with_reducible exact ixoc _ _ | with_reducible exact ixom _ _ _ | with_reducible exact ixop _ _ | with_reducible exact ixod _ _ | assumption); omega))
  obtain ⟨g, hg⟩ : ∃ g, g = uA (uA h (39 + 1) (fun j => if j < 6 then gI h (u + 5) j else gI h (39 + 1) j)) (39 + 2) (fun j => if j < 6 then gI (uA h (39 + 1) (fun j => if j < 6 then gI h (u + 5) j else gI h (39 + 1) j)) (u + 7) j else gI (uA h (39 + 1) (fun j => if j < 6 then gI h (u + 5) j else gI h (39 + 1) j)) (39 + 2) j) := ⟨_, rfl⟩
  rw [← hg]
  have og : eo (fun a _ => a = 40 ∨ a = 41) h g := by
    rw [hg]
    exact eo_uA (eo_uA eo_rf (fun _ => Or.inl rfl)) (fun _ => Or.inr rfl)
  have gk : ∀ i, i < 6 → gI g 40 i = nI (tX A 3 i) ∧ gI g 41 i = nI (tX A 5 i) := fun i hi => by
    rw [hg]
    constructor
    · rw [gA_ne (by omega), show (40 : Nat) = 39 + 1 from rfl, gA_eq, if_pos hi]
      exact (a12 i hi).1
    · rw [show (41 : Nat) = 39 + 2 from rfl, gA_eq, if_pos hi, gA_ne (by omega)]
      exact (a12 i hi).2.1
  have hTg : LT u g.2 := by rw [og.1]; exact hT
  have hLg := LM_T hTg
  refine v_bd (fillC (a := 42) (n := 6) (NA_c (n := 39) (k := 3) hLg m39 rfl rfl) (by omega) hfu) (fun _ h1 q1 => ?_)
  obtain ⟨o1, f1⟩ := q1
  have hT1 : LT u h1.2 := by rw [o1.1]; exact hTg
  have hL1 := LM_T hT1
  repeat (first | with_reducible apply v_lt | ((with_reducible apply vXR4); exact hT1) | ((with_reducible apply w_XR); exact (LM_T hT1); rfl) | ((with_reducible apply w_TR); exact hT1; rfl) | ((with_reducible apply w_UR); exact hT1; rfl) | ((first | with_reducible apply vXI | with_reducible apply vXS | with_reducible apply vXC); exact (LM_T hT1)) | ((first | with_reducible apply vT0I | with_reducible apply vT9I | with_reducible apply vT0C | with_reducible apply vT9C | with_reducible apply vT0S | with_reducible apply vT9S); exact hT1) | ((first | with_reducible apply vNR0 | with_reducible apply vNR1 | with_reducible apply vNR2 | with_reducible apply vNR3 | with_reducible apply vNI | with_reducible apply vNS | with_reducible apply vNC); (first | assumption | exact m39 | exact m44); exact (LM_T hT1)) | ((first | with_reducible apply w_NA | with_reducible apply w_NW); exact (LM_T hT1); (first | assumption | exact m39 | exact m44); rfl; rfl; (first | with_reducible rfl | with_reducible exact ixo _ | with_reducible exact ixoc _ _ | with_reducible exact ixom _ _ _ | with_reducible exact ixop _ _ | with_reducible exact ixod _ _ | assumption); omega) | ((first | with_reducible apply w_TA | with_reducible apply w_TW | with_reducible apply w_TJ | with_reducible apply w_TK); exact hT1; rfl; rfl; (first | with_reducible rfl | with_reducible exact ixo _ | with_reducible exact ixoc _ _ | with_reducible exact ixom _ _ _ | with_reducible exact ixop _ _ | with_reducible exact ixod _ _ | assumption); omega))
  refine v_bd (fillC (a := 43) (n := 6) (NA_c (n := 39) (k := 4) hL1 m39 rfl rfl) (by omega) hfu) (fun _ h2 q2 => ?_)
  obtain ⟨o2, f2⟩ := q2
  have hT2 : LT u h2.2 := by rw [o2.1]; exact hT1
  have oo : eo (fun a _ => 39 ≤ a ∧ a ≤ 43) h h2 := eo_tr (eo_mono og (fun a k z => by omega)) (eo_tr (eo_mono o1 (fun a k z => by omega)) (eo_mono o2 (fun a k z => by omega)))
  have u4 : gI h2 u 4 = nI (tX A 0 1) := by rw [oo.2 _ _ (fun z => by omega)]; exact a2
  repeat (first | with_reducible apply v_lt | ((with_reducible apply vXR4); exact hT2) | ((with_reducible apply w_XR); exact (LM_T hT2); rfl) | ((with_reducible apply w_TR); exact hT2; rfl) | ((with_reducible apply w_UR); exact hT2; rfl) | ((first | with_reducible apply vXI | with_reducible apply vXS | with_reducible apply vXC); exact (LM_T hT2)) | ((first | with_reducible apply vT0I | with_reducible apply vT9I | with_reducible apply vT0C | with_reducible apply vT9C | with_reducible apply vT0S | with_reducible apply vT9S); exact hT2) | ((first | with_reducible apply vNR0 | with_reducible apply vNR1 | with_reducible apply vNR2 | with_reducible apply vNR3 | with_reducible apply vNI | with_reducible apply vNS | with_reducible apply vNC); (first | assumption | exact m39 | exact m44); exact (LM_T hT2)) | ((first | with_reducible apply w_NA | with_reducible apply w_NW); exact (LM_T hT2); (first | assumption | exact m39 | exact m44); rfl; rfl; (first | with_reducible rfl | with_reducible exact ixo _ | with_reducible exact ixoc _ _ | with_reducible exact ixom _ _ _ | with_reducible exact ixop _ _ | with_reducible exact ixod _ _ | assumption); omega) | ((first | with_reducible apply w_TA | with_reducible apply w_TW | with_reducible apply w_TJ | with_reducible apply w_TK); exact hT2; rfl; rfl; (first | with_reducible rfl | with_reducible exact ixo _ | with_reducible exact ixoc _ _ | with_reducible exact ixom _ _ _ | with_reducible exact ixop _ _ | with_reducible exact ixod _ _ | assumption); omega))
  rw [u4, shl1 _ (by omega), show nI (2 ^ tX A 0 1) - 1 = nI (2 ^ tX A 0 1 - 1) from pk_sub (b := 1) (Nat.one_le_two_pow)]
  obtain ⟨h3, hh3⟩ : ∃ h3, h3 = uI (uI (uI (uI h2 39 4 (nI (2 ^ tX A 0 1 - 1))) 39 5 0) 39 6 (-1)) 39 7 0 := ⟨_, rfl⟩
  rw [← hh3]
  have o3 : eo (fun a _ => a = 39) h2 h3 := by
    rw [hh3]
    exact eo_uI (eo_uI (eo_uI (eo_uI eo_rf rfl) rfl) rfl) rfl
  refine v_rV ⟨eo_tr oo (eo_mono o3 (fun a k z => by omega)), fun i hi => ⟨?_, ?_, ?_, ?_⟩, ?_, ?_, ?_, ?_⟩
  · rw [o3.2 _ _ (fun z => by omega), o2.2 _ _ (fun z => by omega), o1.2 _ _ (fun z => by omega)]
    exact (gk i hi).1
  · rw [o3.2 _ _ (fun z => by omega), o2.2 _ _ (fun z => by omega), o1.2 _ _ (fun z => by omega)]
    exact (gk i hi).2
  · rw [o3.2 _ _ (fun z => by omega), o2.2 _ _ (fun z => by omega), f1 i hi]
    rfl
  · rw [o3.2 _ _ (fun z => by omega), f2 i hi]
    rfl
  · rw [hh3, gI_ne (by omega), gI_ne (by omega), gI_ne (by omega), gI_eq]
    rfl
  · rw [hh3, gI_ne (by omega), gI_ne (by omega), gI_eq]
    rfl
  · rw [hh3, gI_ne (by omega), gI_eq]
    rfl
  · rw [hh3, gI_eq]
    rfl
