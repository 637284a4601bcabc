/-! WHAT CAN BE UNDONE: remembering, in both -/
theorem loop2L {β : Type} {B : (Int32 × mh → Option (β × mh)) → Int32 × mh → Option (β × mh)} {fu n : Nat} {I : Nat → mh → Prop} {Q : β → mh → Prop} (hfu : n < fu) {h : mh} (h0 : I 0 h)
    (he : ∀ (h : mh) (k : Int32 × mh → Option (β × mh)), I n h → ok (B k (nI n, h)) Q)
    (hs : ∀ (j : Nat) (h : mh) (k : Int32 × mh → Option (β × mh)), j < n → I j h → (∀ h', I (j + 1) h' → ok (k (nI j + 1, h')) Q) → ok (B k (nI j, h)) Q) : ok (itr B fu (0, h)) Q := by
  refine itr_up (I := fun j s => s.1 = nI j ∧ I j s.2) (P := fun R => ok R Q) (n := n) ?_ ?_ fu 0 _ (by omega) (by omega) ⟨rfl, h0⟩
  · intro j s k hj hI hk
    obtain ⟨w, h1⟩ := s
    obtain ⟨e1, q⟩ := hI
    dsimp only at e1 q
    subst e1
    exact hs j h1 k hj q (fun h' q' => hk _ ⟨nI_1 _, q'⟩)
  · intro s k hI
    obtain ⟨w, h1⟩ := s
    obtain ⟨e1, q⟩ := hI
    dsimp only at e1 q
    subst e1
    exact he h1 k q
theorem past_ng : ∀ x, x < 40 → 80 + 5 * x ∈ ngt := by decide +kernel
theorem slot_ng : ∀ s, s < 3 → 280 + 5 * s ∈ ngt := by decide +kernel
theorem mn_40 {n : Nat} (hn : n ≤ 40) : mn9 40 (nI n + 1) = nI (min 40 (n + 1)) := by
  rw [nI_1]
  unfold mn9
  by_cases z : n + 1 < 40
  · rw [if_pos (show nI (n + 1) < 40 from nI_lt (b := 40) z (by decide)), Nat.min_eq_right (by omega)]
  · rw [if_neg (show ¬ nI (n + 1) < 40 from nI_nlt (a := n + 1) (b := 40) (by omega) (by omega)), Nat.min_eq_left (by omega)]
    rfl
theorem rem_40 {a : Nat} (ha : a < 2 ^ 31) : nI a - nI a / 40 * 40 = nI (a % 40) := pk_rem (d := 40) ha (by decide) (by decide)
theorem rememberC {t fu x n : Nat} {N : AN} {h : mh} (hT : LT t h.2) (hx : x < 40) (hn : n ≤ 40) (e1 : gI h 77 1 = nI x) (e2 : gI h 77 2 = nI n) (hg : ngC h 39 N) : ok (fX2_remember fu 77 39 h) (fun _ h' => eo (fun a j => (80 + 5 * x ≤ a ∧ a ≤ 84 + 5 * x) ∨ (a = 77 ∧ (j = 1 ∨ j = 2))) h h' ∧ ngC h' (80 + 5 * x) N ∧ gI h' 77 1 = nI ((x + 1) % 40) ∧ gI h' 77 2 = nI (min 40 (n + 1))) := by
  have hL := LM_T hT
  have hxn := past_ng x hx
  unfold fX2_remember
  repeat (first | with_reducible apply v_lt | ((with_reducible apply vXR4); exact hT) | ((with_reducible apply w_XR); exact (LM_T hT); rfl) | ((with_reducible apply w_TR); exact hT; rfl) | ((with_reducible apply w_UR); exact hT; rfl) | ((first | with_reducible apply vXI | with_reducible apply vXS | with_reducible apply vXC); exact (LM_T hT)) | ((first | with_reducible apply vT0I | with_reducible apply vT9I | with_reducible apply vT0C | with_reducible apply vT9C | with_reducible apply vT0S | with_reducible apply vT9S); exact hT) | ((first | with_reducible apply vNR0 | with_reducible apply vNR1 | with_reducible apply vNR2 | with_reducible apply vNR3 | with_reducible apply vNI | with_reducible apply vNS | with_reducible apply vNC); (first | assumption | exact m39 | exact m44); exact (LM_T hT)) | ((first | with_reducible apply w_NA | with_reducible apply w_NW); exact (LM_T hT); (first | assumption | exact m39 | exact m44); rfl; rfl; (first | with_reducible rfl | with_reducible exact ixo _ | with_reducible exact ixoc _ _ | with_reducible exact ixom _ _ _ | with_reducible exact ixop _ _ | with_reducible exact ixod _ _ | assumption); omega) | ((first | with_reducible apply w_TA | with_reducible apply w_TW | with_reducible apply w_TJ | with_reducible apply w_TK); exact hT; rfl; rfl; (first | with_reducible rfl | with_reducible exact ixo _ | with_reducible exact ixoc _ _ | with_reducible exact ixom _ _ _ | with_reducible exact ixop _ _ | with_reducible exact ixod _ _ | assumption); omega) | ((with_reducible apply v77R0); exact (LM_T hT)) | ((with_reducible apply v77R3); exact (LM_T hT)) | ((with_reducible apply v77I); exact (LM_T hT)) | ((with_reducible apply v77S); exact (LM_T hT)) | ((with_reducible apply v77Z); exact (LM_T hT); first | exact Or.inl rfl | exact Or.inr rfl | assumption) | ((with_reducible apply v77C); exact (LM_T hT)) | ((with_reducible apply v78A); exact (LM_T hT); (first | with_reducible exact ix6 _ _ | with_reducible rfl | with_reducible exact ixc12 _ | with_reducible exact ixc18 _ | with_reducible exact ixc24 _ | with_reducible exact ixc6 _ | with_reducible exact ixl0 | with_reducible exact ixl1 | with_reducible exact ixl2 | with_reducible exact ixl3 | with_reducible exact ixl4 | with_reducible exact ixl5 | with_reducible exact ixl6 | with_reducible exact ixl7 | with_reducible exact ixl8 | with_reducible exact ixl9 | with_reducible exact ixl10 | with_reducible exact ixl11 | with_reducible exact ixl12 | with_reducible exact ixl13 | with_reducible exact ixl14 | with_reducible exact ixl15 | with_reducible exact ixl16 | with_reducible exact ixl17 | with_reducible exact ixl18 | with_reducible exact ixl19 | with_reducible exact ixl20 | with_reducible exact ixl21 | with_reducible exact ixl22 | with_reducible exact ixl23 | with_reducible exact ixl24 | with_reducible exact ixl25 | with_reducible exact ixl26 | with_reducible exact ixl27 | with_reducible exact ixl28 | with_reducible exact ixl29 | with_reducible exact ixl30 | with_reducible exact ixl31 | with_reducible exact ixl32 | with_reducible exact ix4 _ _ | with_reducible exact ix33 _ _); omega) | ((with_reducible apply v79A); exact (LM_T hT); (first | with_reducible exact ix6 _ _ | with_reducible rfl | with_reducible exact ixc12 _ | with_reducible exact ixc18 _ | with_reducible exact ixc24 _ | with_reducible exact ixc6 _ | with_reducible exact ixl0 | with_reducible exact ixl1 | with_reducible exact ixl2 | with_reducible exact ixl3 | with_reducible exact ixl4 | with_reducible exact ixl5 | with_reducible exact ixl6 | with_reducible exact ixl7 | with_reducible exact ixl8 | with_reducible exact ixl9 | with_reducible exact ixl10 | with_reducible exact ixl11 | with_reducible exact ixl12 | with_reducible exact ixl13 | with_reducible exact ixl14 | with_reducible exact ixl15 | with_reducible exact ixl16 | with_reducible exact ixl17 | with_reducible exact ixl18 | with_reducible exact ixl19 | with_reducible exact ixl20 | with_reducible exact ixl21 | with_reducible exact ixl22 | with_reducible exact ixl23 | with_reducible exact ixl24 | with_reducible exact ixl25 | with_reducible exact ixl26 | with_reducible exact ixl27 | with_reducible exact ixl28 | with_reducible exact ixl29 | with_reducible exact ixl30 | with_reducible exact ixl31 | with_reducible exact ixl32 | with_reducible exact ix4 _ _ | with_reducible exact ix33 _ _); omega))
  rw [e1]
  apply v78A hL (e := rfl) (hj := hx)
  repeat (first | with_reducible apply v_lt | ((with_reducible apply vXR4); exact hT) | ((with_reducible apply w_XR); exact (LM_T hT); rfl) | ((with_reducible apply w_TR); exact hT; rfl) | ((with_reducible apply w_UR); exact hT; rfl) | ((first | with_reducible apply vXI | with_reducible apply vXS | with_reducible apply vXC); exact (LM_T hT)) | ((first | with_reducible apply vT0I | with_reducible apply vT9I | with_reducible apply vT0C | with_reducible apply vT9C | with_reducible apply vT0S | with_reducible apply vT9S); exact hT) | ((first | with_reducible apply vNR0 | with_reducible apply vNR1 | with_reducible apply vNR2 | with_reducible apply vNR3 | with_reducible apply vNI | with_reducible apply vNS | with_reducible apply vNC); (first | assumption | exact m39 | exact m44); exact (LM_T hT)) | ((first | with_reducible apply w_NA | with_reducible apply w_NW); exact (LM_T hT); (first | assumption | exact m39 | exact m44); rfl; rfl; (first | with_reducible rfl | with_reducible exact ixo _ | with_reducible exact ixoc _ _ | with_reducible exact ixom _ _ _ | with_reducible exact ixop _ _ | with_reducible exact ixod _ _ | assumption); omega) | ((first | with_reducible apply w_TA | with_reducible apply w_TW | with_reducible apply w_TJ | with_reducible apply w_TK); exact hT; rfl; rfl; (first | with_reducible rfl | with_reducible exact ixo _ | with_reducible exact ixoc _ _ | with_reducible exact ixom _ _ _ | with_reducible exact ixop _ _ | with_reducible exact ixod _ _ | assumption); omega))
  refine v_bd (becomeC hT hxn m39 (by omega) hg) (fun _ h1 hq => ?_)
  obtain ⟨o1, hg1⟩ := hq
  have hT1 := LT_eo o1 hT
  have f1 : gI h1 77 1 = nI x := by rw [o1.2 _ _ (by omega)]; exact e1
  have f2 : gI h1 77 2 = nI n := by rw [o1.2 _ _ (by omega)]; exact e2
  repeat (first | with_reducible apply v_lt | ((with_reducible apply vXR4); exact hT1) | ((with_reducible apply w_XR); exact (LM_T hT1); rfl) | ((with_reducible apply w_TR); exact hT1; rfl) | ((with_reducible apply w_UR); exact hT1; rfl) | ((first | with_reducible apply vXI | with_reducible apply vXS | with_reducible apply vXC); exact (LM_T hT1)) | ((first | with_reducible apply vT0I | with_reducible apply vT9I | with_reducible apply vT0C | with_reducible apply vT9C | with_reducible apply vT0S | with_reducible apply vT9S); exact hT1) | ((first | with_reducible apply vNR0 | with_reducible apply vNR1 | with_reducible apply vNR2 | with_reducible apply vNR3 | with_reducible apply vNI | with_reducible apply vNS | with_reducible apply vNC); (first | assumption | exact m39 | exact m44); exact (LM_T hT1)) | ((first | with_reducible apply w_NA | with_reducible apply w_NW); exact (LM_T hT1); (first | assumption | exact m39 | exact m44); rfl; rfl; (first | with_reducible rfl | with_reducible exact ixo _ | with_reducible exact ixoc _ _ | with_reducible exact ixom _ _ _ | with_reducible exact ixop _ _ | with_reducible exact ixod _ _ | assumption); omega) | ((first | with_reducible apply w_TA | with_reducible apply w_TW | with_reducible apply w_TJ | with_reducible apply w_TK); exact hT1; rfl; rfl; (first | with_reducible rfl | with_reducible exact ixo _ | with_reducible exact ixoc _ _ | with_reducible exact ixom _ _ _ | with_reducible exact ixop _ _ | with_reducible exact ixod _ _ | assumption); omega) | ((with_reducible apply v77R0); exact (LM_T hT1)) | ((with_reducible apply v77R3); exact (LM_T hT1)) | ((with_reducible apply v77I); exact (LM_T hT1)) | ((with_reducible apply v77S); exact (LM_T hT1)) | ((with_reducible apply v77Z); exact (LM_T hT1); first | exact Or.inl rfl | exact Or.inr rfl | assumption) | ((with_reducible apply v77C); exact (LM_T hT1)) | ((with_reducible apply v78A); exact (LM_T hT1); (first | with_reducible exact ix6 _ _ | with_reducible rfl | with_reducible exact ixc12 _ | with_reducible exact ixc18 _ | with_reducible exact ixc24 _ | with_reducible exact ixc6 _ | with_reducible exact ixl0 | with_reducible exact ixl1 | with_reducible exact ixl2 | with_reducible exact ixl3 | with_reducible exact ixl4 | with_reducible exact ixl5 | with_reducible exact ixl6 | with_reducible exact ixl7 | with_reducible exact ixl8 | with_reducible exact ixl9 | with_reducible exact ixl10 | with_reducible exact ixl11 | with_reducible exact ixl12 | with_reducible exact ixl13 | with_reducible exact ixl14 | with_reducible exact ixl15 | with_reducible exact ixl16 | with_reducible exact ixl17 | with_reducible exact ixl18 | with_reducible exact ixl19 | with_reducible exact ixl20 | with_reducible exact ixl21 | with_reducible exact ixl22 | with_reducible exact ixl23 | with_reducible exact ixl24 | with_reducible exact ixl25 | with_reducible exact ixl26 | with_reducible exact ixl27 | with_reducible exact ixl28 | with_reducible exact ixl29 | with_reducible exact ixl30 | with_reducible exact ixl31 | with_reducible exact ixl32 | with_reducible exact ix4 _ _ | with_reducible exact ix33 _ _); omega) | ((with_reducible apply v79A); exact (LM_T hT1); (first | with_reducible exact ix6 _ _ | with_reducible rfl | with_reducible exact ixc12 _ | with_reducible exact ixc18 _ | with_reducible exact ixc24 _ | with_reducible exact ixc6 _ | with_reducible exact ixl0 | with_reducible exact ixl1 | with_reducible exact ixl2 | with_reducible exact ixl3 | with_reducible exact ixl4 | with_reducible exact ixl5 | with_reducible exact ixl6 | with_reducible exact ixl7 | with_reducible exact ixl8 | with_reducible exact ixl9 | with_reducible exact ixl10 | with_reducible exact ixl11 | with_reducible exact ixl12 | with_reducible exact ixl13 | with_reducible exact ixl14 | with_reducible exact ixl15 | with_reducible exact ixl16 | with_reducible exact ixl17 | with_reducible exact ixl18 | with_reducible exact ixl19 | with_reducible exact ixl20 | with_reducible exact ixl21 | with_reducible exact ixl22 | with_reducible exact ixl23 | with_reducible exact ixl24 | with_reducible exact ixl25 | with_reducible exact ixl26 | with_reducible exact ixl27 | with_reducible exact ixl28 | with_reducible exact ixl29 | with_reducible exact ixl30 | with_reducible exact ixl31 | with_reducible exact ixl32 | with_reducible exact ix4 _ _ | with_reducible exact ix33 _ _); omega))
  rw [f1, nI_1]
  refine v_rm (by decide) ?_
  rw [rem_40 (by omega)]
  repeat (first | with_reducible apply v_lt | ((with_reducible apply vXR4); exact hT1) | ((with_reducible apply w_XR); exact (LM_T hT1); rfl) | ((with_reducible apply w_TR); exact hT1; rfl) | ((with_reducible apply w_UR); exact hT1; rfl) | ((first | with_reducible apply vXI | with_reducible apply vXS | with_reducible apply vXC); exact (LM_T hT1)) | ((first | with_reducible apply vT0I | with_reducible apply vT9I | with_reducible apply vT0C | with_reducible apply vT9C | with_reducible apply vT0S | with_reducible apply vT9S); exact hT1) | ((first | with_reducible apply vNR0 | with_reducible apply vNR1 | with_reducible apply vNR2 | with_reducible apply vNR3 | with_reducible apply vNI | with_reducible apply vNS | with_reducible apply vNC); (first | assumption | exact m39 | exact m44); exact (LM_T hT1)) | ((first | with_reducible apply w_NA | with_reducible apply w_NW); exact (LM_T hT1); (first | assumption | exact m39 | exact m44); rfl; rfl; (first | with_reducible rfl | with_reducible exact ixo _ | with_reducible exact ixoc _ _ | with_reducible exact ixom _ _ _ | with_reducible exact ixop _ _ | with_reducible exact ixod _ _ | assumption); omega) | ((first | with_reducible apply w_TA | with_reducible apply w_TW | with_reducible apply w_TJ | with_reducible apply w_TK); exact hT1; rfl; rfl; (first | with_reducible rfl | with_reducible exact ixo _ | with_reducible exact ixoc _ _ | with_reducible exact ixom _ _ _ | with_reducible exact ixop _ _ | with_reducible exact ixod _ _ | assumption); omega) | ((with_reducible apply v77R0); exact (LM_T hT1)) | ((with_reducible apply v77R3); exact (LM_T hT1)) | ((with_reducible apply v77I); exact (LM_T hT1)) | ((with_reducible apply v77S); exact (LM_T hT1)) | ((with_reducible apply v77Z); exact (LM_T hT1); first | exact Or.inl rfl | exact Or.inr rfl | assumption) | ((with_reducible apply v77C); exact (LM_T hT1)) | ((with_reducible apply v78A); exact (LM_T hT1); (first | with_reducible exact ix6 _ _ | with_reducible rfl | with_reducible exact ixc12 _ | with_reducible exact ixc18 _ | with_reducible exact ixc24 _ | with_reducible exact ixc6 _ | with_reducible exact ixl0 | with_reducible exact ixl1 | with_reducible exact ixl2 | with_reducible exact ixl3 | with_reducible exact ixl4 | with_reducible exact ixl5 | with_reducible exact ixl6 | with_reducible exact ixl7 | with_reducible exact ixl8 | with_reducible exact ixl9 | with_reducible exact ixl10 | with_reducible exact ixl11 | with_reducible exact ixl12 | with_reducible exact ixl13 | with_reducible exact ixl14 | with_reducible exact ixl15 | with_reducible exact ixl16 | with_reducible exact ixl17 | with_reducible exact ixl18 | with_reducible exact ixl19 | with_reducible exact ixl20 | with_reducible exact ixl21 | with_reducible exact ixl22 | with_reducible exact ixl23 | with_reducible exact ixl24 | with_reducible exact ixl25 | with_reducible exact ixl26 | with_reducible exact ixl27 | with_reducible exact ixl28 | with_reducible exact ixl29 | with_reducible exact ixl30 | with_reducible exact ixl31 | with_reducible exact ixl32 | with_reducible exact ix4 _ _ | with_reducible exact ix33 _ _); omega) | ((with_reducible apply v79A); exact (LM_T hT1); (first | with_reducible exact ix6 _ _ | with_reducible rfl | with_reducible exact ixc12 _ | with_reducible exact ixc18 _ | with_reducible exact ixc24 _ | with_reducible exact ixc6 _ | with_reducible exact ixl0 | with_reducible exact ixl1 | with_reducible exact ixl2 | with_reducible exact ixl3 | with_reducible exact ixl4 | with_reducible exact ixl5 | with_reducible exact ixl6 | with_reducible exact ixl7 | with_reducible exact ixl8 | with_reducible exact ixl9 | with_reducible exact ixl10 | with_reducible exact ixl11 | with_reducible exact ixl12 | with_reducible exact ixl13 | with_reducible exact ixl14 | with_reducible exact ixl15 | with_reducible exact ixl16 | with_reducible exact ixl17 | with_reducible exact ixl18 | with_reducible exact ixl19 | with_reducible exact ixl20 | with_reducible exact ixl21 | with_reducible exact ixl22 | with_reducible exact ixl23 | with_reducible exact ixl24 | with_reducible exact ixl25 | with_reducible exact ixl26 | with_reducible exact ixl27 | with_reducible exact ixl28 | with_reducible exact ixl29 | with_reducible exact ixl30 | with_reducible exact ixl31 | with_reducible exact ixl32 | with_reducible exact ix4 _ _ | with_reducible exact ix33 _ _); omega))
  rw [gI_ne (by omega), f2, mn_40 hn]
  refine v_rV ⟨eo_uI (eo_uI (eo_mono o1 (fun a j z => by omega)) (by omega)) (by omega), ?_, ?_, gI_eq⟩
  · exact ngC_o (by omega) (ngC_o (by omega) hg1)
  · rw [gI_ne (by omega), gI_eq]
def newP (n : Nat) (P : Nat → AN) (N : AN) : Nat → AN := fun i => if n = 40 then (if i = 39 then N else P (i + 1)) else if i = n then N else P i
theorem keepM {fu : Nat} {N : AN} {h : mh} (hL : LM h.2) (hfu : 1000 ≤ fu) (hg : ngM h 334 N) : ok (fX10_keepsRow fu 299 h) (fun _ h' => eo (fun a _ => a = 333) h h' ∧ ngM h' 333 N) := by
  unfold fX10_keepsRow
  refine loop2 (I := fun j h' => eo (fun a _ => a = 333) h h' ∧ ∀ i, i < j → gI h' 333 i = gI h 334 i) (n := 33) (by omega) hfu ⟨eo_rf, fun i hi => by omega⟩ ?_ ?_
  · intro h1 k hI
    obtain ⟨o1, q1⟩ := hI
    unfold bX10_keepsRow_2
    dsimp only
    exact v_it (by decide) (v_rV ⟨o1, ngM_cp q1 hg⟩)
  · intro j h1 k hj hI hk
    obtain ⟨o1, q1⟩ := hI
    have hL1 := LM_eo o1 hL
    unfold bX10_keepsRow_2
    dsimp only
    refine v_ie (nI_ge (b := 33) hj (by omega)) ?_
    repeat (first | with_reducible apply v_lt | ((with_reducible apply w_MR); exact hL1; rfl) | ((with_reducible apply w_lv); exact hL1; assumption) | ((with_reducible apply vMI); exact hL1) | ((with_reducible apply vMS); exact hL1) | ((with_reducible apply vMC); exact hL1) | ((with_reducible apply vMZ); exact hL1; (first | exact Or.inl rfl | exact Or.inr rfl | exact b2i_01 _ | assumption)) | ((first | with_reducible apply w_MA | with_reducible apply w_MW | with_reducible apply w_MY | with_reducible apply w_MB | with_reducible apply w_MJ | with_reducible apply w_MK); exact hL1; rfl; rfl; rfl; (first | with_reducible rfl | with_reducible exact ixo _ | with_reducible exact ixoc _ _ | with_reducible exact ixom _ _ _ | with_reducible exact ixop _ _ | with_reducible exact ixod _ _ | assumption); omega))
    refine hk _ ⟨eo_uI o1 rfl, fun i hi => ?_⟩
    by_cases e : i = j
    · rw [gI_eq' ⟨rfl, e⟩, o1.2 _ _ (show ¬ (334 : Nat) = 333 by decide), e]
    · rw [gI_ne (fun z => e z.2)]
      exact q1 i (by omega)
theorem rec49 {fu n : Nat} {N N' : AN} {P : Nat → AN} {h : mh} (hL : LM h.2) (hfu : 1000 ≤ fu) (hn : n < 40) (e1 : gI h 299 58 = nI n) (hg : ngM h 333 N) (hg' : ngM h 334 N') (hP : ∀ i, i < n → ngO h 337 (33 * i) (P i)) : ok (fX10_records_49 fu 299 h) (fun _ h' => eo (fun a k => a = 333 ∨ a = 337 ∨ (a = 299 ∧ k = 58)) h h' ∧ ngM h' 333 N' ∧ gI h' 299 58 = nI (n + 1) ∧ ∀ i, i < n + 1 → ngO h' 337 (33 * i) (if i = n then N else P i)) := by
  unfold fX10_records_49
  refine loop2 (I := fun j h' => eo (fun a _ => a = 337) h h' ∧ (∀ i, i < 33 * n → gI h' 337 i = gI h 337 i) ∧ ∀ i, i < j → gI h' 337 (33 * n + i) = gI h 333 i) (n := 33) (by omega) hfu ⟨eo_rf, fun i _ => rfl, fun i hi => by omega⟩ ?_ ?_
  · intro h1 k hI
    obtain ⟨o1, q1, q2⟩ := hI
    have hL1 := LM_eo o1 hL
    have f1 : gI h1 299 58 = nI n := by rw [o1.2 _ _ (by omega)]; exact e1
    unfold bX10_records_51
    dsimp only
    refine v_it (by decide) ?_
    unfold fX10_records_83
    repeat (first | with_reducible apply v_lt | ((with_reducible apply w_MR); exact hL1; rfl) | ((with_reducible apply w_lv); exact hL1; assumption) | ((with_reducible apply vMI); exact hL1) | ((with_reducible apply vMS); exact hL1) | ((with_reducible apply vMC); exact hL1) | ((with_reducible apply vMZ); exact hL1; (first | exact Or.inl rfl | exact Or.inr rfl | exact b2i_01 _ | assumption)) | ((first | with_reducible apply w_MA | with_reducible apply w_MW | with_reducible apply w_MY | with_reducible apply w_MB | with_reducible apply w_MJ | with_reducible apply w_MK); exact hL1; rfl; rfl; rfl; (first | with_reducible rfl | with_reducible exact ixo _ | with_reducible exact ixoc _ _ | with_reducible exact ixom _ _ _ | with_reducible exact ixop _ _ | with_reducible exact ixod _ _ | assumption); omega))
    rw [f1, nI_1]
    have hg2 : ngM (uI h1 299 58 (nI (n + 1))) 334 N' := ngM_o (by decide) (ngM_eo o1 (fun k z => by omega) hg')
    refine v_bd (keepM (fu := fu) (N := N') hL1 hfu hg2) (fun _ h2 hq => ?_)
    obtain ⟨o2, hg3⟩ := hq
    refine v_rV ⟨eo_tr (eo_uI (eo_mono o1 (fun a k z => by omega)) (by omega)) (eo_mono o2 (fun a k z => by omega)), hg3, ?_, fun i hi => ?_⟩
    · rw [o2.2 _ _ (by omega)]
      exact gI_eq
    · have r : ∀ k, gI h2 337 k = gI h1 337 k := fun k => by
        rw [o2.2 _ _ (by omega), gI_ne (by omega)]
      by_cases z : i = n
      · rw [if_pos z, z]
        refine ngM_cp (h := h) (a := 333) (fun k hk => ?_) hg
        show gI h2 337 (33 * n + k) = _
        rw [r]
        exact q2 k hk
      · rw [if_neg z]
        refine ngM_cp (h := (fun _ k => gI h 337 (33 * i + k), h.2)) (a := 0) (fun k hk => ?_) (hP i (by omega))
        show gI h2 337 (33 * i + k) = gI h 337 (33 * i + k)
        rw [r]
        exact q1 _ (by omega)
  · intro j h1 k hj hI hk
    obtain ⟨o1, q1, q2⟩ := hI
    have hL1 := LM_eo o1 hL
    have f1 : gI h1 299 58 = nI n := by rw [o1.2 _ _ (by omega)]; exact e1
    unfold bX10_records_51
    dsimp only
    refine v_ie (nI_ge (b := 33) hj (by omega)) ?_
    repeat (first | with_reducible apply v_lt | ((with_reducible apply w_MR); exact hL1; rfl) | ((with_reducible apply w_lv); exact hL1; assumption) | ((with_reducible apply vMI); exact hL1) | ((with_reducible apply vMS); exact hL1) | ((with_reducible apply vMC); exact hL1) | ((with_reducible apply vMZ); exact hL1; (first | exact Or.inl rfl | exact Or.inr rfl | exact b2i_01 _ | assumption)) | ((first | with_reducible apply w_MA | with_reducible apply w_MW | with_reducible apply w_MY | with_reducible apply w_MB | with_reducible apply w_MJ | with_reducible apply w_MK); exact hL1; rfl; rfl; rfl; (first | with_reducible rfl | with_reducible exact ixo _ | with_reducible exact ixoc _ _ | with_reducible exact ixom _ _ _ | with_reducible exact ixop _ _ | with_reducible exact ixod _ _ | assumption); omega))
    rw [f1]
    repeat (first | with_reducible apply v_lt | ((with_reducible apply w_MR); exact hL1; rfl) | ((with_reducible apply w_lv); exact hL1; assumption) | ((with_reducible apply vMI); exact hL1) | ((with_reducible apply vMS); exact hL1) | ((with_reducible apply vMC); exact hL1) | ((with_reducible apply vMZ); exact hL1; (first | exact Or.inl rfl | exact Or.inr rfl | exact b2i_01 _ | assumption)) | ((first | with_reducible apply w_MA | with_reducible apply w_MW | with_reducible apply w_MY | with_reducible apply w_MB | with_reducible apply w_MJ | with_reducible apply w_MK); exact hL1; rfl; rfl; rfl; (first | with_reducible rfl | with_reducible exact ixo _ | with_reducible exact ixoc _ _ | with_reducible exact ixom _ _ _ | with_reducible exact ixop _ _ | with_reducible exact ixod _ _ | assumption); omega))
    refine hk _ ⟨eo_uI o1 rfl, fun i hi => ?_, fun i hi => ?_⟩
    · rw [gI_ne (by omega)]
      exact q1 i hi
    · by_cases e : i = j
      · rw [e, gI_eq, o1.2 _ _ (by omega)]
      · rw [gI_ne (by omega)]
        exact q2 i (by omega)
theorem recM {fu n : Nat} {N N' : AN} {P : Nat → AN} {h : mh} (hL : LM h.2) (hfu : 5000 ≤ fu) (hn : n ≤ 40) (e1 : gI h 299 58 = nI n) (hg : ngM h 333 N) (hg' : ngM h 334 N') (hP : ∀ i, i < n → ngO h 337 (33 * i) (P i)) : ok (fX10_records fu 299 h) (fun _ h' => eo (fun a k => a = 333 ∨ a = 337 ∨ (a = 299 ∧ k = 58)) h h' ∧ ngM h' 333 N' ∧ gI h' 299 58 = nI (min 40 (n + 1)) ∧ ∀ i, i < min 40 (n + 1) → ngO h' 337 (33 * i) (newP n P N i)) := by
  unfold fX10_records
  repeat (first | with_reducible apply v_lt | ((with_reducible apply w_MR); exact hL; rfl) | ((with_reducible apply w_lv); exact hL; assumption) | ((with_reducible apply vMI); exact hL) | ((with_reducible apply vMS); exact hL) | ((with_reducible apply vMC); exact hL) | ((with_reducible apply vMZ); exact hL; (first | exact Or.inl rfl | exact Or.inr rfl | exact b2i_01 _ | assumption)) | ((first | with_reducible apply w_MA | with_reducible apply w_MW | with_reducible apply w_MY | with_reducible apply w_MB | with_reducible apply w_MJ | with_reducible apply w_MK); exact hL; rfl; rfl; rfl; (first | with_reducible rfl | with_reducible exact ixo _ | with_reducible exact ixoc _ _ | with_reducible exact ixom _ _ _ | with_reducible exact ixop _ _ | with_reducible exact ixod _ _ | assumption); omega))
  rw [e1]
  by_cases z : n = 40
  · subst z
    refine v_it rfl ?_
    refine loop2L (I := fun j h' => eo (fun a _ => a = 337) h h' ∧ (∀ i, i < j → gI h' 337 i = gI h 337 (i + 33)) ∧ ∀ i, j ≤ i → gI h' 337 i = gI h 337 i) (n := 1287) (by omega) ⟨eo_rf, fun i hi => by omega, fun i _ => rfl⟩ ?_ ?_
    · intro h1 k hI
      obtain ⟨o1, q1, q2⟩ := hI
      have hL1 := LM_eo o1 hL
      have f1 : gI h1 299 58 = nI 40 := by rw [o1.2 _ _ (by omega)]; exact e1
      unfold bX10_records_11
      dsimp only
      refine v_it (by decide) ?_
      unfold fX10_records_39
      repeat (first | with_reducible apply v_lt | ((with_reducible apply w_MR); exact hL1; rfl) | ((with_reducible apply w_lv); exact hL1; assumption) | ((with_reducible apply vMI); exact hL1) | ((with_reducible apply vMS); exact hL1) | ((with_reducible apply vMC); exact hL1) | ((with_reducible apply vMZ); exact hL1; (first | exact Or.inl rfl | exact Or.inr rfl | exact b2i_01 _ | assumption)) | ((first | with_reducible apply w_MA | with_reducible apply w_MW | with_reducible apply w_MY | with_reducible apply w_MB | with_reducible apply w_MJ | with_reducible apply w_MK); exact hL1; rfl; rfl; rfl; (first | with_reducible rfl | with_reducible exact ixo _ | with_reducible exact ixoc _ _ | with_reducible exact ixom _ _ _ | with_reducible exact ixop _ _ | with_reducible exact ixod _ _ | assumption); omega))
      rw [f1, show nI 40 - 1 = nI 39 from by decide]
      have o2 : eo (fun a k => a = 337 ∨ (a = 299 ∧ k = 58)) h (uI h1 299 58 (nI 39)) := eo_uI (eo_mono o1 (fun a k z => by omega)) (by omega)
      refine ok_mono (rec49 (n := 39) (N := N) (N' := N') (P := fun i => P (i + 1)) hL1 (by omega) (by omega) gI_eq ?_ ?_ ?_) (fun _ h2 q => ?_)
      · exact ngM_eo o2 (fun k z => by omega) hg
      · exact ngM_eo o2 (fun k z => by omega) hg'
      · intro i hi
        refine ngM_cp (h := (fun _ k => gI h 337 (33 * (i + 1) + k), h.2)) (a := 0) (fun k hk => ?_) (hP (i + 1) (by omega))
        show gI (uI h1 299 58 (nI 39)) 337 (33 * i + k) = gI h 337 (33 * (i + 1) + k)
        rw [gI_ne (by omega), q1 _ (by omega)]
        congr 1
        omega
      · obtain ⟨r1, r2, r3, r4⟩ := q
        refine ⟨eo_tr (eo_mono o2 (fun a k z => by omega)) r1, r2, r3, fun i hi => ?_⟩
        have := r4 i (by omega)
        unfold newP
        rw [if_pos rfl]
        exact this
    · intro j h1 k hj hI hk
      obtain ⟨o1, q1, q2⟩ := hI
      have hL1 := LM_eo o1 hL
      unfold bX10_records_11
      dsimp only
      refine v_ie (nI_ge (b := 1287) hj (by omega)) ?_
      repeat (first | with_reducible apply v_lt | ((with_reducible apply w_MR); exact hL1; rfl) | ((with_reducible apply w_lv); exact hL1; assumption) | ((with_reducible apply vMI); exact hL1) | ((with_reducible apply vMS); exact hL1) | ((with_reducible apply vMC); exact hL1) | ((with_reducible apply vMZ); exact hL1; (first | exact Or.inl rfl | exact Or.inr rfl | exact b2i_01 _ | assumption)) | ((first | with_reducible apply w_MA | with_reducible apply w_MW | with_reducible apply w_MY | with_reducible apply w_MB | with_reducible apply w_MJ | with_reducible apply w_MK); exact hL1; rfl; rfl; rfl; (first | with_reducible rfl | with_reducible exact ixo _ | with_reducible exact ixoc _ _ | with_reducible exact ixom _ _ _ | with_reducible exact ixop _ _ | with_reducible exact ixod _ _ | assumption); omega))
      refine hk _ ⟨eo_uI o1 rfl, fun i hi => ?_, fun i hi => ?_⟩
      · by_cases e : i = j
        · rw [e, gI_eq]
          exact q2 _ (by omega)
        · rw [gI_ne (by omega)]
          exact q1 i (by omega)
      · rw [gI_ne (by omega)]
        exact q2 i (by omega)
  · refine v_ie (fun w => ?_) ?_
    · rw [show (40 : Int32) = nI 40 from rfl, nI_eq (by omega) (by omega)] at w
      exact z w
    rw [Nat.min_eq_right (by omega)]
    refine ok_mono (rec49 (N := N) (N' := N') (P := P) hL (by omega) (by omega) e1 hg hg' hP) (fun _ h2 q => ?_)
    obtain ⟨r1, r2, r3, r4⟩ := q
    refine ⟨r1, r2, r3, fun i hi => ?_⟩
    unfold newP
    rw [if_neg z]
    exact r4 i hi
/-! a thing done, in both -/
def sMC (t x a k : Nat) : Prop := sC t a k ∨ (39 ≤ a ∧ a ≤ 43) ∨ (80 + 5 * x ≤ a ∧ a ≤ 84 + 5 * x) ∨ (a = 77 ∧ (k = 1 ∨ k = 2))
def MutC (t x n : Nat) (N N' : AN) (h h1 : mh) : Prop := eo (sMC t x) h h1 ∧ ngC h1 39 N' ∧ ngC h1 (80 + 5 * x) N ∧ gI h1 77 1 = nI ((x + 1) % 40) ∧ gI h1 77 2 = nI (min 40 (n + 1))
def sMM (a k : Nat) : Prop := sR a k ∨ a = 333 ∨ a = 337 ∨ (a = 299 ∧ k = 58)
def MutM (n : Nat) (P : Nat → AN) (N N' : AN) (h1 h2 : mh) : Prop := eo sMM h1 h2 ∧ ngM h2 333 N' ∧ gI h2 299 58 = nI (min 40 (n + 1)) ∧ ∀ i, i < min 40 (n + 1) → ngO h2 337 (33 * i) (newP n P N i)
def setU (D : SD) (n x : Nat) (P : Nat → AN) : SD := (dK D, n, x, P, dH D, dS D, dT D, dW D)
theorem pAt_new {x n i : Nat} (hx : x < 40) (hn : n ≤ 40) (hi : i < min 40 (n + 1)) : (pAt ((x + 1) % 40) (min 40 (n + 1)) i = 80 + 5 * x ∧ ((n = 40 ∧ i = 39) ∨ (n < 40 ∧ i = n))) ∨ (pAt ((x + 1) % 40) (min 40 (n + 1)) i = pAt x n (if n = 40 then i + 1 else i) ∧ (if n = 40 then i + 1 else i) < n ∧ (pAt x n (if n = 40 then i + 1 else i) + 4 < 80 + 5 * x ∨ 84 + 5 * x < pAt x n (if n = 40 then i + 1 else i)) ∧ ¬ ((n = 40 ∧ i = 39) ∨ (n < 40 ∧ i = n))) := by
  unfold pAt
  by_cases z : n = 40
  · subst z
    rw [if_pos rfl, show min 40 (40 + 1) = 40 from rfl] at *
    by_cases w : i = 39
    · left
      omega
    · right
      omega
  · rw [if_neg z]
    rw [show min 40 (n + 1) = n + 1 from by omega] at *
    by_cases w : i = n
    · left
      omega
    · right
      omega
theorem Sm_mut {t u l : Nat} {T : AT} {N N' : AN} {D : SD} {h h1 h2 : mh} (hS : Sm t u l T N D h) (hw : wfN T N') (hc : MutC t (dX D) (dU D) N N' h h1) (hm : MutM (dU D) (dP D) N N' h1 h2) : Sm t u l T N' (setU D (min 40 (dU D + 1)) ((dX D + 1) % 40) (newP (dU D) (dP D) N)) h2 := by
  obtain ⟨q1, q2, q3, q4, q5, q6, q7⟩ := hS
  have ht := t_hi q1.1
  obtain ⟨oc, c1, c2, c3, c4⟩ := hc
  obtain ⟨om, m1, m2, m3⟩ := hm
  obtain ⟨u1, u2, u3, u4, u5, u6⟩ := q4
  have o : eo (fun a k => (a = t + 14 ∨ a = t + 15 ∨ (a = t + 9 ∧ k = 7)) ∨ (39 ≤ a ∧ a ≤ 43) ∨ (80 + 5 * dX D ≤ a ∧ a ≤ 84 + 5 * dX D) ∨ (a = 77 ∧ (k = 1 ∨ k = 2)) ∨ a = 331 ∨ a = 332 ∨ a = 334 ∨ a = 335 ∨ a = 336 ∨ a = 338 ∨ a = 333 ∨ a = 337 ∨ (a = 299 ∧ (k = 50 ∨ k = 53 ∨ k = 54 ∨ k = 57 ∨ k = 60 ∨ k = 61 ∨ k = 58))) h h2 := eo_tr (eo_mono oc (fun a k z => by unfold sMC sC at z; omega)) (eo_mono om (fun a k z => by unfold sMM sR at z; omega))
  have om' : ∀ a k, a < 299 → gI h2 a k = gI h1 a k := fun a k ha => om.2 _ _ (fun z => by unfold sMM sR at z; omega)
  have omg : ∀ {n : Nat} {M : AN}, n + 4 < 299 → ngC h1 n M → ngC h2 n M := fun hn g => ngC_eo (S := fun a _ => ¬ a < 299) ⟨om.1, fun a k z => om' a k (Decidable.byContradiction z)⟩ (fun a h1 h2 k z => by omega) g
  refine ⟨?_, ?_, rTp_eo o (fun a j z w => ?_) q3, ⟨?_, ?_, ?_, ?_, ?_, ?_⟩, rSl_eo o (fun a j z w => ?_) q5, rTo_eo o (fun a j z w => ?_) q6, rKy_eo o q7⟩
  · obtain ⟨p1, p2, p3, p4, p5, p6⟩ := q1
    exact ⟨Ly_eo p1 o, txC_eo o (fun a _ _ _ k z => by omega) p2, omg (by omega) c1, p4, p5, hw⟩
  · obtain ⟨p1, p2, p3, p4, p5, p6, p7⟩ := q2
    exact ⟨Ly_eo p1 o, p2, by rw [o.2 _ _ (fun z => by omega)]; exact p3, txM_eo o (fun a h1 h2 k z => by omega) p4, m1, p6, hw⟩
  · omega
  · show min 40 (dU D + 1) ≤ 40
    omega
  · show (dX D + 1) % 40 < 40
    omega
  · rw [om' _ _ (by omega)]
    exact c3
  · rw [om' _ _ (by omega)]
    exact c4
  · exact m2
  · intro i hi
    have hi : i < min 40 (dU D + 1) := hi
    refine ⟨?_, m3 i hi, ?_⟩
    · show ngC h2 (pAt ((dX D + 1) % 40) (min 40 (dU D + 1)) i) (newP (dU D) (dP D) N i)
      rcases pAt_new u2 u1 hi with ⟨e, z⟩ | ⟨e, e2, e3, z⟩
      · rw [e]
        have : newP (dU D) (dP D) N i = N := by
          unfold newP
          rcases z with ⟨z1, z2⟩ | ⟨z1, z2⟩
          · rw [if_pos z1, if_pos z2]
          · rw [if_neg (by omega), if_pos z2]
        rw [this]
        exact omg (by omega) c2
      · rw [e]
        have : newP (dU D) (dP D) N i = dP D (if dU D = 40 then i + 1 else i) := by
          unfold newP
          by_cases y : dU D = 40
          · rw [if_pos y, if_neg (by omega), if_pos y]
          · rw [if_neg y, if_neg (by omega), if_neg y]
        rw [this]
        have hb := pAt_b (dX D) (dU D) (if dU D = 40 then i + 1 else i)
        exact ngC_eo o (fun a h1 h2 k z => by omega) (u6 _ e2).1
    · show wfN T (newP (dU D) (dP D) N i)
      rcases pAt_new u2 u1 hi with ⟨e, z⟩ | ⟨e, e2, e3, z⟩
      · have : newP (dU D) (dP D) N i = N := by
          unfold newP
          rcases z with ⟨z1, z2⟩ | ⟨z1, z2⟩
          · rw [if_pos z1, if_pos z2]
          · rw [if_neg (by omega), if_pos z2]
        rw [this]
        exact q1.2.2.2.2.2
      · have : newP (dU D) (dP D) N i = dP D (if dU D = 40 then i + 1 else i) := by
          unfold newP
          by_cases y : dU D = 40
          · rw [if_pos y, if_neg (by omega), if_pos y]
          · rw [if_neg y, if_neg (by omega), if_neg y]
        rw [this]
        exact (u6 _ e2).2.2
  · omega
  · omega
/-- a thing done: what the reference finds behind the class's part -/
theorem pr_mut {β : Type} {t u l : Nat} {T : AT} {N N' : AN} {D : SD} {h : mh} {A : Option (β × mh)} {B : mh → Option (β × mh)} (v : β) (hS : Sm t u l T N D h) (hw : wfN T N') (hA : ok A (fun x h' => MutC t (dX D) (dU D) N N' h h' ∧ x = v)) (hB : ∀ h1, MN t u l T N h1 → gI h1 299 58 = nI (dU D) → (∀ i, i < dU D → ngO h1 337 (33 * i) (dP D i)) → ok (B h1) (fun x h' => MutM (dU D) (dP D) N N' h1 h' ∧ x = v)) : pr Sim A B := by
  obtain ⟨x, h1, e1, c, rfl⟩ := hA
  have ht := t_hi hS.1.1
  have hx := hS.2.2.2.1.2.1
  have oc := c.1
  have hM1 : MN t u l T N h1 := by
    obtain ⟨p1, p2, p3, p4, p5, p6, p7⟩ := hS.2.1
    exact ⟨Ly_eo p1 oc, p2, by rw [oc.2 _ _ (fun z => by unfold sMC sC at z; omega)]; exact p3, txM_eo oc (fun a h1 h2 k z => by unfold sMC sC at z; omega) p4, ngM_eo oc (fun k z => by unfold sMC sC at z; omega) p5, p6, p7⟩
  obtain ⟨y, h2, e2, m, rfl⟩ := hB h1 hM1 (by rw [oc.2 _ _ (fun z => by unfold sMC sC at z; omega)]; exact hS.2.2.2.1.2.2.2.2.1) (fun i hi => ngO_eo oc (fun k z => by unfold sMC sC at z; omega) (hS.2.2.2.1.2.2.2.2.2 i hi).2.1)
  exact ⟨_, h1, h2, e1, e2, ⟨t, u, hM1.1⟩, t, u, l, T, N', _, Sm_mut hS hw c m⟩
