/-! THE REFERENCE'S tellLaw: a law that is through -/
/-- what a law comes to in the reference -/
def lwQ (τ : Nat → Tk) (c0 f0 q i0 : Nat) (h h2 : mh) : Prop := eo (sTl c0 f0 q) h h2 ∧ ((∃ L' i', fate τ LZ0 i0 = (0, 0, L', i') ∧ atM τ i' h2 ∧ gI h2 299 12 = 0 ∧ gI h2 299 43 = nI (c0 + ln3 (lTs L') + (lQu L').length) ∧ gI h2 299 37 = nI (f0 + (lTs L').length + 1) ∧ gI h2 321 q = nI f0 ∧ gI h2 322 q = nI (f0 + (lTs L').length + 1) ∧ brsA h2 f0 ((lTs L').length + 1) c0 (ln3 (lTs L') + (lQu L').length) (lTs L') (lQu L') ∧ (lTs L').length ≤ 4) ∨ ddM (fate τ LZ0 i0).1 (fate τ LZ0 i0).2.1 h2)
/-- at the top of its loop -/
def lwA (τ : Nat → Tk) (c0 f0 i0 : Nat) (ts : List (Pf × Pf × Pf)) (i : Nat) (h2 : mh) : Prop := fate τ LZ0 i0 = fate τ (LT9 ts) i ∧ atM τ i h2 ∧ gI h2 299 12 = 0 ∧ gI h2 299 43 = nI (c0 + ln3 ts) ∧ gI h2 299 37 = nI (f0 + ts.length) ∧ brT h2 f0 c0 ts ∧ wfL (LT9 ts) ∧ c0 + ln3 ts ≤ lb9 c0 + i
def sTe (c1 b a j : Nat) : Prop := sEx c1 a j ∨ (a = 299 ∧ j = 37) ∨ ((a = 326 ∨ a = 327) ∧ j = b)
set_option maxHeartbeats 2000000 in
theorem termA {fu c1 b i : Nat} {τ : Nat → Tk} {L : LZ} {h1 : mh} (hfu : 1000 ≤ fu) (hL : LM h1.2) (hT : okT τ) (a : atM τ i h1) (g12 : gI h1 299 12 = 0) (g43 : gI h1 299 43 = nI c1) (g37 : gI h1 299 37 = nI b) (hb : b < 260) (w : wfL L) (l1 : lWu L = true) (l2 : lQu L = []) (l3 : lPd L = []) (l4 : lOp L = 0) (l5 : ¬ (lMi L = true ∧ tkK (τ i) = 10)) (hc : c1 ≤ lb9 c1 + i) : ok (fX10_term fu 299 h1) (fun _ h2 => eo (sTe c1 b) h1 h2 ∧ gI h2 299 37 = nI (b + 1) ∧ gI h2 326 b = nI c1 ∧ gI h2 327 b = gI h2 299 43 ∧ (fin9 τ c1 L i h2 ∨ ddM (fate τ L i).1 (fate τ L i).2.1 h2)) := by
  unfold fX10_term
  repeat (first | with_reducible apply v_lt | ((with_reducible apply w_MR); exact hL; rfl) | ((with_reducible apply w_lv); exact hL; assumption) | ((with_reducible apply vMI); exact hL) | ((with_reducible apply vMS); exact hL) | ((with_reducible apply vMC); exact hL) | ((with_reducible apply vMZ); exact hL; (first | exact Or.inl rfl | exact Or.inr rfl | exact b2i_01 _ | assumption)) | ((first | with_reducible apply w_MA | with_reducible apply w_MW | with_reducible apply w_MY | with_reducible apply w_MB | with_reducible apply w_MJ | with_reducible apply w_MK); exact hL; rfl; rfl; rfl; (first | with_reducible rfl | with_reducible exact ixo _ | with_reducible exact ixoc _ _ | with_reducible exact ixom _ _ _ | with_reducible exact ixop _ _ | with_reducible exact ixod _ _ | assumption); omega))
  rw [g43]
  have o1 : eo (fun a j => a = 326 ∧ j = b) h1 (uI h1 326 b (nI c1)) := eo_uI eo_rf ⟨rfl, rfl⟩
  have at1 := atM_eo o1 (fun a k z => by omega) a
  have b12 : gI (uI h1 326 b (nI c1)) 299 12 = 0 := by rw [gI_ne (by omega)]; exact g12
  have b43 : gI (uI h1 326 b (nI c1)) 299 43 = nI c1 := by rw [gI_ne (by omega)]; exact g43
  have b37 : gI (uI h1 326 b (nI c1)) 299 37 = nI b := by rw [gI_ne (by omega)]; exact g37
  have b326 : gI (uI h1 326 b (nI c1)) 326 b = nI c1 := gI_eq
  have hL1 : LM (uI h1 326 b (nI c1)).2 := hL
  obtain ⟨g, hg⟩ : ∃ g, g = uI h1 326 b (nI c1) := ⟨_, rfl⟩
  rw [← hg] at o1 at1 b12 b43 b37 b326 hL1 ⊢
  rw [at1.2.1]
  refine v_it rfl ?_
  repeat (first | with_reducible apply v_lt | ((with_reducible apply w_MR); exact hL1; rfl) | ((with_reducible apply w_lv); exact hL1; assumption) | ((with_reducible apply vMI); exact hL1) | ((with_reducible apply vMS); exact hL1) | ((with_reducible apply vMC); exact hL1) | ((with_reducible apply vMZ); exact hL1; (first | exact Or.inl rfl | exact Or.inr rfl | exact b2i_01 _ | assumption)) | ((first | with_reducible apply w_MA | with_reducible apply w_MW | with_reducible apply w_MY | with_reducible apply w_MB | with_reducible apply w_MJ | with_reducible apply w_MK); exact hL1; rfl; rfl; rfl; (first | with_reducible rfl | with_reducible exact ixo _ | with_reducible exact ixoc _ _ | with_reducible exact ixom _ _ _ | with_reducible exact ixop _ _ | with_reducible exact ixod _ _ | assumption); omega))
  refine v_bd (exprM hfu hL1 hT at1 b12 b43 w l1 l2 l3 l4 l5 hc) (fun _ h2 hq => ?_)
  obtain ⟨o2, hq⟩ := hq
  have hL2 : LM h2.2 := by rw [o2.1]; exact hL1
  have c37 : gI h2 299 37 = nI b := by rw [o2.2 _ _ (fun z => by unfold sEx at z; omega)]; exact b37
  have c326 : gI h2 326 b = nI c1 := by rw [o2.2 _ _ (fun z => by unfold sEx at z; omega)]; exact b326
  unfold fX10_term_24
  repeat (first | with_reducible apply v_lt | ((with_reducible apply w_MR); exact hL2; rfl) | ((with_reducible apply w_lv); exact hL2; assumption) | ((with_reducible apply vMI); exact hL2) | ((with_reducible apply vMS); exact hL2) | ((with_reducible apply vMC); exact hL2) | ((with_reducible apply vMZ); exact hL2; (first | exact Or.inl rfl | exact Or.inr rfl | exact b2i_01 _ | assumption)) | ((first | with_reducible apply w_MA | with_reducible apply w_MW | with_reducible apply w_MY | with_reducible apply w_MB | with_reducible apply w_MJ | with_reducible apply w_MK); exact hL2; rfl; rfl; rfl; (first | with_reducible rfl | with_reducible exact ixo _ | with_reducible exact ixoc _ _ | with_reducible exact ixom _ _ _ | with_reducible exact ixop _ _ | with_reducible exact ixod _ _ | assumption); omega))
  simp (disch := omega) only [gI_ne, c37]
  rw [nI_1]
  have o3 : eo (fun a j => (a = 327 ∧ j = b) ∨ (a = 299 ∧ j = 37)) h2 (uI (uI h2 327 b (gI h2 299 43)) 299 37 (nI (b + 1))) := eo_uI (eo_uI eo_rf (Or.inl ⟨rfl, rfl⟩)) (Or.inr ⟨rfl, rfl⟩)
  refine v_rV ⟨eo_tr (eo_mono o1 (fun a k z => by unfold sTe; omega)) (eo_tr (eo_mono o2 (fun a k z => Or.inl z)) (eo_mono o3 (fun a k z => by unfold sTe; omega))), gI_eq, ?_, ?_, ?_⟩
  · rw [o3.2 _ _ (fun z => by omega)]
    exact c326
  · rw [gI_ne (by omega), gI_eq, o3.2 _ _ (fun z => by omega)]
  · rcases hq with q | q
    · exact Or.inl (fin_eo o3 (fun a k z => by omega) q)
    · exact Or.inr (ddM_eo o3 (fun a k z => by omega) q)
