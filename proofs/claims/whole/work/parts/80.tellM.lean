/-! THE REFERENCE'S tellLaw: its rounds -/
def LT9 (ts : List (Pf × Pf × Pf)) : LZ := (true, true, 3, ts.length, 0, [], [], [], ts)
def sTl (c0 f0 q a j : Nat) : Prop := sEx c0 a j ∨ (a = 299 ∧ j = 37) ∨ (323 ≤ a ∧ a ≤ 327 ∧ f0 ≤ j) ∨ ((a = 321 ∨ a = 322) ∧ j = q)
/-- dead within a law -/
def dTl (c0 f0 q m c p : Nat) (h h1 : mh) : Prop := eo (sTl c0 f0 q) h h1 ∧ ddM c p h1 ∧ ∃ b, f0 ≤ b ∧ b ≤ m ∧ gI h1 299 37 = nI b
theorem dTl_eo {S : Nat → Nat → Prop} {c0 f0 q m c p : Nat} {h h1 h2 : mh} (o : eo S h1 h2) (hs : ∀ a k, S a k → sTl c0 f0 q a k ∧ ¬ (a = 299 ∧ (k = 11 ∨ k = 13 ∨ k = 14 ∨ k = 37))) (d : dTl c0 f0 q m c p h h1) : dTl c0 f0 q m c p h h2 := by
  obtain ⟨d1, d2, b, d3, d4, d5⟩ := d
  refine ⟨eo_tr d1 (eo_mono o (fun a k z => (hs a k z).1)), ddM_eo o (fun a k z => by have := (hs a k z).2; omega) d2, b, d3, d4, ?_⟩
  rw [o.2 _ _ (fun z => by have := (hs _ _ z).2; omega)]
  exact d5
theorem dTl_L {c0 f0 q m c p : Nat} {h h1 : mh} (hL : LM h.2) (d : dTl c0 f0 q m c p h h1) : LM h1.2 := by rw [d.1.1]; exact hL
theorem termD {fu c0 f0 q m c p : Nat} {h h1 : mh} (hL : LM h.2) (hm : m < 260) (d : dTl c0 f0 q m c p h h1) : ok (fX10_term fu 299 h1) (fun _ h2 => dTl c0 f0 q (m + 1) c p h h2) := by
  have hL1 := dTl_L hL d
  obtain ⟨d1, d2, b, d3, d4, d5⟩ := d
  unfold fX10_term
  repeat (first | with_reducible apply v_lt | ((with_reducible apply w_MR); exact hL1; rfl) | ((with_reducible apply w_lv); exact hL1; assumption) | ((with_reducible apply vMI); exact hL1) | ((with_reducible apply vMS); exact hL1) | ((with_reducible apply vMC); exact hL1) | ((with_reducible apply vMZ); exact hL1; (first | exact Or.inl rfl | exact Or.inr rfl | exact b2i_01 _ | assumption)) | ((first | with_reducible apply w_MA | with_reducible apply w_MW | with_reducible apply w_MY | with_reducible apply w_MB | with_reducible apply w_MJ | with_reducible apply w_MK); exact hL1; rfl; rfl; rfl; (first | with_reducible rfl | with_reducible exact ixo _ | with_reducible exact ixoc _ _ | with_reducible exact ixom _ _ _ | with_reducible exact ixop _ _ | with_reducible exact ixod _ _ | assumption); omega))
  have o2 : eo (fun a j => a = 326 ∧ j = b) h1 (uI h1 326 b (gI h1 299 43)) := eo_uI eo_rf ⟨rfl, rfl⟩
  have e2 := ddM_eo o2 (fun a k z => by omega) d2
  refine v_ie (x13 e2).2 ?_
  unfold fX10_term_24
  repeat (first | with_reducible apply v_lt | ((with_reducible apply w_MR); exact hL1; rfl) | ((with_reducible apply w_lv); exact hL1; assumption) | ((with_reducible apply vMI); exact hL1) | ((with_reducible apply vMS); exact hL1) | ((with_reducible apply vMC); exact hL1) | ((with_reducible apply vMZ); exact hL1; (first | exact Or.inl rfl | exact Or.inr rfl | exact b2i_01 _ | assumption)) | ((first | with_reducible apply w_MA | with_reducible apply w_MW | with_reducible apply w_MY | with_reducible apply w_MB | with_reducible apply w_MJ | with_reducible apply w_MK); exact hL1; rfl; rfl; rfl; (first | with_reducible rfl | with_reducible exact ixo _ | with_reducible exact ixoc _ _ | with_reducible exact ixom _ _ _ | with_reducible exact ixop _ _ | with_reducible exact ixod _ _ | assumption); omega))
  simp (disch := omega) only [gI_ne, d5]
  repeat (first | with_reducible apply v_lt | ((with_reducible apply w_MR); exact hL1; rfl) | ((with_reducible apply w_lv); exact hL1; assumption) | ((with_reducible apply vMI); exact hL1) | ((with_reducible apply vMS); exact hL1) | ((with_reducible apply vMC); exact hL1) | ((with_reducible apply vMZ); exact hL1; (first | exact Or.inl rfl | exact Or.inr rfl | exact b2i_01 _ | assumption)) | ((first | with_reducible apply w_MA | with_reducible apply w_MW | with_reducible apply w_MY | with_reducible apply w_MB | with_reducible apply w_MJ | with_reducible apply w_MK); exact hL1; rfl; rfl; rfl; (first | with_reducible rfl | with_reducible exact ixo _ | with_reducible exact ixoc _ _ | with_reducible exact ixom _ _ _ | with_reducible exact ixop _ _ | with_reducible exact ixod _ _ | assumption); omega))
  try simp (disch := omega) only [gI_ne, d5]
  rw [nI_1]
  have o3 : eo (fun a j => (a = 327 ∧ j = b) ∨ (a = 299 ∧ j = 37)) (uI h1 326 b (gI h1 299 43)) (uI (uI (uI h1 326 b (gI h1 299 43)) 327 b (gI h1 299 43)) 299 37 (nI (b + 1))) := eo_uI (eo_uI eo_rf (Or.inl ⟨rfl, rfl⟩)) (Or.inr ⟨rfl, rfl⟩)
  refine v_rV ⟨eo_tr d1 (eo_tr (eo_mono o2 (fun a k z => by unfold sTl; omega)) (eo_mono o3 (fun a k z => by unfold sTl; omega))), ddM_eo o3 (fun a k z => by omega) e2, b + 1, by omega, by omega, gI_eq⟩
