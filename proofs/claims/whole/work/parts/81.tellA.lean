/-! THE REFERENCE'S tellLaw: a law that is through -/
/-- what a law comes to in the reference -/
def lwQ (τ : Nat → Tk) (c0 f0 q i0 : Nat) (h h2 : mh) : Prop := eo (sTl c0 f0 q) h h2 ∧ ((∃ L' i', fate τ LZ0 i0 = (0, 0, L', i') ∧ atM τ i' h2 ∧ gI h2 299 12 = 0 ∧ gI h2 299 43 = nI (c0 + ln3 (lTs L') + (lQu L').length) ∧ gI h2 299 37 = nI (f0 + (lTs L').length + 1) ∧ gI h2 321 q = nI f0 ∧ gI h2 322 q = nI (f0 + (lTs L').length + 1) ∧ brsM h2 f0 (lTs L') (lQu L') ∧ (lTs L').length ≤ 4 ∧ c0 + ln3 (lTs L') + (lQu L').length ≤ 420 + i' ∧ i0 + 2 + 4 * (lTs L').length ≤ i') ∨ ddM (fate τ LZ0 i0).1 (fate τ LZ0 i0).2.1 h2)
/-- at the top of its loop -/
def lwA (τ : Nat → Tk) (c0 f0 i0 : Nat) (ts : List (Pf × Pf × Pf)) (i : Nat) (h2 : mh) : Prop := fate τ LZ0 i0 = fate τ (LT9 ts) i ∧ atM τ i h2 ∧ gI h2 299 12 = 0 ∧ gI h2 299 43 = nI (c0 + ln3 ts) ∧ gI h2 299 37 = nI (f0 + ts.length) ∧ brT h2 f0 c0 ts ∧ wfL (LT9 ts) ∧ c0 + ln3 ts ≤ 420 + i ∧ i0 + 4 * ts.length ≤ i
set_option maxHeartbeats 2000000 in
theorem a129 {fu c0 f0 i0 s k i : Nat} {τ : Nat → Tk} {ts : List (Pf × Pf × Pf)} {v3 : Int32} {h h1 : mh} (hfu : 1000 ≤ fu) (hL0 : LM h.2) (hT : okT τ) (hf : f0 ≤ 240) (hs : s < 2) (hk : k < 4) (g19 : gI h1 299 19 = nI s) (o : eo (sTl c0 f0 (4 * s + k)) h h1) (a : lwA τ c0 f0 i0 ts i h1) (hn : tkK (τ i) ≠ 10) : ok (fX10_tellLaw_129 fu 299 (nI k) (nI f0) v3 h1) (fun _ h2 => lwQ τ c0 f0 (4 * s + k) i0 h h2) := by
  obtain ⟨a1, a2, a3, a4, a5, a6, a7, a8, a9⟩ := a
  have hL : LM h1.2 := by rw [o.1]; exact hL0
  have hi := a2.2.2.1
  have l4 : ts.length ≤ 4 := a7.2.2.2.2.1
  unfold fX10_tellLaw_129
  repeat (first | with_reducible apply v_lt | ((with_reducible apply w_MR); exact hL; rfl) | ((with_reducible apply w_lv); exact hL; assumption) | ((with_reducible apply vMI); exact hL) | ((with_reducible apply vMS); exact hL) | ((with_reducible apply vMC); exact hL) | ((with_reducible apply vMZ); exact hL; (first | exact Or.inl rfl | exact Or.inr rfl | exact b2i_01 _ | assumption)) | ((first | with_reducible apply w_MA | with_reducible apply w_MW | with_reducible apply w_MY | with_reducible apply w_MB | with_reducible apply w_MJ | with_reducible apply w_MK); exact hL; rfl; rfl; rfl; (first | with_reducible rfl | with_reducible exact ixo _ | with_reducible exact ixoc _ _ | with_reducible exact ixom _ _ _ | with_reducible exact ixop _ _ | with_reducible exact ixod _ _ | assumption); omega))
  obtain ⟨g, hg⟩ : ∃ g, g = uI h1 323 (f0 + ts.length) (0 &&& 1) := ⟨_, rfl⟩
  rw [← hg]
  have o1 : eo (fun a j => a = 323 ∧ j = f0 + ts.length) h1 g := by
    rw [hg]
    exact eo_uI eo_rf ⟨rfl, rfl⟩
  have hLg : LM g.2 := by rw [o1.1]; exact hL
  have b5 : gI g 299 37 = nI (f0 + ts.length) := by rw [o1.2 _ _ (fun z => by omega)]; exact a5
  have b4 : gI g 299 43 = nI (c0 + ln3 ts) := by rw [o1.2 _ _ (fun z => by omega)]; exact a4
  have b323 : gI g 323 (f0 + ts.length) = 0 := by rw [hg, gI_eq]; decide
  unfold fX10_term
  repeat (first | with_reducible apply v_lt | ((with_reducible apply w_MR); exact hLg; rfl) | ((with_reducible apply w_lv); exact hLg; assumption) | ((with_reducible apply vMI); exact hLg) | ((with_reducible apply vMS); exact hLg) | ((with_reducible apply vMC); exact hLg) | ((with_reducible apply vMZ); exact hLg; (first | exact Or.inl rfl | exact Or.inr rfl | exact b2i_01 _ | assumption)) | ((first | with_reducible apply w_MA | with_reducible apply w_MW | with_reducible apply w_MY | with_reducible apply w_MB | with_reducible apply w_MJ | with_reducible apply w_MK); exact hLg; rfl; rfl; rfl; (first | with_reducible rfl | with_reducible exact ixo _ | with_reducible exact ixoc _ _ | with_reducible exact ixom _ _ _ | with_reducible exact ixop _ _ | with_reducible exact ixod _ _ | assumption); omega))
  sorry
