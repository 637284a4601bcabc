/-! THE REFERENCE'S MOVES OVER TOKENS -/
/-- tokens from 0 on; those up to the end stand in the rows -/
def rowsM (τ : Nat → Tk) (h : mh) : Prop := ∀ i, i ≤ 400 → (∀ j, j < i → tkK (τ j) ≠ 98) → tkM h i (τ i)
/-- at a token, no FAULT -/
def atM (τ : Nat → Tk) (i : Nat) (h : mh) : Prop := gI h 299 11 = nI i ∧ gI h 299 13 = 0 ∧ i ≤ 400 ∧ (∀ j, j < i → tkK (τ j) ≠ 98) ∧ rowsM τ h
/-- a FAULT, and where -/
def ddM (c p : Nat) (h : mh) : Prop := (1 ≤ c ∧ c ≤ 5) ∧ gI h 299 13 = nI c ∧ gI h 299 14 = nI p ∧ ∃ i, i ≤ 400 ∧ gI h 299 11 = nI i
theorem atM_eo {S : Nat → Nat → Prop} {τ : Nat → Tk} {i : Nat} {h h1 : mh} (o : eo S h h1) (hs : ∀ a k, S a k → ¬ ((a = 299 ∧ (k = 11 ∨ k = 13)) ∨ (302 ≤ a ∧ a ≤ 305))) (q : atM τ i h) : atM τ i h1 := by
  obtain ⟨q1, q2, q3, q4, q5⟩ := q
  have f : ∀ a k, ((a = 299 ∧ (k = 11 ∨ k = 13)) ∨ (302 ≤ a ∧ a ≤ 305)) → gI h1 a k = gI h a k := fun a k z => o.2 _ _ (fun w => hs a k w z)
  have g9 : ∀ a k, gL h1 a k = gL h a k := fun a k => by unfold gL; rw [o.1]
  refine ⟨by rw [f _ _ (by omega)]; exact q1, by rw [f _ _ (by omega)]; exact q2, q3, q4, fun j hj hn => ?_⟩
  obtain ⟨w1, w2, w3, w4⟩ := q5 j hj hn
  exact ⟨by rw [f _ _ (by omega)]; exact w1, by rw [f _ _ (by omega)]; exact w2, fun z => by rw [f _ _ (by omega)]; exact w3 z, fun z => by rw [g9]; exact w4 z⟩
theorem ddM_eo {S : Nat → Nat → Prop} {c p : Nat} {h h1 : mh} (o : eo S h h1) (hs : ∀ a k, S a k → ¬ (a = 299 ∧ (k = 11 ∨ k = 13 ∨ k = 14))) (q : ddM c p h) : ddM c p h1 := by
  obtain ⟨q1, q2, q3, i, q4, q5⟩ := q
  have f : ∀ k, (k = 11 ∨ k = 13 ∨ k = 14) → gI h1 299 k = gI h 299 k := fun k z => o.2 _ _ (fun w => hs _ k w ⟨rfl, z⟩)
  exact ⟨q1, by rw [f _ (by omega)]; exact q2, by rw [f _ (by omega)]; exact q3, i, q4, by rw [f _ (by omega)]; exact q5⟩
theorem sm_inj : ∀ k, k < 100 → ∀ x, x < 98 → (x ≤ 23 ∨ sg9 x = true) → (soM k = soM x ↔ k = x) := by decide +kernel
theorem sm_all : ∀ k, k < 100 → (soM k = 0 ↔ k = 98) ∧ (soM k < 33 ↔ ¬ (13 ≤ k ∧ k < 22)) ∧ ¬ 41 < soM k ∧ (13 ≤ k ∧ k < 22 → soM k - 33 = nI (k - 13)) := by decide +kernel
def okk (x : Nat) : Prop := x < 98 ∧ (x ≤ 23 ∨ sg9 x = true)
theorem isM {fu i x : Nat} {τ : Nat → Tk} {h : mh} (hL : LM h.2) (hx : okk x) (hk : tkK (τ i) < 100) (q : atM τ i h) : fX10_is fu 299 (soM x) h = some (b2i (decide (tkK (τ i) = x)), h) := by
  obtain ⟨q1, q2, q3, q4, q5⟩ := q
  obtain ⟨w1, -, -, -⟩ := q5 i q3 q4
  refine ok_eq ?_
  unfold fX10_is
  repeat (first | with_reducible apply v_lt | ((with_reducible apply w_MR); exact hL; rfl) | ((with_reducible apply w_lv); exact hL; assumption) | ((with_reducible apply vMI); exact hL) | ((with_reducible apply vMS); exact hL) | ((with_reducible apply vMC); exact hL) | ((with_reducible apply vMZ); exact hL; (first | exact Or.inl rfl | exact Or.inr rfl | exact b2i_01 _ | assumption)) | ((first | with_reducible apply w_MA | with_reducible apply w_MW | with_reducible apply w_MY | with_reducible apply w_MB | with_reducible apply w_MJ | with_reducible apply w_MK); exact hL; rfl; rfl; rfl; (first | with_reducible rfl | with_reducible exact ixo _ | with_reducible exact ixoc _ _ | with_reducible exact ixom _ _ _ | with_reducible exact ixop _ _ | with_reducible exact ixod _ _ | assumption); omega))
  rw [q2]
  refine v_it rfl ?_
  repeat (first | with_reducible apply v_lt | ((with_reducible apply w_MR); exact hL; rfl) | ((with_reducible apply w_lv); exact hL; assumption) | ((with_reducible apply vMI); exact hL) | ((with_reducible apply vMS); exact hL) | ((with_reducible apply vMC); exact hL) | ((with_reducible apply vMZ); exact hL; (first | exact Or.inl rfl | exact Or.inr rfl | exact b2i_01 _ | assumption)) | ((first | with_reducible apply w_MA | with_reducible apply w_MW | with_reducible apply w_MY | with_reducible apply w_MB | with_reducible apply w_MJ | with_reducible apply w_MK); exact hL; rfl; rfl; rfl; (first | with_reducible rfl | with_reducible exact ixo _ | with_reducible exact ixoc _ _ | with_reducible exact ixom _ _ _ | with_reducible exact ixop _ _ | with_reducible exact ixod _ _ | assumption); omega))
  rw [w1]
  have e := sm_inj _ hk x hx.1 hx.2
  by_cases z : tkK (τ i) = x
  · exact v_it (e.mpr z) (v_rZ (Or.inr rfl) ⟨by rw [decide_eq_true z]; rfl, rfl⟩)
  · exact v_ie (fun w => z (e.mp w)) (v_rZ (Or.inl rfl) ⟨by rw [decide_eq_false z]; rfl, rfl⟩)
theorem isD {fu c p : Nat} {x : Int32} {h : mh} (hL : LM h.2) (q : ddM c p h) : fX10_is fu 299 x h = some (0, h) := by
  obtain ⟨q1, q2, q3, q4⟩ := q
  refine ok_eq ?_
  unfold fX10_is
  repeat (first | with_reducible apply v_lt | ((with_reducible apply w_MR); exact hL; rfl) | ((with_reducible apply w_lv); exact hL; assumption) | ((with_reducible apply vMI); exact hL) | ((with_reducible apply vMS); exact hL) | ((with_reducible apply vMC); exact hL) | ((with_reducible apply vMZ); exact hL; (first | exact Or.inl rfl | exact Or.inr rfl | exact b2i_01 _ | assumption)) | ((first | with_reducible apply w_MA | with_reducible apply w_MW | with_reducible apply w_MY | with_reducible apply w_MB | with_reducible apply w_MJ | with_reducible apply w_MK); exact hL; rfl; rfl; rfl; (first | with_reducible rfl | with_reducible exact ixo _ | with_reducible exact ixoc _ _ | with_reducible exact ixom _ _ _ | with_reducible exact ixop _ _ | with_reducible exact ixod _ _ | assumption); omega))
  rw [q2]
  refine v_ie (fun z => ?_) (v_rZ (Or.inl rfl) ⟨rfl, rfl⟩)
  have := (nI_z (by omega)).mp z
  omega
def sFl (a k : Nat) : Prop := a = 299 ∧ (k = 13 ∨ k = 14)
theorem failM {fu i c : Nat} {τ : Nat → Tk} {h : mh} (hL : LM h.2) (hc : 1 ≤ c ∧ c ≤ 5) (q : atM τ i h) : ok (fX10_fail fu 299 (nI c) h) (fun _ h' => eo sFl h h' ∧ ddM c (tkP (τ i)) h') := by
  obtain ⟨q1, q2, q3, q4, q5⟩ := q
  obtain ⟨-, w2, -, -⟩ := q5 i q3 q4
  unfold fX10_fail
  repeat (first | with_reducible apply v_lt | ((with_reducible apply w_MR); exact hL; rfl) | ((with_reducible apply w_lv); exact hL; assumption) | ((with_reducible apply vMI); exact hL) | ((with_reducible apply vMS); exact hL) | ((with_reducible apply vMC); exact hL) | ((with_reducible apply vMZ); exact hL; (first | exact Or.inl rfl | exact Or.inr rfl | exact b2i_01 _ | assumption)) | ((first | with_reducible apply w_MA | with_reducible apply w_MW | with_reducible apply w_MY | with_reducible apply w_MB | with_reducible apply w_MJ | with_reducible apply w_MK); exact hL; rfl; rfl; rfl; (first | with_reducible rfl | with_reducible exact ixo _ | with_reducible exact ixoc _ _ | with_reducible exact ixom _ _ _ | with_reducible exact ixop _ _ | with_reducible exact ixod _ _ | assumption); omega))
  rw [q2]
  refine v_it (by decide) ?_
  repeat (first | with_reducible apply v_lt | ((with_reducible apply w_MR); exact hL; rfl) | ((with_reducible apply w_lv); exact hL; assumption) | ((with_reducible apply vMI); exact hL) | ((with_reducible apply vMS); exact hL) | ((with_reducible apply vMC); exact hL) | ((with_reducible apply vMZ); exact hL; (first | exact Or.inl rfl | exact Or.inr rfl | exact b2i_01 _ | assumption)) | ((first | with_reducible apply w_MA | with_reducible apply w_MW | with_reducible apply w_MY | with_reducible apply w_MB | with_reducible apply w_MJ | with_reducible apply w_MK); exact hL; rfl; rfl; rfl; (first | with_reducible rfl | with_reducible exact ixo _ | with_reducible exact ixoc _ _ | with_reducible exact ixom _ _ _ | with_reducible exact ixop _ _ | with_reducible exact ixod _ _ | assumption); omega))
  simp (disch := omega) only [gI_eq, gI_ne, q1]
  repeat (first | with_reducible apply v_lt | ((with_reducible apply w_MR); exact hL; rfl) | ((with_reducible apply w_lv); exact hL; assumption) | ((with_reducible apply vMI); exact hL) | ((with_reducible apply vMS); exact hL) | ((with_reducible apply vMC); exact hL) | ((with_reducible apply vMZ); exact hL; (first | exact Or.inl rfl | exact Or.inr rfl | exact b2i_01 _ | assumption)) | ((first | with_reducible apply w_MA | with_reducible apply w_MW | with_reducible apply w_MY | with_reducible apply w_MB | with_reducible apply w_MJ | with_reducible apply w_MK); exact hL; rfl; rfl; rfl; (first | with_reducible rfl | with_reducible exact ixo _ | with_reducible exact ixoc _ _ | with_reducible exact ixom _ _ _ | with_reducible exact ixop _ _ | with_reducible exact ixod _ _ | assumption); omega))
  simp (disch := omega) only [gI_eq, gI_ne, w2]
  refine v_rV ⟨eo_uI (eo_uI eo_rf ⟨rfl, by omega⟩) ⟨rfl, by omega⟩, hc, ?_, gI_eq, i, q3, ?_⟩
  · rw [gI_ne (by omega), gI_eq]
  · rw [gI_ne (by omega), gI_ne (by omega)]
    exact q1
theorem failD {fu c p : Nat} {x : Int32} {h : mh} (hL : LM h.2) (q : ddM c p h) : fX10_fail fu 299 x h = some ((), h) := by
  obtain ⟨q1, q2, q3, q4⟩ := q
  refine ok_eq ?_
  unfold fX10_fail
  repeat (first | with_reducible apply v_lt | ((with_reducible apply w_MR); exact hL; rfl) | ((with_reducible apply w_lv); exact hL; assumption) | ((with_reducible apply vMI); exact hL) | ((with_reducible apply vMS); exact hL) | ((with_reducible apply vMC); exact hL) | ((with_reducible apply vMZ); exact hL; (first | exact Or.inl rfl | exact Or.inr rfl | exact b2i_01 _ | assumption)) | ((first | with_reducible apply w_MA | with_reducible apply w_MW | with_reducible apply w_MY | with_reducible apply w_MB | with_reducible apply w_MJ | with_reducible apply w_MK); exact hL; rfl; rfl; rfl; (first | with_reducible rfl | with_reducible exact ixo _ | with_reducible exact ixoc _ _ | with_reducible exact ixom _ _ _ | with_reducible exact ixop _ _ | with_reducible exact ixod _ _ | assumption); omega))
  rw [q2]
  exact v_ie (show ¬ nI c ≤ nI 0 from nI_ge (by omega) (by omega)) (v_rV ⟨rfl, rfl⟩)
def sGo (a k : Nat) : Prop := a = 299 ∧ (k = 11 ∨ k = 13 ∨ k = 14)
theorem goM {fu i : Nat} {τ : Nat → Tk} {h : mh} (hL : LM h.2) (hk : tkK (τ i) ≠ 98) (q : atM τ i h) : ok (fX10_goesOn fu 299 h) (fun _ h' => eo sGo h h' ∧ (i = 400 → ddM 2 (tkP (τ i)) h') ∧ (i ≠ 400 → atM τ (i + 1) h')) := by
  have q0 := q
  obtain ⟨q1, q2, q3, q4, q5⟩ := q
  unfold fX10_goesOn
  repeat (first | with_reducible apply v_lt | ((with_reducible apply w_MR); exact hL; rfl) | ((with_reducible apply w_lv); exact hL; assumption) | ((with_reducible apply vMI); exact hL) | ((with_reducible apply vMS); exact hL) | ((with_reducible apply vMC); exact hL) | ((with_reducible apply vMZ); exact hL; (first | exact Or.inl rfl | exact Or.inr rfl | exact b2i_01 _ | assumption)) | ((first | with_reducible apply w_MA | with_reducible apply w_MW | with_reducible apply w_MY | with_reducible apply w_MB | with_reducible apply w_MJ | with_reducible apply w_MK); exact hL; rfl; rfl; rfl; (first | with_reducible rfl | with_reducible exact ixo _ | with_reducible exact ixoc _ _ | with_reducible exact ixom _ _ _ | with_reducible exact ixop _ _ | with_reducible exact ixod _ _ | assumption); omega))
  rw [q1]
  by_cases z : i = 400
  · refine v_it (by rw [z]; rfl) ?_
    repeat (first | with_reducible apply v_lt | ((with_reducible apply w_MR); exact hL; rfl) | ((with_reducible apply w_lv); exact hL; assumption) | ((with_reducible apply vMI); exact hL) | ((with_reducible apply vMS); exact hL) | ((with_reducible apply vMC); exact hL) | ((with_reducible apply vMZ); exact hL; (first | exact Or.inl rfl | exact Or.inr rfl | exact b2i_01 _ | assumption)) | ((first | with_reducible apply w_MA | with_reducible apply w_MW | with_reducible apply w_MY | with_reducible apply w_MB | with_reducible apply w_MJ | with_reducible apply w_MK); exact hL; rfl; rfl; rfl; (first | with_reducible rfl | with_reducible exact ixo _ | with_reducible exact ixoc _ _ | with_reducible exact ixom _ _ _ | with_reducible exact ixop _ _ | with_reducible exact ixod _ _ | assumption); omega))
    refine v_bd (failM (c := 2) hL (by omega) q0) (fun _ h1 hq => ?_)
    exact v_rV ⟨eo_mono hq.1 (fun a k w => by unfold sFl at w; unfold sGo; omega), fun _ => hq.2, fun w => absurd z w⟩
  · refine v_ie (fun w => z ((nI_eq (a := i) (b := 400) (by omega) (by omega)).mp w)) ?_
    repeat (first | with_reducible apply v_lt | ((with_reducible apply w_MR); exact hL; rfl) | ((with_reducible apply w_lv); exact hL; assumption) | ((with_reducible apply vMI); exact hL) | ((with_reducible apply vMS); exact hL) | ((with_reducible apply vMC); exact hL) | ((with_reducible apply vMZ); exact hL; (first | exact Or.inl rfl | exact Or.inr rfl | exact b2i_01 _ | assumption)) | ((first | with_reducible apply w_MA | with_reducible apply w_MW | with_reducible apply w_MY | with_reducible apply w_MB | with_reducible apply w_MJ | with_reducible apply w_MK); exact hL; rfl; rfl; rfl; (first | with_reducible rfl | with_reducible exact ixo _ | with_reducible exact ixoc _ _ | with_reducible exact ixom _ _ _ | with_reducible exact ixop _ _ | with_reducible exact ixod _ _ | assumption); omega))
    rw [q1, nI_1]
    have o : eo (fun a k => a = 299 ∧ k = 11) h (uI h 299 11 (nI (i + 1))) := eo_uI eo_rf ⟨rfl, rfl⟩
    refine v_rV ⟨eo_mono o (fun a k w => ⟨w.1, Or.inl w.2⟩), fun w => absurd w z, fun _ => ?_⟩
    refine ⟨gI_eq, by rw [gI_ne (by omega)]; exact q2, by omega, fun j hj => ?_, fun j hj hn => ?_⟩
    · by_cases e : j = i
      · rw [e]
        exact hk
      · exact q4 j (by omega)
    · obtain ⟨w1, w2, w3, w4⟩ := q5 j hj hn
      exact ⟨by rw [gI_ne (by omega)]; exact w1, by rw [gI_ne (by omega)]; exact w2, fun z => by rw [gI_ne (by omega)]; exact w3 z, w4⟩
theorem goD {fu c p : Nat} {h : mh} (hL : LM h.2) (q : ddM c p h) : ok (fX10_goesOn fu 299 h) (fun _ h' => eo sGo h h' ∧ ddM c p h') := by
  have q0 := q
  obtain ⟨q1, q2, q3, i, q4, q5⟩ := q
  unfold fX10_goesOn
  repeat (first | with_reducible apply v_lt | ((with_reducible apply w_MR); exact hL; rfl) | ((with_reducible apply w_lv); exact hL; assumption) | ((with_reducible apply vMI); exact hL) | ((with_reducible apply vMS); exact hL) | ((with_reducible apply vMC); exact hL) | ((with_reducible apply vMZ); exact hL; (first | exact Or.inl rfl | exact Or.inr rfl | exact b2i_01 _ | assumption)) | ((first | with_reducible apply w_MA | with_reducible apply w_MW | with_reducible apply w_MY | with_reducible apply w_MB | with_reducible apply w_MJ | with_reducible apply w_MK); exact hL; rfl; rfl; rfl; (first | with_reducible rfl | with_reducible exact ixo _ | with_reducible exact ixoc _ _ | with_reducible exact ixom _ _ _ | with_reducible exact ixop _ _ | with_reducible exact ixod _ _ | assumption); omega))
  rw [q5]
  by_cases z : i = 400
  · refine v_it (by rw [z]; rfl) ?_
    repeat (first | with_reducible apply v_lt | ((with_reducible apply w_MR); exact hL; rfl) | ((with_reducible apply w_lv); exact hL; assumption) | ((with_reducible apply vMI); exact hL) | ((with_reducible apply vMS); exact hL) | ((with_reducible apply vMC); exact hL) | ((with_reducible apply vMZ); exact hL; (first | exact Or.inl rfl | exact Or.inr rfl | exact b2i_01 _ | assumption)) | ((first | with_reducible apply w_MA | with_reducible apply w_MW | with_reducible apply w_MY | with_reducible apply w_MB | with_reducible apply w_MJ | with_reducible apply w_MK); exact hL; rfl; rfl; rfl; (first | with_reducible rfl | with_reducible exact ixo _ | with_reducible exact ixoc _ _ | with_reducible exact ixom _ _ _ | with_reducible exact ixop _ _ | with_reducible exact ixod _ _ | assumption); omega))
    refine v_eq (failD hL q0) (v_rV ⟨eo_rf, q0⟩)
  · refine v_ie (fun w => z ((nI_eq (a := i) (b := 400) (by omega) (by omega)).mp w)) ?_
    repeat (first | with_reducible apply v_lt | ((with_reducible apply w_MR); exact hL; rfl) | ((with_reducible apply w_lv); exact hL; assumption) | ((with_reducible apply vMI); exact hL) | ((with_reducible apply vMS); exact hL) | ((with_reducible apply vMC); exact hL) | ((with_reducible apply vMZ); exact hL; (first | exact Or.inl rfl | exact Or.inr rfl | exact b2i_01 _ | assumption)) | ((first | with_reducible apply w_MA | with_reducible apply w_MW | with_reducible apply w_MY | with_reducible apply w_MB | with_reducible apply w_MJ | with_reducible apply w_MK); exact hL; rfl; rfl; rfl; (first | with_reducible rfl | with_reducible exact ixo _ | with_reducible exact ixoc _ _ | with_reducible exact ixom _ _ _ | with_reducible exact ixop _ _ | with_reducible exact ixod _ _ | assumption); omega))
    rw [q5, nI_1]
    exact v_rV ⟨eo_uI eo_rf ⟨rfl, by omega⟩, q1, by rw [gI_ne (by omega)]; exact q2, by rw [gI_ne (by omega)]; exact q3, i + 1, by omega, gI_eq⟩
/-- must: the token is x, or SYNTAX -/
theorem mustM {fu i x : Nat} {τ : Nat → Tk} {h : mh} (hL : LM h.2) (hx : okk x) (hk : tkK (τ i) < 100) (q : atM τ i h) : ok (fX10_must fu 299 (soM x) h) (fun _ h' => eo sGo h h' ∧ (tkK (τ i) ≠ x → ddM 1 (tkP (τ i)) h') ∧ (tkK (τ i) = x → (i = 400 → ddM 2 (tkP (τ i)) h') ∧ (i ≠ 400 → atM τ (i + 1) h'))) := by
  unfold fX10_must
  repeat (first | with_reducible apply v_lt | ((with_reducible apply w_MR); exact hL; rfl) | ((with_reducible apply w_lv); exact hL; assumption) | ((with_reducible apply vMI); exact hL) | ((with_reducible apply vMS); exact hL) | ((with_reducible apply vMC); exact hL) | ((with_reducible apply vMZ); exact hL; (first | exact Or.inl rfl | exact Or.inr rfl | exact b2i_01 _ | assumption)) | ((first | with_reducible apply w_MA | with_reducible apply w_MW | with_reducible apply w_MY | with_reducible apply w_MB | with_reducible apply w_MJ | with_reducible apply w_MK); exact hL; rfl; rfl; rfl; (first | with_reducible rfl | with_reducible exact ixo _ | with_reducible exact ixoc _ _ | with_reducible exact ixom _ _ _ | with_reducible exact ixop _ _ | with_reducible exact ixod _ _ | assumption); omega))
  refine v_eq (isM hL hx hk q) ?_
  by_cases z : tkK (τ i) = x
  · rw [decide_eq_true z]
    refine v_ie (by decide) ?_
    repeat (first | with_reducible apply v_lt | ((with_reducible apply w_MR); exact hL; rfl) | ((with_reducible apply w_lv); exact hL; assumption) | ((with_reducible apply vMI); exact hL) | ((with_reducible apply vMS); exact hL) | ((with_reducible apply vMC); exact hL) | ((with_reducible apply vMZ); exact hL; (first | exact Or.inl rfl | exact Or.inr rfl | exact b2i_01 _ | assumption)) | ((first | with_reducible apply w_MA | with_reducible apply w_MW | with_reducible apply w_MY | with_reducible apply w_MB | with_reducible apply w_MJ | with_reducible apply w_MK); exact hL; rfl; rfl; rfl; (first | with_reducible rfl | with_reducible exact ixo _ | with_reducible exact ixoc _ _ | with_reducible exact ixom _ _ _ | with_reducible exact ixop _ _ | with_reducible exact ixod _ _ | assumption); omega))
    refine v_bd (goM hL (by have := hx.1; omega) q) (fun _ h1 hq => ?_)
    exact v_rV ⟨hq.1, fun w => absurd z w, fun _ => hq.2⟩
  · rw [decide_eq_false z]
    refine v_it rfl ?_
    repeat (first | with_reducible apply v_lt | ((with_reducible apply w_MR); exact hL; rfl) | ((with_reducible apply w_lv); exact hL; assumption) | ((with_reducible apply vMI); exact hL) | ((with_reducible apply vMS); exact hL) | ((with_reducible apply vMC); exact hL) | ((with_reducible apply vMZ); exact hL; (first | exact Or.inl rfl | exact Or.inr rfl | exact b2i_01 _ | assumption)) | ((first | with_reducible apply w_MA | with_reducible apply w_MW | with_reducible apply w_MY | with_reducible apply w_MB | with_reducible apply w_MJ | with_reducible apply w_MK); exact hL; rfl; rfl; rfl; (first | with_reducible rfl | with_reducible exact ixo _ | with_reducible exact ixoc _ _ | with_reducible exact ixom _ _ _ | with_reducible exact ixop _ _ | with_reducible exact ixod _ _ | assumption); omega))
    refine v_bd (failM (c := 1) hL (by omega) q) (fun _ h1 hq => ?_)
    exact v_rV ⟨eo_mono hq.1 (fun a k w => by unfold sFl at w; unfold sGo; omega), fun _ => hq.2, fun w => absurd w z⟩
theorem mustD {fu c p : Nat} {x : Int32} {h : mh} (hL : LM h.2) (q : ddM c p h) : fX10_must fu 299 x h = some ((), h) := by
  refine ok_eq ?_
  unfold fX10_must
  repeat (first | with_reducible apply v_lt | ((with_reducible apply w_MR); exact hL; rfl) | ((with_reducible apply w_lv); exact hL; assumption) | ((with_reducible apply vMI); exact hL) | ((with_reducible apply vMS); exact hL) | ((with_reducible apply vMC); exact hL) | ((with_reducible apply vMZ); exact hL; (first | exact Or.inl rfl | exact Or.inr rfl | exact b2i_01 _ | assumption)) | ((first | with_reducible apply w_MA | with_reducible apply w_MW | with_reducible apply w_MY | with_reducible apply w_MB | with_reducible apply w_MJ | with_reducible apply w_MK); exact hL; rfl; rfl; rfl; (first | with_reducible rfl | with_reducible exact ixo _ | with_reducible exact ixoc _ _ | with_reducible exact ixom _ _ _ | with_reducible exact ixop _ _ | with_reducible exact ixod _ _ | assumption); omega))
  refine v_eq (isD hL q) ?_
  refine v_it rfl ?_
  repeat (first | with_reducible apply v_lt | ((with_reducible apply w_MR); exact hL; rfl) | ((with_reducible apply w_lv); exact hL; assumption) | ((with_reducible apply vMI); exact hL) | ((with_reducible apply vMS); exact hL) | ((with_reducible apply vMC); exact hL) | ((with_reducible apply vMZ); exact hL; (first | exact Or.inl rfl | exact Or.inr rfl | exact b2i_01 _ | assumption)) | ((first | with_reducible apply w_MA | with_reducible apply w_MW | with_reducible apply w_MY | with_reducible apply w_MB | with_reducible apply w_MJ | with_reducible apply w_MK); exact hL; rfl; rfl; rfl; (first | with_reducible rfl | with_reducible exact ixo _ | with_reducible exact ixoc _ _ | with_reducible exact ixom _ _ _ | with_reducible exact ixop _ _ | with_reducible exact ixod _ _ | assumption); omega))
  exact v_eq (failD hL q) (v_rV ⟨rfl, rfl⟩)
/-- a sign or a number is put -/
theorem emitM {fu c : Nat} {x y : Int32} {h : mh} (hL : LM h.2) (hc : c < 840) (e : gI h 299 43 = nI c) : fX10_emit fu 299 x y h = some ((), uI (uI (uI h 328 c x) 329 c y) 299 43 (nI (c + 1))) := by
  refine ok_eq ?_
  unfold fX10_emit
  repeat (first | with_reducible apply v_lt | ((with_reducible apply w_MR); exact hL; rfl) | ((with_reducible apply w_lv); exact hL; assumption) | ((with_reducible apply vMI); exact hL) | ((with_reducible apply vMS); exact hL) | ((with_reducible apply vMC); exact hL) | ((with_reducible apply vMZ); exact hL; (first | exact Or.inl rfl | exact Or.inr rfl | exact b2i_01 _ | assumption)) | ((first | with_reducible apply w_MA | with_reducible apply w_MW | with_reducible apply w_MY | with_reducible apply w_MB | with_reducible apply w_MJ | with_reducible apply w_MK); exact hL; rfl; rfl; rfl; (first | with_reducible rfl | with_reducible exact ixo _ | with_reducible exact ixoc _ _ | with_reducible exact ixom _ _ _ | with_reducible exact ixop _ _ | with_reducible exact ixod _ _ | assumption); omega))
  simp (disch := omega) only [gI_eq, gI_ne, e]
  rw [nI_1]
  exact v_rV ⟨trivial, rfl⟩
theorem segM_app {c0 : Nat} {e : Pf} {x : Nat × Int32} {h h1 : mh} (s : segM h c0 e) (f : ∀ a j, (a = 328 ∨ a = 329) → j < c0 + e.length → gI h1 a j = gI h a j) (g1 : gI h1 328 (c0 + e.length) = nI x.1) (g2 : gI h1 329 (c0 + e.length) = x.2) : segM h1 c0 (e ++ [x]) := fun i k v hx => by
  by_cases z : i < e.length
  · rw [List.getElem?_append_left z] at hx
    rw [f _ _ (Or.inl rfl) (by omega), f _ _ (Or.inr rfl) (by omega)]
    exact s i k v hx
  · rw [List.getElem?_append_right (by omega)] at hx
    by_cases z2 : i = e.length
    · subst z2
      rw [Nat.sub_self] at hx
      have hx : some x = some (k, v) := hx
      cases hx
      exact ⟨g1, g2⟩
    · obtain ⟨m, hm⟩ : ∃ m, i - e.length = m + 1 := ⟨i - e.length - 1, by omega⟩
      rw [hm] at hx
      cases hx
/-- what waits and what is put -/
def scM (c0 : Nat) (cu : Pf) (pd : List Nat) (h : mh) : Prop := gI h 299 47 = nI pd.length ∧ pil h 330 (pd.map soM) ∧ gI h 299 43 = nI (c0 + cu.length) ∧ segM h c0 cu
theorem scM_eo {S : Nat → Nat → Prop} {c0 : Nat} {cu : Pf} {pd : List Nat} {h h1 : mh} (o : eo S h h1) (hs : ∀ a k, S a k → ¬ ((a = 299 ∧ (k = 43 ∨ k = 47)) ∨ a = 328 ∨ a = 329 ∨ a = 330)) (q : scM c0 cu pd h) : scM c0 cu pd h1 := by
  obtain ⟨q1, q2, q3, q4⟩ := q
  exact ⟨by rw [o.2 _ _ (fun w => hs _ _ w (by omega))]; exact q1, pil_eo o (fun k w => hs _ _ w (by omega)) q2, by rw [o.2 _ _ (fun w => hs _ _ w (by omega))]; exact q3, segM_eo o (fun k w => hs _ _ w (by omega)) (fun k w => hs _ _ w (by omega)) q4⟩
/-- where the code of a side begins -/
def lb9 (c : Nat) : Nat := if c < 420 then 0 else 420
theorem lb9_le (c : Nat) : lb9 c ≤ 420 := by
  unfold lb9
  split <;> omega
theorem lb9_eq {c c1 : Nat} (h : c ≤ c1) (h1 : c1 ≤ lb9 c + 401) : lb9 c1 = lb9 c := by
  unfold lb9 at h1 ⊢
  by_cases z : c < 420
  · rw [if_pos z] at h1 ⊢
    rw [if_pos (by omega)]
  · rw [if_neg z, if_neg (by omega)]
def sCo (c0 a k : Nat) : Prop := (a = 299 ∧ (k = 43 ∨ k = 47)) ∨ ((a = 328 ∨ a = 329) ∧ c0 ≤ k ∧ k < lb9 c0 + 420)
theorem mop_all : ∀ c, c = 43 ∨ c = 45 ∨ c = 42 ∨ c = 47 → soM c ≠ 6 ∧ ((soM c = 8 ∨ soM c = 9) ↔ tt9 c = 1) ∧ (soM c = 8 ↔ opk c = 2) ∧ (soM c = 9 ↔ opk c = 3) ∧ (soM c = 10 ↔ opk c = 4) := by
  intro c h
  rcases h with rfl | rfl | rfl | rfl <;> decide
set_option maxHeartbeats 2000000 in
theorem coM {fu c0 w : Nat} {v : Int32} {cu : Pf} {pd : List Nat} {h : mh} (hfu : 1000 ≤ fu) (hL : LM h.2) (hw : (w = 1 ∧ v = 0) ∨ (w = 2 ∧ v = 1)) (hp : okp pd) (hl : pd.length ≤ 40) (h4 : c0 + cu.length + pd.length ≤ lb9 c0 + 420) (hs : scM c0 cu pd h) : ok (fX10_comesOut fu 299 v h) (fun _ h' => eo (sCo c0) h h' ∧ scM c0 (out9 w cu pd).1 (out9 w cu pd).2 h') := by
  have hlb := lb9_le c0
  unfold fX10_comesOut
  refine itr_ms (I := fun h' => ∃ cu' pd', out9 w cu' pd' = out9 w cu pd ∧ okp pd' ∧ pd'.length ≤ 40 ∧ c0 + cu'.length + pd'.length ≤ lb9 c0 + 420 ∧ eo (sCo c0) h h' ∧ scM c0 cu' pd' h') (P := fun R => ok R _) (fun h' => (gI h' 299 47).toNatClampNeg) ?_ fu _ (by rw [hs.1, nI_clamp (by omega)]; omega) ⟨cu, pd, rfl, hp, hl, h4, eo_rf, hs⟩
  intro h1 k hI hk
  obtain ⟨cu', pd', e1, e2, e3, e4, o1, s0⟩ := hI
  obtain ⟨s1, s2, s3, s4⟩ := id s0
  have hL1 : LM h1.2 := by rw [o1.1]; exact hL
  rw [s1, nI_clamp (by omega)] at hk
  unfold bX10_comesOut_0
  repeat (first | with_reducible apply v_lt | ((with_reducible apply w_MR); exact hL1; rfl) | ((with_reducible apply w_lv); exact hL1; assumption) | ((with_reducible apply vMI); exact hL1) | ((with_reducible apply vMS); exact hL1) | ((with_reducible apply vMC); exact hL1) | ((with_reducible apply vMZ); exact hL1; (first | exact Or.inl rfl | exact Or.inr rfl | exact b2i_01 _ | assumption)) | ((first | with_reducible apply w_MA | with_reducible apply w_MW | with_reducible apply w_MY | with_reducible apply w_MB | with_reducible apply w_MJ | with_reducible apply w_MK); exact hL1; rfl; rfl; rfl; (first | with_reducible rfl | with_reducible exact ixo _ | with_reducible exact ixoc _ _ | with_reducible exact ixom _ _ _ | with_reducible exact ixop _ _ | with_reducible exact ixod _ _ | assumption); omega))
  rw [s1]
  cases pd' with
  | nil =>
    rw [← e1]
    exact v_it (show nI 0 ≤ 0 by decide) (v_rV ⟨o1, s0⟩)
  | cons c r =>
    have s2 : gI h1 330 (r.map soM).length = soM c ∧ pil h1 330 (r.map soM) := s2
    rw [List.length_map] at s2
    have e3 : r.length + 1 ≤ 40 := e3
    have e4 : c0 + cu'.length + (r.length + 1) ≤ lb9 c0 + 420 := e4
    have s1 : gI h1 299 47 = nI (r.length + 1) := s1
    refine v_ie (show ¬ nI (r.length + 1) ≤ nI 0 from nI_ge (by omega) (by omega)) ?_
    repeat (first | with_reducible apply v_lt | ((with_reducible apply w_MR); exact hL1; rfl) | ((with_reducible apply w_lv); exact hL1; assumption) | ((with_reducible apply vMI); exact hL1) | ((with_reducible apply vMS); exact hL1) | ((with_reducible apply vMC); exact hL1) | ((with_reducible apply vMZ); exact hL1; (first | exact Or.inl rfl | exact Or.inr rfl | exact b2i_01 _ | assumption)) | ((first | with_reducible apply w_MA | with_reducible apply w_MW | with_reducible apply w_MY | with_reducible apply w_MB | with_reducible apply w_MJ | with_reducible apply w_MK); exact hL1; rfl; rfl; rfl; (first | with_reducible rfl | with_reducible exact ixo _ | with_reducible exact ixoc _ _ | with_reducible exact ixom _ _ _ | with_reducible exact ixop _ _ | with_reducible exact ixod _ _ | assumption); omega))
    rw [s1, nI_pred]
    repeat (first | with_reducible apply v_lt | ((with_reducible apply w_MR); exact hL1; rfl) | ((with_reducible apply w_lv); exact hL1; assumption) | ((with_reducible apply vMI); exact hL1) | ((with_reducible apply vMS); exact hL1) | ((with_reducible apply vMC); exact hL1) | ((with_reducible apply vMZ); exact hL1; (first | exact Or.inl rfl | exact Or.inr rfl | exact b2i_01 _ | assumption)) | ((first | with_reducible apply w_MA | with_reducible apply w_MW | with_reducible apply w_MY | with_reducible apply w_MB | with_reducible apply w_MJ | with_reducible apply w_MK); exact hL1; rfl; rfl; rfl; (first | with_reducible rfl | with_reducible exact ixo _ | with_reducible exact ixoc _ _ | with_reducible exact ixom _ _ _ | with_reducible exact ixop _ _ | with_reducible exact ixod _ _ | assumption); omega))
    rw [s2.1]
    have stop : ¬ w ≤ tt9 c → ok (rtV h1) (fun _ h' => eo (sCo c0) h h' ∧ scM c0 (out9 w cu pd).1 (out9 w cu pd).2 h') := fun z => by
      rw [← e1, show out9 w cu' (c :: r) = if w ≤ tt9 c then out9 w (cu' ++ [(opk c, 0)]) r else (cu', c :: r) from rfl, if_neg z]
      exact v_rV ⟨o1, s0⟩
    have goon : isOp c → w ≤ tt9 c → ok (fX10_comesOut_42 fu k 299 v (soM c) h1) (fun _ h' => eo (sCo c0) h h' ∧ scM c0 (out9 w cu pd).1 (out9 w cu pd).2 h') := fun ho z => by
      obtain ⟨m1, m2, m3, m4, m5⟩ := mop_all c ho
      unfold fX10_comesOut_42
      repeat (first | with_reducible apply v_lt | ((with_reducible apply w_MR); exact hL1; rfl) | ((with_reducible apply w_lv); exact hL1; assumption) | ((with_reducible apply vMI); exact hL1) | ((with_reducible apply vMS); exact hL1) | ((with_reducible apply vMC); exact hL1) | ((with_reducible apply vMZ); exact hL1; (first | exact Or.inl rfl | exact Or.inr rfl | exact b2i_01 _ | assumption)) | ((first | with_reducible apply w_MA | with_reducible apply w_MW | with_reducible apply w_MY | with_reducible apply w_MB | with_reducible apply w_MJ | with_reducible apply w_MK); exact hL1; rfl; rfl; rfl; (first | with_reducible rfl | with_reducible exact ixo _ | with_reducible exact ixoc _ _ | with_reducible exact ixom _ _ _ | with_reducible exact ixop _ _ | with_reducible exact ixod _ _ | assumption); omega))
      rw [s1, nI_pred]
      have fin : ok (fX10_comesOut_84 fu k 299 v (soM c) 299 (nI (opk c)) (uI h1 299 47 (nI r.length))) (fun _ h' => eo (sCo c0) h h' ∧ scM c0 (out9 w cu pd).1 (out9 w cu pd).2 h') := by
        unfold fX10_comesOut_84
        repeat (first | with_reducible apply v_lt | ((with_reducible apply w_MR); exact hL1; rfl) | ((with_reducible apply w_lv); exact hL1; assumption) | ((with_reducible apply vMI); exact hL1) | ((with_reducible apply vMS); exact hL1) | ((with_reducible apply vMC); exact hL1) | ((with_reducible apply vMZ); exact hL1; (first | exact Or.inl rfl | exact Or.inr rfl | exact b2i_01 _ | assumption)) | ((first | with_reducible apply w_MA | with_reducible apply w_MW | with_reducible apply w_MY | with_reducible apply w_MB | with_reducible apply w_MJ | with_reducible apply w_MK); exact hL1; rfl; rfl; rfl; (first | with_reducible rfl | with_reducible exact ixo _ | with_reducible exact ixoc _ _ | with_reducible exact ixom _ _ _ | with_reducible exact ixop _ _ | with_reducible exact ixod _ _ | assumption); omega))
        refine v_eq (emitM (c := c0 + cu'.length) hL1 (by omega) (by rw [gI_ne (by omega)]; exact s3)) ?_
        have o2 : eo (fun a k => (a = 299 ∧ (k = 43 ∨ k = 47)) ∨ ((a = 328 ∨ a = 329) ∧ k = c0 + cu'.length)) h1 (uI (uI (uI (uI h1 299 47 (nI r.length)) 328 (c0 + cu'.length) (nI (opk c))) 329 (c0 + cu'.length) 0) 299 43 (nI (c0 + cu'.length + 1))) := eo_uI (eo_uI (eo_uI (eo_uI eo_rf (Or.inl ⟨rfl, Or.inr rfl⟩)) (Or.inr ⟨Or.inl rfl, rfl⟩)) (Or.inr ⟨Or.inr rfl, rfl⟩)) (Or.inl ⟨rfl, Or.inl rfl⟩)
        refine hk _ ⟨cu' ++ [(opk c, 0)], r, ?_, e2.2, by omega, ?_, eo_tr o1 (eo_mono o2 (fun a k z => by unfold sCo; omega)), ?_, ?_, ?_, ?_⟩ ?_
        · rw [← e1]
          show _ = out9 w cu' (c :: r)
          rw [show out9 w cu' (c :: r) = if w ≤ tt9 c then out9 w (cu' ++ [(opk c, 0)]) r else (cu', c :: r) from rfl, if_pos z]
        · rw [List.length_append]
          show c0 + (cu'.length + 1) + r.length ≤ lb9 c0 + 420
          omega
        · rw [gI_ne (by omega), gI_ne (by omega), gI_ne (by omega), gI_eq]
        · exact pil_eo o2 (fun k z => by omega) s2.2
        · rw [gI_eq, List.length_append]
          rfl
        · refine segM_app s4 (fun a j ha hj => o2.2 _ _ (fun z => by omega)) ?_ ?_
          · rw [gI_ne (by omega), gI_ne (by omega), gI_eq]
          · rw [gI_ne (by omega), gI_eq]
        · rw [gI_ne (by omega), gI_ne (by omega), gI_ne (by omega), gI_eq, nI_clamp (by omega)]
          show r.length < r.length + 1
          omega
      rcases ho with rfl | rfl | rfl | rfl
      · exact v_it rfl fin
      · exact v_ie (by decide) (v_it rfl fin)
      · exact v_ie (by decide) (v_ie (by decide) (v_it rfl fin))
      · exact v_ie (by decide) (v_ie (by decide) (v_ie (by decide) fin))
    rcases e2.1 with z | ⟨z, -⟩
    · rw [z] at stop ⊢
      exact v_it rfl (stop (show ¬ w ≤ 0 by omega))
    · obtain ⟨m1, m2, m3, m4, m5⟩ := mop_all c z
      have tt := tt_op z
      refine v_ie m1 ?_
      rcases hw with ⟨w1, w2⟩ | ⟨w1, w2⟩
      · exact v_it w2 (goon z (by omega))
      · refine v_ie (by rw [w2]; decide) ?_
        by_cases c8 : soM c = 8
        · exact v_it c8 (stop (by have := m2.mp (Or.inl c8); omega))
        · refine v_ie c8 ?_
          by_cases c9 : soM c = 9
          · exact v_it c9 (stop (by have := m2.mp (Or.inr c9); omega))
          · refine v_ie c9 (goon z ?_)
            have : ¬ tt9 c = 1 := fun y => by
              rcases m2.mpr y with q | q
              · exact c8 q
              · exact c9 q
            omega
/-- what becomes of a law: the FAULT and its place; or 0, the law, and the next token -/
def fateF (τ : Nat → Tk) : Nat → LZ → Nat → Nat × Nat × LZ × Nat
  | 0, L, i => (2, tkP (τ i), L, i)
  | f + 1, L, i => if (lst L (τ i)).1 ≠ 0 then ((lst L (τ i)).1, tkP (τ i), L, i) else if i = 400 then (2, tkP (τ i), L, i) else if (lst L (τ i)).2.1 = true then (0, 0, (lst L (τ i)).2.2, i + 1) else fateF τ f (lst L (τ i)).2.2 (i + 1)
def fate (τ : Nat → Tk) (L : LZ) (i : Nat) : Nat × Nat × LZ × Nat := fateF τ (401 - i) L i
theorem fate_x {τ : Nat → Tk} {L L' : LZ} {i c : Nat} {ov : Bool} (hi : i ≤ 400) (e : lst L (τ i) = (c, ov, L')) (hc : c ≠ 0) : fate τ L i = (c, tkP (τ i), L, i) := by
  unfold fate
  rw [show 401 - i = (400 - i) + 1 from by omega]
  unfold fateF
  rw [e, if_pos hc]
theorem fate_r {τ : Nat → Tk} {L L' : LZ} {i : Nat} {ov : Bool} (hi : i = 400) (e : lst L (τ i) = (0, ov, L')) : fate τ L i = (2, tkP (τ i), L, i) := by
  unfold fate
  rw [show 401 - i = (400 - i) + 1 from by omega]
  unfold fateF
  rw [e, if_neg (fun z => z rfl), if_pos hi]
theorem fate_t {τ : Nat → Tk} {L L' : LZ} {i : Nat} (hi : i < 400) (e : lst L (τ i) = (0, true, L')) : fate τ L i = (0, 0, L', i + 1) := by
  unfold fate
  rw [show 401 - i = (400 - i) + 1 from by omega]
  unfold fateF
  rw [e, if_neg (fun z => z rfl), if_neg (by omega), if_pos rfl]
theorem fate_s {τ : Nat → Tk} {L L' : LZ} {i : Nat} (hi : i < 400) (e : lst L (τ i) = (0, false, L')) : fate τ L i = fate τ L' (i + 1) := by
  unfold fate
  rw [show 401 - i = (400 - i) + 1 from by omega]
  rw [show fateF τ (400 - i + 1) L i = if (lst L (τ i)).1 ≠ 0 then ((lst L (τ i)).1, tkP (τ i), L, i) else if i = 400 then (2, tkP (τ i), L, i) else if (lst L (τ i)).2.1 = true then (0, 0, (lst L (τ i)).2.2, i + 1) else fateF τ (400 - i) (lst L (τ i)).2.2 (i + 1) from rfl]
  rw [e, if_neg (fun z => z rfl), if_neg (by omega), if_neg (show ¬ false = true by decide), show 401 - (i + 1) = 400 - i from by omega]
