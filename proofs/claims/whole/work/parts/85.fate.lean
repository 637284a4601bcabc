/-! A LAW'S FATE: how long it is; the reference's tellLaw from its first token on -/
def lph (L : LZ) : Nat := 4 * (lTs L).length + (if lPt L = 3 then 0 else if lPt L = 0 then 1 else if lPt L = 1 then 2 else 3) + (if lWu L then 0 else 1)
theorem lst_ph {L L' : LZ} {q : Tk} {ov : Bool} (h6 : (lPt L = 3 ∧ lMi L = true) ∨ lMi L = false) (e : lst L q = (0, ov, L')) : (ov = false → lph L' ≤ lph L + 1 ∧ ((lPt L' = 3 ∧ lMi L' = true) ∨ lMi L' = false)) ∧ (ov = true → 4 * (lTs L').length + 1 ≤ lph L) := by
  unfold lst at e
  dsimp only at e
  cases hw : lWu L with
  | true =>
    rw [hw, if_pos rfl] at e
    have l0 : lph L = 4 * (lTs L).length + (if lPt L = 3 then 0 else if lPt L = 0 then 1 else if lPt L = 1 then 2 else 3) + 0 := by
      unfold lph
      rw [hw]
      rfl
    by_cases c1 : lMi L = true ∧ tkK q = 10
    · rw [if_pos c1] at e
      have p3 : lPt L = 3 := by
        rcases h6 with z | z
        · exact z.1
        · rw [z] at c1
          cases c1.1
      by_cases c2 : lIf L + 1 ≤ 4
      · rw [if_pos c2] at e
        cases e
        refine ⟨fun _ => ⟨?_, Or.inr rfl⟩, fun z => by cases z⟩
        show 4 * (lTs L).length + 1 + 0 ≤ _
        omega
      · rw [if_neg c2] at e
        cases e
    · rw [if_neg c1] at e
      by_cases c2 : tkK q = 40
      · rw [if_pos c2] at e
        by_cases c3 : lOp L + 1 ≤ 6
        · rw [if_pos c3] at e
          cases e
          refine ⟨fun _ => ⟨?_, Or.inr rfl⟩, fun z => by cases z⟩
          show 4 * (lTs L).length + (if lPt L = 3 then 0 else if lPt L = 0 then 1 else if lPt L = 1 then 2 else 3) + 0 ≤ _
          omega
        · rw [if_neg c3] at e
          cases e
      · rw [if_neg c2] at e
        by_cases c3 : tkK q = 23
        · rw [if_pos c3] at e
          cases e
          refine ⟨fun _ => ⟨?_, Or.inr rfl⟩, fun z => by cases z⟩
          show 4 * (lTs L).length + (if lPt L = 3 then 0 else if lPt L = 0 then 1 else if lPt L = 1 then 2 else 3) + 1 ≤ _
          omega
        · rw [if_neg c3] at e
          by_cases c4 : 13 ≤ tkK q ∧ tkK q < 22
          · rw [if_pos c4] at e
            cases e
            refine ⟨fun _ => ⟨?_, Or.inr rfl⟩, fun z => by cases z⟩
            show 4 * (lTs L).length + (if lPt L = 3 then 0 else if lPt L = 0 then 1 else if lPt L = 1 then 2 else 3) + 1 ≤ _
            omega
          · rw [if_neg c4] at e
            cases e
  | false =>
    rw [hw, if_neg (by decide)] at e
    have l0 : lph L = 4 * (lTs L).length + (if lPt L = 3 then 0 else if lPt L = 0 then 1 else if lPt L = 1 then 2 else 3) + 1 := by
      unfold lph
      rw [hw]
      rfl
    by_cases c1 : 0 < tt9 (tkK q)
    · rw [if_pos c1] at e
      cases e
      refine ⟨fun _ => ⟨?_, Or.inr rfl⟩, fun z => by cases z⟩
      show 4 * (lTs L).length + (if lPt L = 3 then 0 else if lPt L = 0 then 1 else if lPt L = 1 then 2 else 3) + 0 ≤ _
      omega
    · rw [if_neg c1] at e
      by_cases c2 : 0 < lOp L
      · rw [if_pos c2] at e
        by_cases c3 : tkK q = 41
        · rw [if_pos c3] at e
          cases e
          refine ⟨fun _ => ⟨?_, Or.inr rfl⟩, fun z => by cases z⟩
          show 4 * (lTs L).length + (if lPt L = 3 then 0 else if lPt L = 0 then 1 else if lPt L = 1 then 2 else 3) + 1 ≤ _
          omega
        · rw [if_neg c3] at e
          cases e
      · rw [if_neg c2] at e
        by_cases c3 : tkK q = eop (lPt L)
        · rw [if_pos c3] at e
          cases e
          unfold lend
          dsimp only
          by_cases z3 : lPt L = 3
          · rw [if_pos z3]
            refine ⟨fun z => absurd z3 (of_decide_eq_false z), fun _ => ?_⟩
            show 4 * (lTs L).length + 1 ≤ _
            omega
          · rw [if_neg z3]
            rw [if_neg z3] at l0
            refine ⟨fun _ => ?_, fun z => absurd (of_decide_eq_true z) z3⟩
            by_cases z2 : lPt L = 2
            · rw [if_pos z2]
              rw [z2] at l0
              refine ⟨?_, Or.inl ⟨rfl, rfl⟩⟩
              show 4 * (lTs L ++ [((lPa L).getD 0 [], (lPa L).getD 1 [], (out9 1 (lQu L) (lPd L)).1)]).length + 0 + 0 ≤ _
              rw [List.length_append]
              show 4 * ((lTs L).length + 1) + 0 + 0 ≤ _
              have l0 : lph L = 4 * (lTs L).length + 3 + 1 := l0
              omega
            · rw [if_neg z2]
              refine ⟨?_, Or.inr rfl⟩
              show 4 * (lTs L).length + (if lPt L + 1 = 3 then 0 else if lPt L + 1 = 0 then 1 else if lPt L + 1 = 1 then 2 else 3) + 0 ≤ _
              by_cases y0 : lPt L = 0
              · rw [y0] at l0 ⊢
                have l0 : lph L = 4 * (lTs L).length + 1 + 1 := l0
                show 4 * (lTs L).length + 2 + 0 ≤ _
                omega
              · rw [if_neg y0] at l0
                rw [if_neg (by omega), if_neg (by omega), if_neg (by omega)]
                split at l0 <;> omega
        · rw [if_neg c3] at e
          cases e
theorem fateF_b {τ : Nat → Tk} (hT : okT τ) : ∀ (f : Nat) (L : LZ) (i : Nat) (L' : LZ) (i' : Nat), i ≤ 400 → wfL L → ((lPt L = 3 ∧ lMi L = true) ∨ lMi L = false) → fateF τ f L i = (0, 0, L', i') → i < i' ∧ i' ≤ 400 ∧ i + 2 + 4 * (lTs L').length ≤ i' + lph L ∧ lln L' + (lPd L').length + i ≤ lln L + (lPd L).length + i' ∧ wfP (lQu L') 0 ∧ (lTs L').length ≤ 4 ∧ (∀ b ∈ lTs L', wfP b.1 0 ∧ wfP b.2.1 0 ∧ wfP b.2.2 0)
  | 0, L, i, L', i', _, _, _, e => by
    have e : (2, tkP (τ i), L, i) = (0, 0, L', i') := e
    cases e
  | f + 1, L, i, L', i', hi4, w, m, e => by
    unfold fateF at e
    obtain ⟨r, hr⟩ : ∃ r, r = lst L (τ i) := ⟨_, rfl⟩
    rw [← hr] at e
    obtain ⟨c, ov, L2⟩ := r
    dsimp only at e
    by_cases c0 : c ≠ 0
    · rw [if_pos c0] at e
      have := (Prod.mk.inj e).1
      exact absurd this c0
    · rw [if_neg c0] at e
      have c0 : c = 0 := Decidable.not_not.mp c0
      subst c0
      by_cases i4 : i = 400
      · rw [if_pos i4] at e
        have := (Prod.mk.inj e).1
        omega
      · rw [if_neg i4] at e
        obtain ⟨w1, w2, w3⟩ := lst_wf w (hT i).2 hr.symm
        obtain ⟨p1, p2⟩ := lst_ph m hr.symm
        cases ov with
        | true =>
          rw [if_pos rfl] at e
          cases e
          obtain ⟨u1, u2, u3⟩ := w2 rfl
          have := p2 rfl
          exact ⟨by omega, by omega, by omega, by omega, u1, u2, u3⟩
        | false =>
          rw [if_neg (by decide)] at e
          obtain ⟨v1, v2⟩ := p1 rfl
          obtain ⟨y1, y2, y3, y4, y5, y6, y7⟩ := fateF_b hT f L2 (i + 1) L' i' (by omega) (w1 rfl) v2 e
          exact ⟨by omega, by omega, by omega, by omega, y5, y6, y7⟩
theorem fate_b {τ : Nat → Tk} (hT : okT τ) {i i' : Nat} {L' : LZ} (hi : i ≤ 400) (e : fate τ LZ0 i = (0, 0, L', i')) : i < i' ∧ i' ≤ 400 ∧ i + 2 + 4 * (lTs L').length ≤ i' ∧ ln3 (lTs L') + (lQu L').length + i ≤ i' := by
  obtain ⟨h1, h2, h3, h4, -, -, -⟩ := fateF_b hT _ LZ0 i L' i' hi wfL0 (Or.inl ⟨rfl, rfl⟩) e
  have z1 : lph LZ0 = 0 := rfl
  have z2 : lln LZ0 = 0 := rfl
  have z3 : (lPd LZ0).length = 0 := rfl
  have z4 : lln L' = ln3 (lTs L') + ln1 (lPa L') + (lQu L').length := rfl
  exact ⟨h1, by omega, by omega, by omega⟩
/-- a law behind its word -/
def lawF (τ : Nat → Tk) (j : Nat) : Nat × Nat × LZ × Nat := if tkK (τ j) ≠ 61 then (1, tkP (τ j), LZ0, j) else if j = 400 then (2, tkP (τ j), LZ0, j) else fate τ LZ0 (j + 1)
theorem tellLawM {fu c0 f0 j s k : Nat} {τ : Nat → Tk} {h : mh} (hfu : 1000 ≤ fu) (hL : LM h.2) (hT : okT τ) (hf : f0 ≤ 240) (hs : s < 2) (hk : k < 4) (g19 : gI h 299 19 = nI s) (a : atM τ j h) (g12 : gI h 299 12 = 0) (g43 : gI h 299 43 = nI c0) (g37 : gI h 299 37 = nI f0) (hc : c0 ≤ lb9 c0 + j) : ok (fX10_tellLaw fu 299 (nI k) h) (fun _ h2 => eo (sTl c0 f0 (4 * s + k)) h h2 ∧ ((∃ L' i', lawF τ j = (0, 0, L', i') ∧ atM τ i' h2 ∧ gI h2 299 12 = 0 ∧ gI h2 299 43 = nI (c0 + ln3 (lTs L') + (lQu L').length) ∧ gI h2 299 37 = nI (f0 + (lTs L').length + 1) ∧ gI h2 321 (4 * s + k) = nI f0 ∧ gI h2 322 (4 * s + k) = nI (f0 + (lTs L').length + 1) ∧ brsA h2 f0 ((lTs L').length + 1) c0 (ln3 (lTs L') + (lQu L').length) (lTs L') (lQu L') ∧ (lTs L').length ≤ 4) ∨ ddM (lawF τ j).1 (lawF τ j).2.1 h2)) := by
  unfold fX10_tellLaw
  repeat (first | with_reducible apply v_lt | ((with_reducible apply w_MR); exact hL; rfl) | ((with_reducible apply w_lv); exact hL; assumption) | ((with_reducible apply vMI); exact hL) | ((with_reducible apply vMS); exact hL) | ((with_reducible apply vMC); exact hL) | ((with_reducible apply vMZ); exact hL; (first | exact Or.inl rfl | exact Or.inr rfl | exact b2i_01 _ | assumption)) | ((first | with_reducible apply w_MA | with_reducible apply w_MW | with_reducible apply w_MY | with_reducible apply w_MB | with_reducible apply w_MJ | with_reducible apply w_MK); exact hL; rfl; rfl; rfl; (first | with_reducible rfl | with_reducible exact ixo _ | with_reducible exact ixoc _ _ | with_reducible exact ixom _ _ _ | with_reducible exact ixop _ _ | with_reducible exact ixod _ _ | assumption); omega))
  refine v_bd (mustM (x := 61) hL ⟨by omega, Or.inr rfl⟩ (hT j).1 a) (fun _ h1 hq => ?_)
  obtain ⟨o1, q1, q2⟩ := hq
  have hL1 : LM h1.2 := by rw [o1.1]; exact hL
  have fr : ∀ k, ¬ (k = 11 ∨ k = 13 ∨ k = 14) → gI h1 299 k = gI h 299 k := fun k z => o1.2 _ _ (fun w => z w.2)
  have h37 : gI h1 299 37 = nI f0 := by rw [fr _ (by omega)]; exact g37
  repeat (first | with_reducible apply v_lt | ((with_reducible apply w_MR); exact hL1; rfl) | ((with_reducible apply w_lv); exact hL1; assumption) | ((with_reducible apply vMI); exact hL1) | ((with_reducible apply vMS); exact hL1) | ((with_reducible apply vMC); exact hL1) | ((with_reducible apply vMZ); exact hL1; (first | exact Or.inl rfl | exact Or.inr rfl | exact b2i_01 _ | assumption)) | ((first | with_reducible apply w_MA | with_reducible apply w_MW | with_reducible apply w_MY | with_reducible apply w_MB | with_reducible apply w_MJ | with_reducible apply w_MK); exact hL1; rfl; rfl; rfl; (first | with_reducible rfl | with_reducible exact ixo _ | with_reducible exact ixoc _ _ | with_reducible exact ixom _ _ _ | with_reducible exact ixop _ _ | with_reducible exact ixod _ _ | assumption); omega))
  rw [h37]
  have dead : ∀ c p, ddM c p h1 → ok (itr (bX10_tellLaw_12 fu 299 (nI k) (nI f0)) fu (0, h1)) (fun _ h2 => eo (sTl c0 f0 (4 * s + k)) h h2 ∧ ddM c p h2) := by
    intro c p d
    obtain ⟨f, hff⟩ : ∃ f, fu = f + 1 := ⟨fu - 1, by omega⟩
    have st : ∀ kk, ok (bX10_tellLaw_12 fu 299 (nI k) (nI f0) kk (0, h1)) (fun _ h2 => eo (sTl c0 f0 (4 * s + k)) h h2 ∧ ddM c p h2) := by
      intro kk
      unfold bX10_tellLaw_12
      dsimp only
      repeat (first | with_reducible apply v_lt | ((with_reducible apply w_MR); exact hL1; rfl) | ((with_reducible apply w_lv); exact hL1; assumption) | ((with_reducible apply vMI); exact hL1) | ((with_reducible apply vMS); exact hL1) | ((with_reducible apply vMC); exact hL1) | ((with_reducible apply vMZ); exact hL1; (first | exact Or.inl rfl | exact Or.inr rfl | exact b2i_01 _ | assumption)) | ((first | with_reducible apply w_MA | with_reducible apply w_MW | with_reducible apply w_MY | with_reducible apply w_MB | with_reducible apply w_MJ | with_reducible apply w_MK); exact hL1; rfl; rfl; rfl; (first | with_reducible rfl | with_reducible exact ixo _ | with_reducible exact ixoc _ _ | with_reducible exact ixom _ _ _ | with_reducible exact ixop _ _ | with_reducible exact ixod _ _ | assumption); omega))
      refine v_ie (x13 d).2 ?_
      exact ok_mono (d129 (m := f0) hL hf (by omega) ⟨eo_mono o1 (fun a j z => sGo_Tl z), d, f0, by omega, by omega, h37⟩) (fun _ h2 q => ⟨q.1, q.2.1⟩)
    rw [show itr (bX10_tellLaw_12 fu 299 (nI k) (nI f0)) fu (0, h1) = itr (bX10_tellLaw_12 fu 299 (nI k) (nI f0)) (f + 1) (0, h1) from by rw [← hff], itr_s]
    exact st _
  unfold lawF
  by_cases z1 : tkK (τ j) ≠ 61
  · rw [if_pos z1]
    exact ok_mono (dead _ _ (q1 z1)) (fun _ h2 q => ⟨q.1, Or.inr q.2⟩)
  · rw [if_neg z1]
    have z1 : tkK (τ j) = 61 := Decidable.not_not.mp z1
    obtain ⟨q3, q4⟩ := q2 z1
    by_cases z2 : j = 400
    · rw [if_pos z2]
      exact ok_mono (dead _ _ (q3 z2)) (fun _ h2 q => ⟨q.1, Or.inr q.2⟩)
    · rw [if_neg z2]
      refine ok_mono (lawLoop (c0 := c0) hfu hL1 hT hf hs hk (by rw [fr _ (by omega)]; exact g19) (q4 z2) (by rw [fr _ (by omega)]; exact g12) (by rw [fr _ (by omega)]; exact g43) h37 (by omega)) (fun _ h2 q => ?_)
      exact ⟨eo_tr (eo_mono o1 (fun a j z => sGo_Tl z)) q.1, q.2⟩
