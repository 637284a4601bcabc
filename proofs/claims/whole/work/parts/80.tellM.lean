/-! THE REFERENCE'S tellLaw: its rounds -/
def LT9 (ts : List (Pf × Pf × Pf)) : LZ := (true, true, 3, ts.length, 0, [], [], [], ts)
def sTl (c0 f0 q a j : Nat) : Prop := sEx c0 a j ∨ (a = 299 ∧ j = 37) ∨ (323 ≤ a ∧ a ≤ 327 ∧ f0 ≤ j ∧ j < f0 + 8) ∨ ((a = 321 ∨ a = 322) ∧ j = q)
/-- dead within a law -/
def dTl (c0 f0 q m c p : Nat) (h h1 : mh) : Prop := eo (sTl c0 f0 q) h h1 ∧ ddM c p h1 ∧ ∃ b, f0 ≤ b ∧ b ≤ m ∧ gI h1 299 37 = nI b
theorem dTl_eo {S : Nat → Nat → Prop} {c0 f0 q m c p : Nat} {h h1 h2 : mh} (o : eo S h1 h2) (hs : ∀ a k, S a k → sTl c0 f0 q a k ∧ ¬ (a = 299 ∧ (k = 11 ∨ k = 13 ∨ k = 14 ∨ k = 37))) (d : dTl c0 f0 q m c p h h1) : dTl c0 f0 q m c p h h2 := by
  obtain ⟨d1, d2, b, d3, d4, d5⟩ := d
  refine ⟨eo_tr d1 (eo_mono o (fun a k z => (hs a k z).1)), ddM_eo o (fun a k z => by have := (hs a k z).2; omega) d2, b, d3, d4, ?_⟩
  rw [o.2 _ _ (fun z => by have := (hs _ _ z).2; omega)]
  exact d5
theorem dTl_L {c0 f0 q m c p : Nat} {h h1 : mh} (hL : LM h.2) (d : dTl c0 f0 q m c p h h1) : LM h1.2 := by rw [d.1.1]; exact hL
theorem termD {fu c0 f0 q m c p : Nat} {h h1 : mh} (hL : LM h.2) (hf : f0 ≤ 240) (hm : m ≤ f0 + 7) (d : dTl c0 f0 q m c p h h1) : ok (fX10_term fu 299 h1) (fun _ h2 => dTl c0 f0 q (m + 1) c p h h2) := by
  have hL1 := dTl_L hL d
  obtain ⟨d1, d2, b, d3, d4, d5⟩ := d
  unfold fX10_term
  repeat (first | with_reducible apply v_lt | ((with_reducible apply w_MR); exact hL1; rfl) | ((with_reducible apply w_lv); exact hL1; assumption) | ((with_reducible apply vMI); exact hL1) | ((with_reducible apply vMS); exact hL1) | ((with_reducible apply vMC); exact hL1) | ((with_reducible apply vMZ); exact hL1; (first | exact Or.inl rfl | exact Or.inr rfl | exact b2i_01 _ | assumption)) | ((first | with_reducible apply w_MA | with_reducible apply w_MW | with_reducible apply w_MY | with_reducible apply w_MB | with_reducible apply w_MJ | with_reducible apply w_MK); exact hL1; rfl; rfl; rfl; (first | with_reducible rfl | with_reducible exact ixo _ | with_reducible exact ixoc _ _ | with_reducible exact ixom _ _ _ | with_reducible exact ixop _ _ | with_reducible exact ixod _ _ | assumption); omega))
  have o2 : eo (fun a j => a = 326 ∧ j = b) h1 (uI h1 326 b (gI h1 299 43)) := eo_uI eo_rf ⟨rfl, rfl⟩
  have e2 := ddM_eo o2 (fun a k z => by omega) d2
  refine v_ie (x13 e2).2 ?_
  unfold fX10_term_24
  repeat (first | with_reducible apply v_lt | ((with_reducible apply w_MR); exact hL1; rfl) | ((with_reducible apply w_lv); exact hL1; assumption) | ((with_reducible apply vMI); exact hL1) | ((with_reducible apply vMS); exact hL1) | ((with_reducible apply vMC); exact hL1) | ((with_reducible apply vMZ); exact hL1; (first | exact Or.inl rfl | exact Or.inr rfl | exact b2i_01 _ | assumption)) | ((first | with_reducible apply w_MA | with_reducible apply w_MW | with_reducible apply w_MY | with_reducible apply w_MB | with_reducible apply w_MJ | with_reducible apply w_MK); exact hL1; rfl; rfl; rfl; (first | with_reducible rfl | with_reducible exact ixo _ | with_reducible exact ixoc _ _ | with_reducible exact ixom _ _ _ | with_reducible exact ixop _ _ | with_reducible exact ixod _ _ | assumption); omega))
  simp (disch := omega) only [gI_ne, d5]
  repeat (first | with_reducible apply v_lt | ((with_reducible apply w_MR); exact hL1; rfl) | ((with_reducible apply w_lv); exact hL1; assumption) | ((with_reducible apply vMI); exact hL1) | ((with_reducible apply vMS); exact hL1) | ((with_reducible apply vMC); exact hL1) | ((with_reducible apply vMZ); exact hL1; (first | exact Or.inl rfl | exact Or.inr rfl | exact b2i_01 _ | assumption)) | ((first | with_reducible apply w_MA | with_reducible apply w_MW | with_reducible apply w_MY | with_reducible apply w_MB | with_reducible apply w_MJ | with_reducible apply w_MK); exact hL1; rfl; rfl; rfl; (first | with_reducible rfl | with_reducible exact ixo _ | with_reducible exact ixoc _ _ | with_reducible exact ixom _ _ _ | with_reducible exact ixop _ _ | with_reducible exact ixod _ _ | assumption); omega))
  try simp (disch := omega) only [gI_ne, d5]
  rw [nI_1]
  have o3 : eo (fun a j => (a = 327 ∧ j = b) ∨ (a = 299 ∧ j = 37)) (uI h1 326 b (gI h1 299 43)) (uI (uI (uI h1 326 b (gI h1 299 43)) 327 b (gI h1 299 43)) 299 37 (nI (b + 1))) := eo_uI (eo_uI eo_rf (Or.inl ⟨rfl, rfl⟩)) (Or.inr ⟨rfl, rfl⟩)
  refine v_rV ⟨eo_tr d1 (eo_tr (eo_mono o2 (fun a k z => by unfold sTl; omega)) (eo_mono o3 (fun a k z => by unfold sTl; omega))), ddM_eo o3 (fun a k z => by omega) e2, b + 1, by omega, by omega, gI_eq⟩
/-- dead at a law's end -/
theorem d129 {fu c0 f0 q m c p : Nat} {v1 v2 v3 : Int32} {h h1 : mh} (hL : LM h.2) (hf : f0 ≤ 240) (hm : m ≤ f0 + 6) (d : dTl c0 f0 q m c p h h1) : ok (fX10_tellLaw_129 fu 299 v1 v2 v3 h1) (fun _ h2 => dTl c0 f0 q (m + 1) c p h h2) := by
  have hL1 := dTl_L hL d
  obtain ⟨b, d3, d4, d5⟩ := id d.2.2
  unfold fX10_tellLaw_129
  repeat (first | with_reducible apply v_lt | ((with_reducible apply w_MR); exact hL1; rfl) | ((with_reducible apply w_lv); exact hL1; assumption) | ((with_reducible apply vMI); exact hL1) | ((with_reducible apply vMS); exact hL1) | ((with_reducible apply vMC); exact hL1) | ((with_reducible apply vMZ); exact hL1; (first | exact Or.inl rfl | exact Or.inr rfl | exact b2i_01 _ | assumption)) | ((first | with_reducible apply w_MA | with_reducible apply w_MW | with_reducible apply w_MY | with_reducible apply w_MB | with_reducible apply w_MJ | with_reducible apply w_MK); exact hL1; rfl; rfl; rfl; (first | with_reducible rfl | with_reducible exact ixo _ | with_reducible exact ixoc _ _ | with_reducible exact ixom _ _ _ | with_reducible exact ixop _ _ | with_reducible exact ixod _ _ | assumption); omega))
  have d2 := dTl_eo (S := fun a j => a = 323 ∧ j = b) (h2 := uI h1 323 b (0 &&& 1)) (eo_uI eo_rf ⟨rfl, rfl⟩) (fun a k z => ⟨by unfold sTl; omega, by omega⟩) d
  refine v_bd (termD hL hf (by omega) d2) (fun _ h3 hq => ?_)
  have hL3 := dTl_L hL hq
  repeat (first | with_reducible apply v_lt | ((with_reducible apply w_MR); exact hL3; rfl) | ((with_reducible apply w_lv); exact hL3; assumption) | ((with_reducible apply vMI); exact hL3) | ((with_reducible apply vMS); exact hL3) | ((with_reducible apply vMC); exact hL3) | ((with_reducible apply vMZ); exact hL3; (first | exact Or.inl rfl | exact Or.inr rfl | exact b2i_01 _ | assumption)) | ((first | with_reducible apply w_MA | with_reducible apply w_MW | with_reducible apply w_MY | with_reducible apply w_MB | with_reducible apply w_MJ | with_reducible apply w_MK); exact hL3; rfl; rfl; rfl; (first | with_reducible rfl | with_reducible exact ixo _ | with_reducible exact ixoc _ _ | with_reducible exact ixom _ _ _ | with_reducible exact ixop _ _ | with_reducible exact ixod _ _ | assumption); omega))
  refine v_eq (mustD hL3 hq.2.1) ?_
  repeat (first | with_reducible apply v_lt | ((with_reducible apply w_MR); exact hL3; rfl) | ((with_reducible apply w_lv); exact hL3; assumption) | ((with_reducible apply vMI); exact hL3) | ((with_reducible apply vMS); exact hL3) | ((with_reducible apply vMC); exact hL3) | ((with_reducible apply vMZ); exact hL3; (first | exact Or.inl rfl | exact Or.inr rfl | exact b2i_01 _ | assumption)) | ((first | with_reducible apply w_MA | with_reducible apply w_MW | with_reducible apply w_MY | with_reducible apply w_MB | with_reducible apply w_MJ | with_reducible apply w_MK); exact hL3; rfl; rfl; rfl; (first | with_reducible rfl | with_reducible exact ixo _ | with_reducible exact ixoc _ _ | with_reducible exact ixom _ _ _ | with_reducible exact ixop _ _ | with_reducible exact ixod _ _ | assumption); omega))
  exact v_ie (x13 hq.2.1).1 (v_rV hq)
/-- dead behind the two terms of an if -/
theorem d110 {fu c0 f0 q m c p : Nat} {v1 v2 v3 : Int32} {h h1 : mh} {k12 : Int32 × mh → Option (Unit × mh)} {Q : Unit → mh → Prop} (hL : LM h.2) (hf : f0 ≤ 240) (hm : m ≤ f0 + 6) (d : dTl c0 f0 q m c p h h1) (hk : ∀ h2, dTl c0 f0 q (m + 1) c p h h2 → ok (k12 (v3, h2)) Q) : ok (fX10_tellLaw_110 fu k12 299 v1 v2 v3 h1) Q := by
  have hL1 := dTl_L hL d
  unfold fX10_tellLaw_110
  repeat (first | with_reducible apply v_lt | ((with_reducible apply w_MR); exact hL1; rfl) | ((with_reducible apply w_lv); exact hL1; assumption) | ((with_reducible apply vMI); exact hL1) | ((with_reducible apply vMS); exact hL1) | ((with_reducible apply vMC); exact hL1) | ((with_reducible apply vMZ); exact hL1; (first | exact Or.inl rfl | exact Or.inr rfl | exact b2i_01 _ | assumption)) | ((first | with_reducible apply w_MA | with_reducible apply w_MW | with_reducible apply w_MY | with_reducible apply w_MB | with_reducible apply w_MJ | with_reducible apply w_MK); exact hL1; rfl; rfl; rfl; (first | with_reducible rfl | with_reducible exact ixo _ | with_reducible exact ixoc _ _ | with_reducible exact ixom _ _ _ | with_reducible exact ixop _ _ | with_reducible exact ixod _ _ | assumption); omega))
  refine v_eq (mustD hL1 d.2.1) ?_
  repeat (first | with_reducible apply v_lt | ((with_reducible apply w_MR); exact hL1; rfl) | ((with_reducible apply w_lv); exact hL1; assumption) | ((with_reducible apply vMI); exact hL1) | ((with_reducible apply vMS); exact hL1) | ((with_reducible apply vMC); exact hL1) | ((with_reducible apply vMZ); exact hL1; (first | exact Or.inl rfl | exact Or.inr rfl | exact b2i_01 _ | assumption)) | ((first | with_reducible apply w_MA | with_reducible apply w_MW | with_reducible apply w_MY | with_reducible apply w_MB | with_reducible apply w_MJ | with_reducible apply w_MK); exact hL1; rfl; rfl; rfl; (first | with_reducible rfl | with_reducible exact ixo _ | with_reducible exact ixoc _ _ | with_reducible exact ixom _ _ _ | with_reducible exact ixop _ _ | with_reducible exact ixod _ _ | assumption); omega))
  refine v_bd (termD hL hf (by omega) d) (fun _ h3 hq => ?_)
  have hL3 := dTl_L hL hq
  repeat (first | with_reducible apply v_lt | ((with_reducible apply w_MR); exact hL3; rfl) | ((with_reducible apply w_lv); exact hL3; assumption) | ((with_reducible apply vMI); exact hL3) | ((with_reducible apply vMS); exact hL3) | ((with_reducible apply vMC); exact hL3) | ((with_reducible apply vMZ); exact hL3; (first | exact Or.inl rfl | exact Or.inr rfl | exact b2i_01 _ | assumption)) | ((first | with_reducible apply w_MA | with_reducible apply w_MW | with_reducible apply w_MY | with_reducible apply w_MB | with_reducible apply w_MJ | with_reducible apply w_MK); exact hL3; rfl; rfl; rfl; (first | with_reducible rfl | with_reducible exact ixo _ | with_reducible exact ixoc _ _ | with_reducible exact ixom _ _ _ | with_reducible exact ixop _ _ | with_reducible exact ixod _ _ | assumption); omega))
  refine v_eq (mustD hL3 hq.2.1) ?_
  exact hk h3 hq
theorem fin_eo {S : Nat → Nat → Prop} {τ : Nat → Tk} {c0 i : Nat} {L : LZ} {h1 h2 : mh} (o : eo S h1 h2) (hs : ∀ a k, S a k → ¬ ((a = 299 ∧ (k = 11 ∨ k = 12 ∨ k = 13 ∨ k = 43 ∨ k = 47)) ∨ (302 ≤ a ∧ a ≤ 305) ∨ (328 ≤ a ∧ a ≤ 330))) (q : fin9 τ c0 L i h1) : fin9 τ c0 L i h2 := by
  obtain ⟨L1, i1, e0, e1, e2, e3, e4, e5, e6, e7, e8, e9, e10⟩ := q
  refine ⟨L1, i1, e0, e1, e2, e3, e4, e5, e6, atM_eo o (fun a k z => by have := hs a k z; omega) e7, scM_eo o (fun a k z => by have := hs a k z; omega) e8, ?_, e10⟩
  rw [o.2 _ _ (fun z => by have := hs _ _ z; omega)]
  exact e9
theorem mustG {fu c0 i : Nat} {τ : Nat → Tk} {L : LZ} {h1 : mh} (hL : LM h1.2) (hT : okT τ) (hq : fin9 τ c0 L i h1 ∨ ddM (fate τ L i).1 (fate τ L i).2.1 h1) : ok (fX10_must fu 299 (soM (eop (lPt L))) h1) (fun _ h2 => eo sGo h1 h2 ∧ (pthr τ c0 L i h2 ∨ ddM (fate τ L i).1 (fate τ L i).2.1 h2)) := by
  rcases hq with q | d
  · obtain ⟨L1, i1, e0, e1, e2, e3, e4, e5, e6, e7, e8, e9, e10⟩ := id q
    have k1 := mustM (fu := fu) hL (eop_k (p := lPt L)) (hT i1).1 e7
    have k2 := mustF (fu := fu) (h := h1) hL hT ⟨eo_rf, Or.inl q⟩
    obtain ⟨x, h2, r1, r2⟩ := k1
    obtain ⟨y, h3, r3, r4⟩ := k2
    rw [r1] at r3
    cases r3
    exact ⟨x, h2, r1, r2.1, r4.2⟩
  · rw [mustD hL d]
    exact ⟨(), h1, rfl, eo_rf, Or.inr d⟩
