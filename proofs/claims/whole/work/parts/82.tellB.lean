/-! THE REFERENCE'S tellLaw: the last part -/
set_option maxHeartbeats 2000000 in
theorem a129 {fu c0 f0 i0 s k i : Nat} {τ : Nat → Tk} {ts : List (Pf × Pf × Pf)} {v3 : Int32} {h h1 : mh} (hfu : 1000 ≤ fu) (hL0 : LM h.2) (hT : okT τ) (hf : f0 ≤ 240) (hs : s < 2) (hk : k < 4) (g19 : gI h1 299 19 = nI s) (o : eo (sTl c0 f0 (4 * s + k)) h h1) (a : lwA τ c0 f0 i0 ts i h1) (hn : tkK (τ i) ≠ 10) : ok (fX10_tellLaw_129 fu 299 (nI k) (nI f0) v3 h1) (fun _ h2 => lwQ τ c0 f0 (4 * s + k) i0 h h2) := by
  obtain ⟨a1, a2, a3, a4, a5, a6, a7, a8⟩ := a
  have hL : LM h1.2 := by rw [o.1]; exact hL0
  have hi := a2.2.2.1
  have hlb := lb9_eq (c := c0) (c1 := c0 + ln3 ts) (by omega) (by omega)
  have l4 : ts.length ≤ 4 := a7.2.2.2.2.1
  unfold fX10_tellLaw_129
  repeat (first | with_reducible apply v_lt | ((with_reducible apply w_MR); exact hL; rfl) | ((with_reducible apply w_lv); exact hL; assumption) | ((with_reducible apply vMI); exact hL) | ((with_reducible apply vMS); exact hL) | ((with_reducible apply vMC); exact hL) | ((with_reducible apply vMZ); exact hL; (first | exact Or.inl rfl | exact Or.inr rfl | exact b2i_01 _ | assumption)) | ((first | with_reducible apply w_MA | with_reducible apply w_MW | with_reducible apply w_MY | with_reducible apply w_MB | with_reducible apply w_MJ | with_reducible apply w_MK); exact hL; rfl; rfl; rfl; (first | with_reducible rfl | with_reducible exact ixo _ | with_reducible exact ixoc _ _ | with_reducible exact ixom _ _ _ | with_reducible exact ixop _ _ | with_reducible exact ixod _ _ | assumption); omega))
  obtain ⟨g, hg⟩ : ∃ g, g = uI h1 323 (f0 + ts.length) (0 &&& 1) := ⟨_, rfl⟩
  rw [← hg]
  have o1 : eo (fun a j => a = 323 ∧ j = f0 + ts.length) h1 g := by
    rw [hg]
    exact eo_uI eo_rf ⟨rfl, rfl⟩
  have hLg : LM g.2 := by rw [o1.1]; exact hL
  have b3 : gI g 299 12 = 0 := by rw [o1.2 _ _ (fun z => by omega)]; exact a3
  have b5 : gI g 299 37 = nI (f0 + ts.length) := by rw [o1.2 _ _ (fun z => by omega)]; exact a5
  have b4 : gI g 299 43 = nI (c0 + ln3 ts) := by rw [o1.2 _ _ (fun z => by omega)]; exact a4
  have b323 : gI g 323 (f0 + ts.length) = 0 := by rw [hg, gI_eq]; decide
  have b19 : gI g 299 19 = nI s := by rw [o1.2 _ _ (fun z => by omega)]; exact g19
  have at1 := atM_eo o1 (fun a k z => by omega) a2
  have br1 : brT g f0 c0 ts := brT_lo (e9 := f0) (f9 := f0 + ts.length) (b9 := c0) (c9 := c0 + ln3 ts) (fun a j _ _ _ hj => o1.2 _ _ (fun z => by omega)) (fun a j _ _ _ _ => o1.2 _ _ (fun z => by omega)) (Nat.le_refl _) (Nat.le_refl _) (Nat.le_refl _) (Nat.le_refl _) a6
  refine v_bd (termA hfu hLg hT at1 b3 b4 b5 (by omega) a7 rfl rfl rfl rfl (fun z => hn z.2) (by rw [hlb]; exact a8)) (fun _ h2 hq => ?_)
  obtain ⟨o2, c37, c326, c327, hq⟩ := hq
  have hL2 : LM h2.2 := by rw [o2.1]; exact hLg
  repeat (first | with_reducible apply v_lt | ((with_reducible apply w_MR); exact hL2; rfl) | ((with_reducible apply w_lv); exact hL2; assumption) | ((with_reducible apply vMI); exact hL2) | ((with_reducible apply vMS); exact hL2) | ((with_reducible apply vMC); exact hL2) | ((with_reducible apply vMZ); exact hL2; (first | exact Or.inl rfl | exact Or.inr rfl | exact b2i_01 _ | assumption)) | ((first | with_reducible apply w_MA | with_reducible apply w_MW | with_reducible apply w_MY | with_reducible apply w_MB | with_reducible apply w_MJ | with_reducible apply w_MK); exact hL2; rfl; rfl; rfl; (first | with_reducible rfl | with_reducible exact ixo _ | with_reducible exact ixoc _ _ | with_reducible exact ixom _ _ _ | with_reducible exact ixop _ _ | with_reducible exact ixod _ _ | assumption); omega))
  refine v_bd (mustG (fu := fu) (L := LT9 ts) hL2 hT hq) (fun _ h3 hq3 => ?_)
  obtain ⟨o3, hq3⟩ := hq3
  have hL3 : LM h3.2 := by rw [o3.1]; exact hL2
  have ot : eo (sTl c0 f0 (4 * s + k)) h h3 := by
    refine eo_tr o (eo_tr (eo_mono o1 (fun a j z => ?_)) (eo_tr (eo_mono o2 (fun a j z => ?_)) (eo_mono o3 (fun a j z => ?_))))
    · unfold sTl; omega
    · unfold sTe sEx at z; unfold sTl sEx; omega
    · unfold sGo at z; unfold sTl sEx; omega
  repeat (first | with_reducible apply v_lt | ((with_reducible apply w_MR); exact hL3; rfl) | ((with_reducible apply w_lv); exact hL3; assumption) | ((with_reducible apply vMI); exact hL3) | ((with_reducible apply vMS); exact hL3) | ((with_reducible apply vMC); exact hL3) | ((with_reducible apply vMZ); exact hL3; (first | exact Or.inl rfl | exact Or.inr rfl | exact b2i_01 _ | assumption)) | ((first | with_reducible apply w_MA | with_reducible apply w_MW | with_reducible apply w_MY | with_reducible apply w_MB | with_reducible apply w_MJ | with_reducible apply w_MK); exact hL3; rfl; rfl; rfl; (first | with_reducible rfl | with_reducible exact ixo _ | with_reducible exact ixoc _ _ | with_reducible exact ixom _ _ _ | with_reducible exact ixop _ _ | with_reducible exact ixod _ _ | assumption); omega))
  rcases hq3 with ⟨L2, i2, e0, e1, e2, e3, e4, e5, e6, e7, e8, e9, e10⟩ | d
  · rw [if_pos (show lPt (LT9 ts) = 3 from rfl)] at e0
    rw [e7.2.1]
    refine v_it (by decide) ?_
    obtain ⟨x1, x2, x3, x4⟩ := e3
    obtain ⟨j1, j2, j3, j4⟩ := lend_wf e4 e5 e6
    obtain ⟨y1, y2, y3⟩ := j2 (by rw [x1]; rfl)
    have f19 : gI h3 299 19 = nI s := by
      rw [o3.2 _ _ (fun z => by unfold sGo at z; omega), o2.2 _ _ (fun z => by unfold sTe sEx at z; omega)]
      exact b19
    have f37 : gI h3 299 37 = nI (f0 + ts.length + 1) := by
      rw [o3.2 _ _ (fun z => by unfold sGo at z; omega)]
      exact c37
    have ix : ∀ v : Int32, v = nI s → 4 * v + nI k = nI (4 * s + k) := fun v hv => by
      rw [hv]
      rcases (show s = 0 ∨ s = 1 by omega) with rfl | rfl <;> rcases (show k = 0 ∨ k = 1 ∨ k = 2 ∨ k = 3 by omega) with rfl | rfl | rfl | rfl <;> decide
    have ix1 := ix _ f19
    have ix2 := ix (gI (uI h3 321 (4 * s + k) (nI f0)) 299 19) (by rw [gI_ne (by omega)]; exact f19)
    repeat (first | with_reducible apply v_lt | ((with_reducible apply w_MR); exact hL3; rfl) | ((with_reducible apply w_lv); exact hL3; assumption) | ((with_reducible apply vMI); exact hL3) | ((with_reducible apply vMS); exact hL3) | ((with_reducible apply vMC); exact hL3) | ((with_reducible apply vMZ); exact hL3; (first | exact Or.inl rfl | exact Or.inr rfl | exact b2i_01 _ | assumption)) | ((first | with_reducible apply w_MA | with_reducible apply w_MW | with_reducible apply w_MY | with_reducible apply w_MB | with_reducible apply w_MJ | with_reducible apply w_MK); exact hL3; rfl; rfl; rfl; (first | with_reducible rfl | with_reducible exact ixo _ | with_reducible exact ixoc _ _ | with_reducible exact ixom _ _ _ | with_reducible exact ixop _ _ | with_reducible exact ixod _ _ | assumption); omega))
    rw [gI_ne (by omega), f37]
    have o5 : eo (fun a j => (a = 321 ∨ a = 322) ∧ j = 4 * s + k) h3 (uI (uI h3 321 (4 * s + k) (nI f0)) 322 (4 * s + k) (nI (f0 + ts.length + 1))) := eo_uI (eo_uI eo_rf ⟨Or.inl rfl, rfl⟩) ⟨Or.inr rfl, rfl⟩
    have w4 : lTs (lend L2) = ts := by rw [y2, x4]; rfl
    obtain ⟨s1, s2, s3, s4⟩ := e8
    have brX : brsA h3 f0 (ts.length + 1) c0 (ln3 ts + (lQu (lend L2)).length) ts (lQu (lend L2)) := by
      rw [y3] at y1 ⊢
      have g43 : gI h2 299 43 = nI (c0 + ln3 ts + (out9 1 (lQu L2) (lPd L2)).1.length) := by
        rw [← s3, o3.2 _ _ (fun z => by unfold sGo at z; omega)]
      have l323 : gI h3 323 (f0 + ts.length) = 0 := by
        rw [o3.2 _ _ (fun z => by unfold sGo at z; omega), o2.2 _ _ (fun z => by unfold sTe sEx at z; omega)]
        exact b323
      refine brT_A y1 (by omega) (by have := lb9_le c0; omega) a7.2.2.2.2.2.2.2.1 ?_ l323 ?_ ?_ s4
      · refine brT_lo (e9 := f0) (f9 := f0 + ts.length) (b9 := c0) (c9 := c0 + ln3 ts) (fun a j _ _ _ hj => ?_) (fun a j _ _ _ hj => ?_) (Nat.le_refl _) (Nat.le_refl _) (Nat.le_refl _) (Nat.le_refl _) br1
        · rw [o3.2 _ _ (fun z => by unfold sGo at z; omega), o2.2 _ _ (fun z => by unfold sTe sEx at z; omega)]
        · rw [o3.2 _ _ (fun z => by unfold sGo at z; omega), o2.2 _ _ (fun z => by unfold sTe sEx at z; omega)]
      · rw [o3.2 _ _ (fun z => by unfold sGo at z; omega)]
        exact c326
      · rw [o3.2 _ _ (fun z => by unfold sGo at z; omega), c327, g43]
    refine v_rV ⟨eo_tr ot (eo_mono o5 (fun a j z => by unfold sTl; omega)), Or.inl ⟨lend L2, i2 + 1, a1.trans e0, atM_eo o5 (fun a j z => by omega) e7, ?_, ?_, ?_, ?_, ?_, ?_, ?_⟩⟩
    · rw [o5.2 _ _ (fun z => by omega)]
      exact e9
    · rw [o5.2 _ _ (fun z => by omega), w4, y3]
      exact s3
    · rw [o5.2 _ _ (fun z => by omega), w4]
      exact f37
    · rw [gI_ne (by omega), gI_eq]
    · rw [gI_eq, w4]
    · rw [w4]
      exact fun h9 k1 k2 => brX h9 (fun a j j1 j2 j3 j4 => by rw [k1 a j j1 j2 j3 j4, o5.2 _ _ (fun z => by omega)]) (fun a j j1 j2 j3 j4 => by rw [k2 a j j1 j2 j3 j4, o5.2 _ _ (fun z => by omega)])
    · rw [w4]
      exact l4
  · refine v_ie (x13 d).1 (v_rV ⟨ot, Or.inr ?_⟩)
    rw [a1]
    exact d
