/-! THE REFERENCE READS: its start, its night -/
def sPn (s a k : Nat) : Prop := ((a = 309 ∨ a = 312 ∨ (317 ≤ a ∧ a ≤ 320)) ∧ k = s) ∨ (a = 316 ∧ 6 * s ≤ k ∧ k < 6 * s + 6) ∨ ((a = 321 ∨ a = 322) ∧ 4 * s ≤ k ∧ k < 4 * s + 4)
theorem A0_0 {a j : Nat} (h : ¬ (a = 0 ∧ j = 4)) : tX A0 a j = 0 := if_neg h
set_option maxHeartbeats 1000000 in
theorem plainM {fu s : Nat} {h : mh} (hfu : 1000 ≤ fu) (hs : s < 2) (hL : LM h.2) : ok (fX10_plain fu 299 (nI s) h) (fun _ h' => eo (sPn s) h h' ∧ tcM s A0 h' ∧ ∀ k, k < 4 → gI h' 321 (4 * s + k) = 0 ∧ gI h' 322 (4 * s + k) = 0) := by
  unfold fX10_plain
  repeat (first | with_reducible apply v_lt | ((with_reducible apply w_MR); exact hL; rfl) | ((with_reducible apply w_lv); exact hL; assumption) | ((with_reducible apply vMI); exact hL) | ((with_reducible apply vMS); exact hL) | ((with_reducible apply vMC); exact hL) | ((with_reducible apply vMZ); exact hL; (first | exact Or.inl rfl | exact Or.inr rfl | exact b2i_01 _ | assumption)) | ((first | with_reducible apply w_MA | with_reducible apply w_MW | with_reducible apply w_MY | with_reducible apply w_MB | with_reducible apply w_MJ | with_reducible apply w_MK); exact hL; rfl; rfl; rfl; (first | with_reducible rfl | with_reducible exact ixo _ | with_reducible exact ixoc _ _ | with_reducible exact ixom _ _ _ | with_reducible exact ixop _ _ | with_reducible exact ixod _ _ | assumption); omega))
  obtain ⟨g, hg⟩ : ∃ g, g = uI (uI (uI (uI (uI (uI h 309 s 0) 312 s 0) 317 s 0) 318 s 0) 319 s 3) 320 s 0 := ⟨_, rfl⟩
  rw [← hg]
  have og : eo (sPn s) h g := by
    rw [hg]
    exact eo_uI (eo_uI (eo_uI (eo_uI (eo_uI (eo_uI eo_rf (Or.inl ⟨by omega, rfl⟩)) (Or.inl ⟨by omega, rfl⟩)) (Or.inl ⟨by omega, rfl⟩)) (Or.inl ⟨by omega, rfl⟩)) (Or.inl ⟨by omega, rfl⟩)) (Or.inl ⟨by omega, rfl⟩)
  have g1 : gI g 309 s = 0 := by rw [hg, gI_ne (by omega), gI_ne (by omega), gI_ne (by omega), gI_ne (by omega), gI_ne (by omega), gI_eq]
  have g2 : gI g 312 s = 0 := by rw [hg, gI_ne (by omega), gI_ne (by omega), gI_ne (by omega), gI_ne (by omega), gI_eq]
  have g3 : gI g 317 s = 0 := by rw [hg, gI_ne (by omega), gI_ne (by omega), gI_ne (by omega), gI_eq]
  have g4 : gI g 318 s = 0 := by rw [hg, gI_ne (by omega), gI_ne (by omega), gI_eq]
  have g5 : gI g 319 s = 3 := by rw [hg, gI_ne (by omega), gI_eq]
  have g6 : gI g 320 s = 0 := by rw [hg, gI_eq]
  have hLg : LM g.2 := by rw [og.1]; exact hL
  refine loop2 (n := 6) (I := fun j h' => eo (fun a k => a = 316 ∧ 6 * s ≤ k ∧ k < 6 * s + 6) g h' ∧ ∀ i, i < j → gI h' 316 (6 * s + i) = 0) (by omega) hfu ⟨eo_rf, fun i hi => absurd hi (Nat.not_lt_zero i)⟩ ?_ ?_
  · intro h1 k hI
    obtain ⟨o1, f1⟩ := hI
    have hL1 : LM h1.2 := by rw [o1.1]; exact hLg
    unfold bX10_plain_44
    dsimp only
    refine v_it (show nI 6 ≤ nI 6 from nI_le (by omega) (by omega)) ?_
    unfold fX10_plain_68
    refine loop2 (n := 4) (I := fun j h' => eo (fun a k => (a = 321 ∨ a = 322) ∧ 4 * s ≤ k ∧ k < 4 * s + 4) h1 h' ∧ ∀ i, i < j → gI h' 321 (4 * s + i) = 0 ∧ gI h' 322 (4 * s + i) = 0) (by omega) hfu ⟨eo_rf, fun i hi => absurd hi (Nat.not_lt_zero i)⟩ ?_ ?_
    · intro h2 k hI
      obtain ⟨o2, f2⟩ := hI
      unfold bX10_plain_70
      dsimp only
      have k2 : ∀ a j, a ≠ 316 → ¬ (a = 321 ∨ a = 322) → gI h2 a j = gI g a j := fun a j z1 z2 => by rw [o2.2 _ _ (fun z => z2 z.1), o1.2 _ _ (fun z => z1 z.1)]
      refine v_it (show nI 4 ≤ nI 4 from nI_le (by omega) (by omega)) (v_rV ⟨eo_tr og (eo_tr (eo_mono o1 (fun a k z => Or.inr (Or.inl z))) (eo_mono o2 (fun a k z => Or.inr (Or.inr z)))), ⟨⟨?_, ?_, ?_, ?_, ?_, ?_⟩, fun r hr => absurd hr (by rw [A0_0 (by omega)]; exact Nat.not_lt_zero r), fun r hr => absurd hr (by rw [A0_0 (by omega)]; exact Nat.not_lt_zero r), fun l hl => ?_⟩, f2⟩)
      · rw [k2 _ _ (by omega) (by omega), g1, A0_0 (by omega)]; rfl
      · rw [k2 _ _ (by omega) (by omega), g2, A0_0 (by omega)]; rfl
      · rw [k2 _ _ (by omega) (by omega), g3, A0_0 (by omega)]; rfl
      · rw [k2 _ _ (by omega) (by omega), g4, A0_0 (by omega)]; rfl
      · rw [k2 _ _ (by omega) (by omega), g5]; rfl
      · rw [k2 _ _ (by omega) (by omega), g6, A0_0 (by omega)]; rfl
      · rw [o2.2 _ _ (fun z => by omega), f1 l hl, A0_0 (by omega)]; rfl
    · intro j h2 k hj hI hk
      obtain ⟨o2, f2⟩ := hI
      have hL2 : LM h2.2 := by rw [o2.1]; exact hL1
      unfold bX10_plain_70
      dsimp only
      refine v_ie (show ¬ nI 4 ≤ nI j from nI_ge hj (by omega)) ?_
      repeat (first | with_reducible apply v_lt | ((with_reducible apply w_MR); exact hL2; rfl) | ((with_reducible apply w_lv); exact hL2; assumption) | ((with_reducible apply vMI); exact hL2) | ((with_reducible apply vMS); exact hL2) | ((with_reducible apply vMC); exact hL2) | ((with_reducible apply vMZ); exact hL2; (first | exact Or.inl rfl | exact Or.inr rfl | exact b2i_01 _ | assumption)) | ((first | with_reducible apply w_MA | with_reducible apply w_MW | with_reducible apply w_MY | with_reducible apply w_MB | with_reducible apply w_MJ | with_reducible apply w_MK); exact hL2; rfl; rfl; rfl; (first | with_reducible rfl | with_reducible exact ixo _ | with_reducible exact ixoc _ _ | with_reducible exact ixom _ _ _ | with_reducible exact ixop _ _ | with_reducible exact ixod _ _ | assumption); omega))
      refine hk _ ⟨eo_uI (eo_uI o2 ⟨Or.inl rfl, by omega, by omega⟩) ⟨Or.inr rfl, by omega, by omega⟩, fun i hi => ?_⟩
      by_cases e : i = j
      · rw [e]
        exact ⟨by rw [gI_ne (by omega), gI_eq], gI_eq⟩
      · rw [gI_ne (by omega), gI_ne (by omega), gI_ne (by omega), gI_ne (by omega)]
        exact f2 i (by omega)
  · intro j h1 k hj hI hk
    obtain ⟨o1, f1⟩ := hI
    have hL1 : LM h1.2 := by rw [o1.1]; exact hLg
    unfold bX10_plain_44
    dsimp only
    refine v_ie (show ¬ nI 6 ≤ nI j from nI_ge hj (by omega)) ?_
    repeat (first | with_reducible apply v_lt | ((with_reducible apply w_MR); exact hL1; rfl) | ((with_reducible apply w_lv); exact hL1; assumption) | ((with_reducible apply vMI); exact hL1) | ((with_reducible apply vMS); exact hL1) | ((with_reducible apply vMC); exact hL1) | ((with_reducible apply vMZ); exact hL1; (first | exact Or.inl rfl | exact Or.inr rfl | exact b2i_01 _ | assumption)) | ((first | with_reducible apply w_MA | with_reducible apply w_MW | with_reducible apply w_MY | with_reducible apply w_MB | with_reducible apply w_MJ | with_reducible apply w_MK); exact hL1; rfl; rfl; rfl; (first | with_reducible rfl | with_reducible exact ixo _ | with_reducible exact ixoc _ _ | with_reducible exact ixom _ _ _ | with_reducible exact ixop _ _ | with_reducible exact ixod _ _ | assumption); omega))
    refine hk _ ⟨eo_uI o1 ⟨rfl, by omega, by omega⟩, fun i hi => ?_⟩
    by_cases e : i = j
    · rw [e, gI_eq]
    · rw [gI_ne (by omega)]
      exact f1 i (by omega)
/-- the night that a text begins with -/
def NB (A : RT) : AN := (tX A 3, tX A 5, (fun _ => 0), (fun _ => 0), 2 ^ tX A 0 1 - 1, 0, none, 0)
theorem onBt {n i : Nat} : (2 ^ n - 1).testBit i = decide (i < n) := Nat.testBit_two_pow_sub_one n i
set_option maxHeartbeats 1000000 in
theorem beginM {fu s : Nat} {A : RT} {h : mh} (hfu : 1000 ≤ fu) (hs : s < 2) (hL : LM h.2) (w : wA A) (t : tcM s A h) (g18 : gI h 299 18 = nI s) : ok (fX10_begins fu 299 h) (fun _ h' => eo (fun a k => a = 334 ∨ (a = 299 ∧ (k = 53 ∨ k = 54))) h h' ∧ ngM h' 334 (NB A)) := by
  obtain ⟨⟨t1, t2, t3, t4, t5, t6⟩, t7, t8, t9⟩ := t
  have w1 := w.1.2.1
  have wz := w.2.2.2.1
  unfold fX10_begins
  refine loop2 (n := 33) (I := fun j h' => eo (fun a _ => a = 334) h h' ∧ ∀ i, i < j → gI h' 334 i = 0) (by omega) hfu ⟨eo_rf, fun i hi => absurd hi (Nat.not_lt_zero i)⟩ ?_ ?_
  · intro h1 k hI
    obtain ⟨o1, f1⟩ := hI
    have hL1 : LM h1.2 := by rw [o1.1]; exact hL
    unfold bX10_begins_2
    dsimp only
    refine v_it (show nI 33 ≤ nI 33 from nI_le (by omega) (by omega)) ?_
    unfold fX10_begins_21
    refine loop2 (n := tX A 0 1) (I := fun o h' => eo (fun a _ => a = 334) h1 h' ∧ (∀ i, i < 6 → gI h' 334 i = 0 ∧ gI h' 334 (6 + i) = 0 ∧ gI h' 334 (12 + i) = (if i < o then nI (tX A 3 i) else 0) ∧ gI h' 334 (18 + i) = (if i < o then nI (tX A 5 i) else 0) ∧ gI h' 334 (24 + i) = (if i < o then 1 else 0)) ∧ gI h' 334 30 = 0 ∧ gI h' 334 32 = 0) (by omega) hfu ⟨eo_rf, fun i hi => ⟨f1 _ (by omega), f1 _ (by omega), by rw [if_neg (by omega)]; exact f1 _ (by omega), by rw [if_neg (by omega)]; exact f1 _ (by omega), by rw [if_neg (by omega)]; exact f1 _ (by omega)⟩, f1 _ (by omega), f1 _ (by omega)⟩ ?_ ?_
    · intro h2 k hI
      obtain ⟨o2, f2, f30, f32⟩ := hI
      have hL2 : LM h2.2 := by rw [o2.1]; exact hL1
      have k2 : ∀ a j, a ≠ 334 → gI h2 a j = gI h a j := fun a j z => by rw [o2.2 _ _ z, o1.2 _ _ z]
      have g18_2 : gI h2 299 18 = nI s := by rw [k2 _ _ (by omega)]; exact g18
      unfold bX10_begins_23
      dsimp only
      repeat (first | with_reducible apply v_lt | ((with_reducible apply w_MR); exact hL2; rfl) | ((with_reducible apply w_lv); exact hL2; assumption) | ((with_reducible apply vMI); exact hL2) | ((with_reducible apply vMS); exact hL2) | ((with_reducible apply vMC); exact hL2) | ((with_reducible apply vMZ); exact hL2; (first | exact Or.inl rfl | exact Or.inr rfl | exact b2i_01 _ | assumption)) | ((first | with_reducible apply w_MA | with_reducible apply w_MW | with_reducible apply w_MY | with_reducible apply w_MB | with_reducible apply w_MJ | with_reducible apply w_MK); exact hL2; rfl; rfl; rfl; (first | with_reducible rfl | with_reducible exact ixo _ | with_reducible exact ixoc _ _ | with_reducible exact ixom _ _ _ | with_reducible exact ixop _ _ | with_reducible exact ixod _ _ | assumption); omega))
      rw [k2 _ _ (by omega), t2]
      refine v_it (nI_le (Nat.le_refl _) (by omega)) ?_
      unfold fX10_begins_98
      have g18_3 : gI (uI h2 334 31 (-2)) 299 18 = nI s := by rw [gI_ne (by omega)]; exact g18_2
      repeat (first | with_reducible apply v_lt | ((with_reducible apply w_MR); exact hL2; rfl) | ((with_reducible apply w_lv); exact hL2; assumption) | ((with_reducible apply vMI); exact hL2) | ((with_reducible apply vMS); exact hL2) | ((with_reducible apply vMC); exact hL2) | ((with_reducible apply vMZ); exact hL2; (first | exact Or.inl rfl | exact Or.inr rfl | exact b2i_01 _ | assumption)) | ((first | with_reducible apply w_MA | with_reducible apply w_MW | with_reducible apply w_MY | with_reducible apply w_MB | with_reducible apply w_MJ | with_reducible apply w_MK); exact hL2; rfl; rfl; rfl; (first | with_reducible rfl | with_reducible exact ixo _ | with_reducible exact ixoc _ _ | with_reducible exact ixom _ _ _ | with_reducible exact ixop _ _ | with_reducible exact ixod _ _ | assumption); omega))
      obtain ⟨v, hv⟩ : ∃ v, v = gI (uI h2 334 31 (-2)) 320 s := ⟨_, rfl⟩
      rw [← hv]
      have o3 : eo (fun a k => a = 334 ∨ (a = 299 ∧ (k = 53 ∨ k = 54))) h2 (uI (uI (uI h2 334 31 (-2)) 299 53 v) 299 54 0) := eo_uI (eo_uI (eo_uI eo_rf (Or.inl rfl)) (Or.inr ⟨rfl, Or.inl rfl⟩)) (Or.inr ⟨rfl, Or.inr rfl⟩)
      have k3 : ∀ j, j ≠ 31 → gI (uI (uI (uI h2 334 31 (-2)) 299 53 v) 299 54 0) 334 j = gI h2 334 j := fun j z => by rw [gI_ne (by omega), gI_ne (by omega), gI_ne (by omega)]
      refine v_rV ⟨eo_tr (eo_mono o1 (fun a k z => Or.inl z)) (eo_tr (eo_mono o2 (fun a k z => Or.inl z)) o3), fun i hi => ?_, ?_, ?_, ?_⟩
      · rw [k3 _ (by omega), k3 _ (by omega), k3 _ (by omega), k3 _ (by omega), k3 _ (by omega)]
        obtain ⟨y1, y2, y3, y4, y5⟩ := f2 i hi
        refine ⟨y1, y2, ?_, ?_, ?_⟩
        · rw [y3]
          show _ = nI (tX A 3 i)
          split
          · rfl
          · rw [(wz i (by omega)).1]
            rfl
        · rw [y4]
          show _ = nI (tX A 5 i)
          split
          · rfl
          · rw [(wz i (by omega)).2]
            rfl
        · rw [y5]
          show _ = if (2 ^ tX A 0 1 - 1).testBit i = true then (1 : Int32) else 0
          rw [onBt]
          by_cases z : i < tX A 0 1
          · rw [if_pos z, decide_eq_true z]
            rfl
          · rw [if_neg z, decide_eq_false z]
            rfl
      · rw [k3 _ (by omega), f30]
        rfl
      · rw [gI_ne (by omega), gI_ne (by omega), gI_eq]
        rfl
      · rw [k3 _ (by omega), f32]
        rfl
    · intro o h2 k ho hI hk
      obtain ⟨o2, f2, f30, f32⟩ := hI
      have hL2 : LM h2.2 := by rw [o2.1]; exact hL1
      have k2 : ∀ a j, a ≠ 334 → gI h2 a j = gI h a j := fun a j z => by rw [o2.2 _ _ z, o1.2 _ _ z]
      have g18_2 : gI h2 299 18 = nI s := by rw [k2 _ _ (by omega)]; exact g18
      unfold bX10_begins_23
      dsimp only
      repeat (first | with_reducible apply v_lt | ((with_reducible apply w_MR); exact hL2; rfl) | ((with_reducible apply w_lv); exact hL2; assumption) | ((with_reducible apply vMI); exact hL2) | ((with_reducible apply vMS); exact hL2) | ((with_reducible apply vMC); exact hL2) | ((with_reducible apply vMZ); exact hL2; (first | exact Or.inl rfl | exact Or.inr rfl | exact b2i_01 _ | assumption)) | ((first | with_reducible apply w_MA | with_reducible apply w_MW | with_reducible apply w_MY | with_reducible apply w_MB | with_reducible apply w_MJ | with_reducible apply w_MK); exact hL2; rfl; rfl; rfl; (first | with_reducible rfl | with_reducible exact ixo _ | with_reducible exact ixoc _ _ | with_reducible exact ixom _ _ _ | with_reducible exact ixop _ _ | with_reducible exact ixod _ _ | assumption); omega))
      rw [k2 312 _ (by omega), t2]
      refine v_ie (nI_ge ho (by omega)) ?_
      have b1 : gI h2 313 (6 * s + o) = nI (tX A 3 o) := by rw [k2 _ _ (by omega)]; exact (t8 o ho).1
      have b2 : gI h2 315 (6 * s + o) = nI (tX A 5 o) := by rw [k2 _ _ (by omega)]; exact (t8 o ho).2.2
      repeat (first | with_reducible apply v_lt | ((with_reducible apply w_MR); exact hL2; rfl) | ((with_reducible apply w_lv); exact hL2; assumption) | ((with_reducible apply vMI); exact hL2) | ((with_reducible apply vMS); exact hL2) | ((with_reducible apply vMC); exact hL2) | ((with_reducible apply vMZ); exact hL2; (first | exact Or.inl rfl | exact Or.inr rfl | exact b2i_01 _ | assumption)) | ((first | with_reducible apply w_MA | with_reducible apply w_MW | with_reducible apply w_MY | with_reducible apply w_MB | with_reducible apply w_MJ | with_reducible apply w_MK); exact hL2; rfl; rfl; rfl; (first | with_reducible rfl | with_reducible exact ixo _ | with_reducible exact ixoc _ _ | with_reducible exact ixom _ _ _ | with_reducible exact ixop _ _ | with_reducible exact ixod _ _ | assumption); omega))
      rw [b1]
      have g18_3 : gI (uI h2 334 (12 + o) (nI (tX A 3 o))) 299 18 = nI s := by rw [gI_ne (by omega)]; exact g18_2
      repeat (first | with_reducible apply v_lt | ((with_reducible apply w_MR); exact hL2; rfl) | ((with_reducible apply w_lv); exact hL2; assumption) | ((with_reducible apply vMI); exact hL2) | ((with_reducible apply vMS); exact hL2) | ((with_reducible apply vMC); exact hL2) | ((with_reducible apply vMZ); exact hL2; (first | exact Or.inl rfl | exact Or.inr rfl | exact b2i_01 _ | assumption)) | ((first | with_reducible apply w_MA | with_reducible apply w_MW | with_reducible apply w_MY | with_reducible apply w_MB | with_reducible apply w_MJ | with_reducible apply w_MK); exact hL2; rfl; rfl; rfl; (first | with_reducible rfl | with_reducible exact ixo _ | with_reducible exact ixoc _ _ | with_reducible exact ixom _ _ _ | with_reducible exact ixop _ _ | with_reducible exact ixod _ _ | assumption); omega))
      rw [gI_ne (by omega), b2]
      refine hk _ ⟨eo_uI (eo_uI (eo_uI o2 rfl) rfl) rfl, fun i hi => ?_, ?_, ?_⟩
      · obtain ⟨y1, y2, y3, y4, y5⟩ := f2 i hi
        refine ⟨?_, ?_, ?_, ?_, ?_⟩
        · rw [gI_ne (by omega), gI_ne (by omega), gI_ne (by omega)]; exact y1
        · rw [gI_ne (by omega), gI_ne (by omega), gI_ne (by omega)]; exact y2
        · rw [gI_ne (by omega), gI_ne (by omega)]
          by_cases e : i = o
          · rw [e, gI_eq, if_pos (by omega)]
          · rw [gI_ne (by omega), y3]
            by_cases z : i < o
            · rw [if_pos z, if_pos (by omega)]
            · rw [if_neg z, if_neg (by omega)]
        · rw [gI_ne (by omega)]
          by_cases e : i = o
          · rw [e, gI_eq, if_pos (by omega)]
          · rw [gI_ne (by omega), gI_ne (by omega), y4]
            by_cases z : i < o
            · rw [if_pos z, if_pos (by omega)]
            · rw [if_neg z, if_neg (by omega)]
        · by_cases e : i = o
          · rw [e, gI_eq, if_pos (by omega)]
          · rw [gI_ne (by omega), gI_ne (by omega), gI_ne (by omega), y5]
            by_cases z : i < o
            · rw [if_pos z, if_pos (by omega)]
            · rw [if_neg z, if_neg (by omega)]
      · rw [gI_ne (by omega), gI_ne (by omega), gI_ne (by omega)]; exact f30
      · rw [gI_ne (by omega), gI_ne (by omega), gI_ne (by omega)]; exact f32
  · intro j h1 k hj hI hk
    obtain ⟨o1, f1⟩ := hI
    have hL1 : LM h1.2 := by rw [o1.1]; exact hL
    unfold bX10_begins_2
    dsimp only
    refine v_ie (show ¬ nI 33 ≤ nI j from nI_ge hj (by omega)) ?_
    repeat (first | with_reducible apply v_lt | ((with_reducible apply w_MR); exact hL1; rfl) | ((with_reducible apply w_lv); exact hL1; assumption) | ((with_reducible apply vMI); exact hL1) | ((with_reducible apply vMS); exact hL1) | ((with_reducible apply vMC); exact hL1) | ((with_reducible apply vMZ); exact hL1; (first | exact Or.inl rfl | exact Or.inr rfl | exact b2i_01 _ | assumption)) | ((first | with_reducible apply w_MA | with_reducible apply w_MW | with_reducible apply w_MY | with_reducible apply w_MB | with_reducible apply w_MJ | with_reducible apply w_MK); exact hL1; rfl; rfl; rfl; (first | with_reducible rfl | with_reducible exact ixo _ | with_reducible exact ixoc _ _ | with_reducible exact ixom _ _ _ | with_reducible exact ixop _ _ | with_reducible exact ixod _ _ | assumption); omega))
    refine hk _ ⟨eo_uI o1 rfl, fun i hi => ?_⟩
    by_cases e : i = j
    · rw [e, gI_eq]
    · rw [gI_ne (by omega)]
      exact f1 i (by omega)
