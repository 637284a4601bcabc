/-! BOTH READ ALIKE: read -/
/-- what read comes to in the class -/
def sCf (u a k : Nat) : Prop := sRd u a k ∨ (a = 0 ∧ (k = 1 ∨ k = 2))
def sCs (u a k : Nat) : Prop := sCf u a k ∨ (39 ≤ a ∧ a ≤ 43) ∨ (a = 77 ∧ (k = 2 ∨ k = 4)) ∨ (a = 295 ∧ k = 3)
def clQ (t u : Nat) (R : Nat × Nat × RT) (h : mh) (x : Int32) (h1 : mh) : Prop := x = nI R.1 ∧ R.1 ≤ 5 ∧ gI h1 0 1 = nI 0 ∧ gI h1 0 2 = (if R.1 = 0 then -1 else nI R.2.1) ∧ (∀ a k, ¬ lRd u a k → gL h1 a k = gL h a k) ∧ (R.1 ≠ 0 → Ly t u h1 ∧ ∀ a k, ¬ sCf u a k → gI h1 a k = gI h a k) ∧ (R.1 = 0 → Ly u t h1 ∧ (∀ a k, ¬ sCs u a k → gI h1 a k = gI h a k) ∧ wA R.2.2 ∧ (tF R.2.2).1 = 0 ∧ txC h1 u (TA R.2.2) ∧ ngC h1 39 (NB R.2.2) ∧ gI h1 77 2 = nI 0 ∧ gI h1 77 4 = nI 0 ∧ gI h1 295 3 = nI 0)
set_option maxHeartbeats 2000000 in
theorem readC9 {fu t u n : Nat} {B : Nat → Nat} {h : mh} (hfu : 50000 ≤ fu) (y : Ly t u h) (hw : wdC h) (hb : tpC B n h) (n2 : gI h 0 1 = nI n) : ok (fX9_read fu 0 h) (clQ t u (run (tk B n) (bd9 A0) 0) h) := by
  have hT := LT_of y
  have hU := LU_of y
  have hu := hU.2
  have htu := y.2.2.2.2.2.2
  obtain ⟨R, hR⟩ : ∃ R, R = run (tk B n) (bd9 A0) 0 := ⟨_, rfl⟩
  rw [← hR]
  unfold fX9_read
  repeat (first | with_reducible apply v_lt | ((with_reducible apply vXR4); exact hT) | ((with_reducible apply w_XR); exact (LM_T hT); rfl) | ((with_reducible apply w_TR); exact hT; rfl) | ((with_reducible apply w_UR); exact hT; rfl) | ((first | with_reducible apply vXI | with_reducible apply vXS | with_reducible apply vXC); exact (LM_T hT)) | ((first | with_reducible apply vT0I | with_reducible apply vT9I | with_reducible apply vT0C | with_reducible apply vT9C | with_reducible apply vT0S | with_reducible apply vT9S); exact hT) | ((first | with_reducible apply vNR0 | with_reducible apply vNR1 | with_reducible apply vNR2 | with_reducible apply vNR3 | with_reducible apply vNI | with_reducible apply vNS | with_reducible apply vNC); (first | assumption | exact m39 | exact m44); exact (LM_T hT)) | ((first | with_reducible apply w_NA | with_reducible apply w_NW); exact (LM_T hT); (first | assumption | exact m39 | exact m44); rfl; rfl; (first | with_reducible rfl | with_reducible exact ixo _ | with_reducible exact ixoc _ _ | with_reducible exact ixom _ _ _ | with_reducible exact ixop _ _ | with_reducible exact ixod _ _ | assumption); omega) | ((first | with_reducible apply w_TA | with_reducible apply w_TW | with_reducible apply w_TJ | with_reducible apply w_TK); exact hT; rfl; rfl; (first | with_reducible rfl | with_reducible exact ixo _ | with_reducible exact ixoc _ _ | with_reducible exact ixom _ _ _ | with_reducible exact ixop _ _ | with_reducible exact ixod _ _ | assumption); omega))
  refine v0ldR (cl0 y) y.2.2.2.2.2.1 ?_
  repeat (first | with_reducible apply v_lt | ((with_reducible apply vXR4); exact hT) | ((with_reducible apply w_XR); exact (LM_T hT); rfl) | ((with_reducible apply w_TR); exact hT; rfl) | ((with_reducible apply w_UR); exact hT; rfl) | ((first | with_reducible apply vXI | with_reducible apply vXS | with_reducible apply vXC); exact (LM_T hT)) | ((first | with_reducible apply vT0I | with_reducible apply vT9I | with_reducible apply vT0C | with_reducible apply vT9C | with_reducible apply vT0S | with_reducible apply vT9S); exact hT) | ((first | with_reducible apply vNR0 | with_reducible apply vNR1 | with_reducible apply vNR2 | with_reducible apply vNR3 | with_reducible apply vNI | with_reducible apply vNS | with_reducible apply vNC); (first | assumption | exact m39 | exact m44); exact (LM_T hT)) | ((first | with_reducible apply w_NA | with_reducible apply w_NW); exact (LM_T hT); (first | assumption | exact m39 | exact m44); rfl; rfl; (first | with_reducible rfl | with_reducible exact ixo _ | with_reducible exact ixoc _ _ | with_reducible exact ixom _ _ _ | with_reducible exact ixop _ _ | with_reducible exact ixod _ _ | assumption); omega) | ((first | with_reducible apply w_TA | with_reducible apply w_TW | with_reducible apply w_TJ | with_reducible apply w_TK); exact hT; rfl; rfl; (first | with_reducible rfl | with_reducible exact ixo _ | with_reducible exact ixoc _ _ | with_reducible exact ixom _ _ _ | with_reducible exact ixop _ _ | with_reducible exact ixod _ _ | assumption); omega))
  rw [n2]
  refine v0ck (cl2 y) ?_
  refine v_bd (readC (B := B) (by omega) hU hw hb) (fun x h5 q5 => ?_)
  rw [← hR] at q5
  obtain ⟨o5, x5, le5, p5, s5⟩ := q5
  have y5 := Ly_eL o5 y
  have hT5 := LT_of y5
  repeat (first | with_reducible apply v_lt | ((with_reducible apply vXR4); exact hT5) | ((with_reducible apply w_XR); exact (LM_T hT5); rfl) | ((with_reducible apply w_TR); exact hT5; rfl) | ((with_reducible apply w_UR); exact hT5; rfl) | ((first | with_reducible apply vXI | with_reducible apply vXS | with_reducible apply vXC); exact (LM_T hT5)) | ((first | with_reducible apply vT0I | with_reducible apply vT9I | with_reducible apply vT0C | with_reducible apply vT9C | with_reducible apply vT0S | with_reducible apply vT9S); exact hT5) | ((first | with_reducible apply vNR0 | with_reducible apply vNR1 | with_reducible apply vNR2 | with_reducible apply vNR3 | with_reducible apply vNI | with_reducible apply vNS | with_reducible apply vNC); (first | assumption | exact m39 | exact m44); exact (LM_T hT5)) | ((first | with_reducible apply w_NA | with_reducible apply w_NW); exact (LM_T hT5); (first | assumption | exact m39 | exact m44); rfl; rfl; (first | with_reducible rfl | with_reducible exact ixo _ | with_reducible exact ixoc _ _ | with_reducible exact ixom _ _ _ | with_reducible exact ixop _ _ | with_reducible exact ixod _ _ | assumption); omega) | ((first | with_reducible apply w_TA | with_reducible apply w_TW | with_reducible apply w_TJ | with_reducible apply w_TK); exact hT5; rfl; rfl; (first | with_reducible rfl | with_reducible exact ixo _ | with_reducible exact ixoc _ _ | with_reducible exact ixom _ _ _ | with_reducible exact ixop _ _ | with_reducible exact ixod _ _ | assumption); omega) | ((with_reducible apply vXR0); exact (LM_T hT5)) | ((with_reducible apply vXR3); exact (LM_T hT5)) | ((with_reducible apply vXR6); exact (LM_T hT5)) | ((with_reducible apply vXR7); exact (LM_T hT5)) | ((with_reducible apply vXR8); exact (LM_T hT5)) | ((with_reducible apply vXR9); exact (LM_T hT5)) | ((with_reducible apply vXR10); exact (LM_T hT5)) | ((with_reducible apply vXI); exact (LM_T hT5)) | ((with_reducible apply vXS); exact (LM_T hT5)) | ((with_reducible apply vXZ); exact (LM_T hT5); first | exact Or.inl rfl | exact Or.inr rfl | assumption) | ((with_reducible apply vXC); exact (LM_T hT5)) | ((with_reducible apply vXR4); exact hT5) | ((with_reducible apply vX1A); exact (LM_T hT5); (first | with_reducible exact ix6 _ _ | with_reducible rfl | with_reducible exact ixc12 _ | with_reducible exact ixc18 _ | with_reducible exact ixc24 _ | with_reducible exact ixc6 _ | with_reducible exact ixl0 | with_reducible exact ixl1 | with_reducible exact ixl2 | with_reducible exact ixl3 | with_reducible exact ixl4 | with_reducible exact ixl5 | with_reducible exact ixl6 | with_reducible exact ixl7 | with_reducible exact ixl8 | with_reducible exact ixl9 | with_reducible exact ixl10 | with_reducible exact ixl11 | with_reducible exact ixl12 | with_reducible exact ixl13 | with_reducible exact ixl14 | with_reducible exact ixl15 | with_reducible exact ixl16 | with_reducible exact ixl17 | with_reducible exact ixl18 | with_reducible exact ixl19 | with_reducible exact ixl20 | with_reducible exact ixl21 | with_reducible exact ixl22 | with_reducible exact ixl23 | with_reducible exact ixl24 | with_reducible exact ixl25 | with_reducible exact ixl26 | with_reducible exact ixl27 | with_reducible exact ixl28 | with_reducible exact ixl29 | with_reducible exact ixl30 | with_reducible exact ixl31 | with_reducible exact ixl32 | with_reducible exact ix4 _ _ | with_reducible exact ix33 _ _); omega) | ((with_reducible apply vX1W); exact (LM_T hT5); (first | with_reducible exact ix6 _ _ | with_reducible rfl | with_reducible exact ixc12 _ | with_reducible exact ixc18 _ | with_reducible exact ixc24 _ | with_reducible exact ixc6 _ | with_reducible exact ixl0 | with_reducible exact ixl1 | with_reducible exact ixl2 | with_reducible exact ixl3 | with_reducible exact ixl4 | with_reducible exact ixl5 | with_reducible exact ixl6 | with_reducible exact ixl7 | with_reducible exact ixl8 | with_reducible exact ixl9 | with_reducible exact ixl10 | with_reducible exact ixl11 | with_reducible exact ixl12 | with_reducible exact ixl13 | with_reducible exact ixl14 | with_reducible exact ixl15 | with_reducible exact ixl16 | with_reducible exact ixl17 | with_reducible exact ixl18 | with_reducible exact ixl19 | with_reducible exact ixl20 | with_reducible exact ixl21 | with_reducible exact ixl22 | with_reducible exact ixl23 | with_reducible exact ixl24 | with_reducible exact ixl25 | with_reducible exact ixl26 | with_reducible exact ixl27 | with_reducible exact ixl28 | with_reducible exact ixl29 | with_reducible exact ixl30 | with_reducible exact ixl31 | with_reducible exact ixl32 | with_reducible exact ix4 _ _ | with_reducible exact ix33 _ _); omega) | ((with_reducible apply v2R0); exact (LM_T hT5)) | ((with_reducible apply v2R1); exact (LM_T hT5)) | ((with_reducible apply v2I); exact (LM_T hT5)) | ((with_reducible apply v2S); exact (LM_T hT5)) | ((with_reducible apply v2Z); exact (LM_T hT5); first | exact Or.inl rfl | exact Or.inr rfl | assumption) | ((with_reducible apply v2C); exact (LM_T hT5)) | ((with_reducible apply v3R0); exact (LM_T hT5)) | ((with_reducible apply v3I); exact (LM_T hT5)) | ((with_reducible apply v3S); exact (LM_T hT5)) | ((with_reducible apply v3Z); exact (LM_T hT5); first | exact Or.inl rfl | exact Or.inr rfl | assumption) | ((with_reducible apply v3C); exact (LM_T hT5)) | ((with_reducible apply v3L); exact (LM_T hT5)) | ((with_reducible apply v3M); exact (LM_T hT5)) | ((with_reducible apply v4A); exact (LM_T hT5); (first | with_reducible exact ix6 _ _ | with_reducible rfl | with_reducible exact ixc12 _ | with_reducible exact ixc18 _ | with_reducible exact ixc24 _ | with_reducible exact ixc6 _ | with_reducible exact ixl0 | with_reducible exact ixl1 | with_reducible exact ixl2 | with_reducible exact ixl3 | with_reducible exact ixl4 | with_reducible exact ixl5 | with_reducible exact ixl6 | with_reducible exact ixl7 | with_reducible exact ixl8 | with_reducible exact ixl9 | with_reducible exact ixl10 | with_reducible exact ixl11 | with_reducible exact ixl12 | with_reducible exact ixl13 | with_reducible exact ixl14 | with_reducible exact ixl15 | with_reducible exact ixl16 | with_reducible exact ixl17 | with_reducible exact ixl18 | with_reducible exact ixl19 | with_reducible exact ixl20 | with_reducible exact ixl21 | with_reducible exact ixl22 | with_reducible exact ixl23 | with_reducible exact ixl24 | with_reducible exact ixl25 | with_reducible exact ixl26 | with_reducible exact ixl27 | with_reducible exact ixl28 | with_reducible exact ixl29 | with_reducible exact ixl30 | with_reducible exact ixl31 | with_reducible exact ixl32 | with_reducible exact ix4 _ _ | with_reducible exact ix33 _ _); omega) | ((with_reducible apply v4W); exact (LM_T hT5); (first | with_reducible exact ix6 _ _ | with_reducible rfl | with_reducible exact ixc12 _ | with_reducible exact ixc18 _ | with_reducible exact ixc24 _ | with_reducible exact ixc6 _ | with_reducible exact ixl0 | with_reducible exact ixl1 | with_reducible exact ixl2 | with_reducible exact ixl3 | with_reducible exact ixl4 | with_reducible exact ixl5 | with_reducible exact ixl6 | with_reducible exact ixl7 | with_reducible exact ixl8 | with_reducible exact ixl9 | with_reducible exact ixl10 | with_reducible exact ixl11 | with_reducible exact ixl12 | with_reducible exact ixl13 | with_reducible exact ixl14 | with_reducible exact ixl15 | with_reducible exact ixl16 | with_reducible exact ixl17 | with_reducible exact ixl18 | with_reducible exact ixl19 | with_reducible exact ixl20 | with_reducible exact ixl21 | with_reducible exact ixl22 | with_reducible exact ixl23 | with_reducible exact ixl24 | with_reducible exact ixl25 | with_reducible exact ixl26 | with_reducible exact ixl27 | with_reducible exact ixl28 | with_reducible exact ixl29 | with_reducible exact ixl30 | with_reducible exact ixl31 | with_reducible exact ixl32 | with_reducible exact ix4 _ _ | with_reducible exact ix33 _ _); omega) | ((with_reducible apply v5R8); exact (LM_T hT5)) | ((with_reducible apply v5I); exact (LM_T hT5)) | ((with_reducible apply v5S); exact (LM_T hT5)) | ((with_reducible apply v5Z); exact (LM_T hT5); first | exact Or.inl rfl | exact Or.inr rfl | assumption) | ((with_reducible apply v5C); exact (LM_T hT5)) | ((with_reducible apply v6A); exact (LM_T hT5); (first | with_reducible exact ix6 _ _ | with_reducible rfl | with_reducible exact ixc12 _ | with_reducible exact ixc18 _ | with_reducible exact ixc24 _ | with_reducible exact ixc6 _ | with_reducible exact ixl0 | with_reducible exact ixl1 | with_reducible exact ixl2 | with_reducible exact ixl3 | with_reducible exact ixl4 | with_reducible exact ixl5 | with_reducible exact ixl6 | with_reducible exact ixl7 | with_reducible exact ixl8 | with_reducible exact ixl9 | with_reducible exact ixl10 | with_reducible exact ixl11 | with_reducible exact ixl12 | with_reducible exact ixl13 | with_reducible exact ixl14 | with_reducible exact ixl15 | with_reducible exact ixl16 | with_reducible exact ixl17 | with_reducible exact ixl18 | with_reducible exact ixl19 | with_reducible exact ixl20 | with_reducible exact ixl21 | with_reducible exact ixl22 | with_reducible exact ixl23 | with_reducible exact ixl24 | with_reducible exact ixl25 | with_reducible exact ixl26 | with_reducible exact ixl27 | with_reducible exact ixl28 | with_reducible exact ixl29 | with_reducible exact ixl30 | with_reducible exact ixl31 | with_reducible exact ixl32 | with_reducible exact ix4 _ _ | with_reducible exact ix33 _ _); omega) | ((with_reducible apply v6W); exact (LM_T hT5); (first | with_reducible exact ix6 _ _ | with_reducible rfl | with_reducible exact ixc12 _ | with_reducible exact ixc18 _ | with_reducible exact ixc24 _ | with_reducible exact ixc6 _ | with_reducible exact ixl0 | with_reducible exact ixl1 | with_reducible exact ixl2 | with_reducible exact ixl3 | with_reducible exact ixl4 | with_reducible exact ixl5 | with_reducible exact ixl6 | with_reducible exact ixl7 | with_reducible exact ixl8 | with_reducible exact ixl9 | with_reducible exact ixl10 | with_reducible exact ixl11 | with_reducible exact ixl12 | with_reducible exact ixl13 | with_reducible exact ixl14 | with_reducible exact ixl15 | with_reducible exact ixl16 | with_reducible exact ixl17 | with_reducible exact ixl18 | with_reducible exact ixl19 | with_reducible exact ixl20 | with_reducible exact ixl21 | with_reducible exact ixl22 | with_reducible exact ixl23 | with_reducible exact ixl24 | with_reducible exact ixl25 | with_reducible exact ixl26 | with_reducible exact ixl27 | with_reducible exact ixl28 | with_reducible exact ixl29 | with_reducible exact ixl30 | with_reducible exact ixl31 | with_reducible exact ixl32 | with_reducible exact ix4 _ _ | with_reducible exact ix33 _ _); omega))
  have o7 : eo (fun a k => a = 0 ∧ (k = 1 ∨ k = 2)) h5 (uI (uI h5 0 1 0) 0 2 (gI h5 2 7)) := eo_uI (eo_uI eo_rf ⟨rfl, Or.inl rfl⟩) ⟨rfl, Or.inr rfl⟩
  rw [gI_ne (show ¬ (2 = 0 ∧ 7 = 1) by omega)]
  have c1 : gI (uI (uI h5 0 1 0) 0 2 (gI h5 2 7)) 0 1 = nI 0 := by
    rw [gI_ne (by omega), gI_eq]
    rfl
  have c2 : gI (uI (uI h5 0 1 0) 0 2 (gI h5 2 7)) 0 2 = gI h5 2 7 := gI_eq
  have y7 : Ly t u (uI (uI h5 0 1 0) 0 2 (gI h5 2 7)) := y5
  obtain ⟨h7, hh7⟩ : ∃ h7, h7 = uI (uI h5 0 1 0) 0 2 (gI h5 2 7) := ⟨_, rfl⟩
  rw [← hh7] at o7 c1 c2 y7 ⊢
  rw [p5] at c2
  have L7 : ∀ a k, ¬ lRd u a k → gL h7 a k = gL h a k := fun a k z => by
    rw [← o5.2.2 a k z]
    unfold gL
    rw [o7.1]
  have I7 : ∀ a k, ¬ sCf u a k → gI h7 a k = gI h a k := fun a k z => by
    rw [o7.2 _ _ (fun w => z (Or.inr w)), o5.2.1 _ _ (fun w => z (Or.inl w))]
  by_cases z : R.1 = 0
  · refine v_it (by rw [x5, z]; rfl) ?_
    obtain ⟨wa, fl, tc, lc⟩ := s5 z
    refine v0ldR (cl0 y7) y7.2.2.2.2.1 ?_
    refine v0ldR (cl0 y7) y7.2.2.2.2.2.1 ?_
    have c7 := cl0 y7
    rw [stR_of c7]
    have c8 : 0 < gN (uR h7 0 4 (some u)) ∧ gS (uR h7 0 4 (some u)) 0 = (0, 9) := c7
    rw [stR_of c8]
    have y9 := Ly_sw y7
    have i9 : ∀ a k, gI (uR (uR h7 0 4 (some u)) 0 5 (some t)) a k = gI h7 a k := fun a k => rfl
    have l9 : ∀ a k, gL (uR (uR h7 0 4 (some u)) 0 5 (some t)) a k = gL h7 a k := fun a k => rfl
    have e9 : (uR (uR h7 0 4 (some u)) 0 5 (some t)).1 = h7.1 := rfl
    obtain ⟨h9, hh9⟩ : ∃ h9, h9 = uR (uR h7 0 4 (some u)) 0 5 (some t) := ⟨_, rfl⟩
    rw [← hh9] at y9 i9 l9 e9 ⊢
    have hT9 := LT_of y9
    have t7 := tcC_eo o7 (fun a k z => by omega) tc
    have t9 : tcC u R.2.2 10 0 h9 := by
      obtain ⟨⟨a1, a2, a3, a4, a5, a6⟩, a7, a8, a9, a10, a11, a12⟩ := t7
      exact ⟨⟨by rw [i9]; exact a1, by rw [i9]; exact a2, by rw [i9]; exact a3, by rw [i9]; exact a4, by rw [i9]; exact a5, by rw [i9]; exact a6⟩, fun r hr => by rw [l9]; exact a7 r hr, fun r hr => by rw [l9]; exact a8 r hr, fun r hr z => by rw [i9]; exact a9 r hr z, fun r hr z => by rw [i9]; exact a10 r hr z, fun r hr z => by rw [i9]; exact a11 r hr z, fun l hl => by rw [i9, i9, i9]; exact a12 l hl⟩
    have tx9 : txC h9 u (TA R.2.2) := by
      refine txC_A t9 wa.1.2.1 (fun k hk => ?_)
      have q7 : lawC h7 u k (tW R.2.2 k) := by
        have := lc k hk
        revert this
        cases tW R.2.2 k with
        | none =>
          intro q
          show gI h7 _ _ = 0
          rw [o7.2 _ _ (fun z => by omega)]
          exact q
        | some A =>
          obtain ⟨ts, e⟩ := A
          intro ⟨r1, r2, s, r3, r4⟩
          exact ⟨r1, by rw [o7.2 _ _ (fun z => by omega)]; exact r2, s, by rw [o7.2 _ _ (fun z => by omega)]; exact r3, prtC_eo o7 (fun k z => by omega) (fun k z => by omega) r4⟩
      have := lawC_l (x := h9.2) q7
      rw [← e9] at this
      exact this
    repeat (first | with_reducible apply v_lt | ((with_reducible apply vXR4); exact hT9) | ((with_reducible apply w_XR); exact (LM_T hT9); rfl) | ((with_reducible apply w_TR); exact hT9; rfl) | ((with_reducible apply w_UR); exact hT9; rfl) | ((first | with_reducible apply vXI | with_reducible apply vXS | with_reducible apply vXC); exact (LM_T hT9)) | ((first | with_reducible apply vT0I | with_reducible apply vT9I | with_reducible apply vT0C | with_reducible apply vT9C | with_reducible apply vT0S | with_reducible apply vT9S); exact hT9) | ((first | with_reducible apply vNR0 | with_reducible apply vNR1 | with_reducible apply vNR2 | with_reducible apply vNR3 | with_reducible apply vNI | with_reducible apply vNS | with_reducible apply vNC); (first | assumption | exact m39 | exact m44); exact (LM_T hT9)) | ((first | with_reducible apply w_NA | with_reducible apply w_NW); exact (LM_T hT9); (first | assumption | exact m39 | exact m44); rfl; rfl; (first | with_reducible rfl | with_reducible exact ixo _ | with_reducible exact ixoc _ _ | with_reducible exact ixom _ _ _ | with_reducible exact ixop _ _ | with_reducible exact ixod _ _ | assumption); omega) | ((first | with_reducible apply w_TA | with_reducible apply w_TW | with_reducible apply w_TJ | with_reducible apply w_TK); exact hT9; rfl; rfl; (first | with_reducible rfl | with_reducible exact ixo _ | with_reducible exact ixoc _ _ | with_reducible exact ixom _ _ _ | with_reducible exact ixop _ _ | with_reducible exact ixod _ _ | assumption); omega))
    refine v_bd (beginC0 (by omega) hT9 wa t9 hu) (fun _ h10 q10 => ?_)
    obtain ⟨o10, n10⟩ := q10
    have y10 := Ly_eo y9 o10
    have hT10 := LT_of y10
    repeat (first | with_reducible apply v_lt | ((with_reducible apply vXR4); exact hT10) | ((with_reducible apply w_XR); exact (LM_T hT10); rfl) | ((with_reducible apply w_TR); exact hT10; rfl) | ((with_reducible apply w_UR); exact hT10; rfl) | ((first | with_reducible apply vXI | with_reducible apply vXS | with_reducible apply vXC); exact (LM_T hT10)) | ((first | with_reducible apply vT0I | with_reducible apply vT9I | with_reducible apply vT0C | with_reducible apply vT9C | with_reducible apply vT0S | with_reducible apply vT9S); exact hT10) | ((first | with_reducible apply vNR0 | with_reducible apply vNR1 | with_reducible apply vNR2 | with_reducible apply vNR3 | with_reducible apply vNI | with_reducible apply vNS | with_reducible apply vNC); (first | assumption | exact m39 | exact m44); exact (LM_T hT10)) | ((first | with_reducible apply w_NA | with_reducible apply w_NW); exact (LM_T hT10); (first | assumption | exact m39 | exact m44); rfl; rfl; (first | with_reducible rfl | with_reducible exact ixo _ | with_reducible exact ixoc _ _ | with_reducible exact ixom _ _ _ | with_reducible exact ixop _ _ | with_reducible exact ixod _ _ | assumption); omega) | ((first | with_reducible apply w_TA | with_reducible apply w_TW | with_reducible apply w_TJ | with_reducible apply w_TK); exact hT10; rfl; rfl; (first | with_reducible rfl | with_reducible exact ixo _ | with_reducible exact ixoc _ _ | with_reducible exact ixom _ _ _ | with_reducible exact ixop _ _ | with_reducible exact ixod _ _ | assumption); omega) | ((with_reducible apply vXR0); exact (LM_T hT10)) | ((with_reducible apply vXR3); exact (LM_T hT10)) | ((with_reducible apply vXR6); exact (LM_T hT10)) | ((with_reducible apply vXR7); exact (LM_T hT10)) | ((with_reducible apply vXR8); exact (LM_T hT10)) | ((with_reducible apply vXR9); exact (LM_T hT10)) | ((with_reducible apply vXR10); exact (LM_T hT10)) | ((with_reducible apply vXI); exact (LM_T hT10)) | ((with_reducible apply vXS); exact (LM_T hT10)) | ((with_reducible apply vXZ); exact (LM_T hT10); first | exact Or.inl rfl | exact Or.inr rfl | assumption) | ((with_reducible apply vXC); exact (LM_T hT10)) | ((with_reducible apply vXR4); exact hT10) | ((with_reducible apply vX1A); exact (LM_T hT10); (first | with_reducible exact ix6 _ _ | with_reducible rfl | with_reducible exact ixc12 _ | with_reducible exact ixc18 _ | with_reducible exact ixc24 _ | with_reducible exact ixc6 _ | with_reducible exact ixl0 | with_reducible exact ixl1 | with_reducible exact ixl2 | with_reducible exact ixl3 | with_reducible exact ixl4 | with_reducible exact ixl5 | with_reducible exact ixl6 | with_reducible exact ixl7 | with_reducible exact ixl8 | with_reducible exact ixl9 | with_reducible exact ixl10 | with_reducible exact ixl11 | with_reducible exact ixl12 | with_reducible exact ixl13 | with_reducible exact ixl14 | with_reducible exact ixl15 | with_reducible exact ixl16 | with_reducible exact ixl17 | with_reducible exact ixl18 | with_reducible exact ixl19 | with_reducible exact ixl20 | with_reducible exact ixl21 | with_reducible exact ixl22 | with_reducible exact ixl23 | with_reducible exact ixl24 | with_reducible exact ixl25 | with_reducible exact ixl26 | with_reducible exact ixl27 | with_reducible exact ixl28 | with_reducible exact ixl29 | with_reducible exact ixl30 | with_reducible exact ixl31 | with_reducible exact ixl32 | with_reducible exact ix4 _ _ | with_reducible exact ix33 _ _); omega) | ((with_reducible apply vX1W); exact (LM_T hT10); (first | with_reducible exact ix6 _ _ | with_reducible rfl | with_reducible exact ixc12 _ | with_reducible exact ixc18 _ | with_reducible exact ixc24 _ | with_reducible exact ixc6 _ | with_reducible exact ixl0 | with_reducible exact ixl1 | with_reducible exact ixl2 | with_reducible exact ixl3 | with_reducible exact ixl4 | with_reducible exact ixl5 | with_reducible exact ixl6 | with_reducible exact ixl7 | with_reducible exact ixl8 | with_reducible exact ixl9 | with_reducible exact ixl10 | with_reducible exact ixl11 | with_reducible exact ixl12 | with_reducible exact ixl13 | with_reducible exact ixl14 | with_reducible exact ixl15 | with_reducible exact ixl16 | with_reducible exact ixl17 | with_reducible exact ixl18 | with_reducible exact ixl19 | with_reducible exact ixl20 | with_reducible exact ixl21 | with_reducible exact ixl22 | with_reducible exact ixl23 | with_reducible exact ixl24 | with_reducible exact ixl25 | with_reducible exact ixl26 | with_reducible exact ixl27 | with_reducible exact ixl28 | with_reducible exact ixl29 | with_reducible exact ixl30 | with_reducible exact ixl31 | with_reducible exact ixl32 | with_reducible exact ix4 _ _ | with_reducible exact ix33 _ _); omega) | ((with_reducible apply v77R0); exact (LM_T hT10)) | ((with_reducible apply v77R3); exact (LM_T hT10)) | ((with_reducible apply v77I); exact (LM_T hT10)) | ((with_reducible apply v77S); exact (LM_T hT10)) | ((with_reducible apply v77Z); exact (LM_T hT10); first | exact Or.inl rfl | exact Or.inr rfl | assumption) | ((with_reducible apply v77C); exact (LM_T hT10)) | ((with_reducible apply v78A); exact (LM_T hT10); (first | with_reducible exact ix6 _ _ | with_reducible rfl | with_reducible exact ixc12 _ | with_reducible exact ixc18 _ | with_reducible exact ixc24 _ | with_reducible exact ixc6 _ | with_reducible exact ixl0 | with_reducible exact ixl1 | with_reducible exact ixl2 | with_reducible exact ixl3 | with_reducible exact ixl4 | with_reducible exact ixl5 | with_reducible exact ixl6 | with_reducible exact ixl7 | with_reducible exact ixl8 | with_reducible exact ixl9 | with_reducible exact ixl10 | with_reducible exact ixl11 | with_reducible exact ixl12 | with_reducible exact ixl13 | with_reducible exact ixl14 | with_reducible exact ixl15 | with_reducible exact ixl16 | with_reducible exact ixl17 | with_reducible exact ixl18 | with_reducible exact ixl19 | with_reducible exact ixl20 | with_reducible exact ixl21 | with_reducible exact ixl22 | with_reducible exact ixl23 | with_reducible exact ixl24 | with_reducible exact ixl25 | with_reducible exact ixl26 | with_reducible exact ixl27 | with_reducible exact ixl28 | with_reducible exact ixl29 | with_reducible exact ixl30 | with_reducible exact ixl31 | with_reducible exact ixl32 | with_reducible exact ix4 _ _ | with_reducible exact ix33 _ _); omega) | ((with_reducible apply v79A); exact (LM_T hT10); (first | with_reducible exact ix6 _ _ | with_reducible rfl | with_reducible exact ixc12 _ | with_reducible exact ixc18 _ | with_reducible exact ixc24 _ | with_reducible exact ixc6 _ | with_reducible exact ixl0 | with_reducible exact ixl1 | with_reducible exact ixl2 | with_reducible exact ixl3 | with_reducible exact ixl4 | with_reducible exact ixl5 | with_reducible exact ixl6 | with_reducible exact ixl7 | with_reducible exact ixl8 | with_reducible exact ixl9 | with_reducible exact ixl10 | with_reducible exact ixl11 | with_reducible exact ixl12 | with_reducible exact ixl13 | with_reducible exact ixl14 | with_reducible exact ixl15 | with_reducible exact ixl16 | with_reducible exact ixl17 | with_reducible exact ixl18 | with_reducible exact ixl19 | with_reducible exact ixl20 | with_reducible exact ixl21 | with_reducible exact ixl22 | with_reducible exact ixl23 | with_reducible exact ixl24 | with_reducible exact ixl25 | with_reducible exact ixl26 | with_reducible exact ixl27 | with_reducible exact ixl28 | with_reducible exact ixl29 | with_reducible exact ixl30 | with_reducible exact ixl31 | with_reducible exact ixl32 | with_reducible exact ix4 _ _ | with_reducible exact ix33 _ _); omega))
    unfold fX2_forgetAll
    refine v_bd (P := fun _ h' => h' = uI (uI h10 77 2 0) 77 4 0) ?_ (fun _ h11 q11 => ?_)
    · repeat (first | with_reducible apply v_lt | ((with_reducible apply vXR4); exact hT10) | ((with_reducible apply w_XR); exact (LM_T hT10); rfl) | ((with_reducible apply w_TR); exact hT10; rfl) | ((with_reducible apply w_UR); exact hT10; rfl) | ((first | with_reducible apply vXI | with_reducible apply vXS | with_reducible apply vXC); exact (LM_T hT10)) | ((first | with_reducible apply vT0I | with_reducible apply vT9I | with_reducible apply vT0C | with_reducible apply vT9C | with_reducible apply vT0S | with_reducible apply vT9S); exact hT10) | ((first | with_reducible apply vNR0 | with_reducible apply vNR1 | with_reducible apply vNR2 | with_reducible apply vNR3 | with_reducible apply vNI | with_reducible apply vNS | with_reducible apply vNC); (first | assumption | exact m39 | exact m44); exact (LM_T hT10)) | ((first | with_reducible apply w_NA | with_reducible apply w_NW); exact (LM_T hT10); (first | assumption | exact m39 | exact m44); rfl; rfl; (first | with_reducible rfl | with_reducible exact ixo _ | with_reducible exact ixoc _ _ | with_reducible exact ixom _ _ _ | with_reducible exact ixop _ _ | with_reducible exact ixod _ _ | assumption); omega) | ((first | with_reducible apply w_TA | with_reducible apply w_TW | with_reducible apply w_TJ | with_reducible apply w_TK); exact hT10; rfl; rfl; (first | with_reducible rfl | with_reducible exact ixo _ | with_reducible exact ixoc _ _ | with_reducible exact ixom _ _ _ | with_reducible exact ixop _ _ | with_reducible exact ixod _ _ | assumption); omega) | ((with_reducible apply vXR0); exact (LM_T hT10)) | ((with_reducible apply vXR3); exact (LM_T hT10)) | ((with_reducible apply vXR6); exact (LM_T hT10)) | ((with_reducible apply vXR7); exact (LM_T hT10)) | ((with_reducible apply vXR8); exact (LM_T hT10)) | ((with_reducible apply vXR9); exact (LM_T hT10)) | ((with_reducible apply vXR10); exact (LM_T hT10)) | ((with_reducible apply vXI); exact (LM_T hT10)) | ((with_reducible apply vXS); exact (LM_T hT10)) | ((with_reducible apply vXZ); exact (LM_T hT10); first | exact Or.inl rfl | exact Or.inr rfl | assumption) | ((with_reducible apply vXC); exact (LM_T hT10)) | ((with_reducible apply vXR4); exact hT10) | ((with_reducible apply vX1A); exact (LM_T hT10); (first | with_reducible exact ix6 _ _ | with_reducible rfl | with_reducible exact ixc12 _ | with_reducible exact ixc18 _ | with_reducible exact ixc24 _ | with_reducible exact ixc6 _ | with_reducible exact ixl0 | with_reducible exact ixl1 | with_reducible exact ixl2 | with_reducible exact ixl3 | with_reducible exact ixl4 | with_reducible exact ixl5 | with_reducible exact ixl6 | with_reducible exact ixl7 | with_reducible exact ixl8 | with_reducible exact ixl9 | with_reducible exact ixl10 | with_reducible exact ixl11 | with_reducible exact ixl12 | with_reducible exact ixl13 | with_reducible exact ixl14 | with_reducible exact ixl15 | with_reducible exact ixl16 | with_reducible exact ixl17 | with_reducible exact ixl18 | with_reducible exact ixl19 | with_reducible exact ixl20 | with_reducible exact ixl21 | with_reducible exact ixl22 | with_reducible exact ixl23 | with_reducible exact ixl24 | with_reducible exact ixl25 | with_reducible exact ixl26 | with_reducible exact ixl27 | with_reducible exact ixl28 | with_reducible exact ixl29 | with_reducible exact ixl30 | with_reducible exact ixl31 | with_reducible exact ixl32 | with_reducible exact ix4 _ _ | with_reducible exact ix33 _ _); omega) | ((with_reducible apply vX1W); exact (LM_T hT10); (first | with_reducible exact ix6 _ _ | with_reducible rfl | with_reducible exact ixc12 _ | with_reducible exact ixc18 _ | with_reducible exact ixc24 _ | with_reducible exact ixc6 _ | with_reducible exact ixl0 | with_reducible exact ixl1 | with_reducible exact ixl2 | with_reducible exact ixl3 | with_reducible exact ixl4 | with_reducible exact ixl5 | with_reducible exact ixl6 | with_reducible exact ixl7 | with_reducible exact ixl8 | with_reducible exact ixl9 | with_reducible exact ixl10 | with_reducible exact ixl11 | with_reducible exact ixl12 | with_reducible exact ixl13 | with_reducible exact ixl14 | with_reducible exact ixl15 | with_reducible exact ixl16 | with_reducible exact ixl17 | with_reducible exact ixl18 | with_reducible exact ixl19 | with_reducible exact ixl20 | with_reducible exact ixl21 | with_reducible exact ixl22 | with_reducible exact ixl23 | with_reducible exact ixl24 | with_reducible exact ixl25 | with_reducible exact ixl26 | with_reducible exact ixl27 | with_reducible exact ixl28 | with_reducible exact ixl29 | with_reducible exact ixl30 | with_reducible exact ixl31 | with_reducible exact ixl32 | with_reducible exact ix4 _ _ | with_reducible exact ix33 _ _); omega) | ((with_reducible apply v77R0); exact (LM_T hT10)) | ((with_reducible apply v77R3); exact (LM_T hT10)) | ((with_reducible apply v77I); exact (LM_T hT10)) | ((with_reducible apply v77S); exact (LM_T hT10)) | ((with_reducible apply v77Z); exact (LM_T hT10); first | exact Or.inl rfl | exact Or.inr rfl | assumption) | ((with_reducible apply v77C); exact (LM_T hT10)) | ((with_reducible apply v78A); exact (LM_T hT10); (first | with_reducible exact ix6 _ _ | with_reducible rfl | with_reducible exact ixc12 _ | with_reducible exact ixc18 _ | with_reducible exact ixc24 _ | with_reducible exact ixc6 _ | with_reducible exact ixl0 | with_reducible exact ixl1 | with_reducible exact ixl2 | with_reducible exact ixl3 | with_reducible exact ixl4 | with_reducible exact ixl5 | with_reducible exact ixl6 | with_reducible exact ixl7 | with_reducible exact ixl8 | with_reducible exact ixl9 | with_reducible exact ixl10 | with_reducible exact ixl11 | with_reducible exact ixl12 | with_reducible exact ixl13 | with_reducible exact ixl14 | with_reducible exact ixl15 | with_reducible exact ixl16 | with_reducible exact ixl17 | with_reducible exact ixl18 | with_reducible exact ixl19 | with_reducible exact ixl20 | with_reducible exact ixl21 | with_reducible exact ixl22 | with_reducible exact ixl23 | with_reducible exact ixl24 | with_reducible exact ixl25 | with_reducible exact ixl26 | with_reducible exact ixl27 | with_reducible exact ixl28 | with_reducible exact ixl29 | with_reducible exact ixl30 | with_reducible exact ixl31 | with_reducible exact ixl32 | with_reducible exact ix4 _ _ | with_reducible exact ix33 _ _); omega) | ((with_reducible apply v79A); exact (LM_T hT10); (first | with_reducible exact ix6 _ _ | with_reducible rfl | with_reducible exact ixc12 _ | with_reducible exact ixc18 _ | with_reducible exact ixc24 _ | with_reducible exact ixc6 _ | with_reducible exact ixl0 | with_reducible exact ixl1 | with_reducible exact ixl2 | with_reducible exact ixl3 | with_reducible exact ixl4 | with_reducible exact ixl5 | with_reducible exact ixl6 | with_reducible exact ixl7 | with_reducible exact ixl8 | with_reducible exact ixl9 | with_reducible exact ixl10 | with_reducible exact ixl11 | with_reducible exact ixl12 | with_reducible exact ixl13 | with_reducible exact ixl14 | with_reducible exact ixl15 | with_reducible exact ixl16 | with_reducible exact ixl17 | with_reducible exact ixl18 | with_reducible exact ixl19 | with_reducible exact ixl20 | with_reducible exact ixl21 | with_reducible exact ixl22 | with_reducible exact ixl23 | with_reducible exact ixl24 | with_reducible exact ixl25 | with_reducible exact ixl26 | with_reducible exact ixl27 | with_reducible exact ixl28 | with_reducible exact ixl29 | with_reducible exact ixl30 | with_reducible exact ixl31 | with_reducible exact ixl32 | with_reducible exact ix4 _ _ | with_reducible exact ix33 _ _); omega))
      exact v_rV rfl
    subst q11
    repeat (first | with_reducible apply v_lt | ((with_reducible apply vXR4); exact hT10) | ((with_reducible apply w_XR); exact (LM_T hT10); rfl) | ((with_reducible apply w_TR); exact hT10; rfl) | ((with_reducible apply w_UR); exact hT10; rfl) | ((first | with_reducible apply vXI | with_reducible apply vXS | with_reducible apply vXC); exact (LM_T hT10)) | ((first | with_reducible apply vT0I | with_reducible apply vT9I | with_reducible apply vT0C | with_reducible apply vT9C | with_reducible apply vT0S | with_reducible apply vT9S); exact hT10) | ((first | with_reducible apply vNR0 | with_reducible apply vNR1 | with_reducible apply vNR2 | with_reducible apply vNR3 | with_reducible apply vNI | with_reducible apply vNS | with_reducible apply vNC); (first | assumption | exact m39 | exact m44); exact (LM_T hT10)) | ((first | with_reducible apply w_NA | with_reducible apply w_NW); exact (LM_T hT10); (first | assumption | exact m39 | exact m44); rfl; rfl; (first | with_reducible rfl | with_reducible exact ixo _ | with_reducible exact ixoc _ _ | with_reducible exact ixom _ _ _ | with_reducible exact ixop _ _ | with_reducible exact ixod _ _ | assumption); omega) | ((first | with_reducible apply w_TA | with_reducible apply w_TW | with_reducible apply w_TJ | with_reducible apply w_TK); exact hT10; rfl; rfl; (first | with_reducible rfl | with_reducible exact ixo _ | with_reducible exact ixoc _ _ | with_reducible exact ixom _ _ _ | with_reducible exact ixop _ _ | with_reducible exact ixod _ _ | assumption); omega) | ((with_reducible apply vXR0); exact (LM_T hT10)) | ((with_reducible apply vXR3); exact (LM_T hT10)) | ((with_reducible apply vXR6); exact (LM_T hT10)) | ((with_reducible apply vXR7); exact (LM_T hT10)) | ((with_reducible apply vXR8); exact (LM_T hT10)) | ((with_reducible apply vXR9); exact (LM_T hT10)) | ((with_reducible apply vXR10); exact (LM_T hT10)) | ((with_reducible apply vXI); exact (LM_T hT10)) | ((with_reducible apply vXS); exact (LM_T hT10)) | ((with_reducible apply vXZ); exact (LM_T hT10); first | exact Or.inl rfl | exact Or.inr rfl | assumption) | ((with_reducible apply vXC); exact (LM_T hT10)) | ((with_reducible apply vXR4); exact hT10) | ((with_reducible apply vX1A); exact (LM_T hT10); (first | with_reducible exact ix6 _ _ | with_reducible rfl | with_reducible exact ixc12 _ | with_reducible exact ixc18 _ | with_reducible exact ixc24 _ | with_reducible exact ixc6 _ | with_reducible exact ixl0 | with_reducible exact ixl1 | with_reducible exact ixl2 | with_reducible exact ixl3 | with_reducible exact ixl4 | with_reducible exact ixl5 | with_reducible exact ixl6 | with_reducible exact ixl7 | with_reducible exact ixl8 | with_reducible exact ixl9 | with_reducible exact ixl10 | with_reducible exact ixl11 | with_reducible exact ixl12 | with_reducible exact ixl13 | with_reducible exact ixl14 | with_reducible exact ixl15 | with_reducible exact ixl16 | with_reducible exact ixl17 | with_reducible exact ixl18 | with_reducible exact ixl19 | with_reducible exact ixl20 | with_reducible exact ixl21 | with_reducible exact ixl22 | with_reducible exact ixl23 | with_reducible exact ixl24 | with_reducible exact ixl25 | with_reducible exact ixl26 | with_reducible exact ixl27 | with_reducible exact ixl28 | with_reducible exact ixl29 | with_reducible exact ixl30 | with_reducible exact ixl31 | with_reducible exact ixl32 | with_reducible exact ix4 _ _ | with_reducible exact ix33 _ _); omega) | ((with_reducible apply vX1W); exact (LM_T hT10); (first | with_reducible exact ix6 _ _ | with_reducible rfl | with_reducible exact ixc12 _ | with_reducible exact ixc18 _ | with_reducible exact ixc24 _ | with_reducible exact ixc6 _ | with_reducible exact ixl0 | with_reducible exact ixl1 | with_reducible exact ixl2 | with_reducible exact ixl3 | with_reducible exact ixl4 | with_reducible exact ixl5 | with_reducible exact ixl6 | with_reducible exact ixl7 | with_reducible exact ixl8 | with_reducible exact ixl9 | with_reducible exact ixl10 | with_reducible exact ixl11 | with_reducible exact ixl12 | with_reducible exact ixl13 | with_reducible exact ixl14 | with_reducible exact ixl15 | with_reducible exact ixl16 | with_reducible exact ixl17 | with_reducible exact ixl18 | with_reducible exact ixl19 | with_reducible exact ixl20 | with_reducible exact ixl21 | with_reducible exact ixl22 | with_reducible exact ixl23 | with_reducible exact ixl24 | with_reducible exact ixl25 | with_reducible exact ixl26 | with_reducible exact ixl27 | with_reducible exact ixl28 | with_reducible exact ixl29 | with_reducible exact ixl30 | with_reducible exact ixl31 | with_reducible exact ixl32 | with_reducible exact ix4 _ _ | with_reducible exact ix33 _ _); omega) | ((with_reducible apply v295R0); exact (LM_T hT10)) | ((with_reducible apply v295R1); exact (LM_T hT10)) | ((with_reducible apply v295R2); exact (LM_T hT10)) | ((with_reducible apply v295I); exact (LM_T hT10)) | ((with_reducible apply v295S); exact (LM_T hT10)) | ((with_reducible apply v295Z); exact (LM_T hT10); first | exact Or.inl rfl | exact Or.inr rfl | assumption) | ((with_reducible apply v295C); exact (LM_T hT10)) | ((with_reducible apply v296A); exact (LM_T hT10); (first | with_reducible exact ix6 _ _ | with_reducible rfl | with_reducible exact ixc12 _ | with_reducible exact ixc18 _ | with_reducible exact ixc24 _ | with_reducible exact ixc6 _ | with_reducible exact ixl0 | with_reducible exact ixl1 | with_reducible exact ixl2 | with_reducible exact ixl3 | with_reducible exact ixl4 | with_reducible exact ixl5 | with_reducible exact ixl6 | with_reducible exact ixl7 | with_reducible exact ixl8 | with_reducible exact ixl9 | with_reducible exact ixl10 | with_reducible exact ixl11 | with_reducible exact ixl12 | with_reducible exact ixl13 | with_reducible exact ixl14 | with_reducible exact ixl15 | with_reducible exact ixl16 | with_reducible exact ixl17 | with_reducible exact ixl18 | with_reducible exact ixl19 | with_reducible exact ixl20 | with_reducible exact ixl21 | with_reducible exact ixl22 | with_reducible exact ixl23 | with_reducible exact ixl24 | with_reducible exact ixl25 | with_reducible exact ixl26 | with_reducible exact ixl27 | with_reducible exact ixl28 | with_reducible exact ixl29 | with_reducible exact ixl30 | with_reducible exact ixl31 | with_reducible exact ixl32 | with_reducible exact ix4 _ _ | with_reducible exact ix33 _ _); omega) | ((with_reducible apply v296W); exact (LM_T hT10); (first | with_reducible exact ix6 _ _ | with_reducible rfl | with_reducible exact ixc12 _ | with_reducible exact ixc18 _ | with_reducible exact ixc24 _ | with_reducible exact ixc6 _ | with_reducible exact ixl0 | with_reducible exact ixl1 | with_reducible exact ixl2 | with_reducible exact ixl3 | with_reducible exact ixl4 | with_reducible exact ixl5 | with_reducible exact ixl6 | with_reducible exact ixl7 | with_reducible exact ixl8 | with_reducible exact ixl9 | with_reducible exact ixl10 | with_reducible exact ixl11 | with_reducible exact ixl12 | with_reducible exact ixl13 | with_reducible exact ixl14 | with_reducible exact ixl15 | with_reducible exact ixl16 | with_reducible exact ixl17 | with_reducible exact ixl18 | with_reducible exact ixl19 | with_reducible exact ixl20 | with_reducible exact ixl21 | with_reducible exact ixl22 | with_reducible exact ixl23 | with_reducible exact ixl24 | with_reducible exact ixl25 | with_reducible exact ixl26 | with_reducible exact ixl27 | with_reducible exact ixl28 | with_reducible exact ixl29 | with_reducible exact ixl30 | with_reducible exact ixl31 | with_reducible exact ixl32 | with_reducible exact ix4 _ _ | with_reducible exact ix33 _ _); omega) | ((with_reducible apply v297A); exact (LM_T hT10); (first | with_reducible exact ix6 _ _ | with_reducible rfl | with_reducible exact ixc12 _ | with_reducible exact ixc18 _ | with_reducible exact ixc24 _ | with_reducible exact ixc6 _ | with_reducible exact ixl0 | with_reducible exact ixl1 | with_reducible exact ixl2 | with_reducible exact ixl3 | with_reducible exact ixl4 | with_reducible exact ixl5 | with_reducible exact ixl6 | with_reducible exact ixl7 | with_reducible exact ixl8 | with_reducible exact ixl9 | with_reducible exact ixl10 | with_reducible exact ixl11 | with_reducible exact ixl12 | with_reducible exact ixl13 | with_reducible exact ixl14 | with_reducible exact ixl15 | with_reducible exact ixl16 | with_reducible exact ixl17 | with_reducible exact ixl18 | with_reducible exact ixl19 | with_reducible exact ixl20 | with_reducible exact ixl21 | with_reducible exact ixl22 | with_reducible exact ixl23 | with_reducible exact ixl24 | with_reducible exact ixl25 | with_reducible exact ixl26 | with_reducible exact ixl27 | with_reducible exact ixl28 | with_reducible exact ixl29 | with_reducible exact ixl30 | with_reducible exact ixl31 | with_reducible exact ixl32 | with_reducible exact ix4 _ _ | with_reducible exact ix33 _ _); omega) | ((with_reducible apply v297W); exact (LM_T hT10); (first | with_reducible exact ix6 _ _ | with_reducible rfl | with_reducible exact ixc12 _ | with_reducible exact ixc18 _ | with_reducible exact ixc24 _ | with_reducible exact ixc6 _ | with_reducible exact ixl0 | with_reducible exact ixl1 | with_reducible exact ixl2 | with_reducible exact ixl3 | with_reducible exact ixl4 | with_reducible exact ixl5 | with_reducible exact ixl6 | with_reducible exact ixl7 | with_reducible exact ixl8 | with_reducible exact ixl9 | with_reducible exact ixl10 | with_reducible exact ixl11 | with_reducible exact ixl12 | with_reducible exact ixl13 | with_reducible exact ixl14 | with_reducible exact ixl15 | with_reducible exact ixl16 | with_reducible exact ixl17 | with_reducible exact ixl18 | with_reducible exact ixl19 | with_reducible exact ixl20 | with_reducible exact ixl21 | with_reducible exact ixl22 | with_reducible exact ixl23 | with_reducible exact ixl24 | with_reducible exact ixl25 | with_reducible exact ixl26 | with_reducible exact ixl27 | with_reducible exact ixl28 | with_reducible exact ixl29 | with_reducible exact ixl30 | with_reducible exact ixl31 | with_reducible exact ixl32 | with_reducible exact ix4 _ _ | with_reducible exact ix33 _ _); omega) | ((with_reducible apply v298A); exact (LM_T hT10); (first | with_reducible exact ix6 _ _ | with_reducible rfl | with_reducible exact ixc12 _ | with_reducible exact ixc18 _ | with_reducible exact ixc24 _ | with_reducible exact ixc6 _ | with_reducible exact ixl0 | with_reducible exact ixl1 | with_reducible exact ixl2 | with_reducible exact ixl3 | with_reducible exact ixl4 | with_reducible exact ixl5 | with_reducible exact ixl6 | with_reducible exact ixl7 | with_reducible exact ixl8 | with_reducible exact ixl9 | with_reducible exact ixl10 | with_reducible exact ixl11 | with_reducible exact ixl12 | with_reducible exact ixl13 | with_reducible exact ixl14 | with_reducible exact ixl15 | with_reducible exact ixl16 | with_reducible exact ixl17 | with_reducible exact ixl18 | with_reducible exact ixl19 | with_reducible exact ixl20 | with_reducible exact ixl21 | with_reducible exact ixl22 | with_reducible exact ixl23 | with_reducible exact ixl24 | with_reducible exact ixl25 | with_reducible exact ixl26 | with_reducible exact ixl27 | with_reducible exact ixl28 | with_reducible exact ixl29 | with_reducible exact ixl30 | with_reducible exact ixl31 | with_reducible exact ixl32 | with_reducible exact ix4 _ _ | with_reducible exact ix33 _ _); omega) | ((with_reducible apply v298W); exact (LM_T hT10); (first | with_reducible exact ix6 _ _ | with_reducible rfl | with_reducible exact ixc12 _ | with_reducible exact ixc18 _ | with_reducible exact ixc24 _ | with_reducible exact ixc6 _ | with_reducible exact ixl0 | with_reducible exact ixl1 | with_reducible exact ixl2 | with_reducible exact ixl3 | with_reducible exact ixl4 | with_reducible exact ixl5 | with_reducible exact ixl6 | with_reducible exact ixl7 | with_reducible exact ixl8 | with_reducible exact ixl9 | with_reducible exact ixl10 | with_reducible exact ixl11 | with_reducible exact ixl12 | with_reducible exact ixl13 | with_reducible exact ixl14 | with_reducible exact ixl15 | with_reducible exact ixl16 | with_reducible exact ixl17 | with_reducible exact ixl18 | with_reducible exact ixl19 | with_reducible exact ixl20 | with_reducible exact ixl21 | with_reducible exact ixl22 | with_reducible exact ixl23 | with_reducible exact ixl24 | with_reducible exact ixl25 | with_reducible exact ixl26 | with_reducible exact ixl27 | with_reducible exact ixl28 | with_reducible exact ixl29 | with_reducible exact ixl30 | with_reducible exact ixl31 | with_reducible exact ixl32 | with_reducible exact ix4 _ _ | with_reducible exact ix33 _ _); omega))
    obtain ⟨h12, hh12⟩ : ∃ h12, h12 = uI (uI (uI h10 77 2 0) 77 4 0) 295 3 0 := ⟨_, rfl⟩
    have o12 : eo (fun a k => (a = 77 ∧ (k = 2 ∨ k = 4)) ∨ (a = 295 ∧ k = 3)) h10 h12 := by
      rw [hh12]
      exact eo_uI (eo_uI (eo_uI eo_rf (Or.inl ⟨rfl, Or.inl rfl⟩)) (Or.inl ⟨rfl, Or.inr rfl⟩)) (Or.inr ⟨rfl, rfl⟩)
    rw [← hh12]
    have oo : eo (fun a k => (39 ≤ a ∧ a ≤ 43) ∨ (a = 77 ∧ (k = 2 ∨ k = 4)) ∨ (a = 295 ∧ k = 3)) h9 h12 := eo_tr (eo_mono o10 (fun a k z => Or.inl z)) (eo_mono o12 (fun a k z => Or.inr z))
    refine v_rI ⟨x5, le5, ?_, ?_, fun a k z => ?_, fun w => absurd z w, fun _ => ⟨Ly_eo y9 oo, fun a k w => ?_, wa, fl, txC_eo oo (fun a z1 z2 z3 k y => by omega) tx9, ngC_eo o12 (fun a z1 z2 k y => by omega) n10, ?_, ?_, ?_⟩⟩
    · rw [oo.2 _ _ (fun y => by omega), i9]
      exact c1
    · rw [oo.2 _ _ (fun y => by omega), i9]
      exact c2
    · have : gL h12 a k = gL h9 a k := by
        unfold gL
        rw [oo.1]
      rw [this, l9]
      exact L7 a k z
    · rw [oo.2 _ _ (fun y => w (Or.inr y)), i9]
      exact I7 a k (fun y => w (Or.inl y))
    · rw [hh12, gI_ne (by omega), gI_ne (by omega), gI_eq]
      rfl
    · rw [hh12, gI_ne (by omega), gI_eq]
      rfl
    · rw [hh12, gI_eq]
      rfl
  · refine v_ie (fun w => z ((nI_z (by omega)).mp (x5 ▸ w))) ?_
    exact v_rI ⟨x5, le5, c1, c2, L7, fun _ => ⟨y7, I7⟩, fun w => absurd w z⟩
set_option maxHeartbeats 2000000 in
theorem st_read {fu : Nat} (hfu : 50000 ≤ fu) (h : mh) (hS : Sim h) : pr Sim (fX9_read fu 0 h) (fun h1 => fX10_read fu 299 h1) := by
  obtain ⟨t, u, l, T, N, D, hC, hM, hTp, hUn, hSl, hTo, hKy⟩ := hS
  obtain ⟨y, tx, ng, m39', wT, wN⟩ := id hC
  obtain ⟨-, hl, g18, txm, ngm, -, -⟩ := id hM
  obtain ⟨n1, n2, n3, n4, n5⟩ := hTp
  have ht := t_hi y
  have htu := y.2.2.2.2.2.2
  obtain ⟨n, hn⟩ : ∃ n, n = dK D := ⟨_, rfl⟩
  rw [← hn] at n1 n2 n3 n4
  obtain ⟨B, hB⟩ : ∃ B : Nat → Nat, ∀ i, i < n → B i < 256 ∧ gI h 1 i = byN (B i) := by
    refine ⟨fun i => (gI h 1 i &&& 255).toNatClampNeg, fun i hi => ?_⟩
    obtain ⟨-, m, hm, em⟩ := n4 i hi
    have e : (gI h 1 i &&& 255).toNatClampNeg = m := by
      rw [em, (by_all m hm).1, nI_clamp (by omega)]
    dsimp only
    rw [e]
    exact ⟨hm, em⟩
  have wdc : wdC h := fun i hi => by rw [hKy.1 i hi]; exact words_C i hi
  obtain ⟨x, h1, ex, q⟩ := readC9 (B := B) hfu y wdc ⟨n1, hB⟩ n2
  obtain ⟨R, hR⟩ : ∃ R, R = run (tk B n) (bd9 A0) 0 := ⟨_, rfl⟩
  rw [← hR] at q
  obtain ⟨x1, le1, c1, c2, L1, qf, qs⟩ := q
  have I1 : ∀ a k, ¬ sCs u a k → gI h1 a k = gI h a k := fun a k z => by
    by_cases w : R.1 = 0
    · exact (qs w).2.1 a k z
    · exact (qf w).2 a k (fun y => z (Or.inl y))
  have nS : ∀ a k, 299 ≤ a → ¬ sCs u a k := fun a k z y => by
    unfold sCs sCf sRd at y
    omega
  have LM1 : LM h1.2 := by
    by_cases w : R.1 = 0
    · exact LM_of (qs w).1
    · exact LM_of (qf w).1
  have wdm : wdM h1 := fun i hi => by
    rw [L1 _ _ (fun z => by unfold lRd at z; omega), hKy.2 i hi]
    exact words_M i hi
  obtain ⟨x', h2, ex', q⟩ := readM (fu := fu) (B := B) (n := n) (by omega) hl LM1 wdm n1 (by rw [I1 _ _ (nS _ _ (by omega))]; exact n3) (by rw [I1 _ _ (nS _ _ (by omega))]; exact g18) (fun i hi => ⟨(hB i hi).1, by rw [I1 _ _ (nS _ _ (by omega)), ← (n4 i hi).1]; exact (hB i hi).2⟩)
  rw [← hR] at q
  obtain ⟨x2, d2, d17, rf, rs⟩ := q
  obtain ⟨s, hs⟩ : ∃ s, s = 1 - l := ⟨_, rfl⟩
  rw [← hs] at rf rs
  have exx : x' = x := x2.trans x1.symm
  subst exx
  by_cases w : R.1 = 0
  · obtain ⟨y1, i1, wa, fl, tx1, ng1, m2, m4, m3⟩ := qs w
    obtain ⟨o2, k18, tm, lm, nm, k58, k63, k341⟩ := rs w
    have y2 := Ly_eL o2 y1
    have lo : ∀ a k, a < 299 → ¬ sRs s a k := fun a k z y => by
      unfold sRs sRf at y
      rcases y with (y | y | y) | y
      · rcases y with y | y | y | y | y | y | y | y <;> omega
      · omega
      · omega
      · omega
    have I2 : ∀ a k, a < 299 → gI h2 a k = gI h1 a k := fun a k z => o2.2.1 _ _ (lo a k z)
    have oo := eo_l o2
    obtain ⟨wT', wN'⟩ := wfTA wa fl
    have hu' : u = 7 ∨ u = 23 := by omega
    have hdx := hUn.2.1
    have h77 := hUn.2.2.1
    have tx2 : txC h2 u (TA R.2.2) := txC_eo oo (fun a z1 z2 _ k => lo a k (by omega)) (txC_l tx1)
    have ng2 : ngC h2 39 (NB R.2.2) := ngC_eo oo (fun a z1 z2 k => lo a k (by omega)) (ngC_l ng1)
    have tm2 : txM h2 s (TA R.2.2) := txM_A tm wa.1.2.1 lm
    refine ⟨x', h1, h2, ex, ex', ⟨u, t, y1⟩, u, t, s, TA R.2.2, NB R.2.2, (0, 0, dX D, dP D, 0, dS D, 0, dW D), ⟨y2, tx2, ng2, m39, wT', wN'⟩, ⟨y2, by omega, k18, tm2, nm, wT', wN'⟩, ⟨Nat.zero_le _, ?_, d2, fun i hi => absurd hi (Nat.not_lt_zero i), ?_⟩, ⟨Nat.zero_le _, hdx, ?_, ?_, k58, fun i hi => absurd hi (Nat.not_lt_zero i)⟩, ⟨by show 0 < 8; omega, ?_, fun j hj => ⟨?_, fun z => ?_⟩⟩, ⟨Nat.zero_le _, ?_, k63, fun i hi => absurd hi (Nat.not_lt_zero i)⟩, ⟨fun i hi => ?_, fun i hi => ?_⟩⟩
    · rw [I2 _ _ (by omega)]; exact c1
    · rw [I2 _ _ (by omega), c2, d17]
    · rw [I2 _ _ (by omega), i1 _ _ (fun z => by unfold sCs sCf sRd at z; omega)]; exact h77
    · rw [I2 _ _ (by omega)]; exact m2
    · rw [I2 _ _ (by omega)]; exact m4
    · rw [k341 j hj]
      show 0 = b2i (Nat.testBit 0 j)
      rw [Nat.zero_testBit]
      rfl
    · have z : Nat.testBit 0 j = true := z
      rw [Nat.zero_testBit] at z
      cases z
    · rw [I2 _ _ (by omega)]; exact m3
    · rw [o2.2.2 _ _ (fun z => by unfold lRf at z; omega), L1 _ _ (fun z => by unfold lRd at z; omega)]
      exact hKy.1 i hi
    · rw [o2.2.2 _ _ (fun z => by unfold lRf at z; omega), L1 _ _ (fun z => by unfold lRd at z; omega)]
      exact hKy.2 i hi
  · obtain ⟨y1, i1⟩ := qf w
    have o2 := rf w
    have y2 := Ly_eL o2 y1
    have lo : ∀ a k, a < 299 → ¬ sRf s a k := fun a k z y => by
      unfold sRf at y
      rcases y with y | y | y
      · rcases y with y | y | y | y | y | y | y | y <;> omega
      · omega
      · omega
    have hi' : ∀ a k, 331 ≤ a → ¬ sRf s a k := fun a k z y => by
      unfold sRf at y
      rcases y with y | y | y
      · rcases y with y | y | y | y | y | y | y | y <;> omega
      · omega
      · omega
    have f9 : ∀ k, (k = 18 ∨ k = 58 ∨ k = 63) → ¬ sRf s 299 k := fun k z y => by
      unfold sRf at y
      rcases y with y | y | y
      · rcases y with y | y | y | y | y | y | y | y <;> omega
      · omega
      · omega
    have G : ∀ a k, ¬ sCf u a k → ¬ sRf s a k → gI h2 a k = gI h a k := fun a k z1 z2 => by rw [o2.2.1 _ _ z2, i1 _ _ z1]
    have oo : eo (fun a k => sCf u a k ∨ sRf s a k) (h.1, h2.2) h2 := ⟨rfl, fun a k z => G a k (fun y => z (Or.inl y)) (fun y => z (Or.inr y))⟩
    have nC : ∀ a k, 299 ≤ a → ¬ sCf u a k := fun a k z y => by
      unfold sCf sRd at y
      omega
    refine ⟨x', h1, h2, ex, ex', ⟨t, u, y1⟩, t, u, l, T, N, (0, dU D, dX D, dP D, dH D, dS D, dT D, dW D), ⟨y2, ?_, ?_, m39', wT, wN⟩, ⟨y2, hl, ?_, ?_, ?_, wT, wN⟩, ⟨Nat.zero_le _, ?_, d2, fun i hi => absurd hi (Nat.not_lt_zero i), ?_⟩, ?_, ?_, ?_, ⟨fun i hi => ?_, fun i hi => ?_⟩⟩
    · refine txC_eo oo (fun a z1 z2 _ k z => ?_) (txC_l tx)
      rcases z with z | z
      · unfold sCf sRd at z; omega
      · exact lo a k (by omega) z
    · refine ngC_eo oo (fun a z1 z2 k z => ?_) (ngC_l ng)
      rcases z with z | z
      · unfold sCf sRd at z; omega
      · exact lo a k (by omega) z
    · rw [G _ _ (nC _ _ (by omega)) (f9 _ (by omega))]
      exact g18
    · refine txM_sd (S := fun a k => sCf u a k ∨ sRf s a k) (SL := fun _ _ => True) hl hs wT.1 wT.2.1 (h := (h.1, h2.2)) ⟨rfl, oo.2, fun _ _ z => absurd trivial z⟩ (fun a k z1 z2 z => ?_) ?_
      · rcases z with z | z | z | z
        · exact absurd z (nC _ _ (by omega))
        · exact z
        · omega
        · omega
      · obtain ⟨q1, q2, q3, q4, q5, q6, q7, q8⟩ := txm
        refine ⟨q1, q2, q3, q4, q5, q6, q7, fun k hk => ?_⟩
        have := q8 k hk
        revert this
        cases lw9 T k with
        | none => exact fun q => q
        | some A =>
          obtain ⟨ts, e⟩ := A
          intro ⟨f, r1, r2, r3, r4⟩
          exact ⟨f, r1, r2, r3, fun h3 sd => r4 h3 ⟨fun a j j1 j2 j3 j4 => sd.1 a j j1 j2 j3 j4, fun a j j1 j2 j3 j4 => sd.2 a j j1 j2 j3 j4⟩⟩
    · refine ngM_eo oo (fun k z => ?_) (ngM_l ngm)
      rcases z with z | z
      · exact nC _ _ (by omega) z
      · exact hi' _ _ (by omega) z
    · rw [o2.2.1 _ _ (lo _ _ (by omega))]; exact c1
    · rw [o2.2.1 _ _ (lo _ _ (by omega)), c2, d17]
    · refine rUn_eo oo (fun a j z z2 => ?_) (rUn_l hUn)
      rcases z with z | z
      · unfold sCf sRd at z; omega
      · rcases z2 with z2 | z2 | z2
        · exact lo a j (by omega) z
        · rw [z2.1, z2.2] at z
          exact f9 _ (by omega) z
        · exact hi' a j (by omega) z
    · refine rSl_eo oo (fun a j z z2 => ?_) (rSl_l hSl)
      rcases z with z | z
      · unfold sCf sRd at z; omega
      · rcases z2 with z2 | z2 | z2 | z2
        · exact lo a j (by omega) z
        · exact lo a j (by omega) z
        · exact hi' a j (by omega) z
        · exact hi' a j (by omega) z
    · refine rTo_eo oo (fun a j z z2 => ?_) (rTo_l hTo)
      rcases z with z | z
      · unfold sCf sRd at z; omega
      · rcases z2 with z2 | z2 | z2 | z2
        · exact lo a j (by omega) z
        · rw [z2.1, z2.2] at z
          exact f9 _ (by omega) z
        · exact hi' a j (by omega) z
        · exact hi' a j (by omega) z
    · rw [o2.2.2 _ _ (fun z => by unfold lRf at z; omega), L1 _ _ (fun z => by unfold lRd at z; omega)]
      exact hKy.1 i hi
    · rw [o2.2.2 _ _ (fun z => by unfold lRf at z; omega), L1 _ _ (fun z => by unfold lRd at z; omega)]
      exact hKy.2 i hi
