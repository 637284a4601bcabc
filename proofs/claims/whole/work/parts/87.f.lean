/-! THE CLASS READS: a token taken -/
/-- what take comes to -/
def takn (u : Nat) (M : MZ) (q : Tk) (i : Nat) (h : mh) (x : Int32) (h' : mh) : Prop := eL (sRd u) (lRd u) h h' ∧ (∀ k, gI h' 3 k = gI h 3 k) ∧ x = nI (stp M q).1 ∧ ((stp M q).1 = 0 → relC u (stp M q).2 (i + 1) h')
theorem sc_op : ∀ k, k < 100 → (soC k < 0 ↔ k = 99) ∧ (soC k ≤ 9 ↔ k ≤ 9 ∨ k = 99) := by decide +kernel
theorem sc_fm : ∀ k, k < 100 → (soC k = nI 22 ↔ k = 22) ∧ (soC k = nI 23 ↔ k = 23) ∧ (soC k = nI 59 ↔ k = 59) := by decide +kernel
theorem isLawC {fu k : Nat} {h : mh} (hk : k ≤ 10) : fX5_isLaw fu (nI k) h = some (b2i (decide (3 ≤ k ∧ k < 7)), h) := by
  refine ok_eq ?_
  unfold fX5_isLaw
  by_cases z : k < 3
  · rw [decide_eq_false (by omega)]
    exact v_it (show nI k < nI 3 from nI_lt z (by omega)) (v_rZ (Or.inl rfl) ⟨rfl, rfl⟩)
  · refine v_ie (show ¬ nI k < nI 3 from nI_nlt (by omega) (by omega)) ?_
    by_cases z2 : 7 ≤ k
    · rw [decide_eq_false (by omega)]
      exact v_it (show nI 7 ≤ nI k from nI_le z2 (by omega)) (v_rZ (Or.inl rfl) ⟨rfl, rfl⟩)
    · rw [decide_eq_true (show 3 ≤ k ∧ k < 7 by omega)]
      exact v_ie (show ¬ nI 7 ≤ nI k from nI_ge (by omega) (by omega)) (v_rZ (Or.inr rfl) ⟨rfl, rfl⟩)
theorem roomC {fu u k tl st : Nat} {A : RT} {h : mh} (hU : LU u h.2) (w : wA A) (t : tcC u A tl st h) (hk : k ≤ 10) : fX5_hasRoomFor fu u (nI k) h = some (b2i (!(fulB A k)), h) := by
  obtain ⟨⟨a1, a2, a3, -⟩, -⟩ := t
  obtain ⟨w1, w2, w3⟩ := w.1
  have g : ∀ x : Nat, x ≤ 6 → ok (if ((6 : Int32)) ≤ nI x then rtZ ((0 : Int32)) h else rtZ ((1 : Int32)) h) (fun y h' => y = b2i (!(x == 6)) ∧ h' = h) := by
    intro x hx
    by_cases z : x = 6
    · subst z
      exact v_it (by decide) (v_rZ (Or.inl rfl) ⟨rfl, rfl⟩)
    · have : (x == 6) = false := by simp [z]
      rw [this]
      exact v_ie (show ¬ nI 6 ≤ nI x from nI_ge (by omega) (by omega)) (v_rZ (Or.inr rfl) ⟨rfl, rfl⟩)
  refine ok_eq ?_
  unfold fX5_hasRoomFor
  by_cases z0 : k = 0
  · subst z0
    refine v_it rfl ?_
    repeat (first | with_reducible apply v_lt | ((with_reducible apply y_TR); exact hU; rfl) | ((with_reducible apply y_UR); exact hU; rfl) | ((first | with_reducible apply y_0I | with_reducible apply y_9I | with_reducible apply y_0C | with_reducible apply y_9C | with_reducible apply y_0S | with_reducible apply y_9S); exact hU) | ((first | with_reducible apply y_TA | with_reducible apply y_TW | with_reducible apply y_TJ | with_reducible apply y_TK); exact hU; rfl; rfl; (first | with_reducible rfl | with_reducible exact ixo _ | with_reducible exact ixoc _ _ | with_reducible exact ixom _ _ _ | with_reducible exact ixop _ _ | with_reducible exact ixod _ _ | assumption); omega) | ((with_reducible apply v2R0); exact (And.left hU)) | ((with_reducible apply v2R1); exact (And.left hU)) | ((with_reducible apply v2I); exact (And.left hU)) | ((with_reducible apply v2S); exact (And.left hU)) | ((with_reducible apply v2Z); exact (And.left hU); first | exact Or.inl rfl | exact Or.inr rfl | assumption) | ((with_reducible apply v2C); exact (And.left hU)) | ((with_reducible apply v3R0); exact (And.left hU)) | ((with_reducible apply v3I); exact (And.left hU)) | ((with_reducible apply v3S); exact (And.left hU)) | ((with_reducible apply v3Z); exact (And.left hU); first | exact Or.inl rfl | exact Or.inr rfl | assumption) | ((with_reducible apply v3C); exact (And.left hU)) | ((with_reducible apply v3L); exact (And.left hU)) | ((with_reducible apply v3M); exact (And.left hU)) | ((with_reducible apply v4A); exact (And.left hU); (first | with_reducible rfl | with_reducible exact ixo _ | with_reducible exact ixoc _ _ | with_reducible exact ixom _ _ _ | with_reducible exact ixop _ _ | with_reducible exact ixod _ _ | assumption); omega) | ((with_reducible apply v4W); exact (And.left hU); (first | with_reducible rfl | with_reducible exact ixo _ | with_reducible exact ixoc _ _ | with_reducible exact ixom _ _ _ | with_reducible exact ixop _ _ | with_reducible exact ixod _ _ | assumption); omega) | ((with_reducible apply v5R8); exact (And.left hU)) | ((with_reducible apply v5I); exact (And.left hU)) | ((with_reducible apply v5S); exact (And.left hU)) | ((with_reducible apply v5Z); exact (And.left hU); first | exact Or.inl rfl | exact Or.inr rfl | assumption) | ((with_reducible apply v5C); exact (And.left hU)) | ((with_reducible apply v6A); exact (And.left hU); (first | with_reducible rfl | with_reducible exact ixo _ | with_reducible exact ixoc _ _ | with_reducible exact ixom _ _ _ | with_reducible exact ixop _ _ | with_reducible exact ixod _ _ | assumption); omega) | ((with_reducible apply v6W); exact (And.left hU); (first | with_reducible rfl | with_reducible exact ixo _ | with_reducible exact ixoc _ _ | with_reducible exact ixom _ _ _ | with_reducible exact ixop _ _ | with_reducible exact ixod _ _ | assumption); omega) | ((with_reducible apply vX1A); exact (And.left hU); (first | with_reducible rfl | with_reducible exact ixo _ | with_reducible exact ixoc _ _ | with_reducible exact ixom _ _ _ | with_reducible exact ixop _ _ | with_reducible exact ixod _ _ | assumption); omega))
    rw [a1]
    refine ok_mono (g _ w1) (fun y h' q => ?_)
    have : fulB A 0 = (tX A 0 0 == 6) := by unfold fulB; simp
    rw [this]
    exact q
  · refine v_ie (nI2 (b := 0) (by omega) (by omega) z0) ?_
    by_cases z1 : k = 1
    · subst z1
      refine v_it rfl ?_
      repeat (first | with_reducible apply v_lt | ((with_reducible apply y_TR); exact hU; rfl) | ((with_reducible apply y_UR); exact hU; rfl) | ((first | with_reducible apply y_0I | with_reducible apply y_9I | with_reducible apply y_0C | with_reducible apply y_9C | with_reducible apply y_0S | with_reducible apply y_9S); exact hU) | ((first | with_reducible apply y_TA | with_reducible apply y_TW | with_reducible apply y_TJ | with_reducible apply y_TK); exact hU; rfl; rfl; (first | with_reducible rfl | with_reducible exact ixo _ | with_reducible exact ixoc _ _ | with_reducible exact ixom _ _ _ | with_reducible exact ixop _ _ | with_reducible exact ixod _ _ | assumption); omega) | ((with_reducible apply v2R0); exact (And.left hU)) | ((with_reducible apply v2R1); exact (And.left hU)) | ((with_reducible apply v2I); exact (And.left hU)) | ((with_reducible apply v2S); exact (And.left hU)) | ((with_reducible apply v2Z); exact (And.left hU); first | exact Or.inl rfl | exact Or.inr rfl | assumption) | ((with_reducible apply v2C); exact (And.left hU)) | ((with_reducible apply v3R0); exact (And.left hU)) | ((with_reducible apply v3I); exact (And.left hU)) | ((with_reducible apply v3S); exact (And.left hU)) | ((with_reducible apply v3Z); exact (And.left hU); first | exact Or.inl rfl | exact Or.inr rfl | assumption) | ((with_reducible apply v3C); exact (And.left hU)) | ((with_reducible apply v3L); exact (And.left hU)) | ((with_reducible apply v3M); exact (And.left hU)) | ((with_reducible apply v4A); exact (And.left hU); (first | with_reducible rfl | with_reducible exact ixo _ | with_reducible exact ixoc _ _ | with_reducible exact ixom _ _ _ | with_reducible exact ixop _ _ | with_reducible exact ixod _ _ | assumption); omega) | ((with_reducible apply v4W); exact (And.left hU); (first | with_reducible rfl | with_reducible exact ixo _ | with_reducible exact ixoc _ _ | with_reducible exact ixom _ _ _ | with_reducible exact ixop _ _ | with_reducible exact ixod _ _ | assumption); omega) | ((with_reducible apply v5R8); exact (And.left hU)) | ((with_reducible apply v5I); exact (And.left hU)) | ((with_reducible apply v5S); exact (And.left hU)) | ((with_reducible apply v5Z); exact (And.left hU); first | exact Or.inl rfl | exact Or.inr rfl | assumption) | ((with_reducible apply v5C); exact (And.left hU)) | ((with_reducible apply v6A); exact (And.left hU); (first | with_reducible rfl | with_reducible exact ixo _ | with_reducible exact ixoc _ _ | with_reducible exact ixom _ _ _ | with_reducible exact ixop _ _ | with_reducible exact ixod _ _ | assumption); omega) | ((with_reducible apply v6W); exact (And.left hU); (first | with_reducible rfl | with_reducible exact ixo _ | with_reducible exact ixoc _ _ | with_reducible exact ixom _ _ _ | with_reducible exact ixop _ _ | with_reducible exact ixod _ _ | assumption); omega) | ((with_reducible apply vX1A); exact (And.left hU); (first | with_reducible rfl | with_reducible exact ixo _ | with_reducible exact ixoc _ _ | with_reducible exact ixom _ _ _ | with_reducible exact ixop _ _ | with_reducible exact ixod _ _ | assumption); omega))
      rw [a2]
      refine ok_mono (g _ w2) (fun y h' q => ?_)
      have : fulB A 1 = (tX A 0 1 == 6) := by unfold fulB; simp
      rw [this]
      exact q
    · refine v_ie (nI2 (b := 1) (by omega) (by omega) z1) ?_
      by_cases z2 : k = 2
      · subst z2
        refine v_it rfl ?_
        repeat (first | with_reducible apply v_lt | ((with_reducible apply y_TR); exact hU; rfl) | ((with_reducible apply y_UR); exact hU; rfl) | ((first | with_reducible apply y_0I | with_reducible apply y_9I | with_reducible apply y_0C | with_reducible apply y_9C | with_reducible apply y_0S | with_reducible apply y_9S); exact hU) | ((first | with_reducible apply y_TA | with_reducible apply y_TW | with_reducible apply y_TJ | with_reducible apply y_TK); exact hU; rfl; rfl; (first | with_reducible rfl | with_reducible exact ixo _ | with_reducible exact ixoc _ _ | with_reducible exact ixom _ _ _ | with_reducible exact ixop _ _ | with_reducible exact ixod _ _ | assumption); omega) | ((with_reducible apply v2R0); exact (And.left hU)) | ((with_reducible apply v2R1); exact (And.left hU)) | ((with_reducible apply v2I); exact (And.left hU)) | ((with_reducible apply v2S); exact (And.left hU)) | ((with_reducible apply v2Z); exact (And.left hU); first | exact Or.inl rfl | exact Or.inr rfl | assumption) | ((with_reducible apply v2C); exact (And.left hU)) | ((with_reducible apply v3R0); exact (And.left hU)) | ((with_reducible apply v3I); exact (And.left hU)) | ((with_reducible apply v3S); exact (And.left hU)) | ((with_reducible apply v3Z); exact (And.left hU); first | exact Or.inl rfl | exact Or.inr rfl | assumption) | ((with_reducible apply v3C); exact (And.left hU)) | ((with_reducible apply v3L); exact (And.left hU)) | ((with_reducible apply v3M); exact (And.left hU)) | ((with_reducible apply v4A); exact (And.left hU); (first | with_reducible rfl | with_reducible exact ixo _ | with_reducible exact ixoc _ _ | with_reducible exact ixom _ _ _ | with_reducible exact ixop _ _ | with_reducible exact ixod _ _ | assumption); omega) | ((with_reducible apply v4W); exact (And.left hU); (first | with_reducible rfl | with_reducible exact ixo _ | with_reducible exact ixoc _ _ | with_reducible exact ixom _ _ _ | with_reducible exact ixop _ _ | with_reducible exact ixod _ _ | assumption); omega) | ((with_reducible apply v5R8); exact (And.left hU)) | ((with_reducible apply v5I); exact (And.left hU)) | ((with_reducible apply v5S); exact (And.left hU)) | ((with_reducible apply v5Z); exact (And.left hU); first | exact Or.inl rfl | exact Or.inr rfl | assumption) | ((with_reducible apply v5C); exact (And.left hU)) | ((with_reducible apply v6A); exact (And.left hU); (first | with_reducible rfl | with_reducible exact ixo _ | with_reducible exact ixoc _ _ | with_reducible exact ixom _ _ _ | with_reducible exact ixop _ _ | with_reducible exact ixod _ _ | assumption); omega) | ((with_reducible apply v6W); exact (And.left hU); (first | with_reducible rfl | with_reducible exact ixo _ | with_reducible exact ixoc _ _ | with_reducible exact ixom _ _ _ | with_reducible exact ixop _ _ | with_reducible exact ixod _ _ | assumption); omega) | ((with_reducible apply vX1A); exact (And.left hU); (first | with_reducible rfl | with_reducible exact ixo _ | with_reducible exact ixoc _ _ | with_reducible exact ixom _ _ _ | with_reducible exact ixop _ _ | with_reducible exact ixod _ _ | assumption); omega))
        rw [a3]
        refine ok_mono (g _ w3) (fun y h' q => ?_)
        have : fulB A 2 = (tX A 0 2 == 6) := by unfold fulB; simp
        rw [this]
        exact q
      · refine v_ie (nI2 (b := 2) (by omega) (by omega) z2) ?_
        have : fulB A k = false := by unfold fulB; simp [z0, z1, z2]
        rw [this]
        exact v_rZ (Or.inr rfl) ⟨rfl, rfl⟩
set_option maxHeartbeats 1000000 in
theorem openR {fu u i st : Nat} {A : RT} {rl : Option Nat} {q : Tk} {h : mh} (hU : LU u h.2) (w : wA A) (r : relC u (A, 10, st, rl, none) i h) (hq : tkC h q) (hk : tkK q < 100) : ok (fX5_openTell fu 2 u h) (takn u (A, 10, st, rl, none) q i h) := by
  have hu := hU.2
  obtain ⟨t, ⟨cz, lw⟩, hF, hR⟩ := r
  dsimp only at t lw hF hR
  obtain ⟨s1, s2⟩ := sc_op _ hk
  have hs := hq.2.1
  unfold fX5_openTell
  repeat (first | with_reducible apply v_lt | ((with_reducible apply y_TR); exact hU; rfl) | ((with_reducible apply y_UR); exact hU; rfl) | ((first | with_reducible apply y_0I | with_reducible apply y_9I | with_reducible apply y_0C | with_reducible apply y_9C | with_reducible apply y_0S | with_reducible apply y_9S); exact hU) | ((first | with_reducible apply y_TA | with_reducible apply y_TW | with_reducible apply y_TJ | with_reducible apply y_TK); exact hU; rfl; rfl; (first | with_reducible rfl | with_reducible exact ixo _ | with_reducible exact ixoc _ _ | with_reducible exact ixom _ _ _ | with_reducible exact ixop _ _ | with_reducible exact ixod _ _ | assumption); omega) | ((with_reducible apply v2R0); exact (And.left hU)) | ((with_reducible apply v2R1); exact (And.left hU)) | ((with_reducible apply v2I); exact (And.left hU)) | ((with_reducible apply v2S); exact (And.left hU)) | ((with_reducible apply v2Z); exact (And.left hU); first | exact Or.inl rfl | exact Or.inr rfl | assumption) | ((with_reducible apply v2C); exact (And.left hU)) | ((with_reducible apply v3R0); exact (And.left hU)) | ((with_reducible apply v3I); exact (And.left hU)) | ((with_reducible apply v3S); exact (And.left hU)) | ((with_reducible apply v3Z); exact (And.left hU); first | exact Or.inl rfl | exact Or.inr rfl | assumption) | ((with_reducible apply v3C); exact (And.left hU)) | ((with_reducible apply v3L); exact (And.left hU)) | ((with_reducible apply v3M); exact (And.left hU)) | ((with_reducible apply v4A); exact (And.left hU); (first | with_reducible rfl | with_reducible exact ixo _ | with_reducible exact ixoc _ _ | with_reducible exact ixom _ _ _ | with_reducible exact ixop _ _ | with_reducible exact ixod _ _ | assumption); omega) | ((with_reducible apply v4W); exact (And.left hU); (first | with_reducible rfl | with_reducible exact ixo _ | with_reducible exact ixoc _ _ | with_reducible exact ixom _ _ _ | with_reducible exact ixop _ _ | with_reducible exact ixod _ _ | assumption); omega) | ((with_reducible apply v5R8); exact (And.left hU)) | ((with_reducible apply v5I); exact (And.left hU)) | ((with_reducible apply v5S); exact (And.left hU)) | ((with_reducible apply v5Z); exact (And.left hU); first | exact Or.inl rfl | exact Or.inr rfl | assumption) | ((with_reducible apply v5C); exact (And.left hU)) | ((with_reducible apply v6A); exact (And.left hU); (first | with_reducible rfl | with_reducible exact ixo _ | with_reducible exact ixoc _ _ | with_reducible exact ixom _ _ _ | with_reducible exact ixop _ _ | with_reducible exact ixod _ _ | assumption); omega) | ((with_reducible apply v6W); exact (And.left hU); (first | with_reducible rfl | with_reducible exact ixo _ | with_reducible exact ixoc _ _ | with_reducible exact ixom _ _ _ | with_reducible exact ixop _ _ | with_reducible exact ixod _ _ | assumption); omega) | ((with_reducible apply vX1A); exact (And.left hU); (first | with_reducible rfl | with_reducible exact ixo _ | with_reducible exact ixoc _ _ | with_reducible exact ixom _ _ _ | with_reducible exact ixop _ _ | with_reducible exact ixod _ _ | assumption); omega))
  rw [hs]
  have es := stp_o (A := A) (st := st) (rl := rl) (lz := none) (q := q)
  have syn : 9 < tkK q → ok (rtI 1 h) (takn u (A, 10, st, rl, none) q i h) := by
    intro z
    rw [if_pos z] at es
    refine v_rI ⟨eL_rf, fun _ => rfl, ?_, ?_⟩
    · rw [es]
      rfl
    · rw [es]
      exact fun y => absurd y Nat.one_ne_zero
  by_cases z9 : tkK q = 99
  · exact v_it (s1.mpr z9) (syn (by omega))
  refine v_ie (fun z => z9 (s1.mp z)) ?_
  by_cases z : 9 < tkK q
  · exact v_ie (fun y => by rcases s2.mp y with y | y <;> omega) (syn z)
  refine v_it (s2.mpr (Or.inl (by omega))) ?_
  rw [if_neg z] at es
  obtain ⟨k, hkk⟩ : ∃ k, k = tkK q := ⟨_, rfl⟩
  have sk : soC (tkK q) = nI k := by
    unfold soC
    rw [if_neg z9, hkk]
  rw [sk]
  rw [← hkk] at es z z9
  repeat (first | with_reducible apply v_lt | ((with_reducible apply y_TR); exact hU; rfl) | ((with_reducible apply y_UR); exact hU; rfl) | ((first | with_reducible apply y_0I | with_reducible apply y_9I | with_reducible apply y_0C | with_reducible apply y_9C | with_reducible apply y_0S | with_reducible apply y_9S); exact hU) | ((first | with_reducible apply y_TA | with_reducible apply y_TW | with_reducible apply y_TJ | with_reducible apply y_TK); exact hU; rfl; rfl; (first | with_reducible rfl | with_reducible exact ixo _ | with_reducible exact ixoc _ _ | with_reducible exact ixom _ _ _ | with_reducible exact ixop _ _ | with_reducible exact ixod _ _ | assumption); omega) | ((with_reducible apply v2R0); exact (And.left hU)) | ((with_reducible apply v2R1); exact (And.left hU)) | ((with_reducible apply v2I); exact (And.left hU)) | ((with_reducible apply v2S); exact (And.left hU)) | ((with_reducible apply v2Z); exact (And.left hU); first | exact Or.inl rfl | exact Or.inr rfl | assumption) | ((with_reducible apply v2C); exact (And.left hU)) | ((with_reducible apply v3R0); exact (And.left hU)) | ((with_reducible apply v3I); exact (And.left hU)) | ((with_reducible apply v3S); exact (And.left hU)) | ((with_reducible apply v3Z); exact (And.left hU); first | exact Or.inl rfl | exact Or.inr rfl | assumption) | ((with_reducible apply v3C); exact (And.left hU)) | ((with_reducible apply v3L); exact (And.left hU)) | ((with_reducible apply v3M); exact (And.left hU)) | ((with_reducible apply v4A); exact (And.left hU); (first | with_reducible rfl | with_reducible exact ixo _ | with_reducible exact ixoc _ _ | with_reducible exact ixom _ _ _ | with_reducible exact ixop _ _ | with_reducible exact ixod _ _ | assumption); omega) | ((with_reducible apply v4W); exact (And.left hU); (first | with_reducible rfl | with_reducible exact ixo _ | with_reducible exact ixoc _ _ | with_reducible exact ixom _ _ _ | with_reducible exact ixop _ _ | with_reducible exact ixod _ _ | assumption); omega) | ((with_reducible apply v5R8); exact (And.left hU)) | ((with_reducible apply v5I); exact (And.left hU)) | ((with_reducible apply v5S); exact (And.left hU)) | ((with_reducible apply v5Z); exact (And.left hU); first | exact Or.inl rfl | exact Or.inr rfl | assumption) | ((with_reducible apply v5C); exact (And.left hU)) | ((with_reducible apply v6A); exact (And.left hU); (first | with_reducible rfl | with_reducible exact ixo _ | with_reducible exact ixoc _ _ | with_reducible exact ixom _ _ _ | with_reducible exact ixop _ _ | with_reducible exact ixod _ _ | assumption); omega) | ((with_reducible apply v6W); exact (And.left hU); (first | with_reducible rfl | with_reducible exact ixo _ | with_reducible exact ixoc _ _ | with_reducible exact ixom _ _ _ | with_reducible exact ixop _ _ | with_reducible exact ixod _ _ | assumption); omega) | ((with_reducible apply vX1A); exact (And.left hU); (first | with_reducible rfl | with_reducible exact ixo _ | with_reducible exact ixoc _ _ | with_reducible exact ixom _ _ _ | with_reducible exact ixop _ _ | with_reducible exact ixod _ _ | assumption); omega))
  refine v_eq (isLawC (by omega)) ?_
  have o1 : eo (fun a j => a = 2 ∧ (j = 2 ∨ j = 3)) h (uI (uI h 2 2 (nI k)) 2 3 0) := eo_uI (eo_uI eo_rf ⟨rfl, Or.inl rfl⟩) ⟨rfl, Or.inr rfl⟩
  have g2 : gI (uI (uI h 2 2 (nI k)) 2 3 0) 2 2 = nI k := by rw [gI_ne (by omega), gI_eq]
  have g3 : gI (uI (uI h 2 2 (nI k)) 2 3 0) 2 3 = nI 0 := gI_eq
  have hU1 : LU u (uI (uI h 2 2 (nI k)) 2 3 0).2 := hU
  obtain ⟨g, hg⟩ : ∃ g, g = uI (uI h 2 2 (nI k)) 2 3 0 := ⟨_, rfl⟩
  rw [← hg] at o1 g2 g3 hU1 ⊢
  have fin : ∀ h1, eo (fun a _ => a = 5) g h1 → (3 ≤ k → k < 7 → rL0 (k - 3) h1) → ok (fX5_openTell_47 fu 2 u (nI k) h1) (takn u (A, 10, st, rl, none) q i h) := by
    intro h1 o2 hl
    have o3 : eo (fun a j => (a = 2 ∧ (j = 2 ∨ j = 3)) ∨ a = 5) h h1 := eo_tr (eo_mono o1 (fun a j z => Or.inl z)) (eo_mono o2 (fun a j z => Or.inr z))
    have hU2 : LU u h1.2 := by rw [o2.1]; exact hU1
    have t1 := tcC_eo o3 (fun a k z => by omega) t
    unfold fX5_openTell_47
    refine v_eq (roomC hU2 w t1 (by omega)) ?_
    have eo9 : eL (sRd u) (lRd u) h h1 := eL_mono (eL_eo (SL := lRd u) o3) (fun a j z => by unfold sRd; omega) (fun a j z => z)
    have k3 : ∀ j, gI h1 3 j = gI h 3 j := fun j => o3.2 _ _ (fun z => by omega)
    cases hf : fulB A k with
    | true =>
      rw [hf, if_pos rfl] at es
      refine v_it rfl (v_rI ⟨eo9, k3, ?_, ?_⟩)
      · rw [es]
        rfl
      · rw [es]
        exact fun y => absurd y (by show ¬ (2 : Nat) = 0; decide)
    | false =>
      rw [hf, if_neg (by decide)] at es
      refine v_ie (by decide) (v_rI ⟨eo9, k3, ?_, ?_⟩)
      · rw [es]
        rfl
      · rw [es]
        refine fun _ => ⟨tcC_bd (tl' := k) (st' := 0) t1 (by omega), ⟨cz, ?_, ?_, hl, ?_⟩, flC_eL (SL := fun _ _ => False) (eL_eo o3) (fun a k z => by omega) hF, ?_, ?_, ?_⟩
        · intro k1 hk1 _
          exact lawW_fr (lw.1 k1 hk1 (fun y => absurd rfl y)) (Nat.le_refl _) (fun j _ => o3.2 _ _ (fun z => by omega)) (o3.2 _ _ (fun z => by omega)) (fun j _ _ => o3.2 _ _ (fun z => by omega)) (o3.2 _ _ (fun z => by omega))
        · rw [o3.2 _ _ (fun z => by omega)]
          exact lw.2.1
        · have := lw.2.2.2
          dsimp only
          split <;> omega
        · dsimp only
          rw [o2.2 _ _ (fun z => by omega), g2, if_neg (by omega)]
        · exact fun _ => by rw [o2.2 _ _ (fun z => by omega)]; exact g3
        · exact fun _ y => by
            have y : 1 ≤ 0 := y
            omega
  by_cases zl : 3 ≤ k ∧ k < 7
  · rw [decide_eq_true zl]
    refine v_ie (by decide) ?_
    repeat (first | with_reducible apply v_lt | ((with_reducible apply y_TR); exact hU1; rfl) | ((with_reducible apply y_UR); exact hU1; rfl) | ((first | with_reducible apply y_0I | with_reducible apply y_9I | with_reducible apply y_0C | with_reducible apply y_9C | with_reducible apply y_0S | with_reducible apply y_9S); exact hU1) | ((first | with_reducible apply y_TA | with_reducible apply y_TW | with_reducible apply y_TJ | with_reducible apply y_TK); exact hU1; rfl; rfl; (first | with_reducible rfl | with_reducible exact ixo _ | with_reducible exact ixoc _ _ | with_reducible exact ixom _ _ _ | with_reducible exact ixop _ _ | with_reducible exact ixod _ _ | assumption); omega) | ((with_reducible apply v2R0); exact (And.left hU1)) | ((with_reducible apply v2R1); exact (And.left hU1)) | ((with_reducible apply v2I); exact (And.left hU1)) | ((with_reducible apply v2S); exact (And.left hU1)) | ((with_reducible apply v2Z); exact (And.left hU1); first | exact Or.inl rfl | exact Or.inr rfl | assumption) | ((with_reducible apply v2C); exact (And.left hU1)) | ((with_reducible apply v3R0); exact (And.left hU1)) | ((with_reducible apply v3I); exact (And.left hU1)) | ((with_reducible apply v3S); exact (And.left hU1)) | ((with_reducible apply v3Z); exact (And.left hU1); first | exact Or.inl rfl | exact Or.inr rfl | assumption) | ((with_reducible apply v3C); exact (And.left hU1)) | ((with_reducible apply v3L); exact (And.left hU1)) | ((with_reducible apply v3M); exact (And.left hU1)) | ((with_reducible apply v4A); exact (And.left hU1); (first | with_reducible rfl | with_reducible exact ixo _ | with_reducible exact ixoc _ _ | with_reducible exact ixom _ _ _ | with_reducible exact ixop _ _ | with_reducible exact ixod _ _ | assumption); omega) | ((with_reducible apply v4W); exact (And.left hU1); (first | with_reducible rfl | with_reducible exact ixo _ | with_reducible exact ixoc _ _ | with_reducible exact ixom _ _ _ | with_reducible exact ixop _ _ | with_reducible exact ixod _ _ | assumption); omega) | ((with_reducible apply v5R8); exact (And.left hU1)) | ((with_reducible apply v5I); exact (And.left hU1)) | ((with_reducible apply v5S); exact (And.left hU1)) | ((with_reducible apply v5Z); exact (And.left hU1); first | exact Or.inl rfl | exact Or.inr rfl | assumption) | ((with_reducible apply v5C); exact (And.left hU1)) | ((with_reducible apply v6A); exact (And.left hU1); (first | with_reducible rfl | with_reducible exact ixo _ | with_reducible exact ixoc _ _ | with_reducible exact ixom _ _ _ | with_reducible exact ixop _ _ | with_reducible exact ixod _ _ | assumption); omega) | ((with_reducible apply v6W); exact (And.left hU1); (first | with_reducible rfl | with_reducible exact ixo _ | with_reducible exact ixoc _ _ | with_reducible exact ixom _ _ _ | with_reducible exact ixop _ _ | with_reducible exact ixod _ _ | assumption); omega) | ((with_reducible apply vX1A); exact (And.left hU1); (first | with_reducible rfl | with_reducible exact ixo _ | with_reducible exact ixoc _ _ | with_reducible exact ixom _ _ _ | with_reducible exact ixop _ _ | with_reducible exact ixod _ _ | assumption); omega))
    rw [show nI k - 3 = nI (k - 3) from pk_sub (b := 3) (by omega)]
    refine v_bd (openC9 hU1.1) (fun _ h1 hq1 => ?_)
    exact fin h1 hq1.1 (fun _ _ => hq1.2)
  · rw [decide_eq_false zl]
    exact v_it rfl (fin g eo_rf (fun y1 y2 => absurd ⟨y1, y2⟩ zl))
