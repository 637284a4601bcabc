/-! THE CLASS READS -/
theorem chA {fu : Nat} {h : mh} : (fJ0_length_8abf5 fu 2 h = some (4, h) ∧ fJ0_length_8abf5 fu 3 h = some (5, h) ∧ fJ0_length_8abf5 fu 4 h = some (3, h) ∧ fJ0_length_8abf5 fu 5 h = some (2, h)) := ⟨rfl, rfl, rfl, rfl⟩
theorem ch2 {fu : Nat} {h : mh} : fJ0_charAt_5068e fu 2 0 h = some (110, h) ∧ fJ0_charAt_5068e fu 2 1 h = some (105, h) ∧ fJ0_charAt_5068e fu 2 2 h = some (105, h) ∧ fJ0_charAt_5068e fu 2 3 h = some (59, h) := ⟨rfl, rfl, rfl, rfl⟩
theorem ch3 {fu : Nat} {h : mh} : fJ0_charAt_5068e fu 3 0 h = some (110, h) ∧ fJ0_charAt_5068e fu 3 1 h = some (105, h) ∧ fJ0_charAt_5068e fu 3 2 h = some (105, h) ∧ fJ0_charAt_5068e fu 3 3 h = some (105, h) ∧ fJ0_charAt_5068e fu 3 4 h = some (59, h) := ⟨rfl, rfl, rfl, rfl, rfl⟩
theorem ch4 {fu : Nat} {h : mh} : fJ0_charAt_5068e fu 4 0 h = some (110, h) ∧ fJ0_charAt_5068e fu 4 1 h = some (110, h) ∧ fJ0_charAt_5068e fu 4 2 h = some (59, h) := ⟨rfl, rfl, rfl⟩
theorem ch5 {fu : Nat} {h : mh} : fJ0_charAt_5068e fu 5 0 h = some (105, h) ∧ fJ0_charAt_5068e fu 5 1 h = some (59, h) := ⟨rfl, rfl⟩
/-- what is due, as the class has it -/
def due (tl st : Nat) : Int32 := if fm tl st = 22 then 110 else if fm tl st = 23 then 105 else 59
theorem formC {fu u tl st : Nat} {h : mh} {Q : Int32 → mh → Prop} (hU : LU u h.2) (e1 : gI h 2 2 = nI tl) (e2 : gI h 2 3 = nI st) (hs : (tl = 0 ∧ st ≤ 3) ∨ (tl = 1 ∧ st ≤ 4) ∨ (tl = 2 ∧ st ≤ 2) ∨ ((tl = 7 ∨ tl = 8 ∨ tl = 9) ∧ st ≤ 1)) (hk : ∀ a, ok (fX5_takeInForm_57 fu 2 u a (due tl st) (nI (fm tl st)) h) Q) : ok (fX5_takeInForm fu 2 u h) Q := by
  have fin : ∀ a, ok (fX5_takeInForm_32 fu 2 u a (due tl st) h) Q := by
    intro a
    unfold fX5_takeInForm_32
    have h1 := hk a
    unfold due at h1 ⊢
    have hf : fm tl st = 22 ∨ fm tl st = 23 ∨ fm tl st = 59 := by
      unfold fm
      repeat' split
      all_goals first | exact Or.inl rfl | exact Or.inr (Or.inl rfl) | exact Or.inr (Or.inr rfl)
    rcases hf with e | e | e
    · rw [e] at h1 ⊢
      exact v_it rfl h1
    · rw [e] at h1 ⊢
      exact v_ie (by decide) (v_it rfl h1)
    · rw [e] at h1 ⊢
      exact v_ie (by decide) (v_ie (by decide) h1)
  unfold fX5_takeInForm
  repeat (first | with_reducible apply v_lt | ((with_reducible apply y_TR); exact hU; rfl) | ((with_reducible apply y_UR); exact hU; rfl) | ((first | with_reducible apply y_0I | with_reducible apply y_9I | with_reducible apply y_0C | with_reducible apply y_9C | with_reducible apply y_0S | with_reducible apply y_9S); exact hU) | ((first | with_reducible apply y_TA | with_reducible apply y_TW | with_reducible apply y_TJ | with_reducible apply y_TK); exact hU; rfl; rfl; (first | with_reducible rfl | with_reducible exact ixo _ | with_reducible exact ixoc _ _ | with_reducible exact ixom _ _ _ | with_reducible exact ixop _ _ | with_reducible exact ixod _ _ | assumption); omega) | ((with_reducible apply v2R0); exact (And.left hU)) | ((with_reducible apply v2R1); exact (And.left hU)) | ((with_reducible apply v2I); exact (And.left hU)) | ((with_reducible apply v2S); exact (And.left hU)) | ((with_reducible apply v2Z); exact (And.left hU); first | exact Or.inl rfl | exact Or.inr rfl | assumption) | ((with_reducible apply v2C); exact (And.left hU)) | ((with_reducible apply v3R0); exact (And.left hU)) | ((with_reducible apply v3I); exact (And.left hU)) | ((with_reducible apply v3S); exact (And.left hU)) | ((with_reducible apply v3Z); exact (And.left hU); first | exact Or.inl rfl | exact Or.inr rfl | assumption) | ((with_reducible apply v3C); exact (And.left hU)) | ((with_reducible apply v3L); exact (And.left hU)) | ((with_reducible apply v3M); exact (And.left hU)) | ((with_reducible apply v4A); exact (And.left hU); (first | with_reducible rfl | with_reducible exact ixo _ | with_reducible exact ixoc _ _ | with_reducible exact ixom _ _ _ | with_reducible exact ixop _ _ | with_reducible exact ixod _ _ | assumption); omega) | ((with_reducible apply v4W); exact (And.left hU); (first | with_reducible rfl | with_reducible exact ixo _ | with_reducible exact ixoc _ _ | with_reducible exact ixom _ _ _ | with_reducible exact ixop _ _ | with_reducible exact ixod _ _ | assumption); omega) | ((with_reducible apply v5R8); exact (And.left hU)) | ((with_reducible apply v5I); exact (And.left hU)) | ((with_reducible apply v5S); exact (And.left hU)) | ((with_reducible apply v5Z); exact (And.left hU); first | exact Or.inl rfl | exact Or.inr rfl | assumption) | ((with_reducible apply v5C); exact (And.left hU)) | ((with_reducible apply v6A); exact (And.left hU); (first | with_reducible rfl | with_reducible exact ixo _ | with_reducible exact ixoc _ _ | with_reducible exact ixom _ _ _ | with_reducible exact ixop _ _ | with_reducible exact ixod _ _ | assumption); omega) | ((with_reducible apply v6W); exact (And.left hU); (first | with_reducible rfl | with_reducible exact ixo _ | with_reducible exact ixoc _ _ | with_reducible exact ixom _ _ _ | with_reducible exact ixop _ _ | with_reducible exact ixod _ _ | assumption); omega) | ((with_reducible apply vX1A); exact (And.left hU); (first | with_reducible rfl | with_reducible exact ixo _ | with_reducible exact ixoc _ _ | with_reducible exact ixom _ _ _ | with_reducible exact ixop _ _ | with_reducible exact ixod _ _ | assumption); omega))
  rw [e1]
  have go : ∀ (a n : Nat), a < 6 → fJ0_length_8abf5 fu a h = some (nI n, h) → st < n → n < 10 → fJ0_charAt_5068e fu a (nI st) h = some (due tl st, h) → ok (ldI h 2 5 3 (fun (x4 : Int32) => ckS a (bd (fJ0_length_8abf5 fu a h) (fun (x6 : Int32) (h5 : mh) => (if x6 ≤ x4 then fX5_takeInForm_32 fu 2 u a ((59 : Int32)) h5 else ldI h5 2 5 3 (fun (x7 : Int32) => ckS a (bd (fJ0_charAt_5068e fu a x7 h5) (fun (x9 : Int32) (h8 : mh) => fX5_takeInForm_32 fu 2 u a x9 h8)))))))) Q := by
    intro a n ha hl hn hn2 hc
    repeat (first | with_reducible apply v_lt | ((with_reducible apply y_TR); exact hU; rfl) | ((with_reducible apply y_UR); exact hU; rfl) | ((first | with_reducible apply y_0I | with_reducible apply y_9I | with_reducible apply y_0C | with_reducible apply y_9C | with_reducible apply y_0S | with_reducible apply y_9S); exact hU) | ((first | with_reducible apply y_TA | with_reducible apply y_TW | with_reducible apply y_TJ | with_reducible apply y_TK); exact hU; rfl; rfl; (first | with_reducible rfl | with_reducible exact ixo _ | with_reducible exact ixoc _ _ | with_reducible exact ixom _ _ _ | with_reducible exact ixop _ _ | with_reducible exact ixod _ _ | assumption); omega) | ((with_reducible apply v2R0); exact (And.left hU)) | ((with_reducible apply v2R1); exact (And.left hU)) | ((with_reducible apply v2I); exact (And.left hU)) | ((with_reducible apply v2S); exact (And.left hU)) | ((with_reducible apply v2Z); exact (And.left hU); first | exact Or.inl rfl | exact Or.inr rfl | assumption) | ((with_reducible apply v2C); exact (And.left hU)) | ((with_reducible apply v3R0); exact (And.left hU)) | ((with_reducible apply v3I); exact (And.left hU)) | ((with_reducible apply v3S); exact (And.left hU)) | ((with_reducible apply v3Z); exact (And.left hU); first | exact Or.inl rfl | exact Or.inr rfl | assumption) | ((with_reducible apply v3C); exact (And.left hU)) | ((with_reducible apply v3L); exact (And.left hU)) | ((with_reducible apply v3M); exact (And.left hU)) | ((with_reducible apply v4A); exact (And.left hU); (first | with_reducible rfl | with_reducible exact ixo _ | with_reducible exact ixoc _ _ | with_reducible exact ixom _ _ _ | with_reducible exact ixop _ _ | with_reducible exact ixod _ _ | assumption); omega) | ((with_reducible apply v4W); exact (And.left hU); (first | with_reducible rfl | with_reducible exact ixo _ | with_reducible exact ixoc _ _ | with_reducible exact ixom _ _ _ | with_reducible exact ixop _ _ | with_reducible exact ixod _ _ | assumption); omega) | ((with_reducible apply v5R8); exact (And.left hU)) | ((with_reducible apply v5I); exact (And.left hU)) | ((with_reducible apply v5S); exact (And.left hU)) | ((with_reducible apply v5Z); exact (And.left hU); first | exact Or.inl rfl | exact Or.inr rfl | assumption) | ((with_reducible apply v5C); exact (And.left hU)) | ((with_reducible apply v6A); exact (And.left hU); (first | with_reducible rfl | with_reducible exact ixo _ | with_reducible exact ixoc _ _ | with_reducible exact ixom _ _ _ | with_reducible exact ixop _ _ | with_reducible exact ixod _ _ | assumption); omega) | ((with_reducible apply v6W); exact (And.left hU); (first | with_reducible rfl | with_reducible exact ixo _ | with_reducible exact ixoc _ _ | with_reducible exact ixom _ _ _ | with_reducible exact ixop _ _ | with_reducible exact ixod _ _ | assumption); omega) | ((with_reducible apply vX1A); exact (And.left hU); (first | with_reducible rfl | with_reducible exact ixo _ | with_reducible exact ixoc _ _ | with_reducible exact ixom _ _ _ | with_reducible exact ixop _ _ | with_reducible exact ixod _ _ | assumption); omega))
    rw [e2]
    unfold ckS
    rw [if_pos ha]
    refine v_eq hl ?_
    refine v_ie (nI_ge hn (by omega)) ?_
    repeat (first | with_reducible apply v_lt | ((with_reducible apply y_TR); exact hU; rfl) | ((with_reducible apply y_UR); exact hU; rfl) | ((first | with_reducible apply y_0I | with_reducible apply y_9I | with_reducible apply y_0C | with_reducible apply y_9C | with_reducible apply y_0S | with_reducible apply y_9S); exact hU) | ((first | with_reducible apply y_TA | with_reducible apply y_TW | with_reducible apply y_TJ | with_reducible apply y_TK); exact hU; rfl; rfl; (first | with_reducible rfl | with_reducible exact ixo _ | with_reducible exact ixoc _ _ | with_reducible exact ixom _ _ _ | with_reducible exact ixop _ _ | with_reducible exact ixod _ _ | assumption); omega) | ((with_reducible apply v2R0); exact (And.left hU)) | ((with_reducible apply v2R1); exact (And.left hU)) | ((with_reducible apply v2I); exact (And.left hU)) | ((with_reducible apply v2S); exact (And.left hU)) | ((with_reducible apply v2Z); exact (And.left hU); first | exact Or.inl rfl | exact Or.inr rfl | assumption) | ((with_reducible apply v2C); exact (And.left hU)) | ((with_reducible apply v3R0); exact (And.left hU)) | ((with_reducible apply v3I); exact (And.left hU)) | ((with_reducible apply v3S); exact (And.left hU)) | ((with_reducible apply v3Z); exact (And.left hU); first | exact Or.inl rfl | exact Or.inr rfl | assumption) | ((with_reducible apply v3C); exact (And.left hU)) | ((with_reducible apply v3L); exact (And.left hU)) | ((with_reducible apply v3M); exact (And.left hU)) | ((with_reducible apply v4A); exact (And.left hU); (first | with_reducible rfl | with_reducible exact ixo _ | with_reducible exact ixoc _ _ | with_reducible exact ixom _ _ _ | with_reducible exact ixop _ _ | with_reducible exact ixod _ _ | assumption); omega) | ((with_reducible apply v4W); exact (And.left hU); (first | with_reducible rfl | with_reducible exact ixo _ | with_reducible exact ixoc _ _ | with_reducible exact ixom _ _ _ | with_reducible exact ixop _ _ | with_reducible exact ixod _ _ | assumption); omega) | ((with_reducible apply v5R8); exact (And.left hU)) | ((with_reducible apply v5I); exact (And.left hU)) | ((with_reducible apply v5S); exact (And.left hU)) | ((with_reducible apply v5Z); exact (And.left hU); first | exact Or.inl rfl | exact Or.inr rfl | assumption) | ((with_reducible apply v5C); exact (And.left hU)) | ((with_reducible apply v6A); exact (And.left hU); (first | with_reducible rfl | with_reducible exact ixo _ | with_reducible exact ixoc _ _ | with_reducible exact ixom _ _ _ | with_reducible exact ixop _ _ | with_reducible exact ixod _ _ | assumption); omega) | ((with_reducible apply v6W); exact (And.left hU); (first | with_reducible rfl | with_reducible exact ixo _ | with_reducible exact ixoc _ _ | with_reducible exact ixom _ _ _ | with_reducible exact ixop _ _ | with_reducible exact ixod _ _ | assumption); omega) | ((with_reducible apply vX1A); exact (And.left hU); (first | with_reducible rfl | with_reducible exact ixo _ | with_reducible exact ixoc _ _ | with_reducible exact ixom _ _ _ | with_reducible exact ixop _ _ | with_reducible exact ixod _ _ | assumption); omega))
    rw [e2, if_pos ha]
    exact v_eq hc (fin a)
  rcases hs with ⟨rfl, hs⟩ | ⟨rfl, hs⟩ | ⟨rfl, hs⟩ | ⟨hs, hs2⟩
  · refine v_eq (x := 2) (h1 := h) rfl (go 2 4 (by omega) chA.1 (by omega) (by omega) ?_)
    rcases (show st = 0 ∨ st = 1 ∨ st = 2 ∨ st = 3 by omega) with rfl | rfl | rfl | rfl
    · exact ch2.1
    · exact ch2.2.1
    · exact ch2.2.2.1
    · exact ch2.2.2.2
  · refine v_eq (x := 3) (h1 := h) rfl (go 3 5 (by omega) chA.2.1 (by omega) (by omega) ?_)
    rcases (show st = 0 ∨ st = 1 ∨ st = 2 ∨ st = 3 ∨ st = 4 by omega) with rfl | rfl | rfl | rfl | rfl
    · exact ch3.1
    · exact ch3.2.1
    · exact ch3.2.2.1
    · exact ch3.2.2.2.1
    · exact ch3.2.2.2.2
  · refine v_eq (x := 4) (h1 := h) rfl (go 4 3 (by omega) chA.2.2.1 (by omega) (by omega) ?_)
    rcases (show st = 0 ∨ st = 1 ∨ st = 2 by omega) with rfl | rfl | rfl
    · exact ch4.1
    · exact ch4.2.1
    · exact ch4.2.2
  · have c5 : fJ0_charAt_5068e fu 5 (nI st) h = some (due tl st, h) := by
      rcases hs with rfl | rfl | rfl <;> rcases (show st = 0 ∨ st = 1 by omega) with rfl | rfl
      · exact ch5.1
      · exact ch5.2
      · exact ch5.1
      · exact ch5.2
      · exact ch5.1
      · exact ch5.2
    refine v_eq (x := 5) (h1 := h) ?_ (go 5 2 (by omega) chA.2.2.2 (by omega) (by omega) c5)
    rcases hs with rfl | rfl | rfl <;> rfl
