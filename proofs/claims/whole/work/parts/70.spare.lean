/-! STEPPING OVER A TEXT, whichever of the two it is -/
def LU (t : Nat) (q : m2) : Prop := LM q ∧ (t = 7 ∨ t = 23)
theorem LU_eL {S SL : Nat → Nat → Prop} {t : Nat} {h h1 : mh} (p : eL S SL h h1) (q : LU t h.2) : LU t h1.2 := ⟨LM_eL p q.1, q.2⟩
theorem LU_uL {t : Nat} {h : mh} {a k : Nat} {v : Int64} (q : LU t h.2) : LU t (uL h a k v).2 := ⟨LM_uL q.1, q.2⟩
theorem LU_of {t u : Nat} {h : mh} (hL : Ly t u h) : LU u h.2 := ⟨LM_of hL, by rcases hL.2.2.2.2.2.2 with ⟨-, z⟩ | ⟨-, z⟩ <;> omega⟩
theorem y_c {t k ty n : Nat} {h : mh} (hL : LU t h.2) (e : shT k = (ty, n)) (h9 : Nat.ble ty 8 = true) : (t + k < gN h ∧ gS h (t + k) = (ty, n)) ∧ n < 2 ^ 31 := by
  obtain ⟨⟨_, _, y⟩, z⟩ := hL
  obtain ⟨q1, q2, q3, q4⟩ := shT_ok e h9
  refine ⟨?_, by omega⟩
  rcases z with rfl | rfl
  · exact y.cell (7 + k) _ (by omega) q1
  · exact y.cell (23 + k) _ (by omega) q2
theorem y_0 {t : Nat} {h : mh} (hL : LU t h.2) : t < gN h ∧ gS h t = (0, 6) := by
  obtain ⟨⟨_, _, y⟩, z⟩ := hL
  rcases z with rfl | rfl
  · exact cl7 y
  · exact cl23 y
theorem y_9 {t : Nat} {h : mh} (hL : LU t h.2) : t + 9 < gN h ∧ gS h (t + 9) = (0, 1) := by
  obtain ⟨⟨_, _, y⟩, z⟩ := hL
  rcases z with rfl | rfl
  · exact cl16 y
  · exact cl32 y
theorem y_TR {β : Type} {h : mh} {Q : β → mh → Prop} {t k q : Nat} {F : Nat → Option (β × mh)} (hL : LU t h.2) (e : rT k = some q) (g : ok (F (t + q)) Q) : ok (ldR h t 6 k F) Q := by
  obtain ⟨q1, q2⟩ := rT_ok e
  refine v0ldR (y_0 hL) ?_ g
  obtain ⟨⟨_, _, y⟩, z⟩ := hL
  rcases z with rfl | rfl
  · exact y.2.2.2.1 (7, k, 7 + q) q1
  · exact y.2.2.2.1 (23, k, 23 + q) q2
theorem y_UR {β : Type} {h : mh} {Q : β → mh → Prop} {t k q : Nat} {F : Nat → Option (β × mh)} (hL : LU t h.2) (e : rU k = some q) (g : ok (F (t + q)) Q) : ok (ldR h (t + 9) 1 k F) Q := by
  obtain ⟨q1, q2⟩ := rU_ok e
  refine v0ldR (y_9 hL) ?_ g
  obtain ⟨⟨_, _, y⟩, z⟩ := hL
  rcases z with rfl | rfl
  · exact y.2.2.2.1 (16, k, 7 + q) q1
  · exact y.2.2.2.1 (32, k, 23 + q) q2
theorem y_TA {β : Type} {h : mh} {Q : β → mh → Prop} {t k ty n j : Nat} {i : Int32} {F : Int32 → Option (β × mh)} (hL : LU t h.2) (e9 : shT k = (ty, n)) (h9 : Nat.ble ty 8 = true) (e : i = nI j) (hj : j < n) (g : ok (F (gI h (t + k) j)) Q) : ok (ldA h (t + k) ty i F) Q := v0ldA (y_c hL e9 h9).1 e hj (y_c hL e9 h9).2 g
theorem y_TJ {β : Type} {h : mh} {Q : β → mh → Prop} {t k n j : Nat} {i : Int32} {F : Int64 → Option (β × mh)} (hL : LU t h.2) (e9 : shT k = (4, n)) (h9 : Nat.ble 4 8 = true) (e : i = nI j) (hj : j < n) (g : ok (F (gL h (t + k) j)) Q) : ok (ldJ h (t + k) i F) Q := v0ldJ (y_c hL e9 h9).1 e hj (y_c hL e9 h9).2 g
theorem y_TW {β : Type} {h : mh} {Q : β → mh → Prop} {t k n j : Nat} {i : Int32} {x : Int32} {F : mh → Option (β × mh)} (hL : LU t h.2) (e9 : shT k = (1, n)) (h9 : Nat.ble 1 8 = true) (e : i = nI j) (hj : j < n) (g : ok (F (uI h (t + k) j x)) Q) : ok (stA h (t + k) i x F) Q := v0stA (y_c hL e9 h9).1 e hj (y_c hL e9 h9).2 g
theorem y_TK {β : Type} {h : mh} {Q : β → mh → Prop} {t k n j : Nat} {i : Int32} {x : Int64} {F : mh → Option (β × mh)} (hL : LU t h.2) (e9 : shT k = (4, n)) (h9 : Nat.ble 4 8 = true) (e : i = nI j) (hj : j < n) (g : ok (F (uL h (t + k) j x)) Q) : ok (stJ h (t + k) i x F) Q := v0stJ (y_c hL e9 h9).1 e hj (y_c hL e9 h9).2 g
theorem y_0I {β : Type} {h : mh} {Q : β → mh → Prop} {t : Nat} (hL : LU t h.2) {k : Nat} {F : Int32 → Option (β × mh)} (g : ok (F (gI h t k)) Q) : ok (ldI h t 6 k F) Q := v0ldI (y_0 hL) g
theorem y_0S {β : Type} {h : mh} {Q : β → mh → Prop} {t : Nat} (hL : LU t h.2) {k : Nat} {x : Int32} {F : mh → Option (β × mh)} (g : ok (F (uI h t k x)) Q) : ok (stI h t 6 k x F) Q := v0stI (y_0 hL) g
theorem y_0C {β : Type} {h : mh} {Q : β → mh → Prop} {t : Nat} (hL : LU t h.2) {X : Option (β × mh)} (g : ok X Q) : ok (ckO h t 6 X) Q := v0ck (y_0 hL) g
theorem y_9I {β : Type} {h : mh} {Q : β → mh → Prop} {t : Nat} (hL : LU t h.2) {k : Nat} {F : Int32 → Option (β × mh)} (g : ok (F (gI h (t + 9) k)) Q) : ok (ldI h (t + 9) 1 k F) Q := v0ldI (y_9 hL) g
theorem y_9S {β : Type} {h : mh} {Q : β → mh → Prop} {t : Nat} (hL : LU t h.2) {k : Nat} {x : Int32} {F : mh → Option (β × mh)} (g : ok (F (uI h (t + 9) k x)) Q) : ok (stI h (t + 9) 1 k x F) Q := v0stI (y_9 hL) g
theorem y_9C {β : Type} {h : mh} {Q : β → mh → Prop} {t : Nat} (hL : LU t h.2) {X : Option (β × mh)} (g : ok X Q) : ok (ckO h (t + 9) 1 X) Q := v0ck (y_9 hL) g
