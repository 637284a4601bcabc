/-! THE REFERENCE'S tellLaw -/
theorem eop_k {p : Nat} : okk (eop p) := by
  unfold eop
  split
  · exact ⟨by omega, Or.inr rfl⟩
  · split
    · exact ⟨by omega, Or.inl (by omega)⟩
    · split
      · exact ⟨by omega, Or.inl (by omega)⟩
      · exact ⟨by omega, Or.inr rfl⟩
/-- behind an expression and what must follow it -/
def pthr (τ : Nat → Tk) (c0 : Nat) (L : LZ) (i : Nat) (h2 : mh) : Prop := ∃ L2 i2, fate τ L i = (if lPt L = 3 then (0, 0, lend L2, i2 + 1) else fate τ (lend L2) (i2 + 1)) ∧ i ≤ i2 ∧ i2 < 400 ∧ ctx L L2 ∧ wfL L2 ∧ lWu L2 = false ∧ lOp L2 = 0 ∧ atM τ (i2 + 1) h2 ∧ scM c0 (out9 1 (lQu L2) (lPd L2)).1 [] h2 ∧ gI h2 299 12 = 0 ∧ c0 + (out9 1 (lQu L2) (lPd L2)).1.length ≤ lb9 c0 + i2
theorem mustF {fu c0 i : Nat} {τ : Nat → Tk} {L : LZ} {h h1 : mh} (hL0 : LM h.2) (hT : okT τ) (hq : exQ τ c0 L i h h1) : ok (fX10_must fu 299 (soM (eop (lPt L))) h1) (fun _ h2 => eo (sEx c0) h h2 ∧ (pthr τ c0 L i h2 ∨ ddM (fate τ L i).1 (fate τ L i).2.1 h2)) := by
  obtain ⟨o, hq⟩ := hq
  have hL : LM h1.2 := by rw [o.1]; exact hL0
  rcases hq with ⟨L1, i1, e0, e1, e2, e3, e4, e5, e6, e7, e8, e9, e10⟩ | d
  · have hi1 := e7.2.2.1
    refine ok_mono (mustM hL eop_k (hT i1).1 e7) (fun _ h2 q => ?_)
    obtain ⟨q1, q2, q3⟩ := q
    have o2 : eo (sEx c0) h h2 := eo_tr o (eo_mono q1 (fun a k z => by unfold sGo at z; unfold sEx; omega))
    refine ⟨o2, ?_⟩
    by_cases z : tkK (τ i1) = eop (lPt L)
    · have e : lst L1 (τ i1) = (0, decide (lPt L1 = 3), lend L1) := by
        unfold lst
        dsimp only
        rw [e2, if_neg (by decide), if_neg (by omega), if_neg (by omega), e5.1, if_pos z]
      obtain ⟨q4, q5⟩ := q3 z
      by_cases z4 : i1 = 400
      · refine Or.inr ?_
        rw [e0, fate_r z4 e]
        exact q4 z4
      · refine Or.inl ⟨L1, i1, ?_, e1, by omega, e5, e6, e2, e3, q5 z4, scM_eo q1 (fun a k z => by unfold sGo at z; omega) e8, ?_, e10⟩
        · rw [e0]
          by_cases z3 : lPt L = 3
          · rw [if_pos z3]
            rw [e5.1, decide_eq_true z3] at e
            exact fate_t (by omega) e
          · rw [if_neg z3]
            rw [e5.1, decide_eq_false z3] at e
            exact fate_s (by omega) e
        · rw [q1.2 _ _ (fun z => by unfold sGo at z; omega)]
          exact e9
    · have e : lst L1 (τ i1) = (1, false, L1) := by
        unfold lst
        dsimp only
        rw [e2, if_neg (by decide), if_neg (by omega), if_neg (by omega), e5.1, if_neg z]
      refine Or.inr ?_
      rw [e0, fate_x hi1 e (by omega)]
      exact q2 z
  · rw [mustD hL d]
    exact ⟨(), h1, rfl, o, Or.inr d⟩
/-- the branches that are through, from f on, their code from c on -/
def brT (h : mh) : Nat → Nat → List (Pf × Pf × Pf) → Prop
  | _, _, [] => True
  | f, c, b :: ts => (gI h 323 f = 1 ∧ gI h 324 f = nI c ∧ gI h 325 f = nI (c + b.1.length) ∧ gI h 326 f = nI (c + b.1.length + b.2.1.length) ∧ gI h 327 f = nI (c + b.1.length + b.2.1.length + b.2.2.length) ∧ segM h c b.1 ∧ segM h (c + b.1.length) b.2.1 ∧ segM h (c + b.1.length + b.2.1.length) b.2.2) ∧ brT h (f + 1) (c + b.1.length + b.2.1.length + b.2.2.length) ts
theorem segM_lo {c b9 c9 : Nat} {e : Pf} {h h1 : mh} (f : ∀ a j, 328 ≤ a → a ≤ 329 → b9 ≤ j → j < c9 → gI h1 a j = gI h a j) (hb : b9 ≤ c) (hc : c + e.length ≤ c9) (s : segM h c e) : segM h1 c e := fun i k v q => by
  have hi : i < e.length := by
    rcases Nat.lt_or_ge i e.length with z | z
    · exact z
    · rw [List.getElem?_eq_none z] at q
      cases q
  rw [f _ _ (by omega) (by omega) (by omega) (by omega), f _ _ (by omega) (by omega) (by omega) (by omega)]
  exact s i k v q
theorem brT_lo {e9 f9 b9 c9 : Nat} {h h1 : mh} (g : ∀ a j, 323 ≤ a → a ≤ 327 → e9 ≤ j → j < f9 → gI h1 a j = gI h a j) (f : ∀ a j, 328 ≤ a → a ≤ 329 → b9 ≤ j → j < c9 → gI h1 a j = gI h a j) : ∀ {ts : List (Pf × Pf × Pf)} {b c : Nat}, e9 ≤ b → b9 ≤ c → b + ts.length ≤ f9 → c + ln3 ts ≤ c9 → brT h b c ts → brT h1 b c ts
  | [], _, _, _, _, _, _, _ => trivial
  | x :: ts, b, c, k1, k2, h1', h2', ⟨⟨q1, q2, q3, q4, q5, q6, q7, q8⟩, q9⟩ => by
    have h1' : b + (ts.length + 1) ≤ f9 := h1'
    have h2' : c + (x.1.length + x.2.1.length + x.2.2.length + ln3 ts) ≤ c9 := h2'
    refine ⟨⟨?_, ?_, ?_, ?_, ?_, segM_lo f (by omega) (by omega) q6, segM_lo f (by omega) (by omega) q7, segM_lo f (by omega) (by omega) q8⟩, brT_lo g f (by omega) (by omega) (by omega) (by omega) q9⟩
    · rw [g _ _ (by omega) (by omega) (by omega) (by omega)]; exact q1
    · rw [g _ _ (by omega) (by omega) (by omega) (by omega)]; exact q2
    · rw [g _ _ (by omega) (by omega) (by omega) (by omega)]; exact q3
    · rw [g _ _ (by omega) (by omega) (by omega) (by omega)]; exact q4
    · rw [g _ _ (by omega) (by omega) (by omega) (by omega)]; exact q5
theorem brT_app {h : mh} {x : Pf × Pf × Pf} : ∀ {ts : List (Pf × Pf × Pf)} {b c : Nat}, brT h b c ts → brT h (b + ts.length) (c + ln3 ts) [x] → brT h b c (ts ++ [x])
  | [], _, _, _, q => q
  | y :: ts, b, c, ⟨p, q⟩, r => ⟨p, brT_app q (by
    have r : brT h (b + (ts.length + 1)) (c + (y.1.length + y.2.1.length + y.2.2.length + ln3 ts)) [x] := r
    rw [show b + 1 + ts.length = b + (ts.length + 1) from by omega, show c + y.1.length + y.2.1.length + y.2.2.length + ln3 ts = c + (y.1.length + y.2.1.length + y.2.2.length + ln3 ts) from by omega]
    exact r)⟩
/-- with the last part they are a law -/
theorem brT_M {h : mh} {e : Pf} (we : wfP e 0) : ∀ {ts : List (Pf × Pf × Pf)} {b c : Nat}, b + ts.length < 260 → c + ln3 ts + e.length ≤ 840 → (∀ x ∈ ts, wfP x.1 0 ∧ wfP x.2.1 0 ∧ wfP x.2.2 0) → brT h b c ts → gI h 323 (b + ts.length) = 0 → gI h 326 (b + ts.length) = nI (c + ln3 ts) → gI h 327 (b + ts.length) = nI (c + ln3 ts + e.length) → segM h (c + ln3 ts) e → brsM h b ts e
  | [], b, c, h1, h2, _, _, g1, g2, g3, s => ⟨h1, g1, c, by have h2 : c + 0 + e.length ≤ 840 := h2; omega, g2, g3, s, we⟩
  | (x, y, z) :: ts, b, c, h1, h2, hw, ⟨⟨q1, q2, q3, q4, q5, q6, q7, q8⟩, q9⟩, g1, g2, g3, s => by
    have h1 : b + (ts.length + 1) < 260 := h1
    have h2 : c + (x.length + y.length + z.length + ln3 ts) + e.length ≤ 840 := h2
    have w := hw (x, y, z) (by simp)
    have e1 : b + 1 + ts.length = b + (ts.length + 1) := by omega
    have e2 : c + x.length + y.length + z.length + ln3 ts = c + (x.length + y.length + z.length + ln3 ts) := by omega
    refine ⟨⟨by omega, q1, c, by omega, q2, q3, q4, q5, q6, q7, q8, w.1, w.2.1, w.2.2⟩, brT_M we (c := c + x.length + y.length + z.length) (by omega) (by omega) (fun v hv => hw v (by simp [hv])) q9 ?_ ?_ ?_ ?_⟩
    · rw [e1]; exact g1
    · rw [e1, e2]; exact g2
    · rw [e1, e2]; exact g3
    · rw [e2]; exact s
/-- branches by their own cells alone -/
def brsA (h : mh) (f n c m : Nat) (ts : List (Pf × Pf × Pf)) (e : Pf) : Prop := ∀ h1, (∀ a j, 323 ≤ a → a ≤ 327 → f ≤ j → j < f + n → gI h1 a j = gI h a j) → (∀ a j, 328 ≤ a → a ≤ 329 → c ≤ j → j < c + m → gI h1 a j = gI h a j) → brsM h1 f ts e
theorem brT_A {h : mh} {e : Pf} {ts : List (Pf × Pf × Pf)} {b c : Nat} (we : wfP e 0) (h1 : b + ts.length < 260) (h2 : c + ln3 ts + e.length ≤ 840) (h3 : ∀ x ∈ ts, wfP x.1 0 ∧ wfP x.2.1 0 ∧ wfP x.2.2 0) (q : brT h b c ts) (g1 : gI h 323 (b + ts.length) = 0) (g2 : gI h 326 (b + ts.length) = nI (c + ln3 ts)) (g3 : gI h 327 (b + ts.length) = nI (c + ln3 ts + e.length)) (s : segM h (c + ln3 ts) e) : brsA h b (ts.length + 1) c (ln3 ts + e.length) ts e := fun h9 k1 k2 => by
  refine brT_M we h1 h2 h3 (brT_lo k1 k2 (Nat.le_refl _) (Nat.le_refl _) (by omega) (by omega) q) ?_ ?_ ?_ (segM_lo k2 (by omega) (by omega) s)
  · rw [k1 _ _ (by omega) (by omega) (by omega) (by omega)]; exact g1
  · rw [k1 _ _ (by omega) (by omega) (by omega) (by omega)]; exact g2
  · rw [k1 _ _ (by omega) (by omega) (by omega) (by omega)]; exact g3
