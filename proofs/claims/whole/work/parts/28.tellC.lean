/-! THE CLASS'S tell: the same laws in its own rows -/
def segC (h : mh) (t c0 : Nat) (e : Pf) : Prop := ∀ (i : Nat) (q : Nat × Int32), e[i]? = some q → gI h (t + 10) (c0 + i) = enc q
/-- the parts from place p of the ends, the code from s on -/
def prtC (h : mh) (t : Nat) : Nat → Nat → List Pf → Prop
  | _, _, [] => True
  | p, s, e :: es => gI h (t + 12) p = nI (s + e.length) ∧ s + e.length ≤ 400 ∧ segC h t s e ∧ wfP e 0 ∧ prtC h t (p + 1) (s + e.length) es
def flP : List (Pf × Pf × Pf) → Pf → List Pf
  | [], e => [e]
  | (a, b, c) :: ts, e => a :: b :: c :: flP ts e
def lawC (h : mh) (t k : Nat) (A : Lw) : Prop := match A with
  | none => gI h (t + 13) k = 0
  | some (ts, e) => ts.length ≤ 4 ∧ gI h (t + 13) k = nI (3 * ts.length + 1) ∧ ∃ s, gI h (t + 11) k = nI s ∧ prtC h t (13 * k) s (flP ts e)
theorem segC_eo {S : Nat → Nat → Prop} {h h1 : mh} {t c0 : Nat} {e : Pf} (o : eo S h h1) (hs : ∀ k, ¬ S (t + 10) k) (s : segC h t c0 e) : segC h1 t c0 e := fun i q hq => by
  rw [o.2 _ _ (hs _)]
  exact s i q hq
theorem prtC_eo {S : Nat → Nat → Prop} {h h1 : mh} {t : Nat} (o : eo S h h1) (h0 : ∀ k, ¬ S (t + 10) k) (h2 : ∀ k, ¬ S (t + 12) k) : ∀ {es : List Pf} {p s : Nat}, prtC h t p s es → prtC h1 t p s es
  | [], _, _, _ => trivial
  | e :: es, p, s, ⟨q1, q2, q3, q4, q5⟩ => ⟨by rw [o.2 _ _ (h2 _)]; exact q1, q2, segC_eo o h0 q3, q4, prtC_eo o h0 h2 q5⟩
theorem flP_len : ∀ (ts : List (Pf × Pf × Pf)) (e : Pf), (flP ts e).length = 3 * ts.length + 1
  | [], _ => rfl
  | (a, b, c) :: ts, e => by
    simp only [flP, List.length_cons, flP_len ts e]
    omega
/-- part i: where it begins, where it ends -/
theorem prtC_at {h : mh} {t : Nat} : ∀ {es : List Pf} {p s i : Nat} {e : Pf}, prtC h t p s es → es[i]? = some e → ∃ c0, (i = 0 → c0 = s) ∧ (∀ j, i = j + 1 → gI h (t + 12) (p + j) = nI c0) ∧ gI h (t + 12) (p + i) = nI (c0 + e.length) ∧ c0 + e.length ≤ 400 ∧ segC h t c0 e ∧ wfP e 0
  | [], _, _, _, _, _, hq => by simp at hq
  | x :: es, p, s, 0, e, ⟨q1, q2, q3, q4, q5⟩, hq => by
    cases hq
    exact ⟨s, fun _ => rfl, fun j hj => by omega, q1, q2, q3, q4⟩
  | x :: es, p, s, i + 1, e, ⟨q1, q2, q3, q4, q5⟩, hq => by
    obtain ⟨c0, r1, r2, r3, r4, r5, r6⟩ := prtC_at q5 (i := i) hq
    refine ⟨c0, fun q => by omega, fun j hj => ?_, by rw [show p + (i + 1) = p + 1 + i by omega]; exact r3, r4, r5, r6⟩
    have hj' : j = i := by omega
    subst hj'
    cases j with
    | zero => rw [r1 rfl]; exact q1
    | succ m => rw [show p + (m + 1) = p + 1 + m by omega]; exact r2 m rfl
theorem nTC {t a k : Nat} (h : a ≠ t + 15) (h' : a ≠ t + 9) : ¬ sTC t a k := by
  unfold sTC
  omega
theorem valC {t u fu k i : Nat} {h : mh} {es : List Pf} {e : Pf} {s : Nat} (hL : Ly t u h) (hfu : 1000 ≤ fu) (hk : k < 4) (hi : i < 13) (h1 : gI h (t + 11) k = nI s) (hp : prtC h t (13 * k) s es) (he : es[i]? = some e) (hz : gI h (t + 9) 7 = 0 ∨ gI h (t + 9) 7 = 1) :
    ok (fX1_valueOf fu (t + 9) (nI k) (nI i) h) (fun r h' => eo (sTC t) h h' ∧ ((∃ v, vlP (gI h (t + 14)) e = some v ∧ r = v ∧ gI h' (t + 9) 7 = gI h (t + 9) 7) ∨ (vlP (gI h (t + 14)) e = none ∧ gI h' (t + 9) 7 = 1))) := by
  obtain ⟨c0, r1, r2, r3, r4, r5, r6⟩ := prtC_at hp he
  unfold fX1_valueOf
  have ei : nI k * (13 : Int32) + nI i = nI (13 * k + i) := by
    rw [show (13 : Int32) = nI 13 from rfl, pk_mul, nI_add, Nat.mul_comm]
  dsimp only [lt]
  rw [ei]
  by_cases hi0 : i = 0
  · subst hi0
    rw [if_pos (by rfl), ldR_of (tc9 hL) (tr9_2 hL), ldA_of (tc11 hL) (inr_nI hk (by omega)), nI_clamp (by omega), h1, ← r1 rfl]
    exact termC hL hfu rfl r4 (by omega) r3 r5 r6 hz
  · obtain ⟨j, rfl⟩ : ∃ j, i = j + 1 := ⟨i - 1, by omega⟩
    have e1 : nI (13 * k + (j + 1)) - 1 = nI (13 * k + j) := nI_pred _
    rw [if_neg (fun q => by have := (nI_eq (a := j + 1) (b := 0) (by omega) (by omega)).mp q; omega), ldR_of (tc9 hL) (tr9_3 hL), e1, ldA_of (tc12 hL) (inr_nI (by omega) (by omega)), nI_clamp (by omega), r2 j rfl]
    exact termC hL hfu rfl r4 (by omega) r3 r5 r6 hz
/-- what tell answers: MOVES is held to -99 .. 99 -/
def cl99 (x : Int32) : Int32 := mx9 (-99) (mn9 99 x)
def tlC (k : Nat) (x : Int32) : Int32 := if k = 2 then cl99 x else x
theorem tell98 {t u fu k : Nat} {h : mh} {va vb vc s0 T9 : Int32} (hL : Ly t u h) (hk : k < 4) (hT : (gI h (t + 9) 7 = 0 ∧ T9 = s0) ∨ (gI h (t + 9) 7 = 1 ∧ T9 = 0)) : ok (fX1_tell_98 fu (t + 9) (nI k) va vb vc s0 h) (fun r h' => h' = h ∧ r = tlC k T9) := by
  unfold fX1_tell_98
  rw [ldI_of (tc9 hL)]
  rcases hT with ⟨q, rfl⟩ | ⟨q, rfl⟩
  · rw [q, if_pos rfl]
    by_cases h2 : k = 2
    · subst h2
      rw [if_pos (by rfl)]
      unfold fX9_within
      refine ok_bd (ok_some ?_)
      exact ok_some ⟨rfl, rfl⟩
    · have hn : ¬ nI k = (2 : Int32) := fun z => h2 ((nI_eq (a := k) (b := 2) (by omega) (by omega)).mp z)
      rw [if_neg hn]
      exact ok_some ⟨rfl, by unfold tlC; rw [if_neg h2]⟩
  · rw [q, if_neg (by decide)]
    refine ok_some ⟨rfl, ?_⟩
    unfold tlC
    split
    · decide
    · rfl
theorem tell81 {t u fu k i : Nat} {h : mh} {es : List Pf} {c : Pf} {s : Nat} {va vc T9 : Int32} (hL : Ly t u h) (hfu : 1000 ≤ fu) (hk : k < 4) (hi : i < 13) (h1 : gI h (t + 11) k = nI s) (hp : prtC h t (13 * k) s es) (he : es[i]? = some c) (hT : (gI h (t + 9) 7 = 0 ∧ T9 = (vlP (gI h (t + 14)) c).getD 0) ∨ (gI h (t + 9) 7 = 1 ∧ T9 = 0)) :
    ok (fX1_tell_81 fu (t + 9) (nI k) va (nI i) vc h) (fun r h' => eo (sTC t) h h' ∧ r = tlC k T9) := by
  unfold fX1_tell_81
  rw [ldI_of (tc9 hL)]
  rcases hT with ⟨q, hT⟩ | ⟨q, hT⟩
  · rw [q, if_pos rfl, ckO_of (tc9 hL)]
    refine ok_bd (ok_mono (valC hL hfu hk hi h1 hp he (Or.inl q)) (fun x h2 hq => ?_))
    obtain ⟨o, hq⟩ := hq
    have hL2 := Ly_eo hL o
    refine ok_mono (tell98 (T9 := T9) hL2 hk ?_) (fun r h3 hr => ⟨by rw [hr.1]; exact o, hr.2⟩)
    rcases hq with ⟨v, e1, e2, e3⟩ | ⟨e1, e3⟩
    · refine Or.inl ⟨by rw [e3, q], ?_⟩
      rw [hT, e1, e2]
      rfl
    · refine Or.inr ⟨e3, ?_⟩
      rw [hT, e1]
      rfl
  · rw [q, if_neg (by decide)]
    exact ok_mono (tell98 (T9 := T9) hL hk (Or.inr ⟨q, hT⟩)) (fun r h3 hr => ⟨by rw [hr.1]; exact eo_rf, hr.2⟩)
set_option maxHeartbeats 1000000 in
theorem tellC_loop {t u fu k N : Nat} {es : List Pf} {e : Pf} {s : Nat} {T9 : Int32} (hfu : 1000 ≤ fu) (hk : k < 4) (hN : N ≤ 12) : ∀ (ts : List (Pf × Pf × Pf)) (j n : Nat) (h : mh), Ly t u h → ts.length < n → 3 * j + 3 * ts.length = N → (∀ i, es[3 * j + i]? = (flP ts e)[i]?) → gI h (t + 11) k = nI s → prtC h t (13 * k) s es → ((gI h (t + 9) 7 = 0 ∧ T9 = lawv (gI h (t + 14)) ts e) ∨ (gI h (t + 9) 7 = 1 ∧ T9 = 0)) →
    ok (itr (bX1_tell_38 fu (t + 9) (nI k) (nI N)) n (nI N, nI (3 * j), h)) (fun r h' => eo (sTC t) h h' ∧ r = tlC k T9) := by
  intro ts
  induction ts with
  | nil =>
    intro j n h hL hn hj hes h1 hp hT
    simp only [List.length_nil] at hn hj
    obtain ⟨n, rfl⟩ : ∃ m, n = m + 1 := ⟨n - 1, by omega⟩
    rw [itr_s]
    generalize hK : itr (bX1_tell_38 fu (t + 9) (nI k) (nI N)) n = kk
    unfold bX1_tell_38
    dsimp only
    have e2 : nI (3 * j) + 2 = nI (3 * j + 2) := nI_add _ 2
    rw [e2, if_pos (nI_le (by omega) (by omega))]
    have he : es[N]? = some e := by
      have := hes 0
      rw [show 3 * j + 0 = N by omega] at this
      exact this
    exact tell81 hL hfu hk (by omega) h1 hp he hT
  | cons p ts ih =>
    obtain ⟨a, b, c⟩ := p
    intro j n h hL hn hj hes h1 hp hT
    simp only [List.length_cons] at hn hj
    obtain ⟨n, rfl⟩ : ∃ m, n = m + 1 := ⟨n - 1, by omega⟩
    rw [itr_s]
    generalize hK : itr (bX1_tell_38 fu (t + 9) (nI k) (nI N)) n = kk
    unfold bX1_tell_38
    dsimp only
    have e2 : nI (3 * j) + 2 = nI (3 * j + 2) := nI_add _ 2
    have e1 : nI (3 * j) + 1 = nI (3 * j + 1) := nI_1 _
    have e3 : nI (3 * j) + 3 = nI (3 * (j + 1)) := nI_add _ 3
    have ha : es[3 * j]? = some a := hes 0
    have hb : es[3 * j + 1]? = some b := hes 1
    have hc : es[3 * j + 2]? = some c := hes 2
    rw [e2, if_neg (nI_ge (by omega) (by omega)), if_pos rfl, ckO_of (tc9 hL)]
    have hz : gI h (t + 9) 7 = 0 ∨ gI h (t + 9) 7 = 1 := hT.imp (fun q => q.1) (fun q => q.1)
    refine ok_bd (ok_mono (valC hL hfu hk (by omega) h1 hp ha hz) (fun x h2 hq => ?_))
    obtain ⟨o1, hq1⟩ := hq
    have hL1 := Ly_eo hL o1
    have hz1 : gI h2 (t + 9) 7 = 0 ∨ gI h2 (t + 9) 7 = 1 := by
      rcases hq1 with ⟨v, _, _, q⟩ | ⟨_, q⟩
      · rw [q]; exact hz
      · exact Or.inr q
    have n0 : ∀ k, ¬ sTC t (t + 10) k := fun k => nTC (by omega) (by omega)
    have n2 : ∀ k, ¬ sTC t (t + 12) k := fun k => nTC (by omega) (by omega)
    have g1 : gI h2 (t + 11) k = nI s := by rw [o1.2 _ _ (nTC (by omega) (by omega))]; exact h1
    rw [e1, ckO_of (tc9 hL1)]
    refine ok_bd (ok_mono (valC hL1 hfu hk (by omega) g1 (prtC_eo o1 n0 n2 hp) hb hz1) (fun y h3 hq => ?_))
    obtain ⟨o2, hq2⟩ := hq
    have o12 := eo_tr o1 o2
    have hL2 := Ly_eo hL o12
    have hv1 : gI h2 (t + 14) = gI h (t + 14) := by funext q; exact o1.2 _ _ (nTC (by omega) (by omega))
    have hv2 : gI h3 (t + 14) = gI h (t + 14) := by funext q; exact o12.2 _ _ (nTC (by omega) (by omega))
    have g2 : gI h3 (t + 11) k = nI s := by rw [o12.2 _ _ (nTC (by omega) (by omega))]; exact h1
    have p2 := prtC_eo o12 n0 n2 hp
    rw [hv1] at hq2
    -- what is left to tell
    have key : (gI h3 (t + 9) 7 = 0 ∧ ((x < y ∧ T9 = (vlP (gI h (t + 14)) c).getD 0) ∨ (¬ x < y ∧ T9 = lawv (gI h (t + 14)) ts e))) ∨ (gI h3 (t + 9) 7 = 1 ∧ T9 = 0) := by
      rcases hq1 with ⟨x', u1, u2, u3⟩ | ⟨u1, u3⟩
      · rcases hq2 with ⟨y', w1, w2, w3⟩ | ⟨w1, w3⟩
        · rcases hT with ⟨z1, z2⟩ | ⟨z1, z2⟩
          · refine Or.inl ⟨by rw [w3, u3, z1], ?_⟩
            unfold lawv at z2
            rw [u1, w1] at z2
            dsimp only at z2
            subst u2 w2
            by_cases hxy : x < y
            · rw [if_pos hxy] at z2
              exact Or.inl ⟨hxy, z2⟩
            · rw [if_neg hxy] at z2
              exact Or.inr ⟨hxy, z2⟩
          · exact Or.inr ⟨by rw [w3, u3, z1], z2⟩
        · refine Or.inr ⟨w3, ?_⟩
          rcases hT with ⟨z1, z2⟩ | ⟨z1, z2⟩
          · unfold lawv at z2
            rw [u1, w1] at z2
            exact z2
          · exact z2
      · have f3 : gI h3 (t + 9) 7 = 1 := by
          rcases hq2 with ⟨_, _, _, q⟩ | ⟨_, q⟩
          · rw [q, u3]
          · exact q
        refine Or.inr ⟨f3, ?_⟩
        rcases hT with ⟨z1, z2⟩ | ⟨z1, z2⟩
        · unfold lawv at z2
          rw [u1] at z2
          rw [z2]
        · exact z2
    by_cases hxy : y ≤ x
    · rw [if_pos hxy]
      unfold fX1_tell_75
      rw [e3, ← hK]
      refine ok_mono (ih (j + 1) n h3 hL2 (by omega) (by omega) ?_ g2 p2 ?_) (fun r h4 hr => ⟨eo_tr o12 hr.1, hr.2⟩)
      · intro i
        rw [show 3 * (j + 1) + i = 3 * j + (i + 3) by omega, hes (i + 3)]
        rfl
      · rw [hv2]
        rcases key with ⟨z1, ⟨z2, _⟩ | ⟨_, z3⟩⟩ | z
        · exact absurd hxy (Int32.not_le.mpr z2)
        · exact Or.inl ⟨z1, z3⟩
        · exact Or.inr z
    · rw [if_neg hxy]
      dsimp only [lt]
      unfold fX1_tell_75
      rw [e3, ← hK]
      obtain ⟨n, rfl⟩ : ∃ m, n = m + 1 := ⟨n - 1, by omega⟩
      rw [itr_s]
      generalize itr (bX1_tell_38 fu (t + 9) (nI k) (nI N)) n = kk2
      unfold bX1_tell_38
      dsimp only
      have hne : ¬ nI (3 * j + 2) = nI N := fun q => by have := (nI_eq (by omega) (by omega)).mp q; omega
      rw [if_neg hne, ite_self]
      refine ok_mono (tell81 (T9 := T9) hL2 hfu hk (by omega) g2 p2 hc ?_) (fun r h4 hr => ⟨eo_tr o12 hr.1, hr.2⟩)
      rw [hv2]
      rcases key with ⟨z1, ⟨_, z3⟩ | ⟨z2, _⟩⟩ | z
      · exact Or.inl ⟨z1, z3⟩
      · exact absurd (Int32.not_le.mp hxy) z2
      · exact Or.inr z
/-- what a law tells that isn't told -/
def dfl (k : Nat) : Int32 := if k = 0 ∨ k = 1 then 1 else 0
/-- THE CLASS'S tell -/
theorem tellC {t u fu k : Nat} {h : mh} {A : Lw} (hL : Ly t u h) (hfu : 1000 ≤ fu) (hk : k < 4) (hA : lawC h t k A) :
    ok (fX1_tell fu (t + 9) (nI k) h) (fun r h' => eo (sTC t) h h' ∧ r = tlC k (vlL (gI h (t + 14)) (dfl k) A)) := by
  unfold fX1_tell
  rw [ldR_of (tc9 hL) (tr9_4 hL), ldA_of (tc13 hL) (inr_nI hk (by omega)), nI_clamp (by omega)]
  dsimp only [lt]
  match A, hA with
  | none, hA =>
    have hA : gI h (t + 13) k = 0 := hA
    rw [hA, if_neg (by decide)]
    rcases (show k = 0 ∨ k = 1 ∨ k = 2 ∨ k = 3 by omega) with rfl | rfl | rfl | rfl
    · exact ok_some ⟨eo_rf, (show (1 : Int32) = tlC 0 (dfl 0) by decide)⟩
    · exact ok_some ⟨eo_rf, (show (1 : Int32) = tlC 1 (dfl 1) by decide)⟩
    · exact ok_some ⟨eo_rf, (show (0 : Int32) = tlC 2 (dfl 2) by decide)⟩
    · exact ok_some ⟨eo_rf, (show (0 : Int32) = tlC 3 (dfl 3) by decide)⟩
  | some (ts, e), ⟨q0, q1, s, q2, q3⟩ =>
    have e1 : nI (3 * ts.length + 1) - 1 = nI (3 * ts.length) := nI_pred _
    rw [q1, e1, if_pos (nI_pos' (by omega)), stZ_of (tc9 hL) (Or.inl rfl)]
    have o : eo (sTC t) h (uI h (t + 9) 7 0) := eo_uI eo_rf (Or.inr ⟨rfl, rfl⟩)
    have hL1 : Ly t u (uI h (t + 9) 7 0) := Ly_uI hL
    have hvv : gI (uI h (t + 9) 7 0) (t + 14) = gI h (t + 14) := by funext q; exact o.2 _ _ (nTC (by omega) (by omega))
    refine ok_mono (tellC_loop (T9 := lawv (gI h (t + 14)) ts e) hfu hk (by omega) ts 0 fu _ hL1 (by omega) (by omega) (fun i => by rw [show 3 * 0 + i = i by omega]) (by rw [o.2 _ _ (nTC (by omega) (by omega))]; exact q2) (prtC_eo o (fun k => nTC (by omega) (by omega)) (fun k => nTC (by omega) (by omega)) q3) (Or.inl ⟨by rw [gI_uI, if_pos ⟨rfl, rfl⟩], by rw [hvv]⟩)) (fun r h4 hr => ⟨eo_tr o hr.1, hr.2⟩)
