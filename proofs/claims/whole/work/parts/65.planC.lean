/-! PLANS IN THE CLASS -/
theorem pl_ng : ∀ d, d < 5 → 52 + 5 * d ∈ ngt := by decide +kernel
theorem lkAnyC {t u n fu W : Nat} {T : AT} {N : AN} {h : mh} (hC : CC t u T n N h) (hfu : 1000 ≤ fu) (hW : W < 64) : fX6_lackedByAny fu t n (nI W) h = some (nI (lkV T N W), h) := by
  obtain ⟨hy, htx, hng, hn, hwT, hwN⟩ := id hC
  have hT := LT_of hy
  have h6 := hwT.2.1
  refine ok_eq ?_
  unfold fX6_lackedByAny
  refine loop3 (I := fun j v h' => h' = h ∧ v = nI (orU (fun l => if W.testBit l then lack T N l else 0) j)) (n := nL9 T) (by omega) hfu ⟨rfl, rfl⟩ ?_ ?_
  · intro v h1 k hI
    obtain ⟨rfl, rfl⟩ := hI
    unfold bX6_lackedByAny_5
    dsimp only
    repeat (first | with_reducible apply v_lt | ((with_reducible apply vXR4); exact hT) | ((with_reducible apply w_XR); exact (LM_T hT); rfl) | ((with_reducible apply w_TR); exact hT; rfl) | ((with_reducible apply w_UR); exact hT; rfl) | ((first | with_reducible apply vXI | with_reducible apply vXS | with_reducible apply vXC); exact (LM_T hT)) | ((first | with_reducible apply vT0I | with_reducible apply vT9I | with_reducible apply vT0C | with_reducible apply vT9C | with_reducible apply vT0S | with_reducible apply vT9S); exact hT) | ((first | with_reducible apply vNR0 | with_reducible apply vNR1 | with_reducible apply vNR2 | with_reducible apply vNR3 | with_reducible apply vNI | with_reducible apply vNS | with_reducible apply vNC); (first | assumption | exact m39 | exact m44); exact (LM_T hT)) | ((first | with_reducible apply w_NA | with_reducible apply w_NW); exact (LM_T hT); (first | assumption | exact m39 | exact m44); rfl; rfl; (first | with_reducible rfl | with_reducible exact ixo _ | with_reducible exact ixoc _ _ | with_reducible exact ixom _ _ _ | with_reducible exact ixop _ _ | with_reducible exact ixod _ _ | assumption); omega) | ((first | with_reducible apply w_TA | with_reducible apply w_TW | with_reducible apply w_TJ | with_reducible apply w_TK); exact hT; rfl; rfl; (first | with_reducible rfl | with_reducible exact ixo _ | with_reducible exact ixoc _ _ | with_reducible exact ixom _ _ _ | with_reducible exact ixop _ _ | with_reducible exact ixod _ _ | assumption); omega))
    rw [htx.2.1]
    exact v_it (nI_le (Nat.le_refl _) (by omega)) (v_rI ⟨rfl, rfl⟩)
  · intro j v h1 k hj hI hk
    obtain ⟨rfl, rfl⟩ := hI
    unfold bX6_lackedByAny_5
    dsimp only
    repeat (first | with_reducible apply v_lt | ((with_reducible apply vXR4); exact hT) | ((with_reducible apply w_XR); exact (LM_T hT); rfl) | ((with_reducible apply w_TR); exact hT; rfl) | ((with_reducible apply w_UR); exact hT; rfl) | ((first | with_reducible apply vXI | with_reducible apply vXS | with_reducible apply vXC); exact (LM_T hT)) | ((first | with_reducible apply vT0I | with_reducible apply vT9I | with_reducible apply vT0C | with_reducible apply vT9C | with_reducible apply vT0S | with_reducible apply vT9S); exact hT) | ((first | with_reducible apply vNR0 | with_reducible apply vNR1 | with_reducible apply vNR2 | with_reducible apply vNR3 | with_reducible apply vNI | with_reducible apply vNS | with_reducible apply vNC); (first | assumption | exact m39 | exact m44); exact (LM_T hT)) | ((first | with_reducible apply w_NA | with_reducible apply w_NW); exact (LM_T hT); (first | assumption | exact m39 | exact m44); rfl; rfl; (first | with_reducible rfl | with_reducible exact ixo _ | with_reducible exact ixoc _ _ | with_reducible exact ixom _ _ _ | with_reducible exact ixop _ _ | with_reducible exact ixod _ _ | assumption); omega) | ((first | with_reducible apply w_TA | with_reducible apply w_TW | with_reducible apply w_TJ | with_reducible apply w_TK); exact hT; rfl; rfl; (first | with_reducible rfl | with_reducible exact ixo _ | with_reducible exact ixoc _ _ | with_reducible exact ixom _ _ _ | with_reducible exact ixop _ _ | with_reducible exact ixod _ _ | assumption); omega))
    rw [htx.2.1]
    refine v_ie (nI_ge hj (by omega)) ?_
    refine v_eq (holdsC (by omega) (by omega)) ?_
    refine v_b (b := W.testBit j) (fun e => ?_) (fun e => ?_)
    · unfold fX6_lackedByAny_35
      refine v_lt (hk _ _ ⟨rfl, ?_⟩)
      show nI _ ||| 0 = nI (orU (fun l => if W.testBit l then lack T N l else 0) j ||| if W.testBit j then lack T N j else 0)
      rw [e, if_neg (by decide), or_0]
      exact Int32.or_zero
    · repeat (first | with_reducible apply v_lt | ((with_reducible apply vXR4); exact hT) | ((with_reducible apply w_XR); exact (LM_T hT); rfl) | ((with_reducible apply w_TR); exact hT; rfl) | ((with_reducible apply w_UR); exact hT; rfl) | ((first | with_reducible apply vXI | with_reducible apply vXS | with_reducible apply vXC); exact (LM_T hT)) | ((first | with_reducible apply vT0I | with_reducible apply vT9I | with_reducible apply vT0C | with_reducible apply vT9C | with_reducible apply vT0S | with_reducible apply vT9S); exact hT) | ((first | with_reducible apply vNR0 | with_reducible apply vNR1 | with_reducible apply vNR2 | with_reducible apply vNR3 | with_reducible apply vNI | with_reducible apply vNS | with_reducible apply vNC); (first | assumption | exact m39 | exact m44); exact (LM_T hT)) | ((first | with_reducible apply w_NA | with_reducible apply w_NW); exact (LM_T hT); (first | assumption | exact m39 | exact m44); rfl; rfl; (first | with_reducible rfl | with_reducible exact ixo _ | with_reducible exact ixoc _ _ | with_reducible exact ixom _ _ _ | with_reducible exact ixop _ _ | with_reducible exact ixod _ _ | assumption); omega) | ((first | with_reducible apply w_TA | with_reducible apply w_TW | with_reducible apply w_TJ | with_reducible apply w_TK); exact hT; rfl; rfl; (first | with_reducible rfl | with_reducible exact ixo _ | with_reducible exact ixoc _ _ | with_reducible exact ixom _ _ _ | with_reducible exact ixop _ _ | with_reducible exact ixod _ _ | assumption); omega))
      refine v_eq (lackC hC hj) ?_
      unfold fX6_lackedByAny_35
      refine v_lt (hk _ _ ⟨rfl, ?_⟩)
      show nI _ ||| nI (lack T N j) = nI (orU (fun l => if W.testBit l then lack T N l else 0) j ||| if W.testBit j then lack T N j else 0)
      rw [e, if_pos rfl, fa_or]
theorem lkV_lt {T : AT} {N : AN} {W : Nat} (hT : wfT T) : lkV T N W < 256 := by
  refine orU_lt (fun i hi => ?_)
  split
  · exact lack_lt hT hi
  · decide
theorem hopC {t u n fu : Nat} {T : AT} {N : AN} {h : mh} (hC : CC t u T n N h) (hfu : 1000 ≤ fu) : fX6_hopelessIn fu t n h = some (nI (bitsU (hopB T N) (nL9 T)), h) := by
  obtain ⟨hy, htx, hng, hn, hwT, hwN⟩ := id hC
  have hT := LT_of hy
  have h6 := hwT.2.1
  refine ok_eq2 (bitsL (V := fun h' => h' = h) (by omega) hfu rfl ?_ ?_)
  · intro a h1 k hV
    subst hV
    unfold bX6_hopelessIn_4
    dsimp only
    repeat (first | with_reducible apply v_lt | ((with_reducible apply vXR4); exact hT) | ((with_reducible apply w_XR); exact (LM_T hT); rfl) | ((with_reducible apply w_TR); exact hT; rfl) | ((with_reducible apply w_UR); exact hT; rfl) | ((first | with_reducible apply vXI | with_reducible apply vXS | with_reducible apply vXC); exact (LM_T hT)) | ((first | with_reducible apply vT0I | with_reducible apply vT9I | with_reducible apply vT0C | with_reducible apply vT9C | with_reducible apply vT0S | with_reducible apply vT9S); exact hT) | ((first | with_reducible apply vNR0 | with_reducible apply vNR1 | with_reducible apply vNR2 | with_reducible apply vNR3 | with_reducible apply vNI | with_reducible apply vNS | with_reducible apply vNC); (first | assumption | exact m39 | exact m44); exact (LM_T hT)) | ((first | with_reducible apply w_NA | with_reducible apply w_NW); exact (LM_T hT); (first | assumption | exact m39 | exact m44); rfl; rfl; (first | with_reducible rfl | with_reducible exact ixo _ | with_reducible exact ixoc _ _ | with_reducible exact ixom _ _ _ | with_reducible exact ixop _ _ | with_reducible exact ixod _ _ | assumption); omega) | ((first | with_reducible apply w_TA | with_reducible apply w_TW | with_reducible apply w_TJ | with_reducible apply w_TK); exact hT; rfl; rfl; (first | with_reducible rfl | with_reducible exact ixo _ | with_reducible exact ixoc _ _ | with_reducible exact ixom _ _ _ | with_reducible exact ixop _ _ | with_reducible exact ixod _ _ | assumption); omega))
    rw [htx.2.1]
    exact v_it (nI_le (Nat.le_refl _) (by omega)) (v_rI ⟨rfl, rfl⟩)
  · intro i a h2 k Q hi hV h0 h1
    subst hV
    have fin : ∀ c : Nat, c = (if onB N i then orU (kw T) (nR T) else 0) → ok (fX6_hopelessIn_28 fu k t n (nI a) (nI i) (nI c) h2) Q := by
      intro c hc
      unfold fX6_hopelessIn_28
      repeat (first | with_reducible apply v_lt | ((with_reducible apply vXR4); exact hT) | ((with_reducible apply w_XR); exact (LM_T hT); rfl) | ((with_reducible apply w_TR); exact hT; rfl) | ((with_reducible apply w_UR); exact hT; rfl) | ((first | with_reducible apply vXI | with_reducible apply vXS | with_reducible apply vXC); exact (LM_T hT)) | ((first | with_reducible apply vT0I | with_reducible apply vT9I | with_reducible apply vT0C | with_reducible apply vT9C | with_reducible apply vT0S | with_reducible apply vT9S); exact hT) | ((first | with_reducible apply vNR0 | with_reducible apply vNR1 | with_reducible apply vNR2 | with_reducible apply vNR3 | with_reducible apply vNI | with_reducible apply vNS | with_reducible apply vNC); (first | assumption | exact m39 | exact m44); exact (LM_T hT)) | ((first | with_reducible apply w_NA | with_reducible apply w_NW); exact (LM_T hT); (first | assumption | exact m39 | exact m44); rfl; rfl; (first | with_reducible rfl | with_reducible exact ixo _ | with_reducible exact ixoc _ _ | with_reducible exact ixom _ _ _ | with_reducible exact ixop _ _ | with_reducible exact ixod _ _ | assumption); omega) | ((first | with_reducible apply w_TA | with_reducible apply w_TW | with_reducible apply w_TJ | with_reducible apply w_TK); exact hT; rfl; rfl; (first | with_reducible rfl | with_reducible exact ixo _ | with_reducible exact ixoc _ _ | with_reducible exact ixom _ _ _ | with_reducible exact ixop _ _ | with_reducible exact ixod _ _ | assumption); omega))
      refine v_eq (lackC hC hi) ?_
      rw [fa_andn]
      have := ndn_lt (n := 8) (b := c) (lack_lt (N := N) hwT hi)
      refine v_ze (q := ndn (lack T N i) c) (by omega) (fun e => h0 _ rfl ?_) (fun e => h1 _ rfl ?_)
      · unfold hopB
        rw [← hc]
        exact decide_eq_false (fun z => z e)
      · unfold hopB
        rw [← hc]
        exact decide_eq_true (by omega)
    unfold bX6_hopelessIn_4
    dsimp only
    repeat (first | with_reducible apply v_lt | ((with_reducible apply vXR4); exact hT) | ((with_reducible apply w_XR); exact (LM_T hT); rfl) | ((with_reducible apply w_TR); exact hT; rfl) | ((with_reducible apply w_UR); exact hT; rfl) | ((first | with_reducible apply vXI | with_reducible apply vXS | with_reducible apply vXC); exact (LM_T hT)) | ((first | with_reducible apply vT0I | with_reducible apply vT9I | with_reducible apply vT0C | with_reducible apply vT9C | with_reducible apply vT0S | with_reducible apply vT9S); exact hT) | ((first | with_reducible apply vNR0 | with_reducible apply vNR1 | with_reducible apply vNR2 | with_reducible apply vNR3 | with_reducible apply vNI | with_reducible apply vNS | with_reducible apply vNC); (first | assumption | exact m39 | exact m44); exact (LM_T hT)) | ((first | with_reducible apply w_NA | with_reducible apply w_NW); exact (LM_T hT); (first | assumption | exact m39 | exact m44); rfl; rfl; (first | with_reducible rfl | with_reducible exact ixo _ | with_reducible exact ixoc _ _ | with_reducible exact ixom _ _ _ | with_reducible exact ixop _ _ | with_reducible exact ixod _ _ | assumption); omega) | ((first | with_reducible apply w_TA | with_reducible apply w_TW | with_reducible apply w_TJ | with_reducible apply w_TK); exact hT; rfl; rfl; (first | with_reducible rfl | with_reducible exact ixo _ | with_reducible exact ixoc _ _ | with_reducible exact ixom _ _ _ | with_reducible exact ixop _ _ | with_reducible exact ixod _ _ | assumption); omega))
    rw [htx.2.1]
    refine v_ie (nI_ge hi (by omega)) ?_
    repeat (first | with_reducible apply v_lt | ((with_reducible apply vXR4); exact hT) | ((with_reducible apply w_XR); exact (LM_T hT); rfl) | ((with_reducible apply w_TR); exact hT; rfl) | ((with_reducible apply w_UR); exact hT; rfl) | ((first | with_reducible apply vXI | with_reducible apply vXS | with_reducible apply vXC); exact (LM_T hT)) | ((first | with_reducible apply vT0I | with_reducible apply vT9I | with_reducible apply vT0C | with_reducible apply vT9C | with_reducible apply vT0S | with_reducible apply vT9S); exact hT) | ((first | with_reducible apply vNR0 | with_reducible apply vNR1 | with_reducible apply vNR2 | with_reducible apply vNR3 | with_reducible apply vNI | with_reducible apply vNS | with_reducible apply vNC); (first | assumption | exact m39 | exact m44); exact (LM_T hT)) | ((first | with_reducible apply w_NA | with_reducible apply w_NW); exact (LM_T hT); (first | assumption | exact m39 | exact m44); rfl; rfl; (first | with_reducible rfl | with_reducible exact ixo _ | with_reducible exact ixoc _ _ | with_reducible exact ixom _ _ _ | with_reducible exact ixop _ _ | with_reducible exact ixod _ _ | assumption); omega) | ((first | with_reducible apply w_TA | with_reducible apply w_TW | with_reducible apply w_TJ | with_reducible apply w_TK); exact hT; rfl; rfl; (first | with_reducible rfl | with_reducible exact ixo _ | with_reducible exact ixoc _ _ | with_reducible exact ixom _ _ _ | with_reducible exact ixop _ _ | with_reducible exact ixod _ _ | assumption); omega))
    refine v_eq (isOnC hC (by omega)) ?_
    refine v_b (fun e => fin 0 ?_) (fun e => ?_)
    · rw [e]
      rfl
    · repeat (first | with_reducible apply v_lt | ((with_reducible apply vXR4); exact hT) | ((with_reducible apply w_XR); exact (LM_T hT); rfl) | ((with_reducible apply w_TR); exact hT; rfl) | ((with_reducible apply w_UR); exact hT; rfl) | ((first | with_reducible apply vXI | with_reducible apply vXS | with_reducible apply vXC); exact (LM_T hT)) | ((first | with_reducible apply vT0I | with_reducible apply vT9I | with_reducible apply vT0C | with_reducible apply vT9C | with_reducible apply vT0S | with_reducible apply vT9S); exact hT) | ((first | with_reducible apply vNR0 | with_reducible apply vNR1 | with_reducible apply vNR2 | with_reducible apply vNR3 | with_reducible apply vNI | with_reducible apply vNS | with_reducible apply vNC); (first | assumption | exact m39 | exact m44); exact (LM_T hT)) | ((first | with_reducible apply w_NA | with_reducible apply w_NW); exact (LM_T hT); (first | assumption | exact m39 | exact m44); rfl; rfl; (first | with_reducible rfl | with_reducible exact ixo _ | with_reducible exact ixoc _ _ | with_reducible exact ixom _ _ _ | with_reducible exact ixop _ _ | with_reducible exact ixod _ _ | assumption); omega) | ((first | with_reducible apply w_TA | with_reducible apply w_TW | with_reducible apply w_TJ | with_reducible apply w_TK); exact hT; rfl; rfl; (first | with_reducible rfl | with_reducible exact ixo _ | with_reducible exact ixoc _ _ | with_reducible exact ixom _ _ _ | with_reducible exact ixop _ _ | with_reducible exact ixod _ _ | assumption); omega))
      refine v_eq (knownByC hC hfu) ?_
      refine fin _ ?_
      rw [e]
      rfl
/-- what the search writes from a depth on -/
def sPl (t d a k : Nat) : Prop := sC t a k ∨ (57 + 5 * d ≤ a ∧ a ≤ 76) ∨ (a = 51 ∧ d ≤ k)
theorem CC_pl {S : Nat → Nat → Prop} {t u d : Nat} {T : AT} {N : AN} {h h1 : mh} (hd : d ≤ 4) (o : eo S h h1) (hs : ∀ a k, S a k → sPl t d a k) (q : CC t u T (52 + 5 * d) N h) : CC t u T (52 + 5 * d) N h1 := by
  obtain ⟨q1, q2, q3, q4, q5, q6⟩ := q
  have h2' := t_hi q1
  exact ⟨Ly_eo q1 o, txC_eo o (fun a _ _ _ k z => by have := hs _ _ z; unfold sPl sC at this; omega) q2, ngC_eo o (fun a _ _ k z => by have := hs _ _ z; unfold sPl sC at this; omega) q3, q4, q5, q6⟩
theorem reachC {t u fu W : Nat} {T : AT} (hfu : 1000 ≤ fu) (hW : W < 64) : ∀ (m d f : Nat) (N : AN) (h : mh), d + m ≤ 4 → m < f → CC t u T (52 + 5 * d) N h → ok (itr (bX4_reaches fu) f (t, nI W, 50, 51, nI d, nI (d + m), h)) (fun x h' => eo (sPl t d) h h' ∧ x = b2i (rch T W m N).isSome ∧ ∀ ps, rch T W m N = some ps → ∀ i, i < m → gI h' 51 (d + i) = nI (ps.getD i 0)) := by
  intro m
  induction m with
  | zero =>
    intro d f N h hd hf hC
    obtain ⟨hy, htx, hng, hn, hwT, hwN⟩ := id hC
    have hT := LT_of hy
    have hL := LM_T hT
    have hlk := lkV_lt (N := N) (W := W) hwT
    obtain ⟨f, rfl⟩ : ∃ f', f = f' + 1 := ⟨f - 1, by omega⟩
    rw [itr_s]
    unfold bX4_reaches
    dsimp only
    apply v50A hL (e := rfl) (hj := by omega)
    repeat (first | with_reducible apply v_lt | ((with_reducible apply vXR4); exact hT) | ((with_reducible apply w_XR); exact (LM_T hT); rfl) | ((with_reducible apply w_TR); exact hT; rfl) | ((with_reducible apply w_UR); exact hT; rfl) | ((first | with_reducible apply vXI | with_reducible apply vXS | with_reducible apply vXC); exact (LM_T hT)) | ((first | with_reducible apply vT0I | with_reducible apply vT9I | with_reducible apply vT0C | with_reducible apply vT9C | with_reducible apply vT0S | with_reducible apply vT9S); exact hT) | ((first | with_reducible apply vNR0 | with_reducible apply vNR1 | with_reducible apply vNR2 | with_reducible apply vNR3 | with_reducible apply vNI | with_reducible apply vNS | with_reducible apply vNC); (first | assumption | exact m39 | exact m44); exact (LM_T hT)) | ((first | with_reducible apply w_NA | with_reducible apply w_NW); exact (LM_T hT); (first | assumption | exact m39 | exact m44); rfl; rfl; (first | with_reducible rfl | with_reducible exact ixo _ | with_reducible exact ixoc _ _ | with_reducible exact ixom _ _ _ | with_reducible exact ixop _ _ | with_reducible exact ixod _ _ | assumption); omega) | ((first | with_reducible apply w_TA | with_reducible apply w_TW | with_reducible apply w_TJ | with_reducible apply w_TK); exact hT; rfl; rfl; (first | with_reducible rfl | with_reducible exact ixo _ | with_reducible exact ixoc _ _ | with_reducible exact ixom _ _ _ | with_reducible exact ixop _ _ | with_reducible exact ixod _ _ | assumption); omega))
    refine v_eq (lkAnyC hC hfu hW) ?_
    refine v_it (nI_le (by omega) (by omega)) ?_
    unfold fX4_reaches_24
    have e : rch T W 0 N = if enB T W N then some [] else none := rfl
    refine v_ze (by omega) (fun z => v_rZ (Or.inr rfl) ⟨eo_rf, ?_, fun ps _ i hi => by omega⟩) (fun z => v_rZ (Or.inl rfl) ⟨eo_rf, ?_, fun ps _ i hi => by omega⟩)
    · rw [e, show enB T W N = true from decide_eq_true z]
      rfl
    · rw [e, show enB T W N = false from decide_eq_false (by omega)]
      rfl
  | succ m ih =>
    intro d f N h hd hf hC
    obtain ⟨hy, htx, hng, hn, hwT, hwN⟩ := id hC
    have hT := LT_of hy
    have hL := LM_T hT
    have ht := t_hi hy
    have hr6 := hwT.1
    have hlk := lkV_lt (N := N) (W := W) hwT
    obtain ⟨f, rfl⟩ : ∃ f', f = f' + 1 := ⟨f - 1, by omega⟩
    -- the roles, one behind the other
    have main : ∀ s0 : Bool, s0 = decide (m = 0) → ok (fX4_reaches_49 fu (itr (bX4_reaches fu) f) t (nI W) 50 51 (nI d) (nI (d + (m + 1))) (nI (lkV T N W)) (b2i s0) h) (fun x h' => eo (sPl t d) h h' ∧ x = b2i (rch T W (m + 1) N).isSome ∧ ∀ ps, rch T W (m + 1) N = some ps → ∀ i, i < m + 1 → gI h' 51 (d + i) = nI (ps.getD i 0)) := by
      intro s0 hs0
      unfold fX4_reaches_49
      refine loop2 (I := fun j h' => eo (sPl t d) h h' ∧ scan (fun r => if qu N r = 0 then rch T W m (pass T N (some r) false) else none) (nR T - j) j = rch T W (m + 1) N) (n := nR T) (by omega) hfu ⟨eo_rf, rfl⟩ ?_ ?_
      · intro h1 k hI
        obtain ⟨o1, e1⟩ := hI
        have hC1 := CC_pl (by omega) o1 (fun a k q => q) hC
        have hT1 := LT_of hC1.1
        rw [Nat.sub_self] at e1
        have e1 : rch T W (m + 1) N = none := e1.symm
        unfold bX4_reaches_54
        dsimp only
        repeat (first | with_reducible apply v_lt | ((with_reducible apply vXR4); exact hT1) | ((with_reducible apply w_XR); exact (LM_T hT1); rfl) | ((with_reducible apply w_TR); exact hT1; rfl) | ((with_reducible apply w_UR); exact hT1; rfl) | ((first | with_reducible apply vXI | with_reducible apply vXS | with_reducible apply vXC); exact (LM_T hT1)) | ((first | with_reducible apply vT0I | with_reducible apply vT9I | with_reducible apply vT0C | with_reducible apply vT9C | with_reducible apply vT0S | with_reducible apply vT9S); exact hT1) | ((first | with_reducible apply vNR0 | with_reducible apply vNR1 | with_reducible apply vNR2 | with_reducible apply vNR3 | with_reducible apply vNI | with_reducible apply vNS | with_reducible apply vNC); (first | assumption | exact m39 | exact m44); exact (LM_T hT1)) | ((first | with_reducible apply w_NA | with_reducible apply w_NW); exact (LM_T hT1); (first | assumption | exact m39 | exact m44); rfl; rfl; (first | with_reducible rfl | with_reducible exact ixo _ | with_reducible exact ixoc _ _ | with_reducible exact ixom _ _ _ | with_reducible exact ixop _ _ | with_reducible exact ixod _ _ | assumption); omega) | ((first | with_reducible apply w_TA | with_reducible apply w_TW | with_reducible apply w_TJ | with_reducible apply w_TK); exact hT1; rfl; rfl; (first | with_reducible rfl | with_reducible exact ixo _ | with_reducible exact ixoc _ _ | with_reducible exact ixom _ _ _ | with_reducible exact ixop _ _ | with_reducible exact ixod _ _ | assumption); omega))
        rw [hC1.2.1.1]
        refine v_it (nI_le (Nat.le_refl _) (by omega)) (v_rZ (Or.inl rfl) ⟨o1, ?_, fun ps e => ?_⟩)
        · rw [e1]
          rfl
        · rw [e1] at e
          cases e
      · intro j h1 k hj hI hk
        obtain ⟨o1, e1⟩ := hI
        have hC1 := CC_pl (by omega) o1 (fun a k q => q) hC
        have hT1 := LT_of hC1.1
        have hL1 := LM_T hT1
        have hq := (hwN.1 j (by omega)).2.2
        have hdn := pl_ng d (by omega)
        have hdn1 := pl_ng (d + 1) (by omega)
        have es : scan (fun r => if qu N r = 0 then rch T W m (pass T N (some r) false) else none) (nR T - j) j = match (if qu N j = 0 then rch T W m (pass T N (some j) false) else none) with
            | some ps => some (j :: ps)
            | none => scan (fun r => if qu N r = 0 then rch T W m (pass T N (some r) false) else none) (nR T - (j + 1)) (j + 1) := by
          rw [show nR T - j = (nR T - (j + 1)) + 1 from by omega]
          rfl
        have skip : (if qu N j = 0 then rch T W m (pass T N (some j) false) else none) = none → ∀ h2, eo (sPl t d) h h2 → ok (k (nI j + 1, h2)) (fun x h' => eo (sPl t d) h h' ∧ x = b2i (rch T W (m + 1) N).isSome ∧ ∀ ps, rch T W (m + 1) N = some ps → ∀ i, i < m + 1 → gI h' 51 (d + i) = nI (ps.getD i 0)) := by
          intro en h2 o2
          refine hk _ ⟨o2, ?_⟩
          rw [← e1, es, en]
        -- a role tried
        have tried : qu N j = 0 → ok (fX4_reaches_96 fu (itr (bX4_reaches fu) f) k t (nI W) 50 51 (nI d) (nI (d + (m + 1))) (nI (lkV T N W)) (b2i s0) (nI j) h1) (fun x h' => eo (sPl t d) h h' ∧ x = b2i (rch T W (m + 1) N).isSome ∧ ∀ ps, rch T W (m + 1) N = some ps → ∀ i, i < m + 1 → gI h' 51 (d + i) = nI (ps.getD i 0)) := by
          intro q0
          unfold fX4_reaches_96
          apply v51W hL1 (e := rfl) (hj := by omega)
          rw [nI_1]
          have o2 : eo (sPl t d) h (uI h1 51 d (nI j)) := eo_uI o1 (Or.inr (Or.inr ⟨rfl, Nat.le_refl _⟩))
          have hC2 := CC_pl (by omega) o2 (fun a k q => q) hC
          have hT2 := LT_of hC2.1
          have hL2 := LM_T hT2
          apply v50A hL2 (e := rfl) (hj := by omega)
          apply v50A hL2 (e := rfl) (hj := by omega)
          repeat (first | with_reducible apply v_lt | ((with_reducible apply vXR4); exact hT2) | ((with_reducible apply w_XR); exact (LM_T hT2); rfl) | ((with_reducible apply w_TR); exact hT2; rfl) | ((with_reducible apply w_UR); exact hT2; rfl) | ((first | with_reducible apply vXI | with_reducible apply vXS | with_reducible apply vXC); exact (LM_T hT2)) | ((first | with_reducible apply vT0I | with_reducible apply vT9I | with_reducible apply vT0C | with_reducible apply vT9C | with_reducible apply vT0S | with_reducible apply vT9S); exact hT2) | ((first | with_reducible apply vNR0 | with_reducible apply vNR1 | with_reducible apply vNR2 | with_reducible apply vNR3 | with_reducible apply vNI | with_reducible apply vNS | with_reducible apply vNC); (first | assumption | exact m39 | exact m44); exact (LM_T hT2)) | ((first | with_reducible apply w_NA | with_reducible apply w_NW); exact (LM_T hT2); (first | assumption | exact m39 | exact m44); rfl; rfl; (first | with_reducible rfl | with_reducible exact ixo _ | with_reducible exact ixoc _ _ | with_reducible exact ixom _ _ _ | with_reducible exact ixop _ _ | with_reducible exact ixod _ _ | assumption); omega) | ((first | with_reducible apply w_TA | with_reducible apply w_TW | with_reducible apply w_TJ | with_reducible apply w_TK); exact hT2; rfl; rfl; (first | with_reducible rfl | with_reducible exact ixo _ | with_reducible exact ixoc _ _ | with_reducible exact ixom _ _ _ | with_reducible exact ixop _ _ | with_reducible exact ixod _ _ | assumption); omega))
          refine v_bd (becomeC (t := t) hT2 hdn1 hdn (by omega) hC2.2.2.1) (fun _ h3 hb => ?_)
          obtain ⟨o3, g3⟩ := hb
          have o13 : eo (sPl t d) h h3 := eo_tr o2 (eo_mono o3 (fun a k z => by unfold sPl; omega))
          have hC3 := CC_pl (by omega) o13 (fun a k q => q) hC
          have hD3 : CC t u T (52 + 5 * (d + 1)) N h3 := ⟨hC3.1, hC3.2.1, g3, hdn1, hwT, hwN⟩
          have hT3 := LT_of hC3.1
          have hL3 := LM_T hT3
          have k3 : gI h3 51 d = nI j := by
            rw [o3.2 _ _ (by omega)]
            exact gI_eq
          apply v50A hL3 (e := rfl) (hj := by omega)
          repeat (first | with_reducible apply v_lt | ((with_reducible apply vXR4); exact hT3) | ((with_reducible apply w_XR); exact (LM_T hT3); rfl) | ((with_reducible apply w_TR); exact hT3; rfl) | ((with_reducible apply w_UR); exact hT3; rfl) | ((first | with_reducible apply vXI | with_reducible apply vXS | with_reducible apply vXC); exact (LM_T hT3)) | ((first | with_reducible apply vT0I | with_reducible apply vT9I | with_reducible apply vT0C | with_reducible apply vT9C | with_reducible apply vT0S | with_reducible apply vT9S); exact hT3) | ((first | with_reducible apply vNR0 | with_reducible apply vNR1 | with_reducible apply vNR2 | with_reducible apply vNR3 | with_reducible apply vNI | with_reducible apply vNS | with_reducible apply vNC); (first | assumption | exact m39 | exact m44); exact (LM_T hT3)) | ((first | with_reducible apply w_NA | with_reducible apply w_NW); exact (LM_T hT3); (first | assumption | exact m39 | exact m44); rfl; rfl; (first | with_reducible rfl | with_reducible exact ixo _ | with_reducible exact ixoc _ _ | with_reducible exact ixom _ _ _ | with_reducible exact ixop _ _ | with_reducible exact ixod _ _ | assumption); omega) | ((first | with_reducible apply w_TA | with_reducible apply w_TW | with_reducible apply w_TJ | with_reducible apply w_TK); exact hT3; rfl; rfl; (first | with_reducible rfl | with_reducible exact ixo _ | with_reducible exact ixoc _ _ | with_reducible exact ixom _ _ _ | with_reducible exact ixop _ _ | with_reducible exact ixod _ _ | assumption); omega))
          refine v_bd (passC (a := some j) (cr := false) hD3 hfu (fun r' z => by cases z; exact hj)) (fun _ h4 hb => ?_)
          obtain ⟨o4, hD4⟩ := hb
          have o14 : eo (sPl t d) h h4 := eo_tr o13 (eo_mono o4 (fun a k z => by unfold sE sC at z; unfold sPl sC; omega))
          have k4 : gI h4 51 d = nI j := by
            rw [o4.2 _ _ (fun z => by unfold sE sC at z; omega)]
            exact k3
          rw [show d + (m + 1) = (d + 1) + m from by omega]
          refine v_bd (ih (d + 1) f (pass T N (some j) false) h4 (by omega) (by omega) hD4) (fun x h5 hb => ?_)
          obtain ⟨o5, rfl, q5⟩ := hb
          have o15 : eo (sPl t d) h h5 := eo_tr o14 (eo_mono o5 (fun a k z => by unfold sPl sC at z ⊢; omega))
          cases en : rch T W m (pass T N (some j) false) with
          | none =>
            refine v_it rfl ?_
            exact skip (by rw [if_pos q0, en]) h5 o15
          | some ps =>
            have er : rch T W (m + 1) N = some (j :: ps) := by rw [← e1, es, if_pos q0, en]
            refine v_ie (by show ¬ (1 : Int32) = 0; decide) (v_rZ (Or.inr rfl) ⟨o15, ?_, fun qs e i hi => ?_⟩)
            · rw [er]
              rfl
            · rw [er] at e
              cases e
              match i with
              | 0 =>
                show gI h5 51 d = nI j
                rw [o5.2 _ _ (fun z => by unfold sPl sC at z; omega)]
                exact k4
              | i + 1 =>
                show gI h5 51 (d + (i + 1)) = nI (ps.getD i 0)
                rw [← q5 ps en i (by omega), show d + 1 + i = d + (i + 1) from by omega]
        unfold bX4_reaches_54
        dsimp only
        repeat (first | with_reducible apply v_lt | ((with_reducible apply vXR4); exact hT1) | ((with_reducible apply w_XR); exact (LM_T hT1); rfl) | ((with_reducible apply w_TR); exact hT1; rfl) | ((with_reducible apply w_UR); exact hT1; rfl) | ((first | with_reducible apply vXI | with_reducible apply vXS | with_reducible apply vXC); exact (LM_T hT1)) | ((first | with_reducible apply vT0I | with_reducible apply vT9I | with_reducible apply vT0C | with_reducible apply vT9C | with_reducible apply vT0S | with_reducible apply vT9S); exact hT1) | ((first | with_reducible apply vNR0 | with_reducible apply vNR1 | with_reducible apply vNR2 | with_reducible apply vNR3 | with_reducible apply vNI | with_reducible apply vNS | with_reducible apply vNC); (first | assumption | exact m39 | exact m44); exact (LM_T hT1)) | ((first | with_reducible apply w_NA | with_reducible apply w_NW); exact (LM_T hT1); (first | assumption | exact m39 | exact m44); rfl; rfl; (first | with_reducible rfl | with_reducible exact ixo _ | with_reducible exact ixoc _ _ | with_reducible exact ixom _ _ _ | with_reducible exact ixop _ _ | with_reducible exact ixod _ _ | assumption); omega) | ((first | with_reducible apply w_TA | with_reducible apply w_TW | with_reducible apply w_TJ | with_reducible apply w_TK); exact hT1; rfl; rfl; (first | with_reducible rfl | with_reducible exact ixo _ | with_reducible exact ixoc _ _ | with_reducible exact ixom _ _ _ | with_reducible exact ixop _ _ | with_reducible exact ixod _ _ | assumption); omega))
        rw [hC1.2.1.1]
        refine v_ie (nI_ge hj (by omega)) ?_
        apply v50A hL1 (e := rfl) (hj := by omega)
        repeat (first | with_reducible apply v_lt | ((with_reducible apply vXR4); exact hT1) | ((with_reducible apply w_XR); exact (LM_T hT1); rfl) | ((with_reducible apply w_TR); exact hT1; rfl) | ((with_reducible apply w_UR); exact hT1; rfl) | ((first | with_reducible apply vXI | with_reducible apply vXS | with_reducible apply vXC); exact (LM_T hT1)) | ((first | with_reducible apply vT0I | with_reducible apply vT9I | with_reducible apply vT0C | with_reducible apply vT9C | with_reducible apply vT0S | with_reducible apply vT9S); exact hT1) | ((first | with_reducible apply vNR0 | with_reducible apply vNR1 | with_reducible apply vNR2 | with_reducible apply vNR3 | with_reducible apply vNI | with_reducible apply vNS | with_reducible apply vNC); (first | assumption | exact m39 | exact m44); exact (LM_T hT1)) | ((first | with_reducible apply w_NA | with_reducible apply w_NW); exact (LM_T hT1); (first | assumption | exact m39 | exact m44); rfl; rfl; (first | with_reducible rfl | with_reducible exact ixo _ | with_reducible exact ixoc _ _ | with_reducible exact ixom _ _ _ | with_reducible exact ixop _ _ | with_reducible exact ixod _ _ | assumption); omega) | ((first | with_reducible apply w_TA | with_reducible apply w_TW | with_reducible apply w_TJ | with_reducible apply w_TK); exact hT1; rfl; rfl; (first | with_reducible rfl | with_reducible exact ixo _ | with_reducible exact ixoc _ _ | with_reducible exact ixom _ _ _ | with_reducible exact ixop _ _ | with_reducible exact ixod _ _ | assumption); omega))
        rw [(hC1.2.2.1.1 j (by omega)).2.2.2]
        refine v_ze (by omega) (fun q0 => ?_) (fun q0 => skip (if_neg (by omega)) h1 o1)
        refine v_b (fun e0 => tried q0) (fun e0 => ?_)
        repeat (first | with_reducible apply v_lt | ((with_reducible apply vXR4); exact hT1) | ((with_reducible apply w_XR); exact (LM_T hT1); rfl) | ((with_reducible apply w_TR); exact hT1; rfl) | ((with_reducible apply w_UR); exact hT1; rfl) | ((first | with_reducible apply vXI | with_reducible apply vXS | with_reducible apply vXC); exact (LM_T hT1)) | ((first | with_reducible apply vT0I | with_reducible apply vT9I | with_reducible apply vT0C | with_reducible apply vT9C | with_reducible apply vT0S | with_reducible apply vT9S); exact hT1) | ((first | with_reducible apply vNR0 | with_reducible apply vNR1 | with_reducible apply vNR2 | with_reducible apply vNR3 | with_reducible apply vNI | with_reducible apply vNS | with_reducible apply vNC); (first | assumption | exact m39 | exact m44); exact (LM_T hT1)) | ((first | with_reducible apply w_NA | with_reducible apply w_NW); exact (LM_T hT1); (first | assumption | exact m39 | exact m44); rfl; rfl; (first | with_reducible rfl | with_reducible exact ixo _ | with_reducible exact ixoc _ _ | with_reducible exact ixom _ _ _ | with_reducible exact ixop _ _ | with_reducible exact ixod _ _ | assumption); omega) | ((first | with_reducible apply w_TA | with_reducible apply w_TW | with_reducible apply w_TJ | with_reducible apply w_TK); exact hT1; rfl; rfl; (first | with_reducible rfl | with_reducible exact ixo _ | with_reducible exact ixoc _ _ | with_reducible exact ixom _ _ _ | with_reducible exact ixop _ _ | with_reducible exact ixod _ _ | assumption); omega))
        rw [(hC1.2.1.2.2.1 j hj).1, fa_andn]
        have := ndn_lt (n := 8) (b := kw T j) hlk
        refine v_ze (q := ndn (lkV T N W) (kw T j)) (by omega) (fun _ => tried q0) (fun z => skip ?_ h1 o1)
        rw [hs0] at e0
        have m0 := of_decide_eq_true e0
        subst m0
        rw [if_pos q0]
        exact last_no (by omega)
    rw [itr_s]
    unfold bX4_reaches
    dsimp only
    apply v50A hL (e := rfl) (hj := by omega)
    repeat (first | with_reducible apply v_lt | ((with_reducible apply vXR4); exact hT) | ((with_reducible apply w_XR); exact (LM_T hT); rfl) | ((with_reducible apply w_TR); exact hT; rfl) | ((with_reducible apply w_UR); exact hT; rfl) | ((first | with_reducible apply vXI | with_reducible apply vXS | with_reducible apply vXC); exact (LM_T hT)) | ((first | with_reducible apply vT0I | with_reducible apply vT9I | with_reducible apply vT0C | with_reducible apply vT9C | with_reducible apply vT0S | with_reducible apply vT9S); exact hT) | ((first | with_reducible apply vNR0 | with_reducible apply vNR1 | with_reducible apply vNR2 | with_reducible apply vNR3 | with_reducible apply vNI | with_reducible apply vNS | with_reducible apply vNC); (first | assumption | exact m39 | exact m44); exact (LM_T hT)) | ((first | with_reducible apply w_NA | with_reducible apply w_NW); exact (LM_T hT); (first | assumption | exact m39 | exact m44); rfl; rfl; (first | with_reducible rfl | with_reducible exact ixo _ | with_reducible exact ixoc _ _ | with_reducible exact ixom _ _ _ | with_reducible exact ixop _ _ | with_reducible exact ixod _ _ | assumption); omega) | ((first | with_reducible apply w_TA | with_reducible apply w_TW | with_reducible apply w_TJ | with_reducible apply w_TK); exact hT; rfl; rfl; (first | with_reducible rfl | with_reducible exact ixo _ | with_reducible exact ixoc _ _ | with_reducible exact ixom _ _ _ | with_reducible exact ixop _ _ | with_reducible exact ixod _ _ | assumption); omega))
    refine v_eq (lkAnyC hC hfu hW) ?_
    refine v_ie (nI_ge (by omega) (by omega)) ?_
    refine v_it (nI_lt (b := 4) (by omega) (by decide)) ?_
    rw [nI_1]
    refine v_if (fun e => main true ?_) (fun e => main false ?_)
    · rw [nI_eq (by omega) (by omega)] at e
      exact (decide_eq_true (by omega)).symm
    · rw [nI_eq (by omega) (by omega)] at e
      exact (decide_eq_false (by omega)).symm
theorem fewC19 {t u fu W : Nat} {T : AT} {N : AN} {h : mh} {v3 : Int32} (hC : CC t u T 39 N h) (hfu : 1000 ≤ fu) (hW : W < 64) : ok (fX4_fewest_19 fu 49 t 39 v3 (nI W) h) (fun x h' => eo (sQ t) h h' ∧ (match fsM T W N 5 0 with
    | none => x = -2
    | some (m, ps) => m ≤ 4 ∧ x = nI m ∧ ∀ i, i < m → gI h' 51 i = nI (ps.getD i 0))) := by
  obtain ⟨hy, htx, hng, hn, hwT, hwN⟩ := id hC
  have hT := LT_of hy
  have hL := LM_T hT
  have h6 := hwT.2.1
  have ht := t_hi hy
  unfold fX4_fewest_19
  repeat (first | with_reducible apply v_lt | ((with_reducible apply vXR4); exact hT) | ((with_reducible apply w_XR); exact (LM_T hT); rfl) | ((with_reducible apply w_TR); exact hT; rfl) | ((with_reducible apply w_UR); exact hT; rfl) | ((first | with_reducible apply vXI | with_reducible apply vXS | with_reducible apply vXC); exact (LM_T hT)) | ((first | with_reducible apply vT0I | with_reducible apply vT9I | with_reducible apply vT0C | with_reducible apply vT9C | with_reducible apply vT0S | with_reducible apply vT9S); exact hT) | ((first | with_reducible apply vNR0 | with_reducible apply vNR1 | with_reducible apply vNR2 | with_reducible apply vNR3 | with_reducible apply vNI | with_reducible apply vNS | with_reducible apply vNC); (first | assumption | exact m39 | exact m44); exact (LM_T hT)) | ((first | with_reducible apply w_NA | with_reducible apply w_NW); exact (LM_T hT); (first | assumption | exact m39 | exact m44); rfl; rfl; (first | with_reducible rfl | with_reducible exact ixo _ | with_reducible exact ixoc _ _ | with_reducible exact ixom _ _ _ | with_reducible exact ixop _ _ | with_reducible exact ixod _ _ | assumption); omega) | ((first | with_reducible apply w_TA | with_reducible apply w_TW | with_reducible apply w_TJ | with_reducible apply w_TK); exact hT; rfl; rfl; (first | with_reducible rfl | with_reducible exact ixo _ | with_reducible exact ixoc _ _ | with_reducible exact ixom _ _ _ | with_reducible exact ixop _ _ | with_reducible exact ixod _ _ | assumption); omega))
  refine v_eq (hopC hC hfu) ?_
  rw [fa_and]
  have hb64 : bitsU (hopB T N) (nL9 T) &&& W < 64 := Nat.lt_of_le_of_lt Nat.and_le_right hW
  refine v_ze (by omega) (fun e => ?_) (fun e => ?_)
  · apply v49R0 hL
    apply v50A hL (j := 0) (e := rfl) (hj := by omega)
    have h52 := pl_ng 0 (by omega)
    repeat (first | with_reducible apply v_lt | ((with_reducible apply vXR4); exact hT) | ((with_reducible apply w_XR); exact (LM_T hT); rfl) | ((with_reducible apply w_TR); exact hT; rfl) | ((with_reducible apply w_UR); exact hT; rfl) | ((first | with_reducible apply vXI | with_reducible apply vXS | with_reducible apply vXC); exact (LM_T hT)) | ((first | with_reducible apply vT0I | with_reducible apply vT9I | with_reducible apply vT0C | with_reducible apply vT9C | with_reducible apply vT0S | with_reducible apply vT9S); exact hT) | ((first | with_reducible apply vNR0 | with_reducible apply vNR1 | with_reducible apply vNR2 | with_reducible apply vNR3 | with_reducible apply vNI | with_reducible apply vNS | with_reducible apply vNC); (first | assumption | exact m39 | exact m44); exact (LM_T hT)) | ((first | with_reducible apply w_NA | with_reducible apply w_NW); exact (LM_T hT); (first | assumption | exact m39 | exact m44); rfl; rfl; (first | with_reducible rfl | with_reducible exact ixo _ | with_reducible exact ixoc _ _ | with_reducible exact ixom _ _ _ | with_reducible exact ixop _ _ | with_reducible exact ixod _ _ | assumption); omega) | ((first | with_reducible apply w_TA | with_reducible apply w_TW | with_reducible apply w_TJ | with_reducible apply w_TK); exact hT; rfl; rfl; (first | with_reducible rfl | with_reducible exact ixo _ | with_reducible exact ixoc _ _ | with_reducible exact ixom _ _ _ | with_reducible exact ixop _ _ | with_reducible exact ixod _ _ | assumption); omega))
    refine v_bd (becomeC (t := t) (n := 52 + 5 * 0) hT h52 m39 (by omega) hng) (fun _ h1 hb => ?_)
    obtain ⟨o1, g1⟩ := hb
    have o1' : eo (sQ t) h h1 := eo_mono o1 (fun a k z => by unfold sQ; omega)
    have hC1 := CC_q o1' (fun a k q => q) hC
    have hD1 : CC t u T (52 + 5 * 0) N h1 := ⟨hC1.1, hC1.2.1, g1, h52, hwT, hwN⟩
    refine loop2 (I := fun j h' => eo (sQ t) h h' ∧ eo (sPl t 0) h1 h' ∧ fsM T W N (5 - j) j = fsM T W N 5 0) (n := 5) (by omega) hfu ⟨o1', eo_rf, rfl⟩ ?_ ?_
    · intro h2 k hI
      obtain ⟨o2, _, e2⟩ := hI
      have e2 : fsM T W N 5 0 = none := e2.symm
      unfold bX4_fewest_48
      dsimp only
      rw [e2]
      exact v_it (by decide) (v_rI ⟨o2, rfl⟩)
    · intro j h2 k hj hI hk
      obtain ⟨o2, o2', e2⟩ := hI
      have hD2 := CC_pl (d := 0) (by omega) o2' (fun a k q => q) hD1
      have hT2 := LT_of hD2.1
      have hL2 := LM_T hT2
      have e3 : fsM T W N (5 - j) j = match rch T W j N with
          | some ps => some (j, ps)
          | none => fsM T W N (5 - (j + 1)) (j + 1) := by
        rw [show 5 - j = (5 - (j + 1)) + 1 from by omega]
        rfl
      unfold bX4_fewest_48
      dsimp only
      refine v_ie (nI_nlt (a := 4) (by omega) (by decide)) ?_
      apply v49R0 hL2
      apply v49R1 hL2
      have rr := reachC (t := t) (u := u) (T := T) hfu hW j 0 6 N h2 (by omega) (by omega) hD2
      rw [Nat.zero_add] at rr
      refine v_bd (R := fX4_reaches fu t (nI W) 50 51 0 (nI j) h2) rr (fun x h3 hb => ?_)
      obtain ⟨o3, rfl, q3⟩ := hb
      have o13 : eo (sQ t) h h3 := eo_tr o2 (eo_mono o3 (fun a k z => by unfold sPl sC at z; unfold sQ sC; omega))
      cases en : rch T W j N with
      | none =>
        refine v_it rfl (hk _ ⟨o13, eo_tr o2' o3, ?_⟩)
        rw [← e2, e3, en]
      | some ps =>
        refine v_ie (by show ¬ (1 : Int32) = 0; decide) (v_rI ⟨o13, ?_⟩)
        rw [← e2, e3, en]
        refine ⟨by omega, rfl, fun i hi => ?_⟩
        have := q3 ps en i hi
        rw [Nat.zero_add] at this
        exact this
  · obtain ⟨l, hl⟩ := Nat.exists_testBit_of_ne_zero (show ¬ bitsU (hopB T N) (nL9 T) &&& W = 0 by omega)
    rw [Nat.testBit_and, bitsU_tb, Bool.and_eq_true, Bool.and_eq_true] at hl
    rw [fsM_hop (of_decide_eq_true hl.1.1) hl.2 hl.1.2 5 0]
    exact v_rI ⟨eo_rf, rfl⟩
