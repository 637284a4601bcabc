/-! WHAT IS SAID, in the class; what the laws of listeners look at, in both -/
theorem ng_lo : ∀ n ∈ ngt, 39 ≤ n ∧ n ≤ 290 := by decide +kernel
theorem t_hi {t u : Nat} {h : mh} (hL : Ly t u h) : 7 ≤ t ∧ t ≤ 23 := by
  rcases hL.2.2.2.2.2.2 with ⟨rfl, rfl⟩ | ⟨rfl, rfl⟩ <;> decide
theorem fillC {fu a n : Nat} {x : Int32} {h : mh} (ha : a < gN h ∧ gS h a = (1, n)) (hn : n < 1000) (hfu : 1000 ≤ fu) : ok (fJ7_fill_53178 fu a x h) (fun _ h' => eo (fun b _ => b = a) h h' ∧ ∀ i, i < n → gI h' a i = x) := by
  unfold fJ7_fill_53178 len
  rw [ha.2, if_pos ⟨ha.1, Nat.le_refl 1, (show (1 : Nat) ≤ 5 by decide)⟩]
  refine itr_up (I := fun j s => s.1 = nI j ∧ eo (fun b _ => b = a) h s.2 ∧ ∀ i, i < j → gI s.2 a i = x) (P := fun R => ok R _) (n := n) ?_ ?_ fu 0 _ (by omega) (by omega) ⟨rfl, eo_rf, fun i hi => by omega⟩
  · intro j s k hj hI hk
    obtain ⟨v2, h1⟩ := s
    obtain ⟨e2, o, hz⟩ := hI
    dsimp only at e2 o hz
    subst e2
    have ha1 : a < gN h1 ∧ gS h1 a = (1, n) := by
      unfold gN gS
      rw [o.1]
      exact ha
    unfold bJ7_fill_53178_5
    dsimp only
    rw [if_neg (show ¬ Int32.ofNat n ≤ nI j from nI_ge hj (by omega)), stA_of ha1 (inr_nI hj (by omega)), nI_clamp (by omega)]
    refine hk _ ⟨nI_1 _, eo_uI o rfl, fun i hi => ?_⟩
    rw [gI_uI]
    split
    · rfl
    · exact hz i (by omega)
  · intro s k hI
    obtain ⟨v2, h1⟩ := s
    obtain ⟨e2, o, hz⟩ := hI
    dsimp only at e2 o hz
    subst e2
    unfold bJ7_fill_53178_5
    dsimp only
    rw [if_pos (show Int32.ofNat n ≤ nI n from nI_le (Nat.le_refl _) (by omega))]
    exact ok_some ⟨o, hz⟩
theorem forgetC {t u fu : Nat} {h : mh} (hL : Ly t u h) (hfu : 1000 ≤ fu) : ok (fX1_forgetVars fu (t + 9) h) (fun _ h' => eo (fun b _ => b = t + 14) h h' ∧ ∀ i, i < 9 → gI h' (t + 14) i = 0) := by
  unfold fX1_forgetVars
  rw [ldR_of (tc9 hL) (tr9_5 hL)]
  exact ok_bd (ok_mono (fillC (tc14 hL) (by decide) hfu) (fun _ h1 hq => ok_some hq))
/-- what the class's methods about a night find -/
def CC (t u : Nat) (T : AT) (n : Nat) (N : AN) (h : mh) : Prop := Ly t u h ∧ txC h t T ∧ ngC h n N ∧ n ∈ ngt ∧ wfT T ∧ wfN T N
/-- vars, stack, byZero -/
def sC (t a k : Nat) : Prop := a = t + 14 ∨ a = t + 15 ∨ (a = t + 9 ∧ k = 7)
theorem CC_eo {S : Nat → Nat → Prop} {t u n : Nat} {T : AT} {N : AN} {h h1 : mh} (o : eo S h h1) (hs : ∀ a k, S a k → sC t a k) (q : CC t u T n N h) : CC t u T n N h1 := by
  obtain ⟨q1, q2, q3, q4, q5, q6⟩ := q
  have h1' := ng_lo n q4
  have h2' := t_hi q1
  refine ⟨Ly_eo q1 o, txC_eo o (fun a _ _ _ k z => by have := hs _ _ z; unfold sC at this; omega) q2, ngC_eo o (fun a _ _ k z => by have := hs _ _ z; unfold sC at this; omega) q3, q4, q5, q6⟩
theorem c2n : (0 : Int32).toNatClampNeg = 0 ∧ (1 : Int32).toNatClampNeg = 1 ∧ (2 : Int32).toNatClampNeg = 2 ∧ (3 : Int32).toNatClampNeg = 3 ∧ (4 : Int32).toNatClampNeg = 4 ∧ (5 : Int32).toNatClampNeg = 5 ∧ (6 : Int32).toNatClampNeg = 6 ∧ (7 : Int32).toNatClampNeg = 7 ∧ (8 : Int32).toNatClampNeg = 8 := by decide
theorem i9 : inr 0 9 ∧ inr 1 9 ∧ inr 2 9 ∧ inr 3 9 ∧ inr 4 9 ∧ inr 5 9 ∧ inr 6 9 ∧ inr 7 9 ∧ inr 8 9 := ⟨⟨by decide, by decide⟩, ⟨by decide, by decide⟩, ⟨by decide, by decide⟩, ⟨by decide, by decide⟩, ⟨by decide, by decide⟩, ⟨by decide, by decide⟩, ⟨by decide, by decide⟩, ⟨by decide, by decide⟩, ⟨by decide, by decide⟩⟩
set_option maxHeartbeats 1000000 in
theorem saidC {t u fu r n : Nat} {T : AT} {N : AN} {h : mh} (hC : CC t u T n N h) (hfu : 1000 ≤ fu) (hr : r < nR T) :
    ok (fX6_saidBy fu t n (nI r) h) (fun x h' => eo (sC t) h h' ∧ x = nI (said T N r)) := by
  have hr6 : r < 6 := Nat.lt_of_lt_of_le hr hC.2.2.2.2.1.1
  have hL := hC.1
  have hlo := ng_lo n hC.2.2.2.1
  have hhi := t_hi hL
  unfold fX6_saidBy
  rw [ldR_of (tc0 hL) (tr0_11 hL), ckO_of (tc9 hL)]
  refine ok_bd (ok_mono (forgetC hL hfu) (fun _ h2 hq => ?_))
  obtain ⟨o2, hz⟩ := hq
  have hC2 : CC t u T n N h2 := CC_eo o2 (fun a k q => Or.inl q) hC
  obtain ⟨hL2, htx, hng, hn, hwT, hwN⟩ := id hC2
  rw [ldR_of (tc0 hL2) (tr0_11 hL2), ldR_of (tc9 hL2) (tr9_5 hL2), ldR_of (tc0 hL2) (tr0_3 hL2), ldA_of (tc3 hL2) (inr_nI hr6 (by omega)), nI_clamp (by omega), (htx.2.2.1 r hr).2, stA_of (tc14 hL2) i9.1, c2n.1]
  have o3 : eo (fun b _ => b = t + 14) h (uI h2 (t + 14) 0 (nI (fa T r))) := eo_uI o2 rfl
  generalize hh3 : uI h2 (t + 14) 0 (nI (fa T r)) = h3 at o3 ⊢
  have hC3 : CC t u T n N h3 := CC_eo o3 (fun a k q => Or.inl q) hC
  obtain ⟨hL3, -, hng3, -⟩ := id hC3
  rw [ldR_of (tc0 hL3) (tr0_11 hL3), ldR_of (tc9 hL3) (tr9_5 hL3), ldR_of (nc0 hL3 hn) (nr2 hL3 hn), ldA_of (nc3 hL3 hn) (inr_nI hr6 (by omega)), nI_clamp (by omega), (hng3.1 r hr6).2.2.1, stA_of (tc14 hL3) i9.2.1, c2n.2.1]
  have o4 : eo (fun b _ => b = t + 14) h (uI h3 (t + 14) 1 (nI (he N r))) := eo_uI o3 rfl
  generalize hh4 : uI h3 (t + 14) 1 (nI (he N r)) = h4 at o4 ⊢
  have hC4 : CC t u T n N h4 := CC_eo o4 (fun a k q => Or.inl q) hC
  obtain ⟨hL4, -, hng4, -⟩ := id hC4
  rw [ldR_of (tc0 hL4) (tr0_11 hL4), ldR_of (tc9 hL4) (tr9_5 hL4), ldI_of (nc0 hL4 hn), hng4.2.2.1, stA_of (tc14 hL4) i9.2.2.2.1, c2n.2.2.2.1]
  have o5 : eo (fun b _ => b = t + 14) h (uI h4 (t + 14) 3 (nI (ev9 N))) := eo_uI o4 rfl
  generalize hh5 : uI h4 (t + 14) 3 (nI (ev9 N)) = h5 at o5 ⊢
  have hL5 := Ly_eo hL o5
  rw [ldR_of (tc0 hL5) (tr0_11 hL5), ldR_of (tc9 hL5) (tr9_5 hL5), stA_of (tc14 hL5) i9.2.2.2.2.2.2.2.1, c2n.2.2.2.2.2.2.2.1]
  have o6 : eo (fun b _ => b = t + 14) h (uI h5 (t + 14) 7 (nI r)) := eo_uI o5 rfl
  have hv : ∀ i, i < 9 → i ≠ 2 → gI (uI h5 (t + 14) 7 (nI r)) (t + 14) i = vsS T N r 0 i := by
    intro i hi h2'
    rw [gI_uI, ← hh5, gI_uI, ← hh4, gI_uI, ← hh3, gI_uI, hz i hi]
    unfold vsS
    rcases (show i = 0 ∨ i = 1 ∨ i = 3 ∨ i = 4 ∨ i = 5 ∨ i = 6 ∨ i = 7 ∨ i = 8 by omega) with rfl | rfl | rfl | rfl | rfl | rfl | rfl | rfl <;> simp
  generalize uI h5 (t + 14) 7 (nI r) = h6 at o6 hv ⊢
  refine itr_up (I := fun j s => s.1 = nI (saidU T N r j) ∧ s.2.1 = nI j ∧ eo (sC t) h s.2.2 ∧ ∀ i, i < 9 → i ≠ 2 → gI s.2.2 (t + 14) i = vsS T N r 0 i) (P := fun R => ok R _) (n := 8) ?_ ?_ fu 0 _ (by omega) (by omega) ⟨rfl, rfl, eo_mono o6 (fun a k q => Or.inl q), hv⟩
  · intro j s k hj hI hk
    obtain ⟨v3, v4, h1⟩ := s
    obtain ⟨e3, e4, o, hvv⟩ := hI
    dsimp only at e3 e4 o hvv
    subst e3 e4
    have hC1 : CC t u T n N h1 := CC_eo o (fun a k q => q) hC
    have hL1 := hC1.1
    unfold bX6_saidBy_66
    dsimp only
    rw [if_neg (show ¬ (8 : Int32) ≤ nI j from nI_ge (b := 8) hj (by omega)), ldR_of (tc0 hL1) (tr0_11 hL1), ldR_of (tc9 hL1) (tr9_5 hL1), stA_of (tc14 hL1) i9.2.2.1, c2n.2.2.1]
    have o7 : eo (sC t) h (uI h1 (t + 14) 2 (nI j)) := eo_uI o (Or.inl rfl)
    have hv7 : ∀ i, i < 9 → gI (uI h1 (t + 14) 2 (nI j)) (t + 14) i = vsS T N r j i := by
      intro i hi
      rw [gI_uI]
      by_cases h2' : i = 2
      · subst h2'
        rw [if_pos ⟨rfl, rfl⟩]
        rfl
      · rw [if_neg (fun q => h2' q.2), hvv i hi h2']
        unfold vsS
        simp only [if_neg h2']
    have hv7' : ∀ i, i < 9 → i ≠ 2 → gI (uI h1 (t + 14) 2 (nI j)) (t + 14) i = vsS T N r 0 i := by
      intro i hi h2'
      rw [gI_uI, if_neg (fun q => h2' q.2)]
      exact hvv i hi h2'
    generalize uI h1 (t + 14) 2 (nI j) = h7 at o7 hv7 hv7' ⊢
    have hC7 : CC t u T n N h7 := CC_eo o7 (fun a k q => q) hC
    obtain ⟨hL7, htx7, -⟩ := id hC7
    have hkw := (hwT.2.2.1 r hr).1
    rw [ldR_of (tc0 hL7) (tr0_2 hL7), ldA_of (tc2 hL7) (inr_nI hr6 (by omega)), nI_clamp (by omega), (htx7.2.2.1 r hr).1, holdsC hkw hj, bd_some]
    cases hb : (kw T r).testBit j
    · rw [if_pos (by decide)]
      unfold fX6_saidBy_116
      refine hk _ ⟨?_, nI_1 _, o7, hv7'⟩
      show _ = nI (if sayB T N r j then _ else _)
      unfold sayB
      rw [hb]
      rfl
    · rw [if_neg (by decide), ldR_of (tc0 hL7) (tr0_11 hL7), ckO_of (tc9 hL7)]
      refine ok_bd (ok_mono (tellC (k := 0) hL7 hfu (by decide) (htx7.2.2.2.2.2.2.2 0 (by decide))) (fun x h9 hq => ?_))
      obtain ⟨o9, hx⟩ := hq
      rw [vlL_cg hv7 (lawC_wf (htx7.2.2.2.2.2.2.2 0 (by decide)))] at hx
      have hx : x = vlL (vsS T N r j) 1 (lw9 T 0) := hx
      have o19 : eo (sC t) h h9 := eo_tr o7 (eo_mono o9 (fun a k q => by unfold sTC at q; unfold sC; omega))
      have hv9 : ∀ i, i < 9 → i ≠ 2 → gI h9 (t + 14) i = vsS T N r 0 i := fun i hi h2' => by
        rw [o9.2 _ _ (nTC (by omega) (by omega))]
        exact hv7' i hi h2'
      by_cases hx0 : x ≤ 0
      · rw [if_pos hx0]
        unfold fX6_saidBy_116
        refine hk _ ⟨?_, nI_1 _, o19, hv9⟩
        show _ = nI (if sayB T N r j then _ else _)
        have e : sayB T N r j = false := by
          unfold sayB
          rw [← hx, decide_eq_false (Int32.not_lt.mpr hx0)]
          exact Bool.and_false _
        rw [e]
        rfl
      · rw [if_neg hx0]
        dsimp only [lt]
        unfold fX6_saidBy_116
        refine hk _ ⟨?_, nI_1 _, o19, hv9⟩
        show _ = nI (if sayB T N r j then _ else _)
        have e : sayB T N r j = true := by
          unfold sayB
          rw [← hx, hb, decide_eq_true (Int32.not_le.mp hx0)]
          rfl
        rw [e, or_bit hj]
        rfl
  · intro s k hI
    obtain ⟨v3, v4, h1⟩ := s
    obtain ⟨e3, e4, o, hvv⟩ := hI
    dsimp only at e3 e4 o
    subst e3 e4
    unfold bX6_saidBy_66
    dsimp only
    rw [if_pos (by decide)]
    exact ok_some ⟨o, rfl⟩
