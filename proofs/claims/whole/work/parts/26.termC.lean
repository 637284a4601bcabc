/-! THE CLASS'S valueOf: it tells a postfix row's value; a division by 0 sets byZero -/
def enc (q : Nat × Int32) : Int32 := if q.1 = 0 then q.2 else if q.1 = 1 then 10000 + q.2 else if q.1 = 2 then -43 else if q.1 = 3 then -45 else if q.1 = 4 then -42 else -47
def sTC (t : Nat) (a k : Nat) : Prop := a = t + 15 ∨ (a = t + 9 ∧ k = 7)
/-- one sign: the value, or byZero -/
theorem joinedC {t u fu : Nat} {h : mh} {k : Nat} {a b : Int32} (hL : Ly t u h) (hk2 : 2 ≤ k) (hk5 : k ≤ 5) (hz : gI h (t + 9) 7 = 0 ∨ gI h (t + 9) 7 = 1) :
    ok (fX1_joined fu (t + 9) (-(enc (k, 0))) a b h) (fun r h' => eo (fun x y => x = t + 9 ∧ y = 7) h h' ∧ ((¬ (k = 5 ∧ b = 0) ∧ r = ap9 k a b ∧ gI h' (t + 9) 7 = gI h (t + 9) 7) ∨ ((k = 5 ∧ b = 0) ∧ gI h' (t + 9) 7 = 1))) := by
  unfold fX1_joined
  rcases (show k = 2 ∨ k = 3 ∨ k = 4 ∨ k = 5 by omega) with rfl | rfl | rfl | rfl
  · rw [if_neg (by decide), if_pos (by decide)]
    exact ok_some ⟨eo_rf, Or.inl ⟨fun q => by omega, rfl, rfl⟩⟩
  · rw [if_neg (by decide), if_neg (by decide), if_neg (by decide), if_pos (by decide)]
    exact ok_some ⟨eo_rf, Or.inl ⟨fun q => by omega, rfl, rfl⟩⟩
  · rw [if_pos (by decide)]
    exact ok_some ⟨eo_rf, Or.inl ⟨fun q => by omega, rfl, rfl⟩⟩
  · rw [if_neg (by decide), if_neg (by decide), if_neg (by decide), if_neg (by decide)]
    unfold fX1_joined_44 fX1_joined_56 fX1_joined_61
    rw [ldI_of (tc9 hL)]
    by_cases hb : b = 0
    · simp only [if_pos hb, ite_self]
      rw [stZ_of (tc9 hL) (Or.inr rfl)]
      exact ok_some ⟨eo_uI eo_rf ⟨rfl, rfl⟩, Or.inr ⟨⟨trivial, hb⟩, by rw [gI_uI, if_pos ⟨rfl, rfl⟩]⟩⟩
    · simp only [if_neg hb, dvI, if_pos hb, not_false_eq_true, if_true]
      rcases hz with q | q
      · rw [if_pos q, stZ_of (tc9 hL) (Or.inl rfl)]
        exact ok_some ⟨eo_uI eo_rf ⟨rfl, rfl⟩, Or.inl ⟨fun z => hb z.2, rfl, by rw [gI_uI, if_pos ⟨rfl, rfl⟩, q]⟩⟩
      · rw [if_neg (by rw [q]; decide), stZ_of (tc9 hL) (Or.inr rfl)]
        exact ok_some ⟨eo_uI eo_rf ⟨rfl, rfl⟩, Or.inl ⟨fun z => hb z.2, rfl, by rw [gI_uI, if_pos ⟨rfl, rfl⟩, q]⟩⟩
theorem tne {t u : Nat} {h : mh} (hL : Ly t u h) : 7 ≤ t := by
  rcases hL.2.2.2.2.2.2 with ⟨rfl, rfl⟩ | ⟨rfl, rfl⟩ <;> decide
theorem lit_nI : (24 : Int32) = nI 24 ∧ (2 : Int32) = nI 2 ∧ (10000 : Int32) = nI 10000 ∧ (0 : Int32) = nI 0 ∧ (1 : Int32) = nI 1 := by decide +kernel
set_option maxHeartbeats 1000000 in
theorem termC {t u fu : Nat} {h : mh} {c0 c1 at9 : Nat} {e : Pf} {va vb : Int32} (hL : Ly t u h) (hfu : 1000 ≤ fu) (he : c1 = c0 + e.length) (hc : c1 ≤ 400) (hat : at9 < 52) (hend : gI h (t + 12) at9 = nI c1) (hcd : ∀ (i : Nat) (q : Nat × Int32), e[i]? = some q → gI h (t + 10) (c0 + i) = enc q) (hwf : wfP e 0) (hz : gI h (t + 9) 7 = 0 ∨ gI h (t + 9) 7 = 1) :
    ok (fX1_valueOf_31 fu (t + 9) va vb (nI at9) 0 (nI c0) h) (fun r h' => eo (sTC t) h h' ∧ ((∃ v, vlP (gI h (t + 14)) e = some v ∧ r = v ∧ gI h' (t + 9) 7 = gI h (t + 9) 7) ∨ (vlP (gI h (t + 14)) e = none ∧ gI h' (t + 9) 7 = 1))) := by
  unfold fX1_valueOf_31
  refine itr_up (I := fun j s => s.2.1 = nI (c0 + j) ∧ ∃ st : List Int32, s.1 = nI st.length ∧ wfP (e.drop j) st.length ∧ pil s.2.2 (t + 15) st ∧ eo (sTC t) h s.2.2 ∧ st.length ≤ 24 ∧ ((evP (gI h (t + 14)) (e.drop j) st = evP (gI h (t + 14)) e [] ∧ gI s.2.2 (t + 9) 7 = gI h (t + 9) 7) ∨ (vlP (gI h (t + 14)) e = none ∧ gI s.2.2 (t + 9) 7 = 1))) (n := e.length) (P := fun R => ok R _) ?_ ?_ fu 0 _ (by omega) (by omega) ⟨rfl, [], rfl, hwf, trivial, eo_rf, by decide, Or.inl ⟨rfl, rfl⟩⟩
  · intro j s kk hj hI hk
    obtain ⟨v4, v5, h1⟩ := s
    obtain ⟨e5, st, e4, hw, hp, ho, hl24, hor⟩ := hI
    dsimp only at e5 e4 hp ho hor
    have hL1 : Ly t u h1 := Ly_eo hL ho
    have hj' : e[j]? = some e[j] := List.getElem?_eq_getElem hj
    obtain ⟨k, v, hkv⟩ : ∃ k v, e[j] = (k, v) := ⟨_, _, rfl⟩
    rw [hkv] at hj'
    have hd : e.drop j = (k, v) :: e.drop (j + 1) := by rw [List.drop_eq_getElem_cons hj, hkv]
    rw [hd] at hw hor
    have g1 : gI h1 (t + 10) (c0 + j) = enc (k, v) := by rw [ho.2 _ _ (by unfold sTC; omega)]; exact hcd j _ hj'
    have g2 : gI h1 (t + 12) at9 = nI c1 := by rw [ho.2 _ _ (by unfold sTC; omega)]; exact hend
    have hin : inr (nI (c0 + j)) 400 := inr_nI (by omega) (by omega)
    have hcl : (nI (c0 + j)).toNatClampNeg = c0 + j := nI_clamp (by omega)
    have hnl : ¬ nI c1 ≤ nI (c0 + j) := nI_ge (by omega) (by omega)
    have nxt : nI (c0 + j) + 1 = nI (c0 + (j + 1)) := nI_1 _
    subst e5 e4
    unfold bX1_valueOf_33
    dsimp only
    rw [ldR_of (tc9 hL1) (tr9_3 hL1), ldA_of (tc12 hL1) (inr_nI hat (by omega)), nI_clamp (by omega), g2, if_neg hnl, ldR_of (tc9 hL1) (tr9_0 hL1), ldA_of (tc10 hL1) hin, hcl, g1]
    have push : ∀ x : Int32, st.length < 24 → wfP (e.drop (j + 1)) (st.length + 1) → (evP (gI h (t + 14)) ((k, v) :: e.drop (j + 1)) st = evP (gI h (t + 14)) (e.drop (j + 1)) (x :: st)) → ok (fX1_valueOf_144 fu kk (t + 9) va vb (nI at9) (nI st.length) (nI (c0 + j)) (enc (k, v)) (t + 15) (nI st.length) x h1) (fun r h' => eo (sTC t) h h' ∧ ((∃ v, vlP (gI h (t + 14)) e = some v ∧ r = v ∧ gI h' (t + 9) 7 = gI h (t + 9) 7) ∨ (vlP (gI h (t + 14)) e = none ∧ gI h' (t + 9) 7 = 1))) := by
      intro x hl hw' hx
      unfold fX1_valueOf_144
      rw [stA_of (tc15 hL1) (inr_nI hl (by omega)), nI_clamp (by omega)]
      unfold fX1_valueOf_148
      refine hk _ ⟨nxt, x :: st, nI_1 _, hw', ⟨by rw [gI_uI, if_pos ⟨rfl, rfl⟩], pil_up (Nat.le_refl _) hp⟩, eo_uI ho (Or.inl rfl), by simp only [List.length_cons]; omega, ?_⟩
      have e7 : gI (uI h1 (t + 15) st.length x) (t + 9) 7 = gI h1 (t + 9) 7 := by rw [gI_uI, if_neg (fun q => by omega)]
      rw [e7, ← hx]
      exact hor
    rcases wfP_cons hw with ⟨rfl, hd24, ⟨q, hq, rfl⟩, hw'⟩ | ⟨rfl, hd24, ⟨q, hq, rfl⟩, hw'⟩ | ⟨hk2, hk5, hd2, hw'⟩
    · have e0 : enc (0, nI q) = nI q := rfl
      rw [e0, if_pos (nI_pos' (by omega))]
      unfold fX1_valueOf_102
      rw [if_neg (nI_pos (by omega)), if_neg (show ¬ (24 : Int32) ≤ nI st.length from nI_ge (b := 24) hd24 (by omega)), ldR_of (tc9 hL1) (tr9_6 hL1), if_neg (show ¬ (10000 : Int32) ≤ nI q from nI_ge (b := 10000) hq (by omega))]
      exact push _ hd24 hw' rfl
    · have e0 : enc (1, nI q) = nI (10000 + q) := by
        show (10000 : Int32) + nI q = nI (10000 + q)
        exact nI_add 10000 q
      rw [e0, if_pos (nI_pos' (by omega))]
      unfold fX1_valueOf_102
      have e1 : nI (10000 + q) - 10000 = nI q := by
        have := pk_sub (a := 10000 + q) (b := 10000) (by omega)
        rw [show 10000 + q - 10000 = q by omega] at this
        exact this
      rw [if_neg (nI_pos (by omega)), if_neg (show ¬ (24 : Int32) ≤ nI st.length from nI_ge (b := 24) hd24 (by omega)), ldR_of (tc9 hL1) (tr9_6 hL1), if_pos (show (10000 : Int32) ≤ nI (10000 + q) from nI_le (a := 10000) (by omega) (by omega)), ldR_of (tc9 hL1) (tr9_5 hL1), e1, ldA_of (tc14 hL1) (inr_nI hq (by omega)), nI_clamp (by omega)]
      have hvar : gI h1 (t + 14) q = gI h (t + 14) q := ho.2 _ _ (by unfold sTC; omega)
      rw [← e0, hvar]
      refine push _ hd24 hw' ?_
      show evP (gI h (t + 14)) (e.drop (j + 1)) (gI h (t + 14) (nI q).toNatClampNeg :: st) = _
      rw [nI_clamp (by omega)]
    · match st, hd2, hw', hp, hl24, hor with
      | b :: a :: r, hd2, hw', hp, hl24, hor =>
        simp only [List.length_cons] at hw' hp hl24 ⊢
        have i1 : nI (r.length + 1 + 1) + (-1) = nI (r.length + 1) := pk_m1 _
        have i2 : nI (r.length + 1) - 1 = nI r.length := nI_pred _
        have c1' : (nI (r.length + 1)).toNatClampNeg = r.length + 1 := nI_clamp (by omega)
        have c2' : (nI r.length).toNatClampNeg = r.length := nI_clamp (by omega)
        have ek : enc (k, v) = enc (k, 0) := by
          rcases (show k = 2 ∨ k = 3 ∨ k = 4 ∨ k = 5 by omega) with rfl | rfl | rfl | rfl <;> rfl
        have en : ¬ (0 : Int32) ≤ enc (k, 0) := by
          rcases (show k = 2 ∨ k = 3 ∨ k = 4 ∨ k = 5 by omega) with rfl | rfl | rfl | rfl <;> decide
        have hz1 : gI h1 (t + 9) 7 = 0 ∨ gI h1 (t + 9) 7 = 1 := by
          rcases hor with ⟨_, q⟩ | ⟨_, q⟩
          · rw [q]; exact hz
          · exact Or.inr q
        have ea : gI h1 (t + 15) r.length = a := hp.2.1
        have eb : gI h1 (t + 15) (r.length + 1) = b := hp.1
        have esp : evP (gI h (t + 14)) ((k, v) :: e.drop (j + 1)) (b :: a :: r) = (if k = 5 ∧ b = 0 then none else evP (gI h (t + 14)) (e.drop (j + 1)) (ap9 k a b :: r)) := by
          show (if k = 0 then _ else if k = 1 then _ else if k = 5 ∧ b = 0 then none else evP (gI h (t + 14)) (e.drop (j + 1)) (ap9 k a b :: r)) = _
          rw [if_neg (by omega), if_neg (by omega)]
        rw [esp] at hor
        rw [ek, if_neg en, if_neg (show ¬ nI (r.length + 1 + 1) < (2 : Int32) from nI_nlt (b := 2) (by omega) (by omega)), ldR_of (tc9 hL1) (tr9_6 hL1), ldR_of (tc9 hL1) (tr9_6 hL1), i1, i2, ldA_of (tc15 hL1) (inr_nI (by omega) (by omega)), c2', ldR_of (tc9 hL1) (tr9_6 hL1), ldA_of (tc15 hL1) (inr_nI (by omega) (by omega)), c1', ea, eb, ckO_of (tc9 hL1)]
        refine ok_bd (ok_mono (joinedC hL1 hk2 hk5 hz1) (fun x h2 hq => ?_))
        obtain ⟨ho2, hq⟩ := hq
        have hL2 : Ly t u h2 := Ly_eo hL1 ho2
        rw [stA_of (tc15 hL2) (inr_nI (by omega) (by omega)), c2']
        unfold fX1_valueOf_148
        have ho3 : eo (sTC t) h h2 := eo_tr ho (eo_mono ho2 (fun a k q => Or.inr q))
        have e7 : gI (uI h2 (t + 15) r.length x) (t + 9) 7 = gI h2 (t + 9) 7 := by rw [gI_uI, if_neg (fun q => by omega)]
        refine hk _ ⟨nxt, x :: r, rfl, hw', ⟨by rw [gI_uI, if_pos ⟨rfl, rfl⟩], pil_up (Nat.le_refl _) (pil_eo ho2 (fun k q => by omega) hp.2.2)⟩, eo_uI ho3 (Or.inl rfl), by simp only [List.length_cons]; omega, ?_⟩
        rw [e7]
        rcases hq with ⟨z1, z2, z3⟩ | ⟨z1, z3⟩
        · rw [if_neg z1] at hor
          rw [z2, z3]
          exact hor
        · rw [if_pos z1] at hor
          refine Or.inr ⟨?_, z3⟩
          rcases hor with ⟨q1, _⟩ | ⟨q1, _⟩
          · unfold vlP
            rw [← q1]
          · exact q1
  · intro s kk hI
    obtain ⟨v4, v5, h1⟩ := s
    obtain ⟨e5, st, e4, hw, hp, ho, hl24, hor⟩ := hI
    dsimp only at e5 e4 hp ho hor
    have hL1 : Ly t u h1 := Ly_eo hL ho
    rw [List.drop_length] at hw hor
    have g2 : gI h1 (t + 12) at9 = nI c1 := by rw [ho.2 _ _ (by unfold sTC; omega)]; exact hend
    subst e5 e4
    unfold bX1_valueOf_33
    dsimp only
    rw [ldR_of (tc9 hL1) (tr9_3 hL1), ldA_of (tc12 hL1) (inr_nI hat (by omega)), nI_clamp (by omega), g2, if_pos (nI_le (show c1 ≤ c0 + e.length by omega) (by omega))]
    unfold fX1_valueOf_154
    rw [ldR_of (tc9 hL1) (tr9_6 hL1), ldA_of (tc15 hL1) (show inr 0 24 from ⟨by decide, by decide⟩), sb_cl0]
    match st, hw, hor, hp with
    | [x], hw, hor, hp =>
      refine ok_some ⟨ho, ?_⟩
      rcases hor with ⟨q1, q2⟩ | q
      · refine Or.inl ⟨x, ?_, hp.1, q2⟩
        unfold vlP
        rw [← q1]
        rfl
      · exact Or.inr q
