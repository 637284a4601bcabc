/-! THE REFERENCE'S termOf: it tells a postfix row's value -/
def sT (a k : Nat) : Prop := a = 332 ∨ (a = 299 ∧ k = 50)
theorem wfP_cons {k : Nat} {v : Int32} {e : Pf} {d : Nat} (h : wfP ((k, v) :: e) d) : (k = 0 ∧ d < 24 ∧ (∃ j, j < 10000 ∧ v = nI j) ∧ wfP e (d + 1)) ∨ (k = 1 ∧ d < 24 ∧ (∃ j, j < 9 ∧ v = nI j) ∧ wfP e (d + 1)) ∨ (2 ≤ k ∧ k ≤ 5 ∧ 2 ≤ d ∧ wfP e (d - 1)) := h
set_option maxHeartbeats 1000000 in
theorem termM {t u fu : Nat} {h : mh} {c0 c1 : Nat} {e : Pf} (hL : Ly t u h) (hfu : 1000 ≤ fu) (he : c1 = c0 + e.length) (hc : c1 ≤ 840) (hcd : ∀ (i : Nat) (k : Nat) (v : Int32), e[i]? = some (k, v) → gI h 328 (c0 + i) = nI k ∧ gI h 329 (c0 + i) = v) (hwf : wfP e 0) :
    ok (fX10_termOf fu 299 (nI c0) (nI c1) h) (fun r h' => eo sT h h' ∧ ((∃ v, vlP (gI h 331) e = some v ∧ r = v ∧ gI h' 299 50 = gI h 299 50) ∨ (vlP (gI h 331) e = none ∧ r = 0 ∧ gI h' 299 50 = 1))) := by
  unfold fX10_termOf
  refine itr_up (I := fun j s => s.2.1 = nI (c0 + j) ∧ ∃ st : List Int32, s.1 = nI st.length ∧ evP (gI h 331) (e.drop j) st = evP (gI h 331) e [] ∧ wfP (e.drop j) st.length ∧ pil s.2.2 332 st ∧ eo (fun a _ => a = 332) h s.2.2 ∧ st.length ≤ 24) (n := e.length) (P := fun R => ok R _) ?_ ?_ fu 0 _ (by omega) (by omega) ⟨rfl, [], rfl, rfl, hwf, trivial, eo_rf, by decide⟩
  · intro j s kk hj hI hk
    obtain ⟨v3, v4, h1⟩ := s
    obtain ⟨e4, st, e3, hev, hw, hp, ho, hl24⟩ := hI
    dsimp only at e4 e3 hp ho
    have hL1 : Ly t u h1 := Ly_eo hL ho
    have hj' : e[j]? = some e[j] := List.getElem?_eq_getElem hj
    obtain ⟨k, v, hkv⟩ : ∃ k v, e[j] = (k, v) := ⟨_, _, rfl⟩
    rw [hkv] at hj'
    have hd : e.drop j = (k, v) :: e.drop (j + 1) := by rw [List.drop_eq_getElem_cons hj, hkv]
    rw [hd] at hev hw
    obtain ⟨g1, g2⟩ := hcd j k v hj'
    have g1' : gI h1 328 (c0 + j) = nI k := by rw [ho.2 _ _ (fun (q : (328 : Nat) = 332) => by omega)]; exact g1
    have g2' : gI h1 329 (c0 + j) = v := by rw [ho.2 _ _ (fun (q : (329 : Nat) = 332) => by omega)]; exact g2
    have hin : inr (nI (c0 + j)) 840 := inr_nI (by omega) (by omega)
    have hcl : (nI (c0 + j)).toNatClampNeg = c0 + j := nI_clamp (by omega)
    have hnl : ¬ nI c1 ≤ nI (c0 + j) := nI_ge (by omega) (by omega)
    have nxt : nI (c0 + j) + 1 = nI (c0 + (j + 1)) := nI_1 _
    subst e4 e3
    unfold bX10_termOf_5
    simp only [if_neg hnl]
    rw [ldR_of (cl299 hL1) (rf299_44 hL1), ldA_of (cl328 hL1) hin, hcl, g1']
    rcases wfP_cons hw with ⟨rfl, hd24, hv, hw'⟩ | ⟨rfl, hd24, ⟨q, hq, rfl⟩, hw'⟩ | ⟨hk2, hk5, hd2, hw'⟩
    · rw [if_neg (by decide), ldR_of (cl299 hL1) (rf299_49 hL1), if_pos (by decide), ldR_of (cl299 hL1) (rf299_45 hL1), ldA_of (cl329 hL1) hin, hcl, g2']
      unfold fX10_termOf_58
      rw [stA_of (cl332 hL1) (inr_nI (by omega) (by omega)), nI_clamp (by omega)]
      unfold fX10_termOf_159
      refine hk _ ⟨nxt, v :: st, nI_1 _, by rw [← hev]; rfl, hw', ⟨?_, pil_up (Nat.le_refl _) hp⟩, eo_uI ho rfl, by simp only [List.length_cons]; omega⟩
      rw [gI_uI, if_pos ⟨rfl, rfl⟩]
    · rw [if_neg (by decide), ldR_of (cl299 hL1) (rf299_49 hL1), if_neg (by decide), ldR_of (cl299 hL1) (rf299_48 hL1), ldR_of (cl299 hL1) (rf299_45 hL1), ldA_of (cl329 hL1) hin, hcl, g2', ldA_of (cl331 hL1) (inr_nI hq (by omega)), nI_clamp (by omega)]
      unfold fX10_termOf_58
      rw [stA_of (cl332 hL1) (inr_nI (by omega) (by omega)), nI_clamp (by omega)]
      unfold fX10_termOf_159
      have hvar : gI h1 331 q = gI h 331 q := ho.2 _ _ (fun (q : (331 : Nat) = 332) => by omega)
      refine hk _ ⟨nxt, gI h 331 q :: st, nI_1 _, ?_, hw', ⟨?_, pil_up (Nat.le_refl _) hp⟩, eo_uI ho rfl, by simp only [List.length_cons]; omega⟩
      · rw [← hev]
        show _ = evP (gI h 331) (e.drop (j + 1)) (gI h 331 (nI q).toNatClampNeg :: st)
        rw [nI_clamp (by omega)]
      · rw [gI_uI, if_pos ⟨rfl, rfl⟩, hvar]
    · match st, hd2, hev, hw', hp, hl24 with
      | b :: a :: r, hd2, hev, hw', hp, hl24 =>
        simp only [List.length_cons] at hw' hp ⊢
        simp only [List.length_cons] at hl24
        have hk2' : (2 : Int32) ≤ nI k := nI_le (a := 2) hk2 (by omega)
        have i1 : nI (r.length + 1 + 1) + (-1) = nI (r.length + 1) := pk_m1 _
        have i2 : nI (r.length + 1) - 1 = nI r.length := nI_pred _
        have c1' : (nI (r.length + 1)).toNatClampNeg = r.length + 1 := nI_clamp (by omega)
        have c2' : (nI r.length).toNatClampNeg = r.length := nI_clamp (by omega)
        rw [if_pos hk2', ldR_of (cl299 hL1) (rf299_49 hL1), i1, i2, ldA_of (cl332 hL1) (inr_nI (by omega) (by omega)), c2', ldR_of (cl299 hL1) (rf299_49 hL1), ldA_of (cl332 hL1) (inr_nI (by omega) (by omega)), c1']
        have ea : gI h1 332 r.length = a := hp.2.1
        have eb : gI h1 332 (r.length + 1) = b := hp.1
        rw [ea, eb]
        have hgo : ∀ x : Int32, (¬ (k = 5 ∧ b = 0) → x = ap9 k a b) → ¬ (k = 5 ∧ b = 0) → ok (fX10_termOf_158 fu kk 299 (nI c0) (nI c1) (nI (r.length + 1)) (nI (c0 + j)) (nI k) a b 332 (nI r.length) x h1) (fun r h' => eo sT h h' ∧ ((∃ v, vlP (gI h 331) e = some v ∧ r = v ∧ gI h' 299 50 = gI h 299 50) ∨ (vlP (gI h 331) e = none ∧ r = 0 ∧ gI h' 299 50 = 1))) := by
          intro x hx hn
          unfold fX10_termOf_158
          rw [stA_of (cl332 hL1) (inr_nI (by omega) (by omega)), c2']
          unfold fX10_termOf_159
          refine hk _ ⟨nxt, x :: r, rfl, ?_, hw', ⟨?_, pil_up (Nat.le_refl _) hp.2.2⟩, eo_uI ho rfl, by simp only [List.length_cons]; omega⟩
          · rw [← hev, hx hn]
            show _ = (if k = 0 then _ else if k = 1 then _ else if k = 5 ∧ b = 0 then none else evP (gI h 331) (e.drop (j + 1)) (ap9 k a b :: r))
            rw [if_neg (by omega), if_neg (by omega), if_neg hn]
          · rw [gI_uI, if_pos ⟨rfl, rfl⟩]
        have h104 : ¬ (k = 5 ∧ b = 0) → ok (fX10_termOf_104 fu kk 299 (nI c0) (nI c1) (nI (r.length + 1)) (nI (c0 + j)) (nI k) a b h1) (fun r h' => eo sT h h' ∧ ((∃ v, vlP (gI h 331) e = some v ∧ r = v ∧ gI h' 299 50 = gI h 299 50) ∨ (vlP (gI h 331) e = none ∧ r = 0 ∧ gI h' 299 50 = 1))) := by
          intro hn
          unfold fX10_termOf_104
          rw [ldR_of (cl299 hL1) (rf299_49 hL1), i2]
          rcases (show k = 2 ∨ k = 3 ∨ k = 4 ∨ k = 5 by omega) with rfl | rfl | rfl | rfl
          · rw [if_pos (by decide)]
            exact hgo _ (fun _ => rfl) hn
          · rw [if_neg (by decide), if_pos (by decide)]
            exact hgo _ (fun _ => rfl) hn
          · rw [if_neg (by decide), if_neg (by decide), if_pos (by decide)]
            exact hgo _ (fun _ => rfl) hn
          · rw [if_neg (by decide), if_neg (by decide), if_neg (by decide)]
            have hb : ¬ b = 0 := fun q => hn ⟨rfl, q⟩
            unfold dvI
            rw [if_pos hb]
            exact hgo _ (fun _ => rfl) hn
        by_cases h5 : k = 5
        · subst h5
          rw [if_pos (by decide)]
          by_cases hb : b = 0
          · rw [if_pos hb]
            unfold fX10_termOf_97
            rw [stZ_of (cl299 hL1) (Or.inr rfl)]
            refine ok_some ⟨eo_uI (eo_mono ho (fun a k q => Or.inl q)) (Or.inr ⟨rfl, rfl⟩), Or.inr ⟨?_, rfl, by rw [gI_uI, if_pos ⟨rfl, rfl⟩]⟩⟩
            unfold vlP
            rw [← hev]
            show (match (if 5 = 0 then _ else if 5 = 1 then _ else if 5 = 5 ∧ b = 0 then none else _ : Option (List Int32)) with | some (x :: _) => some x | _ => none) = none
            rw [if_neg (by decide), if_neg (by decide), if_pos ⟨rfl, hb⟩]
          · rw [if_neg hb]
            exact h104 (fun q => hb q.2)
        · have hn5 : ¬ nI k = (5 : Int32) := fun q => h5 ((nI_eq (by omega) (by omega)).mp q)
          rw [if_neg hn5]
          exact h104 (fun q => h5 q.1)
  · intro s kk hI
    obtain ⟨v3, v4, h1⟩ := s
    obtain ⟨e4, st, e3, hev, hw, hp, ho, hl24⟩ := hI
    dsimp only at e4 e3 hp ho
    have hL1 : Ly t u h1 := Ly_eo hL ho
    rw [List.drop_length] at hev hw
    subst e4 e3
    unfold bX10_termOf_5
    simp only [if_pos (nI_le (show c1 ≤ c0 + e.length by omega) (by omega))]
    unfold fX10_termOf_165
    rw [ldR_of (cl299 hL1) (rf299_49 hL1), ldA_of (cl332 hL1) (show inr 0 400 from ⟨by decide, by decide⟩), sb_cl0]
    match st, hw, hev, hp with
    | [x], hw, hev, hp =>
      refine ok_some ⟨eo_mono ho (fun a k q => Or.inl q), Or.inl ⟨x, ?_, hp.1, ho.2 _ _ (by decide)⟩⟩
      unfold vlP
      rw [← hev]
      rfl
