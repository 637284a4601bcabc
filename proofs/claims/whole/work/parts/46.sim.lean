/-! A NIGHT THAT BECOMES ANOTHER; evenings tried; WHAT CLASS AND REFERENCE HOLD ALIKE -/
theorem gA_eq {h : mh} {a : Nat} {f : Nat → Int32} {j : Nat} : gI (uA h a f) a j = f j := by rw [gI_uA, if_pos rfl]
theorem gA_ne {h : mh} {a : Nat} {f : Nat → Int32} {b j : Nat} (e : b ≠ a) : gI (uA h a f) b j = gI h b j := by rw [gI_uA, if_neg e]
theorem v_cp {β : Type} {h : mh} {Q : β → mh → Prop} {a b : Nat} {F : mh → Option (β × mh)} (ha : a < gN h ∧ gS h a = (1, 6)) (hb : b < gN h ∧ gS h b = (1, 6)) (g : ok (F (uA h b (fun j => if j < 6 then gI h a j else gI h b j))) Q) : ok (cpA h a 0 b 0 6 F) Q := by
  unfold cpA
  rw [if_pos ⟨⟨ha.1, by rw [ha.2]⟩, ⟨hb.1, by rw [hb.2]⟩, by decide, by decide, by decide, by rw [ha.2]; decide, by rw [hb.2]; decide⟩]
  have e : va_cpy (gI h a) (gI h b) (0 : Int32).toNatClampNeg (0 : Int32).toNatClampNeg (6 : Int32).toNatClampNeg = (fun j => if j < 6 then gI h a j else gI h b j) := by
    funext j
    rw [c2n.1, c2n.2.2.2.2.2.2.1]
    unfold va_cpy
    by_cases z : j < 6
    · rw [if_pos ⟨by omega, by omega⟩, if_pos z, Nat.zero_add, Nat.sub_zero]
    · rw [if_neg (by omega), if_neg z]
  rw [e]
  exact g
set_option maxHeartbeats 1000000 in
theorem becomeC {t fu n m : Nat} {N : AN} {h : mh} (hT : LT t h.2) (hn : n ∈ ngt) (hm : m ∈ ngt) (hd : m + 4 < n ∨ n + 4 < m) (hg : ngC h m N) : ok (fX3_become fu n m h) (fun _ h' => eo (fun a _ => n ≤ a ∧ a ≤ n + 4) h h' ∧ ngC h' n N) := by
  have hL := LM_T hT
  unfold fX3_become
  repeat (first | with_reducible apply v_lt | ((with_reducible apply vXR4); exact hT) | ((with_reducible apply w_XR); exact (LM_T hT); rfl) | ((with_reducible apply w_TR); exact hT; rfl) | ((with_reducible apply w_UR); exact hT; rfl) | ((first | with_reducible apply vXI | with_reducible apply vXS | with_reducible apply vXC); exact (LM_T hT)) | ((first | with_reducible apply vT0I | with_reducible apply vT9I | with_reducible apply vT0C | with_reducible apply vT9C | with_reducible apply vT0S | with_reducible apply vT9S); exact hT) | ((first | with_reducible apply vNR0 | with_reducible apply vNR1 | with_reducible apply vNR2 | with_reducible apply vNR3 | with_reducible apply vNI | with_reducible apply vNS | with_reducible apply vNC); (first | assumption | exact m39 | exact m44); exact (LM_T hT)) | ((first | with_reducible apply w_NA | with_reducible apply w_NW); exact (LM_T hT); (first | assumption | exact m39 | exact m44); rfl; rfl; (first | with_reducible rfl | with_reducible exact ixo _ | with_reducible exact ixoc _ _ | with_reducible exact ixom _ _ _ | with_reducible exact ixop _ _ | with_reducible exact ixod _ _ | assumption); omega) | ((first | with_reducible apply w_TA | with_reducible apply w_TW | with_reducible apply w_TJ | with_reducible apply w_TK); exact hT; rfl; rfl; (first | with_reducible rfl | with_reducible exact ixo _ | with_reducible exact ixoc _ _ | with_reducible exact ixom _ _ _ | with_reducible exact ixop _ _ | with_reducible exact ixod _ _ | assumption); omega))
  refine v_cp (NA_c hL hm rfl rfl) (NA_c hL hn rfl rfl) ?_
  repeat (first | with_reducible apply v_lt | ((with_reducible apply vXR4); exact hT) | ((with_reducible apply w_XR); exact (LM_T hT); rfl) | ((with_reducible apply w_TR); exact hT; rfl) | ((with_reducible apply w_UR); exact hT; rfl) | ((first | with_reducible apply vXI | with_reducible apply vXS | with_reducible apply vXC); exact (LM_T hT)) | ((first | with_reducible apply vT0I | with_reducible apply vT9I | with_reducible apply vT0C | with_reducible apply vT9C | with_reducible apply vT0S | with_reducible apply vT9S); exact hT) | ((first | with_reducible apply vNR0 | with_reducible apply vNR1 | with_reducible apply vNR2 | with_reducible apply vNR3 | with_reducible apply vNI | with_reducible apply vNS | with_reducible apply vNC); (first | assumption | exact m39 | exact m44); exact (LM_T hT)) | ((first | with_reducible apply w_NA | with_reducible apply w_NW); exact (LM_T hT); (first | assumption | exact m39 | exact m44); rfl; rfl; (first | with_reducible rfl | with_reducible exact ixo _ | with_reducible exact ixoc _ _ | with_reducible exact ixom _ _ _ | with_reducible exact ixop _ _ | with_reducible exact ixod _ _ | assumption); omega) | ((first | with_reducible apply w_TA | with_reducible apply w_TW | with_reducible apply w_TJ | with_reducible apply w_TK); exact hT; rfl; rfl; (first | with_reducible rfl | with_reducible exact ixo _ | with_reducible exact ixoc _ _ | with_reducible exact ixom _ _ _ | with_reducible exact ixop _ _ | with_reducible exact ixod _ _ | assumption); omega))
  refine v_cp (NA_c hL hm rfl rfl) (NA_c hL hn rfl rfl) ?_
  repeat (first | with_reducible apply v_lt | ((with_reducible apply vXR4); exact hT) | ((with_reducible apply w_XR); exact (LM_T hT); rfl) | ((with_reducible apply w_TR); exact hT; rfl) | ((with_reducible apply w_UR); exact hT; rfl) | ((first | with_reducible apply vXI | with_reducible apply vXS | with_reducible apply vXC); exact (LM_T hT)) | ((first | with_reducible apply vT0I | with_reducible apply vT9I | with_reducible apply vT0C | with_reducible apply vT9C | with_reducible apply vT0S | with_reducible apply vT9S); exact hT) | ((first | with_reducible apply vNR0 | with_reducible apply vNR1 | with_reducible apply vNR2 | with_reducible apply vNR3 | with_reducible apply vNI | with_reducible apply vNS | with_reducible apply vNC); (first | assumption | exact m39 | exact m44); exact (LM_T hT)) | ((first | with_reducible apply w_NA | with_reducible apply w_NW); exact (LM_T hT); (first | assumption | exact m39 | exact m44); rfl; rfl; (first | with_reducible rfl | with_reducible exact ixo _ | with_reducible exact ixoc _ _ | with_reducible exact ixom _ _ _ | with_reducible exact ixop _ _ | with_reducible exact ixod _ _ | assumption); omega) | ((first | with_reducible apply w_TA | with_reducible apply w_TW | with_reducible apply w_TJ | with_reducible apply w_TK); exact hT; rfl; rfl; (first | with_reducible rfl | with_reducible exact ixo _ | with_reducible exact ixoc _ _ | with_reducible exact ixom _ _ _ | with_reducible exact ixop _ _ | with_reducible exact ixod _ _ | assumption); omega))
  refine v_cp (NA_c hL hm rfl rfl) (NA_c hL hn rfl rfl) ?_
  repeat (first | with_reducible apply v_lt | ((with_reducible apply vXR4); exact hT) | ((with_reducible apply w_XR); exact (LM_T hT); rfl) | ((with_reducible apply w_TR); exact hT; rfl) | ((with_reducible apply w_UR); exact hT; rfl) | ((first | with_reducible apply vXI | with_reducible apply vXS | with_reducible apply vXC); exact (LM_T hT)) | ((first | with_reducible apply vT0I | with_reducible apply vT9I | with_reducible apply vT0C | with_reducible apply vT9C | with_reducible apply vT0S | with_reducible apply vT9S); exact hT) | ((first | with_reducible apply vNR0 | with_reducible apply vNR1 | with_reducible apply vNR2 | with_reducible apply vNR3 | with_reducible apply vNI | with_reducible apply vNS | with_reducible apply vNC); (first | assumption | exact m39 | exact m44); exact (LM_T hT)) | ((first | with_reducible apply w_NA | with_reducible apply w_NW); exact (LM_T hT); (first | assumption | exact m39 | exact m44); rfl; rfl; (first | with_reducible rfl | with_reducible exact ixo _ | with_reducible exact ixoc _ _ | with_reducible exact ixom _ _ _ | with_reducible exact ixop _ _ | with_reducible exact ixod _ _ | assumption); omega) | ((first | with_reducible apply w_TA | with_reducible apply w_TW | with_reducible apply w_TJ | with_reducible apply w_TK); exact hT; rfl; rfl; (first | with_reducible rfl | with_reducible exact ixo _ | with_reducible exact ixoc _ _ | with_reducible exact ixom _ _ _ | with_reducible exact ixop _ _ | with_reducible exact ixod _ _ | assumption); omega))
  refine v_cp (NA_c hL hm rfl rfl) (NA_c hL hn rfl rfl) ?_
  repeat (first | with_reducible apply v_lt | ((with_reducible apply vXR4); exact hT) | ((with_reducible apply w_XR); exact (LM_T hT); rfl) | ((with_reducible apply w_TR); exact hT; rfl) | ((with_reducible apply w_UR); exact hT; rfl) | ((first | with_reducible apply vXI | with_reducible apply vXS | with_reducible apply vXC); exact (LM_T hT)) | ((first | with_reducible apply vT0I | with_reducible apply vT9I | with_reducible apply vT0C | with_reducible apply vT9C | with_reducible apply vT0S | with_reducible apply vT9S); exact hT) | ((first | with_reducible apply vNR0 | with_reducible apply vNR1 | with_reducible apply vNR2 | with_reducible apply vNR3 | with_reducible apply vNI | with_reducible apply vNS | with_reducible apply vNC); (first | assumption | exact m39 | exact m44); exact (LM_T hT)) | ((first | with_reducible apply w_NA | with_reducible apply w_NW); exact (LM_T hT); (first | assumption | exact m39 | exact m44); rfl; rfl; (first | with_reducible rfl | with_reducible exact ixo _ | with_reducible exact ixoc _ _ | with_reducible exact ixom _ _ _ | with_reducible exact ixop _ _ | with_reducible exact ixod _ _ | assumption); omega) | ((first | with_reducible apply w_TA | with_reducible apply w_TW | with_reducible apply w_TJ | with_reducible apply w_TK); exact hT; rfl; rfl; (first | with_reducible rfl | with_reducible exact ixo _ | with_reducible exact ixoc _ _ | with_reducible exact ixom _ _ _ | with_reducible exact ixop _ _ | with_reducible exact ixod _ _ | assumption); omega))
  simp (disch := omega) only [gI_eq, gI_ne, gA_eq, gA_ne, hg.2.1, hg.2.2.1, hg.2.2.2.1, hg.2.2.2.2]
  refine v_rV ⟨eo_uI (eo_uI (eo_uI (eo_uI (eo_uA (eo_uA (eo_uA (eo_uA eo_rf ?_) ?_) ?_) ?_) ?_) ?_) ?_) ?_, ?_⟩
  all_goals try (intro _; omega)
  all_goals try omega
  refine ⟨fun i hi => ⟨?_, ?_, ?_, ?_⟩, ?_, ?_, ?_, ?_⟩
  · simp (disch := omega) only [gI_eq, gI_ne, gA_eq, gA_ne, if_pos hi]
    exact (hg.1 i hi).1
  · simp (disch := omega) only [gI_eq, gI_ne, gA_eq, gA_ne, if_pos hi]
    exact (hg.1 i hi).2.1
  · simp (disch := omega) only [gI_eq, gI_ne, gA_eq, gA_ne, if_pos hi]
    exact (hg.1 i hi).2.2.1
  · simp (disch := omega) only [gI_eq, gI_ne, gA_eq, gA_ne, if_pos hi]
    exact (hg.1 i hi).2.2.2
  all_goals simp (disch := omega) only [gI_eq, gI_ne, gA_eq, gA_ne]
/-- what the class's questions write -/
def sQ (t a k : Nat) : Prop := sC t a k ∨ (44 ≤ a ∧ a ≤ 48) ∨ (51 ≤ a ∧ a ≤ 76)
theorem CC_q {S : Nat → Nat → Prop} {t u : Nat} {T : AT} {N : AN} {h h1 : mh} (o : eo S h h1) (hs : ∀ a k, S a k → sQ t a k) (q : CC t u T 39 N h) : CC t u T 39 N h1 := by
  obtain ⟨q1, q2, q3, q4, q5, q6⟩ := q
  have h2' := t_hi q1
  refine ⟨Ly_eo q1 o, txC_eo o (fun a _ _ _ k z => by have := hs _ _ z; unfold sQ sC at this; omega) q2, ngC_eo o (fun a _ _ k z => by have := hs _ _ z; unfold sQ sC at this; omega) q3, q4, q5, q6⟩
theorem sE_Q {t a k : Nat} (q : sE t 44 a k) : sQ t a k := q.elim Or.inl (fun z => Or.inr (Or.inl ⟨z.1, z.2⟩))
theorem sC_Q {t a k : Nat} (q : sC t a k) : sQ t a k := Or.inl q
theorem trialC {t u fu : Nat} {T : AT} {N : AN} {h : mh} (hC : CC t u T 39 N h) : ok (fX3_become fu 44 39 h) (fun _ h' => eo (sQ t) h h' ∧ CC t u T 39 N h' ∧ CC t u T 44 N h') := by
  have hT := LT_of hC.1
  refine ok_mono (becomeC hT m44 m39 (by omega) hC.2.2.1) (fun _ h1 q => ?_)
  have o1 : eo (sQ t) h h1 := eo_mono q.1 (fun a k z => by unfold sQ; omega)
  have hC1 := CC_q o1 (fun a k q => q) hC
  exact ⟨o1, hC1, hC1.1, hC1.2.1, q.2, m44, hC1.2.2.2.2.1, hC1.2.2.2.2.2⟩
theorem tryC {t u fu r : Nat} {T : AT} {N : AN} {h : mh} (hC : CC t u T 39 N h) (hfu : 1000 ≤ fu) (hr : r < nR T) : ok (fX9_tryTonight fu 0 (nI r) h) (fun _ h' => eo (sQ t) h h' ∧ CC t u T 39 N h' ∧ CC t u T 44 (pass T N (some r) false) h') := by
  have hT := LT_of hC.1
  unfold fX9_tryTonight
  repeat (first | with_reducible apply v_lt | ((with_reducible apply vXR4); exact hT) | ((with_reducible apply w_XR); exact (LM_T hT); rfl) | ((with_reducible apply w_TR); exact hT; rfl) | ((with_reducible apply w_UR); exact hT; rfl) | ((first | with_reducible apply vXI | with_reducible apply vXS | with_reducible apply vXC); exact (LM_T hT)) | ((first | with_reducible apply vT0I | with_reducible apply vT9I | with_reducible apply vT0C | with_reducible apply vT9C | with_reducible apply vT0S | with_reducible apply vT9S); exact hT) | ((first | with_reducible apply vNR0 | with_reducible apply vNR1 | with_reducible apply vNR2 | with_reducible apply vNR3 | with_reducible apply vNI | with_reducible apply vNS | with_reducible apply vNC); (first | assumption | exact m39 | exact m44); exact (LM_T hT)) | ((first | with_reducible apply w_NA | with_reducible apply w_NW); exact (LM_T hT); (first | assumption | exact m39 | exact m44); rfl; rfl; (first | with_reducible rfl | with_reducible exact ixo _ | with_reducible exact ixoc _ _ | with_reducible exact ixom _ _ _ | with_reducible exact ixop _ _ | with_reducible exact ixod _ _ | assumption); omega) | ((first | with_reducible apply w_TA | with_reducible apply w_TW | with_reducible apply w_TJ | with_reducible apply w_TK); exact hT; rfl; rfl; (first | with_reducible rfl | with_reducible exact ixo _ | with_reducible exact ixoc _ _ | with_reducible exact ixom _ _ _ | with_reducible exact ixop _ _ | with_reducible exact ixod _ _ | assumption); omega))
  refine v_bd (trialC hC) (fun _ h1 hq => ?_)
  obtain ⟨o1, hC1, hD1⟩ := hq
  have hT1 := LT_of hC1.1
  repeat (first | with_reducible apply v_lt | ((with_reducible apply vXR4); exact hT1) | ((with_reducible apply w_XR); exact (LM_T hT1); rfl) | ((with_reducible apply w_TR); exact hT1; rfl) | ((with_reducible apply w_UR); exact hT1; rfl) | ((first | with_reducible apply vXI | with_reducible apply vXS | with_reducible apply vXC); exact (LM_T hT1)) | ((first | with_reducible apply vT0I | with_reducible apply vT9I | with_reducible apply vT0C | with_reducible apply vT9C | with_reducible apply vT0S | with_reducible apply vT9S); exact hT1) | ((first | with_reducible apply vNR0 | with_reducible apply vNR1 | with_reducible apply vNR2 | with_reducible apply vNR3 | with_reducible apply vNI | with_reducible apply vNS | with_reducible apply vNC); (first | assumption | exact m39 | exact m44); exact (LM_T hT1)) | ((first | with_reducible apply w_NA | with_reducible apply w_NW); exact (LM_T hT1); (first | assumption | exact m39 | exact m44); rfl; rfl; (first | with_reducible rfl | with_reducible exact ixo _ | with_reducible exact ixoc _ _ | with_reducible exact ixom _ _ _ | with_reducible exact ixop _ _ | with_reducible exact ixod _ _ | assumption); omega) | ((first | with_reducible apply w_TA | with_reducible apply w_TW | with_reducible apply w_TJ | with_reducible apply w_TK); exact hT1; rfl; rfl; (first | with_reducible rfl | with_reducible exact ixo _ | with_reducible exact ixoc _ _ | with_reducible exact ixom _ _ _ | with_reducible exact ixop _ _ | with_reducible exact ixod _ _ | assumption); omega))
  refine v_bd (passC (a := some r) (cr := false) hD1 hfu (fun r' z => by cases z; exact hr)) (fun _ h2 hq => ?_)
  have o2 : eo (sQ t) h1 h2 := eo_mono hq.1 (fun a k z => sE_Q z)
  exact v_rV ⟨eo_tr o1 o2, CC_q o2 (fun a k q => q) hC1, hq.2⟩
theorem behindC {t u fu r : Nat} {T : AT} {N : AN} {h : mh} (hC : CC t u T 39 N h) (hfu : 1000 ≤ fu) (hr : r < nR T) : ok (fX9_doneBehind fu 0 (nI r) h) (fun x h' => eo (sQ t) h h' ∧ x = nI (dnV T (pass T N (some r) false))) := by
  have hT := LT_of hC.1
  unfold fX9_doneBehind
  repeat (first | with_reducible apply v_lt | ((with_reducible apply vXR4); exact hT) | ((with_reducible apply w_XR); exact (LM_T hT); rfl) | ((with_reducible apply w_TR); exact hT; rfl) | ((with_reducible apply w_UR); exact hT; rfl) | ((first | with_reducible apply vXI | with_reducible apply vXS | with_reducible apply vXC); exact (LM_T hT)) | ((first | with_reducible apply vT0I | with_reducible apply vT9I | with_reducible apply vT0C | with_reducible apply vT9C | with_reducible apply vT0S | with_reducible apply vT9S); exact hT) | ((first | with_reducible apply vNR0 | with_reducible apply vNR1 | with_reducible apply vNR2 | with_reducible apply vNR3 | with_reducible apply vNI | with_reducible apply vNS | with_reducible apply vNC); (first | assumption | exact m39 | exact m44); exact (LM_T hT)) | ((first | with_reducible apply w_NA | with_reducible apply w_NW); exact (LM_T hT); (first | assumption | exact m39 | exact m44); rfl; rfl; (first | with_reducible rfl | with_reducible exact ixo _ | with_reducible exact ixoc _ _ | with_reducible exact ixom _ _ _ | with_reducible exact ixop _ _ | with_reducible exact ixod _ _ | assumption); omega) | ((first | with_reducible apply w_TA | with_reducible apply w_TW | with_reducible apply w_TJ | with_reducible apply w_TK); exact hT; rfl; rfl; (first | with_reducible rfl | with_reducible exact ixo _ | with_reducible exact ixoc _ _ | with_reducible exact ixom _ _ _ | with_reducible exact ixop _ _ | with_reducible exact ixod _ _ | assumption); omega))
  refine v_bd (tryC hC hfu hr) (fun _ h1 hq => ?_)
  obtain ⟨o1, hC1, hD1⟩ := hq
  have hT1 := LT_of hC1.1
  repeat (first | with_reducible apply v_lt | ((with_reducible apply vXR4); exact hT1) | ((with_reducible apply w_XR); exact (LM_T hT1); rfl) | ((with_reducible apply w_TR); exact hT1; rfl) | ((with_reducible apply w_UR); exact hT1; rfl) | ((first | with_reducible apply vXI | with_reducible apply vXS | with_reducible apply vXC); exact (LM_T hT1)) | ((first | with_reducible apply vT0I | with_reducible apply vT9I | with_reducible apply vT0C | with_reducible apply vT9C | with_reducible apply vT0S | with_reducible apply vT9S); exact hT1) | ((first | with_reducible apply vNR0 | with_reducible apply vNR1 | with_reducible apply vNR2 | with_reducible apply vNR3 | with_reducible apply vNI | with_reducible apply vNS | with_reducible apply vNC); (first | assumption | exact m39 | exact m44); exact (LM_T hT1)) | ((first | with_reducible apply w_NA | with_reducible apply w_NW); exact (LM_T hT1); (first | assumption | exact m39 | exact m44); rfl; rfl; (first | with_reducible rfl | with_reducible exact ixo _ | with_reducible exact ixoc _ _ | with_reducible exact ixom _ _ _ | with_reducible exact ixop _ _ | with_reducible exact ixod _ _ | assumption); omega) | ((first | with_reducible apply w_TA | with_reducible apply w_TW | with_reducible apply w_TJ | with_reducible apply w_TK); exact hT1; rfl; rfl; (first | with_reducible rfl | with_reducible exact ixo _ | with_reducible exact ixoc _ _ | with_reducible exact ixom _ _ _ | with_reducible exact ixop _ _ | with_reducible exact ixod _ _ | assumption); omega))
  refine v_eq (doneByC hD1 hfu) ?_
  exact v_rI ⟨o1, rfl⟩
theorem gainC {t u fu r : Nat} {T : AT} {N : AN} {h : mh} (hC : CC t u T 39 N h) (hfu : 1000 ≤ fu) (hr : r < nR T) : ok (fX9_gainOf fu 0 (nI r) h) (fun x h' => eo (sQ t) h h' ∧ x = knV (pass T N (some r) false) - knV N) := by
  have hT := LT_of hC.1
  unfold fX9_gainOf
  repeat (first | with_reducible apply v_lt | ((with_reducible apply vXR4); exact hT) | ((with_reducible apply w_XR); exact (LM_T hT); rfl) | ((with_reducible apply w_TR); exact hT; rfl) | ((with_reducible apply w_UR); exact hT; rfl) | ((first | with_reducible apply vXI | with_reducible apply vXS | with_reducible apply vXC); exact (LM_T hT)) | ((first | with_reducible apply vT0I | with_reducible apply vT9I | with_reducible apply vT0C | with_reducible apply vT9C | with_reducible apply vT0S | with_reducible apply vT9S); exact hT) | ((first | with_reducible apply vNR0 | with_reducible apply vNR1 | with_reducible apply vNR2 | with_reducible apply vNR3 | with_reducible apply vNI | with_reducible apply vNS | with_reducible apply vNC); (first | assumption | exact m39 | exact m44); exact (LM_T hT)) | ((first | with_reducible apply w_NA | with_reducible apply w_NW); exact (LM_T hT); (first | assumption | exact m39 | exact m44); rfl; rfl; (first | with_reducible rfl | with_reducible exact ixo _ | with_reducible exact ixoc _ _ | with_reducible exact ixom _ _ _ | with_reducible exact ixop _ _ | with_reducible exact ixod _ _ | assumption); omega) | ((first | with_reducible apply w_TA | with_reducible apply w_TW | with_reducible apply w_TJ | with_reducible apply w_TK); exact hT; rfl; rfl; (first | with_reducible rfl | with_reducible exact ixo _ | with_reducible exact ixoc _ _ | with_reducible exact ixom _ _ _ | with_reducible exact ixop _ _ | with_reducible exact ixod _ _ | assumption); omega))
  refine v_bd (tryC hC hfu hr) (fun _ h1 hq => ?_)
  obtain ⟨o1, hC1, hD1⟩ := hq
  have hT1 := LT_of hC1.1
  repeat (first | with_reducible apply v_lt | ((with_reducible apply vXR4); exact hT1) | ((with_reducible apply w_XR); exact (LM_T hT1); rfl) | ((with_reducible apply w_TR); exact hT1; rfl) | ((with_reducible apply w_UR); exact hT1; rfl) | ((first | with_reducible apply vXI | with_reducible apply vXS | with_reducible apply vXC); exact (LM_T hT1)) | ((first | with_reducible apply vT0I | with_reducible apply vT9I | with_reducible apply vT0C | with_reducible apply vT9C | with_reducible apply vT0S | with_reducible apply vT9S); exact hT1) | ((first | with_reducible apply vNR0 | with_reducible apply vNR1 | with_reducible apply vNR2 | with_reducible apply vNR3 | with_reducible apply vNI | with_reducible apply vNS | with_reducible apply vNC); (first | assumption | exact m39 | exact m44); exact (LM_T hT1)) | ((first | with_reducible apply w_NA | with_reducible apply w_NW); exact (LM_T hT1); (first | assumption | exact m39 | exact m44); rfl; rfl; (first | with_reducible rfl | with_reducible exact ixo _ | with_reducible exact ixoc _ _ | with_reducible exact ixom _ _ _ | with_reducible exact ixop _ _ | with_reducible exact ixod _ _ | assumption); omega) | ((first | with_reducible apply w_TA | with_reducible apply w_TW | with_reducible apply w_TJ | with_reducible apply w_TK); exact hT1; rfl; rfl; (first | with_reducible rfl | with_reducible exact ixo _ | with_reducible exact ixoc _ _ | with_reducible exact ixom _ _ _ | with_reducible exact ixop _ _ | with_reducible exact ixod _ _ | assumption); omega))
  refine v_eq (factsC hD1 hfu) ?_
  repeat (first | with_reducible apply v_lt | ((with_reducible apply vXR4); exact hT1) | ((with_reducible apply w_XR); exact (LM_T hT1); rfl) | ((with_reducible apply w_TR); exact hT1; rfl) | ((with_reducible apply w_UR); exact hT1; rfl) | ((first | with_reducible apply vXI | with_reducible apply vXS | with_reducible apply vXC); exact (LM_T hT1)) | ((first | with_reducible apply vT0I | with_reducible apply vT9I | with_reducible apply vT0C | with_reducible apply vT9C | with_reducible apply vT0S | with_reducible apply vT9S); exact hT1) | ((first | with_reducible apply vNR0 | with_reducible apply vNR1 | with_reducible apply vNR2 | with_reducible apply vNR3 | with_reducible apply vNI | with_reducible apply vNS | with_reducible apply vNC); (first | assumption | exact m39 | exact m44); exact (LM_T hT1)) | ((first | with_reducible apply w_NA | with_reducible apply w_NW); exact (LM_T hT1); (first | assumption | exact m39 | exact m44); rfl; rfl; (first | with_reducible rfl | with_reducible exact ixo _ | with_reducible exact ixoc _ _ | with_reducible exact ixom _ _ _ | with_reducible exact ixop _ _ | with_reducible exact ixod _ _ | assumption); omega) | ((first | with_reducible apply w_TA | with_reducible apply w_TW | with_reducible apply w_TJ | with_reducible apply w_TK); exact hT1; rfl; rfl; (first | with_reducible rfl | with_reducible exact ixo _ | with_reducible exact ixoc _ _ | with_reducible exact ixom _ _ _ | with_reducible exact ixop _ _ | with_reducible exact ixod _ _ | assumption); omega))
  refine v_eq (factsC hC1 hfu) ?_
  exact v_rI ⟨o1, rfl⟩
theorem tryEvC {t u fu n : Nat} {T : AT} {N : AN} {h : mh} (hC : CC t u T 39 N h) (hfu : 1000 ≤ fu) (hn : n ≤ 30) : ok (fX9_tryEvenings fu 0 (nI n) h) (fun _ h' => eo (sQ t) h h' ∧ CC t u T 39 N h' ∧ CC t u T 44 (runE T (nI (sd9 T)) N n) h') := by
  have hT := LT_of hC.1
  unfold fX9_tryEvenings
  repeat (first | with_reducible apply v_lt | ((with_reducible apply vXR4); exact hT) | ((with_reducible apply w_XR); exact (LM_T hT); rfl) | ((with_reducible apply w_TR); exact hT; rfl) | ((with_reducible apply w_UR); exact hT; rfl) | ((first | with_reducible apply vXI | with_reducible apply vXS | with_reducible apply vXC); exact (LM_T hT)) | ((first | with_reducible apply vT0I | with_reducible apply vT9I | with_reducible apply vT0C | with_reducible apply vT9C | with_reducible apply vT0S | with_reducible apply vT9S); exact hT) | ((first | with_reducible apply vNR0 | with_reducible apply vNR1 | with_reducible apply vNR2 | with_reducible apply vNR3 | with_reducible apply vNI | with_reducible apply vNS | with_reducible apply vNC); (first | assumption | exact m39 | exact m44); exact (LM_T hT)) | ((first | with_reducible apply w_NA | with_reducible apply w_NW); exact (LM_T hT); (first | assumption | exact m39 | exact m44); rfl; rfl; (first | with_reducible rfl | with_reducible exact ixo _ | with_reducible exact ixoc _ _ | with_reducible exact ixom _ _ _ | with_reducible exact ixop _ _ | with_reducible exact ixod _ _ | assumption); omega) | ((first | with_reducible apply w_TA | with_reducible apply w_TW | with_reducible apply w_TJ | with_reducible apply w_TK); exact hT; rfl; rfl; (first | with_reducible rfl | with_reducible exact ixo _ | with_reducible exact ixoc _ _ | with_reducible exact ixom _ _ _ | with_reducible exact ixop _ _ | with_reducible exact ixod _ _ | assumption); omega))
  refine v_bd (trialC hC) (fun _ h1 hq => ?_)
  obtain ⟨o1, hC1, hD1⟩ := hq
  have hT1 := LT_of hC1.1
  repeat (first | with_reducible apply v_lt | ((with_reducible apply vXR4); exact hT1) | ((with_reducible apply w_XR); exact (LM_T hT1); rfl) | ((with_reducible apply w_TR); exact hT1; rfl) | ((with_reducible apply w_UR); exact hT1; rfl) | ((first | with_reducible apply vXI | with_reducible apply vXS | with_reducible apply vXC); exact (LM_T hT1)) | ((first | with_reducible apply vT0I | with_reducible apply vT9I | with_reducible apply vT0C | with_reducible apply vT9C | with_reducible apply vT0S | with_reducible apply vT9S); exact hT1) | ((first | with_reducible apply vNR0 | with_reducible apply vNR1 | with_reducible apply vNR2 | with_reducible apply vNR3 | with_reducible apply vNI | with_reducible apply vNS | with_reducible apply vNC); (first | assumption | exact m39 | exact m44); exact (LM_T hT1)) | ((first | with_reducible apply w_NA | with_reducible apply w_NW); exact (LM_T hT1); (first | assumption | exact m39 | exact m44); rfl; rfl; (first | with_reducible rfl | with_reducible exact ixo _ | with_reducible exact ixoc _ _ | with_reducible exact ixom _ _ _ | with_reducible exact ixop _ _ | with_reducible exact ixod _ _ | assumption); omega) | ((first | with_reducible apply w_TA | with_reducible apply w_TW | with_reducible apply w_TJ | with_reducible apply w_TK); exact hT1; rfl; rfl; (first | with_reducible rfl | with_reducible exact ixo _ | with_reducible exact ixoc _ _ | with_reducible exact ixom _ _ _ | with_reducible exact ixop _ _ | with_reducible exact ixod _ _ | assumption); omega))
  refine v_bd (passnC hD1 hfu hn) (fun _ h2 hq => ?_)
  have o2 : eo (sQ t) h1 h2 := eo_mono hq.1 (fun a k z => sE_Q z)
  exact v_rV ⟨eo_tr o1 o2, CC_q o2 (fun a k q => q) hC1, hq.2⟩
/-- evenings with a role, crackle by a seed or none -/
def runW (T : AT) (r : Nat) (s : Option Int32) (N : AN) : Nat → AN
  | 0 => N
  | j + 1 => pass T (runW T r s N j) (opt (runW T r s N j) r) (match s with
    | none => false
    | some x => crk T x (nI (ev9 (runW T r s N j))))
theorem opt_lt {T : AT} {N : AN} {r : Nat} (hr : r < nR T) : ∀ r', opt N r = some r' → r' < nR T := by
  intro r' e
  unfold opt at e
  split at e
  · cases e
    exact hr
  · cases e
theorem wf_runW {T : AT} {r : Nat} {s : Option Int32} {N : AN} (hT : wfT T) (hr : r < nR T) (hN : wfN T N) : ∀ j, wfN T (runW T r s N j)
  | 0 => hN
  | j + 1 => wf_pass hT (wf_runW hT hr hN j) (opt_lt hr)
theorem tryRowC {t u fu n r : Nat} {T : AT} {N : AN} {h : mh} {s : Int32} (hC : CC t u T 39 N h) (hfu : 1000 ≤ fu) (hr : r < nR T) (hn : n ≤ 30) : ok (fX9_tryRow fu 0 (nI r) (nI n) s h) (fun _ h' => eo (sQ t) h h' ∧ CC t u T 39 N h' ∧ CC t u T 44 (runW T r (some s) N n) h') := by
  have hT := LT_of hC.1
  unfold fX9_tryRow
  repeat (first | with_reducible apply v_lt | ((with_reducible apply vXR4); exact hT) | ((with_reducible apply w_XR); exact (LM_T hT); rfl) | ((with_reducible apply w_TR); exact hT; rfl) | ((with_reducible apply w_UR); exact hT; rfl) | ((first | with_reducible apply vXI | with_reducible apply vXS | with_reducible apply vXC); exact (LM_T hT)) | ((first | with_reducible apply vT0I | with_reducible apply vT9I | with_reducible apply vT0C | with_reducible apply vT9C | with_reducible apply vT0S | with_reducible apply vT9S); exact hT) | ((first | with_reducible apply vNR0 | with_reducible apply vNR1 | with_reducible apply vNR2 | with_reducible apply vNR3 | with_reducible apply vNI | with_reducible apply vNS | with_reducible apply vNC); (first | assumption | exact m39 | exact m44); exact (LM_T hT)) | ((first | with_reducible apply w_NA | with_reducible apply w_NW); exact (LM_T hT); (first | assumption | exact m39 | exact m44); rfl; rfl; (first | with_reducible rfl | with_reducible exact ixo _ | with_reducible exact ixoc _ _ | with_reducible exact ixom _ _ _ | with_reducible exact ixop _ _ | with_reducible exact ixod _ _ | assumption); omega) | ((first | with_reducible apply w_TA | with_reducible apply w_TW | with_reducible apply w_TJ | with_reducible apply w_TK); exact hT; rfl; rfl; (first | with_reducible rfl | with_reducible exact ixo _ | with_reducible exact ixoc _ _ | with_reducible exact ixom _ _ _ | with_reducible exact ixop _ _ | with_reducible exact ixod _ _ | assumption); omega))
  refine v_bd (trialC hC) (fun _ h1 hq => ?_)
  obtain ⟨o1, hC1, hD1⟩ := hq
  have h0 : CC t u T 44 (runW T r (some s) N 0) h1 := hD1
  refine itr_up (I := fun j s' => s'.1 = nI j ∧ eo (sQ t) h s'.2 ∧ CC t u T 44 (runW T r (some s) N j) s'.2) (P := fun R => ok R _) (n := n) ?_ ?_ fu 0 _ (by omega) (by omega) ⟨rfl, o1, h0⟩
  · intro j s' k hj hI hk
    obtain ⟨w, h2⟩ := s'
    obtain ⟨e1, o2, hD2⟩ := hI
    dsimp only at e1 o2 hD2
    subst e1
    have hT2 := LT_of hD2.1
    unfold bX9_tryRow_14
    dsimp only
    refine v_ie (nI_ge hj (by omega)) ?_
    repeat (first | with_reducible apply v_lt | ((with_reducible apply vXR4); exact hT2) | ((with_reducible apply w_XR); exact (LM_T hT2); rfl) | ((with_reducible apply w_TR); exact hT2; rfl) | ((with_reducible apply w_UR); exact hT2; rfl) | ((first | with_reducible apply vXI | with_reducible apply vXS | with_reducible apply vXC); exact (LM_T hT2)) | ((first | with_reducible apply vT0I | with_reducible apply vT9I | with_reducible apply vT0C | with_reducible apply vT9C | with_reducible apply vT0S | with_reducible apply vT9S); exact hT2) | ((first | with_reducible apply vNR0 | with_reducible apply vNR1 | with_reducible apply vNR2 | with_reducible apply vNR3 | with_reducible apply vNI | with_reducible apply vNS | with_reducible apply vNC); (first | assumption | exact m39 | exact m44); exact (LM_T hT2)) | ((first | with_reducible apply w_NA | with_reducible apply w_NW); exact (LM_T hT2); (first | assumption | exact m39 | exact m44); rfl; rfl; (first | with_reducible rfl | with_reducible exact ixo _ | with_reducible exact ixoc _ _ | with_reducible exact ixom _ _ _ | with_reducible exact ixop _ _ | with_reducible exact ixod _ _ | assumption); omega) | ((first | with_reducible apply w_TA | with_reducible apply w_TW | with_reducible apply w_TJ | with_reducible apply w_TK); exact hT2; rfl; rfl; (first | with_reducible rfl | with_reducible exact ixo _ | with_reducible exact ixoc _ _ | with_reducible exact ixom _ _ _ | with_reducible exact ixop _ _ | with_reducible exact ixod _ _ | assumption); omega))
    rw [hD2.2.2.1.2.2.1]
    refine v_eq (crackC hD2) ?_
    repeat (first | with_reducible apply v_lt | ((with_reducible apply vXR4); exact hT2) | ((with_reducible apply w_XR); exact (LM_T hT2); rfl) | ((with_reducible apply w_TR); exact hT2; rfl) | ((with_reducible apply w_UR); exact hT2; rfl) | ((first | with_reducible apply vXI | with_reducible apply vXS | with_reducible apply vXC); exact (LM_T hT2)) | ((first | with_reducible apply vT0I | with_reducible apply vT9I | with_reducible apply vT0C | with_reducible apply vT9C | with_reducible apply vT0S | with_reducible apply vT9S); exact hT2) | ((first | with_reducible apply vNR0 | with_reducible apply vNR1 | with_reducible apply vNR2 | with_reducible apply vNR3 | with_reducible apply vNI | with_reducible apply vNS | with_reducible apply vNC); (first | assumption | exact m39 | exact m44); exact (LM_T hT2)) | ((first | with_reducible apply w_NA | with_reducible apply w_NW); exact (LM_T hT2); (first | assumption | exact m39 | exact m44); rfl; rfl; (first | with_reducible rfl | with_reducible exact ixo _ | with_reducible exact ixoc _ _ | with_reducible exact ixom _ _ _ | with_reducible exact ixop _ _ | with_reducible exact ixod _ _ | assumption); omega) | ((first | with_reducible apply w_TA | with_reducible apply w_TW | with_reducible apply w_TJ | with_reducible apply w_TK); exact hT2; rfl; rfl; (first | with_reducible rfl | with_reducible exact ixo _ | with_reducible exact ixoc _ _ | with_reducible exact ixom _ _ _ | with_reducible exact ixop _ _ | with_reducible exact ixod _ _ | assumption); omega))
    refine v_bd (pass1C hD2 hfu hr) (fun _ h3 hq => ?_)
    obtain ⟨o3, hD3⟩ := hq
    exact hk _ ⟨nI_1 _, eo_tr o2 (eo_mono o3 (fun a k z => sE_Q z)), hD3⟩
  · intro s' k hI
    obtain ⟨w, h2⟩ := s'
    obtain ⟨e1, o2, hD2⟩ := hI
    dsimp only at e1 o2 hD2
    subst e1
    unfold bX9_tryRow_14
    dsimp only
    exact v_it (nI_le (Nat.le_refl _) (by omega)) (v_rV ⟨o2, CC_q o2 (fun a k q => q) hC, hD2⟩)
/-! class and reference alike -/
/-- bytes on the tape; things that can be undone, the next place, what they were; slots; told ones -/
abbrev SD : Type := Nat × Nat × Nat × (Nat → AN) × Nat × (Nat → AN) × Nat × (Nat → Bool × Nat × Bool)
def dK (D : SD) : Nat := D.1
def dU (D : SD) : Nat := D.2.1
def dX (D : SD) : Nat := D.2.2.1
def dP (D : SD) : Nat → AN := D.2.2.2.1
def dH (D : SD) : Nat := D.2.2.2.2.1
def dS (D : SD) : Nat → AN := D.2.2.2.2.2.1
def dT (D : SD) : Nat := D.2.2.2.2.2.2.1
def dW (D : SD) : Nat → Bool × Nat × Bool := D.2.2.2.2.2.2.2
/-- a night in a part of a row -/
def ngO (h : mh) (a b : Nat) (N : AN) : Prop := ngM (fun _ k => gI h a (b + k), h.2) 0 N
/-- a byte as it is held -/
def byN (n : Nat) : Int32 := (nI n).toInt8.toInt32
/-- the tape -/
def rTp (k : Nat) (h : mh) : Prop := k ≤ 2000 ∧ gI h 0 1 = nI k ∧ gI h 299 2 = nI k ∧ (∀ i, i < k → gI h 1 i = gI h 300 i ∧ ∃ n, n < 256 ∧ gI h 1 i = byN n) ∧ gI h 0 2 = gI h 299 17
/-- where the i-th thing that can be undone lies -/
def pAt (x n i : Nat) : Nat := 80 + 5 * ((x + 40 - n + i) % 40)
def rUn (T : AT) (n x : Nat) (P : Nat → AN) (h : mh) : Prop := n ≤ 40 ∧ x < 40 ∧ gI h 77 1 = nI x ∧ gI h 77 2 = nI n ∧ gI h 299 58 = nI n ∧ ∀ i, i < n → ngC h (pAt x n i) (P i) ∧ ngO h 337 (33 * i) (P i) ∧ wfN T (P i)
def rSl (T : AT) (b : Nat) (S : Nat → AN) (h : mh) : Prop := b < 8 ∧ gI h 77 4 = nI b ∧ ∀ s, s < 3 → gI h 341 s = b2i (b.testBit s) ∧ (b.testBit s = true → ngC h (280 + 5 * s) (S s) ∧ ngO h 342 (33 * s) (S s) ∧ wfN T (S s))
def rTo (T : AT) (n : Nat) (W : Nat → Bool × Nat × Bool) (h : mh) : Prop := n ≤ 20 ∧ gI h 295 3 = nI n ∧ gI h 299 63 = nI n ∧ ∀ i, i < n → gI h 296 i = b2i (W i).1 ∧ gI h 297 i = nI (W i).2.1 ∧ gI h 298 i = b2i (W i).2.2 ∧ gI h 339 i = nI (if (W i).1 then 8 + (W i).2.1 else (W i).2.1) ∧ gI h 340 i = b2i (W i).2.2 ∧ (W i).2.1 < 8 ∧ ((W i).1 = true → (W i).2.1 < nL9 T)
/-- the words of both, as the constructors left them -/
def rKy (h : mh) : Prop := (∀ i, i < 22 → gL h 4 i = gL hI 4 i) ∧ (∀ i, i < 22 → gL h 306 i = gL hI 306 i)
def Sm (t u l : Nat) (T : AT) (N : AN) (D : SD) (h : mh) : Prop := CC t u T 39 N h ∧ MN t u l T N h ∧ rTp (dK D) h ∧ rUn T (dU D) (dX D) (dP D) h ∧ rSl T (dH D) (dS D) h ∧ rTo T (dT D) (dW D) h ∧ rKy h
def Sim (h : mh) : Prop := ∃ t u l T N D, Sm t u l T N D h
theorem Sim_Ly (h : mh) (q : Sim h) : ∃ t u, Ly t u h := by
  obtain ⟨t, u, _, _, _, _, q⟩ := q
  exact ⟨t, u, q.1.1⟩
theorem ngO_eo {S : Nat → Nat → Prop} {h h1 : mh} {a b : Nat} {N : AN} (o : eo S h h1) (hs : ∀ k, ¬ S a k) (q : ngO h a b N) : ngO h1 a b N := by
  refine ngM_cp (h := (fun _ k => gI h a (b + k), h.2)) (a := 0) (fun i _ => ?_) q
  exact o.2 _ _ (hs _)
theorem rTp_eo {S : Nat → Nat → Prop} {k : Nat} {h h1 : mh} (o : eo S h h1) (hs : ∀ a j, S a j → ¬ (a ≤ 1 ∨ (a = 299 ∧ (j = 2 ∨ j = 17)) ∨ a = 300)) (q : rTp k h) : rTp k h1 := by
  obtain ⟨q1, q2, q3, q4, q5⟩ := q
  have f : ∀ a j, (a ≤ 1 ∨ (a = 299 ∧ (j = 2 ∨ j = 17)) ∨ a = 300) → gI h1 a j = gI h a j := fun a j z => o.2 _ _ (fun w => hs a j w z)
  exact ⟨q1, by rw [f _ _ (by omega)]; exact q2, by rw [f _ _ (by omega)]; exact q3, fun i hi => by rw [f _ _ (by omega), f _ _ (by omega)]; exact q4 i hi, by rw [f _ _ (by omega), f _ _ (by omega)]; exact q5⟩
theorem pAt_b (x n i : Nat) : 80 ≤ pAt x n i ∧ pAt x n i ≤ 275 := by
  unfold pAt
  have := Nat.mod_lt (x + 40 - n + i) (show 40 > 0 by decide)
  omega
theorem rUn_eo {S : Nat → Nat → Prop} {T : AT} {n x : Nat} {P : Nat → AN} {h h1 : mh} (o : eo S h h1) (hs : ∀ a j, S a j → ¬ ((77 ≤ a ∧ a ≤ 279) ∨ (a = 299 ∧ j = 58) ∨ a = 337)) (q : rUn T n x P h) : rUn T n x P h1 := by
  obtain ⟨q1, q2, q3, q4, q5, q6⟩ := q
  have f : ∀ a j, ((77 ≤ a ∧ a ≤ 279) ∨ (a = 299 ∧ j = 58) ∨ a = 337) → gI h1 a j = gI h a j := fun a j z => o.2 _ _ (fun w => hs a j w z)
  refine ⟨q1, q2, by rw [f _ _ (by omega)]; exact q3, by rw [f _ _ (by omega)]; exact q4, by rw [f _ _ (by omega)]; exact q5, fun i hi => ?_⟩
  obtain ⟨r1, r2, r3⟩ := q6 i hi
  have := pAt_b x n i
  exact ⟨ngC_eo o (fun a h1 h2 k z => hs a k z (by omega)) r1, ngO_eo o (fun k z => hs _ k z (by omega)) r2, r3⟩
theorem rSl_eo {S : Nat → Nat → Prop} {T : AT} {b : Nat} {Sl : Nat → AN} {h h1 : mh} (o : eo S h h1) (hs : ∀ a j, S a j → ¬ ((a = 77 ∧ j = 4) ∨ (280 ≤ a ∧ a ≤ 294) ∨ a = 341 ∨ a = 342)) (q : rSl T b Sl h) : rSl T b Sl h1 := by
  obtain ⟨q1, q2, q3⟩ := q
  have f : ∀ a j, ((a = 77 ∧ j = 4) ∨ (280 ≤ a ∧ a ≤ 294) ∨ a = 341 ∨ a = 342) → gI h1 a j = gI h a j := fun a j z => o.2 _ _ (fun w => hs a j w z)
  refine ⟨q1, by rw [f _ _ (by omega)]; exact q2, fun s h3 => ?_⟩
  obtain ⟨r1, r2⟩ := q3 s h3
  refine ⟨by rw [f _ _ (by omega)]; exact r1, fun e => ?_⟩
  obtain ⟨r3, r4, r5⟩ := r2 e
  exact ⟨ngC_eo o (fun a h1 h2 k z => hs a k z (by omega)) r3, ngO_eo o (fun k z => hs _ k z (by omega)) r4, r5⟩
theorem rTo_eo {S : Nat → Nat → Prop} {T : AT} {n : Nat} {W : Nat → Bool × Nat × Bool} {h h1 : mh} (o : eo S h h1) (hs : ∀ a j, S a j → ¬ ((295 ≤ a ∧ a ≤ 298) ∨ (a = 299 ∧ j = 63) ∨ a = 339 ∨ a = 340)) (q : rTo T n W h) : rTo T n W h1 := by
  obtain ⟨q1, q2, q3, q4⟩ := q
  have f : ∀ a j, ((295 ≤ a ∧ a ≤ 298) ∨ (a = 299 ∧ j = 63) ∨ a = 339 ∨ a = 340) → gI h1 a j = gI h a j := fun a j z => o.2 _ _ (fun w => hs a j w z)
  refine ⟨q1, by rw [f _ _ (by omega)]; exact q2, by rw [f _ _ (by omega)]; exact q3, fun i hi => ?_⟩
  rw [f _ _ (by omega), f _ _ (by omega), f _ _ (by omega), f _ _ (by omega), f _ _ (by omega)]
  exact q4 i hi
theorem rKy_eo {S : Nat → Nat → Prop} {h h1 : mh} (o : eo S h h1) (q : rKy h) : rKy h1 := by
  have f : ∀ a i, gL h1 a i = gL h a i := fun a i => by
    unfold gL
    rw [o.1]
  exact ⟨fun i hi => by rw [f]; exact q.1 i hi, fun i hi => by rw [f]; exact q.2 i hi⟩
/-- what questions write -/
def sA (t a k : Nat) : Prop := sQ t a k ∨ sR a k
theorem Sm_eo {S : Nat → Nat → Prop} {t u l : Nat} {T : AT} {N : AN} {D : SD} {h h1 : mh} (o : eo S h h1) (hs : ∀ a k, S a k → sA t a k) (q : Sm t u l T N D h) : Sm t u l T N D h1 := by
  obtain ⟨q1, q2, q3, q4, q5, q6, q7⟩ := q
  have ht := t_hi q1.1
  have hs' : ∀ a k, S a k → (a = t + 14 ∨ a = t + 15 ∨ (a = t + 9 ∧ k = 7)) ∨ (44 ≤ a ∧ a ≤ 48) ∨ (51 ≤ a ∧ a ≤ 76) ∨ a = 331 ∨ a = 332 ∨ a = 334 ∨ a = 335 ∨ a = 336 ∨ a = 338 ∨ (a = 299 ∧ (k = 50 ∨ k = 53 ∨ k = 54 ∨ k = 57 ∨ k = 60 ∨ k = 61)) := fun a k z => by
    have := hs a k z
    unfold sA sQ sR sC at this
    omega
  refine ⟨?_, ?_, rTp_eo o (fun a j z w => ?_) q3, rUn_eo o (fun a j z w => ?_) q4, rSl_eo o (fun a j z w => ?_) q5, rTo_eo o (fun a j z w => ?_) q6, rKy_eo o q7⟩
  · obtain ⟨p1, p2, p3, p4, p5, p6⟩ := q1
    exact ⟨Ly_eo p1 o, txC_eo o (fun a _ _ _ k z => by have := hs' _ _ z; omega) p2, ngC_eo o (fun a _ _ k z => by have := hs' _ _ z; omega) p3, p4, p5, p6⟩
  · obtain ⟨p1, p2, p3, p4, p5, p6, p7⟩ := q2
    exact ⟨Ly_eo p1 o, p2, by rw [o.2 _ _ (fun z => by have := hs' _ _ z; omega)]; exact p3, txM_eo o (fun a h1 h2 k z => by have := hs' _ _ z; omega) p4, ngM_eo o (fun k z => by have := hs' _ _ z; omega) p5, p6, p7⟩
  all_goals
    have := hs' _ _ z
    omega
/-- a question: both answer v, and nothing but scratch is written -/
theorem pr_q {β : Type} {t u l : Nat} {T : AT} {N : AN} {D : SD} {h : mh} {A : Option (β × mh)} {B : mh → Option (β × mh)} (v : β) (hS : Sm t u l T N D h) (hA : ok A (fun x h' => eo (sQ t) h h' ∧ x = v)) (hB : ∀ h1, Sm t u l T N D h1 → ok (B h1) (fun x h' => eo sR h1 h' ∧ x = v)) : pr Sim A B := by
  obtain ⟨x, h1, e1, o1, rfl⟩ := hA
  have hS1 := Sm_eo o1 (fun a k q => Or.inl q) hS
  obtain ⟨y, h2, e2, o2, rfl⟩ := hB h1 hS1
  exact ⟨_, h1, h2, e1, e2, ⟨t, u, hS1.1.1⟩, t, u, l, T, N, D, Sm_eo o2 (fun a k q => Or.inr q) hS1⟩
