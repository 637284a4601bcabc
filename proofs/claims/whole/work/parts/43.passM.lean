/-! AN EVENING IN THE REFERENCE -/
def sMe (a k : Nat) : Prop := sV a k ∨ a = 334 ∨ a = 335 ∨ a = 336 ∨ (a = 299 ∧ k = 57)
theorem MC_eE {t u l : Nat} {T : AT} {N M : AN} {h h1 : mh} (o : eo sMe h h1) (q : MC t u l T N h) (hM : ngM h1 334 M) (wM : wfN T M) : MC t u l T M h1 := by
  obtain ⟨q1, q2, q3, q4, q5, q6, q7⟩ := q
  exact ⟨Ly_eo q1 o, q2, by rw [o.2 _ _ (fun z => by unfold sMe sV at z; omega)]; exact q3, txM_eo o (fun a h1 h2 k z => by unfold sMe sV at z; omega) q4, hM, q6, wM⟩
theorem b2i_and1 (b : Bool) : b2i b &&& 1 = b2i b := by cases b <;> decide
theorem b2i_ne {b : Bool} (h : ¬ b2i b = 0) : b = true := by
  cases b
  · exact absurd rfl h
  · rfl
theorem b2i_eq {b : Bool} (h : b2i b = 0) : b = false := b2i_0.mp h
set_option maxHeartbeats 1000000 in
theorem hearM {t u l fu r : Nat} {T : AT} {N : AN} {h : mh} (hM : MC t u l T N h) (hfu : 1000 ≤ fu) (hr : r < nR T) :
    ok (fX10_isHeard fu 299 (nI r) h) (fun _ h' => eo sMe h h' ∧ ngM h' 334 (hearN T N r) ∧ gI h' 299 57 = b2i (ringN T N r)) := by
  obtain ⟨hy, hl, hlv, htx, hng, hwT, hwN⟩ := id hM
  have hL := LM_of hy
  have ho6 := hwT.2.1
  have hr6 := hwT.1
  unfold fX10_isHeard
  repeat (first | with_reducible apply v_lt | ((with_reducible apply w_MR); exact hL; rfl) | ((with_reducible apply w_lv); exact hL; assumption) | ((with_reducible apply vMI); exact hL) | ((with_reducible apply vMS); exact hL) | ((with_reducible apply vMC); exact hL) | ((with_reducible apply vMZ); exact hL; (first | exact Or.inl rfl | exact Or.inr rfl | exact b2i_01 _ | assumption)) | ((first | with_reducible apply w_MA | with_reducible apply w_MW | with_reducible apply w_MY | with_reducible apply w_MB | with_reducible apply w_MJ | with_reducible apply w_MK); exact hL; rfl; rfl; rfl; (first | with_reducible rfl | with_reducible exact ixo _ | with_reducible exact ixoc _ _ | with_reducible exact ixom _ _ _ | with_reducible exact ixop _ _ | with_reducible exact ixod _ _ | assumption); omega))
  refine v_bd (saidM hM hfu hr) (fun x h1 hq => ?_)
  obtain ⟨o1, rfl⟩ := hq
  have hL1 := LM_eo o1 hL
  repeat (first | with_reducible apply v_lt | ((with_reducible apply w_MR); exact hL1; rfl) | ((with_reducible apply w_lv); exact hL1; assumption) | ((with_reducible apply vMI); exact hL1) | ((with_reducible apply vMS); exact hL1) | ((with_reducible apply vMC); exact hL1) | ((with_reducible apply vMZ); exact hL1; (first | exact Or.inl rfl | exact Or.inr rfl | exact b2i_01 _ | assumption)) | ((first | with_reducible apply w_MA | with_reducible apply w_MW | with_reducible apply w_MY | with_reducible apply w_MB | with_reducible apply w_MJ | with_reducible apply w_MK); exact hL1; rfl; rfl; rfl; (first | with_reducible rfl | with_reducible exact ixo _ | with_reducible exact ixoc _ _ | with_reducible exact ixom _ _ _ | with_reducible exact ixop _ _ | with_reducible exact ixod _ _ | assumption); omega))
  have hs := said_lt T N r
  have o2 : eo sMe h (uI h1 299 57 0) := eo_uI (eo_mono o1 (fun a k q => Or.inl q)) (Or.inr (Or.inr (Or.inr (Or.inr ⟨rfl, rfl⟩))))
  have hg2 : ngM (uI h1 299 57 0) 334 N := ngM_o (by decide) (ngM_eo o1 (fun k z => by unfold sV at z; omega) hng)
  have hz2 : gI (uI h1 299 57 0) 299 57 = b2i (ringU T N r (said T N r) 0) := gI_eq
  generalize uI h1 299 57 0 = h2 at o2 hg2 hz2 ⊢
  refine itr_up (I := fun j s' => s'.1 = nI j ∧ eo sMe h s'.2 ∧ ngM s'.2 334 N ∧ (∀ o, o < j → gI s'.2 335 o = b2i (trustB T N o r (said T N r)) ∧ gI s'.2 336 o = moveV T N o r (said T N r)) ∧ gI s'.2 299 57 = b2i (ringU T N r (said T N r) j)) (P := fun R => ok R _) (n := nL9 T) ?_ ?_ fu 0 _ (by omega) (by omega) ⟨rfl, o2, hg2, fun o ho => by omega, hz2⟩
  · intro j s' k hj hI hk
    obtain ⟨w, h3⟩ := s'
    obtain ⟨e1, o3, hg3, ht3, hz3⟩ := hI
    dsimp only at e1 o3 hg3 ht3 hz3
    subst e1
    have hM3 : MC t u l T N h3 := MC_eE o3 hM hg3 hwN
    have hL3 := LM_of hM3.1
    obtain ⟨-, -, hlv3, htx3, -⟩ := id hM3
    unfold bX10_isHeard_13
    dsimp only
    apply vMR26 hL3
    apply vMI hL3
    rw [hlv3]
    repeat (first | with_reducible apply v_lt | ((with_reducible apply w_MR); exact hL3; rfl) | ((with_reducible apply w_lv); exact hL3; assumption) | ((with_reducible apply vMI); exact hL3) | ((with_reducible apply vMS); exact hL3) | ((with_reducible apply vMC); exact hL3) | ((with_reducible apply vMZ); exact hL3; (first | exact Or.inl rfl | exact Or.inr rfl | exact b2i_01 _ | assumption)) | ((first | with_reducible apply w_MA | with_reducible apply w_MW | with_reducible apply w_MY | with_reducible apply w_MB | with_reducible apply w_MJ | with_reducible apply w_MK); exact hL3; rfl; rfl; rfl; (first | with_reducible rfl | with_reducible exact ixo _ | with_reducible exact ixoc _ _ | with_reducible exact ixom _ _ _ | with_reducible exact ixop _ _ | with_reducible exact ixod _ _ | assumption); omega))
    rw [htx3.2.1]
    refine v_ie (nI_ge hj (by omega)) ?_
    repeat (first | with_reducible apply v_lt | ((with_reducible apply w_MR); exact hL3; rfl) | ((with_reducible apply w_lv); exact hL3; assumption) | ((with_reducible apply vMI); exact hL3) | ((with_reducible apply vMS); exact hL3) | ((with_reducible apply vMC); exact hL3) | ((with_reducible apply vMZ); exact hL3; (first | exact Or.inl rfl | exact Or.inr rfl | exact b2i_01 _ | assumption)) | ((first | with_reducible apply w_MA | with_reducible apply w_MW | with_reducible apply w_MY | with_reducible apply w_MB | with_reducible apply w_MJ | with_reducible apply w_MK); exact hL3; rfl; rfl; rfl; (first | with_reducible rfl | with_reducible exact ixo _ | with_reducible exact ixoc _ _ | with_reducible exact ixom _ _ _ | with_reducible exact ixop _ _ | with_reducible exact ixod _ _ | assumption); omega))
    refine v_bd (trustM hM3 hfu hr hj hs) (fun x h4 hq => ?_)
    obtain ⟨o4, rfl⟩ := hq
    have hL4 := LM_eo o4 hL3
    repeat (first | with_reducible apply v_lt | ((with_reducible apply w_MR); exact hL4; rfl) | ((with_reducible apply w_lv); exact hL4; assumption) | ((with_reducible apply vMI); exact hL4) | ((with_reducible apply vMS); exact hL4) | ((with_reducible apply vMC); exact hL4) | ((with_reducible apply vMZ); exact hL4; (first | exact Or.inl rfl | exact Or.inr rfl | exact b2i_01 _ | assumption)) | ((first | with_reducible apply w_MA | with_reducible apply w_MW | with_reducible apply w_MY | with_reducible apply w_MB | with_reducible apply w_MJ | with_reducible apply w_MK); exact hL4; rfl; rfl; rfl; (first | with_reducible rfl | with_reducible exact ixo _ | with_reducible exact ixoc _ _ | with_reducible exact ixom _ _ _ | with_reducible exact ixop _ _ | with_reducible exact ixod _ _ | assumption); omega))
    rw [b2i_and1]
    have hM5 : MC t u l T N (uI h4 335 j (b2i (trustB T N j r (said T N r)))) := MC_eo (S := fun a k => sV a k ∨ a = 335) (eo_uI (eo_mono o4 (fun a k q => Or.inl q)) (Or.inr rfl)) (fun a k q => by unfold sV at q; omega) hM3
    have o5 : eo (fun a k => sV a k ∨ a = 335) h3 (uI h4 335 j (b2i (trustB T N j r (said T N r)))) := eo_uI (eo_mono o4 (fun a k q => Or.inl q)) (Or.inr rfl)
    have k5 : gI (uI h4 335 j (b2i (trustB T N j r (said T N r)))) 335 j = b2i (trustB T N j r (said T N r)) := gI_eq
    have t5 : ∀ o, o < j → gI (uI h4 335 j (b2i (trustB T N j r (said T N r)))) 335 o = b2i (trustB T N o r (said T N r)) := fun o ho => by
      rw [gI_ne (by omega), o4.2 _ _ (fun z => by unfold sV at z; omega)]
      exact (ht3 o ho).1
    generalize uI h4 335 j (b2i (trustB T N j r (said T N r))) = h5 at hM5 o5 k5 t5 ⊢
    have hL5 := LM_of hM5.1
    repeat (first | with_reducible apply v_lt | ((with_reducible apply w_MR); exact hL5; rfl) | ((with_reducible apply w_lv); exact hL5; assumption) | ((with_reducible apply vMI); exact hL5) | ((with_reducible apply vMS); exact hL5) | ((with_reducible apply vMC); exact hL5) | ((with_reducible apply vMZ); exact hL5; (first | exact Or.inl rfl | exact Or.inr rfl | exact b2i_01 _ | assumption)) | ((first | with_reducible apply w_MA | with_reducible apply w_MW | with_reducible apply w_MY | with_reducible apply w_MB | with_reducible apply w_MJ | with_reducible apply w_MK); exact hL5; rfl; rfl; rfl; (first | with_reducible rfl | with_reducible exact ixo _ | with_reducible exact ixoc _ _ | with_reducible exact ixom _ _ _ | with_reducible exact ixop _ _ | with_reducible exact ixod _ _ | assumption); omega))
    refine v_bd (moveM hM5 hfu hr hj hs) (fun x h6 hq => ?_)
    obtain ⟨o6, rfl⟩ := hq
    have hL6 := LM_eo o6 hL5
    repeat (first | with_reducible apply v_lt | ((with_reducible apply w_MR); exact hL6; rfl) | ((with_reducible apply w_lv); exact hL6; assumption) | ((with_reducible apply vMI); exact hL6) | ((with_reducible apply vMS); exact hL6) | ((with_reducible apply vMC); exact hL6) | ((with_reducible apply vMZ); exact hL6; (first | exact Or.inl rfl | exact Or.inr rfl | exact b2i_01 _ | assumption)) | ((first | with_reducible apply w_MA | with_reducible apply w_MW | with_reducible apply w_MY | with_reducible apply w_MB | with_reducible apply w_MJ | with_reducible apply w_MK); exact hL6; rfl; rfl; rfl; (first | with_reducible rfl | with_reducible exact ixo _ | with_reducible exact ixoc _ _ | with_reducible exact ixom _ _ _ | with_reducible exact ixop _ _ | with_reducible exact ixod _ _ | assumption); omega))
    have o7 : eo (fun a k => sV a k ∨ a = 335 ∨ a = 336) h3 (uI h6 336 j (moveV T N j r (said T N r))) := eo_uI (eo_tr (eo_mono o5 (fun a k q => q.elim Or.inl (fun z => Or.inr (Or.inl z)))) (eo_mono o6 (fun a k q => Or.inl q))) (Or.inr (Or.inr rfl))
    have hM7 : MC t u l T N (uI h6 336 j (moveV T N j r (said T N r))) := MC_eo o7 (fun a k q => by unfold sV at q; omega) hM3
    have t7 : ∀ o, o < j + 1 → gI (uI h6 336 j (moveV T N j r (said T N r))) 335 o = b2i (trustB T N o r (said T N r)) ∧ gI (uI h6 336 j (moveV T N j r (said T N r))) 336 o = moveV T N o r (said T N r) := fun o ho => by
      by_cases e : o = j
      · subst e
        refine ⟨?_, gI_eq⟩
        rw [gI_ne (by omega), o6.2 _ _ (fun z => by unfold sV at z; omega)]
        exact k5
      · refine ⟨?_, ?_⟩
        · rw [gI_ne (by omega), o6.2 _ _ (fun z => by unfold sV at z; omega)]
          exact t5 o (by omega)
        · rw [gI_ne (by omega), o6.2 _ _ (fun z => by unfold sV at z; omega), o5.2 _ _ (fun z => by unfold sV at z; omega)]
          exact (ht3 o (by omega)).2
    generalize uI h6 336 j (moveV T N j r (said T N r)) = h7 at o7 hM7 t7 ⊢
    have hL7 := LM_of hM7.1
    have fin : ∀ (h8 : mh) (b : Bool), eo sV h7 h8 → b = (onB N j && reB T j r && ringB T N j r (said T N r)) → gI h8 299 57 = b2i (ringU T N r (said T N r) j || b) → ok (fX10_isHeard_84 fu k 299 (nI r) (nI (said T N r)) (nI j) h8) (fun _ h' => eo sMe h h' ∧ ngM h' 334 (hearN T N r) ∧ gI h' 299 57 = b2i (ringN T N r)) := by
      intro h8 b o8 hb hz8
      unfold fX10_isHeard_84
      refine hk _ ⟨nI_1 _, ?_, ?_, ?_, ?_⟩
      · exact eo_tr o3 (eo_tr (eo_mono o7 (fun a k q => by unfold sV at q; unfold sMe sV; omega)) (eo_mono o8 (fun a k q => Or.inl q)))
      · exact ngM_eo o8 (fun k z => by unfold sV at z; omega) hM7.2.2.2.2.1
      · intro o ho
        dsimp only
        rw [o8.2 _ _ (fun z => by unfold sV at z; omega), o8.2 _ _ (fun z => by unfold sV at z; omega)]
        exact t7 o ho
      · rw [hz8, hb]
        rfl
    have hz7 : gI h7 299 57 = b2i (ringU T N r (said T N r) j) := by
      rw [o7.2 _ _ (fun z => by unfold sV at z; omega)]
      exact hz3
    repeat (first | with_reducible apply v_lt | ((with_reducible apply w_MR); exact hL7; rfl) | ((with_reducible apply w_lv); exact hL7; assumption) | ((with_reducible apply vMI); exact hL7) | ((with_reducible apply vMS); exact hL7) | ((with_reducible apply vMC); exact hL7) | ((with_reducible apply vMZ); exact hL7; (first | exact Or.inl rfl | exact Or.inr rfl | exact b2i_01 _ | assumption)) | ((first | with_reducible apply w_MA | with_reducible apply w_MW | with_reducible apply w_MY | with_reducible apply w_MB | with_reducible apply w_MJ | with_reducible apply w_MK); exact hL7; rfl; rfl; rfl; (first | with_reducible rfl | with_reducible exact ixo _ | with_reducible exact ixoc _ _ | with_reducible exact ixom _ _ _ | with_reducible exact ixop _ _ | with_reducible exact ixod _ _ | assumption); omega))
    refine v_eq (isReallyM hM7 hr hj) ?_
    refine v_if (fun e => fin h7 false eo_rf ?_ (by rw [hz7, Bool.or_false])) (fun e => ?_)
    · unfold reB
      rw [b2i_eq e, Bool.and_false, Bool.false_and]
    have hre : reB T j r = true := b2i_ne e
    repeat (first | with_reducible apply v_lt | ((with_reducible apply w_MR); exact hL7; rfl) | ((with_reducible apply w_lv); exact hL7; assumption) | ((with_reducible apply vMI); exact hL7) | ((with_reducible apply vMS); exact hL7) | ((with_reducible apply vMC); exact hL7) | ((with_reducible apply vMZ); exact hL7; (first | exact Or.inl rfl | exact Or.inr rfl | exact b2i_01 _ | assumption)) | ((first | with_reducible apply w_MA | with_reducible apply w_MW | with_reducible apply w_MY | with_reducible apply w_MB | with_reducible apply w_MJ | with_reducible apply w_MK); exact hL7; rfl; rfl; rfl; (first | with_reducible rfl | with_reducible exact ixo _ | with_reducible exact ixoc _ _ | with_reducible exact ixom _ _ _ | with_reducible exact ixop _ _ | with_reducible exact ixod _ _ | assumption); omega))
    refine v_eq (isOnM hM7 (by omega)) ?_
    refine v_if (fun e => fin h7 false eo_rf ?_ (by rw [hz7, Bool.or_false])) (fun e => ?_)
    · rw [b2i_eq e, Bool.false_and, Bool.false_and]
    have hon : onB N j = true := b2i_ne e
    repeat (first | with_reducible apply v_lt | ((with_reducible apply w_MR); exact hL7; rfl) | ((with_reducible apply w_lv); exact hL7; assumption) | ((with_reducible apply vMI); exact hL7) | ((with_reducible apply vMS); exact hL7) | ((with_reducible apply vMC); exact hL7) | ((with_reducible apply vMZ); exact hL7; (first | exact Or.inl rfl | exact Or.inr rfl | exact b2i_01 _ | assumption)) | ((first | with_reducible apply w_MA | with_reducible apply w_MW | with_reducible apply w_MY | with_reducible apply w_MB | with_reducible apply w_MJ | with_reducible apply w_MK); exact hL7; rfl; rfl; rfl; (first | with_reducible rfl | with_reducible exact ixo _ | with_reducible exact ixoc _ _ | with_reducible exact ixom _ _ _ | with_reducible exact ixop _ _ | with_reducible exact ixod _ _ | assumption); omega))
    refine v_bd (ringM hM7 hfu hr hj hs) (fun x h8 hq => ?_)
    obtain ⟨o8, rfl⟩ := hq
    have hL8 := LM_eo o8 hL7
    refine v_if (fun e => fin h8 false o8 ?_ ?_) (fun e => ?_)
    · rw [b2i_eq e, Bool.and_false]
    · rw [o8.2 _ _ (fun z => by unfold sV at z; omega), hz7, Bool.or_false]
    · repeat (first | with_reducible apply v_lt | ((with_reducible apply w_MR); exact hL8; rfl) | ((with_reducible apply w_lv); exact hL8; assumption) | ((with_reducible apply vMI); exact hL8) | ((with_reducible apply vMS); exact hL8) | ((with_reducible apply vMC); exact hL8) | ((with_reducible apply vMZ); exact hL8; (first | exact Or.inl rfl | exact Or.inr rfl | exact b2i_01 _ | assumption)) | ((first | with_reducible apply w_MA | with_reducible apply w_MW | with_reducible apply w_MY | with_reducible apply w_MB | with_reducible apply w_MJ | with_reducible apply w_MK); exact hL8; rfl; rfl; rfl; (first | with_reducible rfl | with_reducible exact ixo _ | with_reducible exact ixoc _ _ | with_reducible exact ixom _ _ _ | with_reducible exact ixop _ _ | with_reducible exact ixod _ _ | assumption); omega))
      unfold fX10_isHeard_84
      refine hk _ ⟨nI_1 _, ?_, ?_, ?_, ?_⟩
      · exact eo_uI (eo_tr o3 (eo_tr (eo_mono o7 (fun a k q => by unfold sV at q; unfold sMe sV; omega)) (eo_mono o8 (fun a k q => Or.inl q)))) (Or.inr (Or.inr (Or.inr (Or.inr ⟨rfl, rfl⟩))))
      · exact ngM_o (by decide) (ngM_eo o8 (fun k z => by unfold sV at z; omega) hM7.2.2.2.2.1)
      · intro o ho
        dsimp only
        rw [gI_ne (by omega), gI_ne (by omega), o8.2 _ _ (fun z => by unfold sV at z; omega), o8.2 _ _ (fun z => by unfold sV at z; omega)]
        exact t7 o ho
      · show gI (uI h8 299 57 1) 299 57 = b2i (ringU T N r (said T N r) j || (onB N j && reB T j r && ringB T N j r (said T N r)))
        rw [gI_eq, hre, hon, b2i_ne e, Bool.and_true, Bool.and_true, Bool.or_true]
        rfl
  · intro s' k hI
    obtain ⟨w, h3⟩ := s'
    obtain ⟨e1, o3, hg3, ht3, hz3⟩ := hI
    dsimp only at e1 o3 hg3 ht3 hz3
    subst e1
    have hM3 : MC t u l T N h3 := MC_eE o3 hM hg3 hwN
    have hL3 := LM_of hM3.1
    obtain ⟨-, -, hlv3, htx3, -⟩ := id hM3
    unfold bX10_isHeard_13
    dsimp only
    apply vMR26 hL3
    apply vMI hL3
    rw [hlv3]
    repeat (first | with_reducible apply v_lt | ((with_reducible apply w_MR); exact hL3; rfl) | ((with_reducible apply w_lv); exact hL3; assumption) | ((with_reducible apply vMI); exact hL3) | ((with_reducible apply vMS); exact hL3) | ((with_reducible apply vMC); exact hL3) | ((with_reducible apply vMZ); exact hL3; (first | exact Or.inl rfl | exact Or.inr rfl | exact b2i_01 _ | assumption)) | ((first | with_reducible apply w_MA | with_reducible apply w_MW | with_reducible apply w_MY | with_reducible apply w_MB | with_reducible apply w_MJ | with_reducible apply w_MK); exact hL3; rfl; rfl; rfl; (first | with_reducible rfl | with_reducible exact ixo _ | with_reducible exact ixoc _ _ | with_reducible exact ixom _ _ _ | with_reducible exact ixop _ _ | with_reducible exact ixod _ _ | assumption); omega))
    rw [htx3.2.1]
    refine v_it (nI_le (Nat.le_refl _) (by omega)) ?_
    unfold fX10_isHeard_90
    refine itr_up (I := fun j s' => s'.1 = nI j ∧ eo (fun a _ => a = 334) h3 s'.2 ∧ ngM s'.2 334 (hearU T N r (said T N r) j)) (P := fun R => ok R _) (n := nL9 T) ?_ ?_ fu 0 _ (by omega) (by omega) ⟨rfl, eo_rf, hg3⟩
    · intro j s' k hj hI hk
      obtain ⟨w, h4⟩ := s'
      obtain ⟨e1, o4, hg4⟩ := hI
      dsimp only at e1 o4 hg4
      subst e1
      have hM4 : MC t u l T (hearU T N r (said T N r) j) h4 := MC_eE (eo_mono o4 (fun a k q => Or.inr (Or.inl q))) hM3 hg4 (wf_hearU hwT hwN hs j (by omega))
      have hL4 := LM_of hM4.1
      obtain ⟨-, -, hlv4, htx4, -⟩ := id hM4
      have gt := (ht3 j hj).1
      have gm := (ht3 j hj).2
      rw [← o4.2 335 j (show ¬ (335 : Nat) = 334 by decide)] at gt
      rw [← o4.2 336 j (show ¬ (336 : Nat) = 334 by decide)] at gm
      unfold bX10_isHeard_92
      dsimp only
      apply vMR26 hL4
      apply vMI hL4
      rw [hlv4]
      repeat (first | with_reducible apply v_lt | ((with_reducible apply w_MR); exact hL4; rfl) | ((with_reducible apply w_lv); exact hL4; assumption) | ((with_reducible apply vMI); exact hL4) | ((with_reducible apply vMS); exact hL4) | ((with_reducible apply vMC); exact hL4) | ((with_reducible apply vMZ); exact hL4; (first | exact Or.inl rfl | exact Or.inr rfl | exact b2i_01 _ | assumption)) | ((first | with_reducible apply w_MA | with_reducible apply w_MW | with_reducible apply w_MY | with_reducible apply w_MB | with_reducible apply w_MJ | with_reducible apply w_MK); exact hL4; rfl; rfl; rfl; (first | with_reducible rfl | with_reducible exact ixo _ | with_reducible exact ixoc _ _ | with_reducible exact ixom _ _ _ | with_reducible exact ixop _ _ | with_reducible exact ixod _ _ | assumption); omega))
      rw [htx4.2.1]
      refine v_ie (nI_ge hj (by omega)) ?_
      repeat (first | with_reducible apply v_lt | ((with_reducible apply w_MR); exact hL4; rfl) | ((with_reducible apply w_lv); exact hL4; assumption) | ((with_reducible apply vMI); exact hL4) | ((with_reducible apply vMS); exact hL4) | ((with_reducible apply vMC); exact hL4) | ((with_reducible apply vMZ); exact hL4; (first | exact Or.inl rfl | exact Or.inr rfl | exact b2i_01 _ | assumption)) | ((first | with_reducible apply w_MA | with_reducible apply w_MW | with_reducible apply w_MY | with_reducible apply w_MB | with_reducible apply w_MJ | with_reducible apply w_MK); exact hL4; rfl; rfl; rfl; (first | with_reducible rfl | with_reducible exact ixo _ | with_reducible exact ixoc _ _ | with_reducible exact ixom _ _ _ | with_reducible exact ixop _ _ | with_reducible exact ixod _ _ | assumption); omega))
      refine v_eq (isOnM hM4 (by omega)) ?_
      rw [on_same]
      cases hon : onB N j
      · refine v_it rfl ?_
        unfold fX10_isHeard_169
        refine hk _ ⟨nI_1 _, o4, ?_⟩
        show ngM h4 334 (if onB N j then _ else _)
        rw [hon]
        exact hg4
      · refine v_ie (by decide) ?_
        have same := (hearU_same T N r (said T N r) j).2.2.2.2.2.2 j (Nat.le_refl _)
        -- behind what is learnt
        have fin : ∀ (c : Nat) (h5 : mh), c = (if trustB T N j r (said T N r) then kn N j ||| said T N r else kn N j) → eo (fun a _ => a = 334) h4 h5 → ngM h5 334 (setK (hearU T N r (said T N r) j) j c) → ok (fX10_isHeard_138 fu k 299 (nI r) (nI (said T N r)) (nI j) h5) (fun _ h' => eo sMe h h' ∧ ngM h' 334 (hearN T N r) ∧ gI h' 299 57 = b2i (ringN T N r)) := by
          intro c h5 hc o5 hg5
          have hL5 := LM_eo o5 hL4
          unfold fX10_isHeard_138
          repeat (first | with_reducible apply v_lt | ((with_reducible apply w_MR); exact hL5; rfl) | ((with_reducible apply w_lv); exact hL5; assumption) | ((with_reducible apply vMI); exact hL5) | ((with_reducible apply vMS); exact hL5) | ((with_reducible apply vMC); exact hL5) | ((with_reducible apply vMZ); exact hL5; (first | exact Or.inl rfl | exact Or.inr rfl | exact b2i_01 _ | assumption)) | ((first | with_reducible apply w_MA | with_reducible apply w_MW | with_reducible apply w_MY | with_reducible apply w_MB | with_reducible apply w_MJ | with_reducible apply w_MK); exact hL5; rfl; rfl; rfl; (first | with_reducible rfl | with_reducible exact ixo _ | with_reducible exact ixoc _ _ | with_reducible exact ixom _ _ _ | with_reducible exact ixop _ _ | with_reducible exact ixod _ _ | assumption); omega))
          rw [(hg5.1 j (by omega)).2.2.2.1, o5.2 336 j (show ¬ (336 : Nat) = 334 by decide), gm]
          refine v_eq (withinM (by decide)) ?_
          have eb : be (setK (hearU T N r (said T N r) j) j c) j = be N j := same.2
          rw [eb, (clb_eq _ _).1]
          repeat (first | with_reducible apply v_lt | ((with_reducible apply w_MR); exact hL5; rfl) | ((with_reducible apply w_lv); exact hL5; assumption) | ((with_reducible apply vMI); exact hL5) | ((with_reducible apply vMS); exact hL5) | ((with_reducible apply vMC); exact hL5) | ((with_reducible apply vMZ); exact hL5; (first | exact Or.inl rfl | exact Or.inr rfl | exact b2i_01 _ | assumption)) | ((first | with_reducible apply w_MA | with_reducible apply w_MW | with_reducible apply w_MY | with_reducible apply w_MB | with_reducible apply w_MJ | with_reducible apply w_MK); exact hL5; rfl; rfl; rfl; (first | with_reducible rfl | with_reducible exact ixo _ | with_reducible exact ixoc _ _ | with_reducible exact ixom _ _ _ | with_reducible exact ixop _ _ | with_reducible exact ixod _ _ | assumption); omega))
          unfold fX10_isHeard_169
          refine hk _ ⟨nI_1 _, eo_uI (eo_tr o4 o5) rfl, ?_⟩
          show ngM _ 334 (if onB N j then _ else _)
          rw [hon, if_pos rfl, ← hc]
          exact ngM_B (by omega) hg5
        repeat (first | with_reducible apply v_lt | ((with_reducible apply w_MR); exact hL4; rfl) | ((with_reducible apply w_lv); exact hL4; assumption) | ((with_reducible apply vMI); exact hL4) | ((with_reducible apply vMS); exact hL4) | ((with_reducible apply vMC); exact hL4) | ((with_reducible apply vMZ); exact hL4; (first | exact Or.inl rfl | exact Or.inr rfl | exact b2i_01 _ | assumption)) | ((first | with_reducible apply w_MA | with_reducible apply w_MW | with_reducible apply w_MY | with_reducible apply w_MB | with_reducible apply w_MJ | with_reducible apply w_MK); exact hL4; rfl; rfl; rfl; (first | with_reducible rfl | with_reducible exact ixo _ | with_reducible exact ixoc _ _ | with_reducible exact ixom _ _ _ | with_reducible exact ixop _ _ | with_reducible exact ixod _ _ | assumption); omega))
        rw [gt]
        refine v_if (fun e => ?_) (fun e => ?_)
        · refine fin (kn N j) h4 ?_ eo_rf ?_
          · rw [b2i_eq e]
            rfl
          · refine ngM_al ?_ hg4
            refine ⟨fun i hi => ⟨?_, rfl, rfl, rfl⟩, rfl, rfl, rfl, rfl⟩
            show (if i = j then kn N j else _) = _
            by_cases e : i = j
            · rw [if_pos e, e, same.1]
            · rw [if_neg e]
        · repeat (first | with_reducible apply v_lt | ((with_reducible apply w_MR); exact hL4; rfl) | ((with_reducible apply w_lv); exact hL4; assumption) | ((with_reducible apply vMI); exact hL4) | ((with_reducible apply vMS); exact hL4) | ((with_reducible apply vMC); exact hL4) | ((with_reducible apply vMZ); exact hL4; (first | exact Or.inl rfl | exact Or.inr rfl | exact b2i_01 _ | assumption)) | ((first | with_reducible apply w_MA | with_reducible apply w_MW | with_reducible apply w_MY | with_reducible apply w_MB | with_reducible apply w_MJ | with_reducible apply w_MK); exact hL4; rfl; rfl; rfl; (first | with_reducible rfl | with_reducible exact ixo _ | with_reducible exact ixoc _ _ | with_reducible exact ixom _ _ _ | with_reducible exact ixop _ _ | with_reducible exact ixod _ _ | assumption); omega))
          rw [(hg4.1 j (by omega)).2.2.1, same.1, fa_or]
          refine fin (kn N j ||| said T N r) _ ?_ (eo_uI eo_rf rfl) (ngM_K (by omega) hg4)
          rw [b2i_ne e]
          rfl
    · intro s' k hI
      obtain ⟨w, h4⟩ := s'
      obtain ⟨e1, o4, hg4⟩ := hI
      dsimp only at e1 o4 hg4
      subst e1
      have hM4 : MC t u l T (hearU T N r (said T N r) (nL9 T)) h4 := MC_eE (eo_mono o4 (fun a k q => Or.inr (Or.inl q))) hM3 hg4 (wf_hearU hwT hwN hs _ (Nat.le_refl _))
      have hL4 := LM_of hM4.1
      obtain ⟨-, -, hlv4, htx4, -⟩ := id hM4
      unfold bX10_isHeard_92
      dsimp only
      apply vMR26 hL4
      apply vMI hL4
      rw [hlv4]
      repeat (first | with_reducible apply v_lt | ((with_reducible apply w_MR); exact hL4; rfl) | ((with_reducible apply w_lv); exact hL4; assumption) | ((with_reducible apply vMI); exact hL4) | ((with_reducible apply vMS); exact hL4) | ((with_reducible apply vMC); exact hL4) | ((with_reducible apply vMZ); exact hL4; (first | exact Or.inl rfl | exact Or.inr rfl | exact b2i_01 _ | assumption)) | ((first | with_reducible apply w_MA | with_reducible apply w_MW | with_reducible apply w_MY | with_reducible apply w_MB | with_reducible apply w_MJ | with_reducible apply w_MK); exact hL4; rfl; rfl; rfl; (first | with_reducible rfl | with_reducible exact ixo _ | with_reducible exact ixoc _ _ | with_reducible exact ixom _ _ _ | with_reducible exact ixop _ _ | with_reducible exact ixod _ _ | assumption); omega))
      rw [htx4.2.1]
      refine v_it (nI_le (Nat.le_refl _) (by omega)) ?_
      unfold fX10_isHeard_175
      repeat (first | with_reducible apply v_lt | ((with_reducible apply w_MR); exact hL4; rfl) | ((with_reducible apply w_lv); exact hL4; assumption) | ((with_reducible apply vMI); exact hL4) | ((with_reducible apply vMS); exact hL4) | ((with_reducible apply vMC); exact hL4) | ((with_reducible apply vMZ); exact hL4; (first | exact Or.inl rfl | exact Or.inr rfl | exact b2i_01 _ | assumption)) | ((first | with_reducible apply w_MA | with_reducible apply w_MW | with_reducible apply w_MY | with_reducible apply w_MB | with_reducible apply w_MJ | with_reducible apply w_MK); exact hL4; rfl; rfl; rfl; (first | with_reducible rfl | with_reducible exact ixo _ | with_reducible exact ixoc _ _ | with_reducible exact ixom _ _ _ | with_reducible exact ixop _ _ | with_reducible exact ixod _ _ | assumption); omega))
      rw [(hg4.1 r (by omega)).1, nI_1, (hearU_same T N r (said T N r) (nL9 T)).1]
      refine v_rV ⟨?_, ngM_H (by omega) hg4, ?_⟩
      · exact eo_uI (eo_tr o3 (eo_mono o4 (fun a k q => Or.inr (Or.inl q)))) (Or.inr (Or.inl rfl))
      · rw [gI_ne (by omega), o4.2 _ _ (by decide)]
        exact hz3
