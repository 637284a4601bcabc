/-! EVENINGS IN BOTH: crackle, evenings gone through, rows copied -/
theorem v_rm {β : Type} {x y : Int32} {F : Int32 → Option (β × mh)} {Q : β → mh → Prop} (hy : ¬ y = 0) (g : ok (F (x - x / y * y)) Q) : ok (rmI x y F) Q := by
  unfold rmI
  rw [if_pos hy]
  exact g
theorem v_z {β : Type} {q : Nat} {A B : Option (β × mh)} {Q : β → mh → Prop} (hq : q < 2 ^ 31) (p0 : q = 0 → ok A Q) (p1 : 0 < q → ok B Q) : ok (if nI q ≤ 0 then A else B) Q := by
  rcases Nat.eq_zero_or_pos q with e | e
  · exact v_it (by rw [e]; decide) (p0 e)
  · exact v_ie (nI_nle e hq) (p1 e)
theorem v_zp {β : Type} {q : Nat} {A B : Option (β × mh)} {Q : β → mh → Prop} (hq : q < 2 ^ 31) (p1 : 0 < q → ok A Q) (p0 : q = 0 → ok B Q) : ok (if 0 < nI q then A else B) Q := by
  rcases Nat.eq_zero_or_pos q with e | e
  · exact v_ie (by rw [e]; decide) (p0 e)
  · exact v_it (nI_lt (a := 0) e hq) (p1 e)
theorem v_ze {β : Type} {q : Nat} {A B : Option (β × mh)} {Q : β → mh → Prop} (hq : q < 2 ^ 31) (p0 : q = 0 → ok A Q) (p1 : 0 < q → ok B Q) : ok (if nI q = 0 then A else B) Q := by
  rcases Nat.eq_zero_or_pos q with e | e
  · exact v_it (by rw [e]; rfl) (p0 e)
  · exact v_ie (nI_ne0 e hq) (p1 e)
def rem9 (x : Int32) : Int32 := x - x / 100 * 100
def crk (T : AT) (s e : Int32) : Bool := decide (¬ nI (cr9 T) ≤ rem9 (ush (lot9 s e) 1))
theorem b_crk {T : AT} {s e : Int32} {h : mh} {Q : Int32 → mh → Prop} (q : Q (b2i (crk T s e)) h) : ok (if nI (cr9 T) ≤ rem9 (ush (lot9 s e) 1) then rtZ ((0 : Int32)) h else rtZ ((1 : Int32)) h) Q := by
  unfold crk at q
  refine v_if (fun e => v_rZ (Or.inl rfl) ?_) (fun e => v_rZ (Or.inr rfl) ?_)
  · rw [decide_eq_false (fun z => z e)] at q
    exact q
  · rw [decide_eq_true e] at q
    exact q
theorem crackM {t u l fu : Nat} {T : AT} {N : AN} {h : mh} {s : Int32} (hM : MC t u l T N h) (hs : gI h 299 53 = s) : fX10_isCrackle fu 299 h = some (b2i (crk T s (nI (ev9 N))), h) := by
  obtain ⟨hy, hl, hlv, htx, hng, hwT, hwN⟩ := hM
  have hL := LM_of hy
  refine ok_eq ?_
  unfold fX10_isCrackle
  repeat (first | with_reducible apply v_lt | ((with_reducible apply w_MR); exact hL; rfl) | ((with_reducible apply w_lv); exact hL; assumption) | ((with_reducible apply vMI); exact hL) | ((with_reducible apply vMS); exact hL) | ((with_reducible apply vMC); exact hL) | ((with_reducible apply vMZ); exact hL; (first | exact Or.inl rfl | exact Or.inr rfl | exact b2i_01 _ | assumption)) | ((first | with_reducible apply w_MA | with_reducible apply w_MW | with_reducible apply w_MY | with_reducible apply w_MB | with_reducible apply w_MJ | with_reducible apply w_MK); exact hL; rfl; rfl; rfl; (first | with_reducible rfl | with_reducible exact ixo _ | with_reducible exact ixoc _ _ | with_reducible exact ixom _ _ _ | with_reducible exact ixop _ _ | with_reducible exact ixod _ _ | assumption); omega))
  rw [hs]
  refine v_eq (show fX10_mixed fu s 141 h = some (stir s 141, h) from rfl) ?_
  repeat (first | with_reducible apply v_lt | ((with_reducible apply w_MR); exact hL; rfl) | ((with_reducible apply w_lv); exact hL; assumption) | ((with_reducible apply vMI); exact hL) | ((with_reducible apply vMS); exact hL) | ((with_reducible apply vMC); exact hL) | ((with_reducible apply vMZ); exact hL; (first | exact Or.inl rfl | exact Or.inr rfl | exact b2i_01 _ | assumption)) | ((first | with_reducible apply w_MA | with_reducible apply w_MW | with_reducible apply w_MY | with_reducible apply w_MB | with_reducible apply w_MJ | with_reducible apply w_MK); exact hL; rfl; rfl; rfl; (first | with_reducible rfl | with_reducible exact ixo _ | with_reducible exact ixoc _ _ | with_reducible exact ixom _ _ _ | with_reducible exact ixop _ _ | with_reducible exact ixod _ _ | assumption); omega))
  rw [hng.2.1]
  refine v_eq (show fX10_mixed fu (stir s 141) (4 * nI (ev9 N)) h = some (lot9 s (nI (ev9 N)), h) from rfl) ?_
  refine v_rm (by decide) ?_
  repeat (first | with_reducible apply v_lt | ((with_reducible apply w_MR); exact hL; rfl) | ((with_reducible apply w_lv); exact hL; assumption) | ((with_reducible apply vMI); exact hL) | ((with_reducible apply vMS); exact hL) | ((with_reducible apply vMC); exact hL) | ((with_reducible apply vMZ); exact hL; (first | exact Or.inl rfl | exact Or.inr rfl | exact b2i_01 _ | assumption)) | ((first | with_reducible apply w_MA | with_reducible apply w_MW | with_reducible apply w_MY | with_reducible apply w_MB | with_reducible apply w_MJ | with_reducible apply w_MK); exact hL; rfl; rfl; rfl; (first | with_reducible rfl | with_reducible exact ixo _ | with_reducible exact ixoc _ _ | with_reducible exact ixom _ _ _ | with_reducible exact ixop _ _ | with_reducible exact ixod _ _ | assumption); omega))
  rw [htx.2.2.2.2.1]
  exact b_crk ⟨rfl, rfl⟩
theorem crackC {t u n fu : Nat} {T : AT} {N : AN} {h : mh} {s e : Int32} (hC : CC t u T n N h) : fX6_crackles fu t s e h = some (b2i (crk T s e), h) := by
  obtain ⟨hy, htx, hng, hn, hwT, hwN⟩ := hC
  have hT := LT_of hy
  refine ok_eq ?_
  unfold fX6_crackles
  refine v_eq (show fX6_lot fu 100 s (4 * e) h = some (rem9 (ush (lot9 s e) 1), h) from ?_) ?_
  · refine ok_eq ?_
    unfold fX6_lot
    refine v_eq (show fX6_stirred fu s 141 h = some (stir s 141, h) from rfl) ?_
    refine v_eq (show fX6_stirred fu (stir s 141) (4 * e) h = some (lot9 s e, h) from rfl) ?_
    refine v_ie (by decide) ?_
    refine v_rm (by decide) ?_
    exact v_rI ⟨rfl, rfl⟩
  repeat (first | with_reducible apply v_lt | ((with_reducible apply vXR4); exact hT) | ((with_reducible apply w_XR); exact (LM_T hT); rfl) | ((with_reducible apply w_TR); exact hT; rfl) | ((with_reducible apply w_UR); exact hT; rfl) | ((first | with_reducible apply vXI | with_reducible apply vXS | with_reducible apply vXC); exact (LM_T hT)) | ((first | with_reducible apply vT0I | with_reducible apply vT9I | with_reducible apply vT0C | with_reducible apply vT9C | with_reducible apply vT0S | with_reducible apply vT9S); exact hT) | ((first | with_reducible apply vNR0 | with_reducible apply vNR1 | with_reducible apply vNR2 | with_reducible apply vNR3 | with_reducible apply vNI | with_reducible apply vNS | with_reducible apply vNC); (first | assumption | exact m39 | exact m44); exact (LM_T hT)) | ((first | with_reducible apply w_NA | with_reducible apply w_NW); exact (LM_T hT); (first | assumption | exact m39 | exact m44); rfl; rfl; (first | with_reducible rfl | with_reducible exact ixo _ | with_reducible exact ixoc _ _ | with_reducible exact ixom _ _ _ | with_reducible exact ixop _ _ | with_reducible exact ixod _ _ | assumption); omega) | ((first | with_reducible apply w_TA | with_reducible apply w_TW | with_reducible apply w_TJ | with_reducible apply w_TK); exact hT; rfl; rfl; (first | with_reducible rfl | with_reducible exact ixo _ | with_reducible exact ixoc _ _ | with_reducible exact ixom _ _ _ | with_reducible exact ixop _ _ | with_reducible exact ixod _ _ | assumption); omega))
  rw [htx.2.2.2.2.1]
  exact b_crk ⟨rfl, rfl⟩
theorem ngM_same {h : mh} {a k : Nat} {N : AN} {x : Int32} (q : ngM h a N) (e : gI h a k = x) : ngM (uI h a k x) a N := by
  have key : ∀ j, gI (uI h a k x) a j = gI h a j := fun j => by
    rw [gI_uI]
    split
    · next z => rw [z.2, e]
    · rfl
  obtain ⟨q1, q3, q4, q5⟩ := q
  refine ⟨fun j hj => ?_, by rw [key]; exact q3, by rw [key]; exact q4, by rw [key]; exact q5⟩
  rw [key, key, key, key, key]
  exact q1 j hj
theorem goesM46 {t u l fu r : Nat} {T : AT} {M : AN} {h : mh} {v1 s0 : Int32} {b : Bool} (hM : MC t u l T M h) (hfu : 1000 ≤ fu) (hb : b = true → v1 = nI r ∧ r < nR T) (hz : gI h 299 57 = b2i b) : ok (fX10_eveningGoes_46 fu 299 v1 s0 h) (fun _ h' => eo (fun a _ => a = 334) h h' ∧ ngM h' 334 (endE (rungQ T (decQ M) r b))) := by
  obtain ⟨hy, hl, hlv, htx, hng, hwT, hwN⟩ := id hM
  have hL := LM_of hy
  have hr6 := hwT.1
  unfold fX10_eveningGoes_46
  refine itr_up (I := fun j s => s.1 = nI (6 + j) ∧ eo (fun a _ => a = 334) h s.2 ∧ ngM s.2 334 (decU M j)) (P := fun R => ok R _) (n := 6) ?_ ?_ fu 0 _ (by omega) (by omega) ⟨rfl, eo_rf, hng⟩
  · intro j s k hj hI hk
    obtain ⟨w, h1⟩ := s
    obtain ⟨e1, o1, hg1⟩ := hI
    dsimp only at e1 o1 hg1
    subst e1
    have hL1 := LM_eo o1 hL
    have hq := (hwN.1 j (by omega)).2.2
    have gq : gI h1 334 (6 + j) = nI (qu M j) := by
      rw [(hg1.1 j (by omega)).2.1, (decU_same M j).2.2.2.2.2.2.2 j, if_neg (by omega)]
    unfold bX10_eveningGoes_49
    dsimp only
    refine v_ie (nI_ge (b := 12) (by omega) (by omega)) ?_
    repeat (first | with_reducible apply v_lt | ((with_reducible apply w_MR); exact hL1; rfl) | ((with_reducible apply w_lv); exact hL1; assumption) | ((with_reducible apply vMI); exact hL1) | ((with_reducible apply vMS); exact hL1) | ((with_reducible apply vMC); exact hL1) | ((with_reducible apply vMZ); exact hL1; (first | exact Or.inl rfl | exact Or.inr rfl | exact b2i_01 _ | assumption)) | ((first | with_reducible apply w_MA | with_reducible apply w_MW | with_reducible apply w_MY | with_reducible apply w_MB | with_reducible apply w_MJ | with_reducible apply w_MK); exact hL1; rfl; rfl; rfl; (first | with_reducible rfl | with_reducible exact ixo _ | with_reducible exact ixoc _ _ | with_reducible exact ixom _ _ _ | with_reducible exact ixop _ _ | with_reducible exact ixod _ _ | assumption); omega))
    rw [gq]
    refine v_z (by omega) (fun e => ?_) (fun e => ?_)
    · unfold fX10_eveningGoes_74
      refine hk _ ⟨nI_1 _, o1, ?_⟩
      refine ngM_al (N := decU M j) ?_ hg1
      refine ⟨fun i hi => ⟨rfl, rfl, rfl, ?_⟩, rfl, rfl, rfl, rfl⟩
      show (if i = j then qu M j - 1 else qu (decU M j) i) = _
      by_cases e2 : i = j
      · rw [if_pos e2, e2, (decU_same M j).2.2.2.2.2.2.2 j, if_neg (by omega), e]
      · rw [if_neg e2]
    · repeat (first | with_reducible apply v_lt | ((with_reducible apply w_MR); exact hL1; rfl) | ((with_reducible apply w_lv); exact hL1; assumption) | ((with_reducible apply vMI); exact hL1) | ((with_reducible apply vMS); exact hL1) | ((with_reducible apply vMC); exact hL1) | ((with_reducible apply vMZ); exact hL1; (first | exact Or.inl rfl | exact Or.inr rfl | exact b2i_01 _ | assumption)) | ((first | with_reducible apply w_MA | with_reducible apply w_MW | with_reducible apply w_MY | with_reducible apply w_MB | with_reducible apply w_MJ | with_reducible apply w_MK); exact hL1; rfl; rfl; rfl; (first | with_reducible rfl | with_reducible exact ixo _ | with_reducible exact ixoc _ _ | with_reducible exact ixom _ _ _ | with_reducible exact ixop _ _ | with_reducible exact ixod _ _ | assumption); omega))
      rw [gq]
      have e3 : nI (qu M j) - 1 = nI (qu M j - 1) := pk_sub (b := 1) (by omega)
      rw [e3]
      unfold fX10_eveningGoes_74
      exact hk _ ⟨nI_1 _, eo_uI o1 rfl, ngM_Q (by omega) hg1⟩
  · intro s k hI
    obtain ⟨w, h1⟩ := s
    obtain ⟨e1, o1, hg1⟩ := hI
    dsimp only at e1 o1 hg1
    subst e1
    have hg2 := ngM_al (decU_al (m := 6) (fun i h1 h2 => by omega)) hg1
    have hL1 := LM_eo o1 hL
    have hz1 : gI h1 299 57 = b2i b := by
      rw [o1.2 _ _ (by decide)]
      exact hz
    have hlv1 : gI h1 299 18 = nI l := by
      rw [o1.2 _ _ (by decide)]
      exact hlv
    have hq1 : gI h1 319 l = nI (qt9 T) := by
      rw [o1.2 _ _ (show ¬ (319 : Nat) = 334 by decide)]
      exact htx.2.2.2.2.2.1
    unfold bX10_eveningGoes_49
    dsimp only
    refine v_it (by decide) ?_
    have fin : ∀ (M' : AN) (h2 : mh), LM h2.2 → eo (fun a _ => a = 334) h h2 → ngM h2 334 M' → ok (fX10_eveningGoes_116 fu 299 v1 s0 (nI (6 + 6)) h2) (fun _ h' => eo (fun a _ => a = 334) h h' ∧ ngM h' 334 (endE M')) := by
      intro M' h2 hL2 o2 hg2
      unfold fX10_eveningGoes_116
      repeat (first | with_reducible apply v_lt | ((with_reducible apply w_MR); exact hL2; rfl) | ((with_reducible apply w_lv); exact hL2; assumption) | ((with_reducible apply vMI); exact hL2) | ((with_reducible apply vMS); exact hL2) | ((with_reducible apply vMC); exact hL2) | ((with_reducible apply vMZ); exact hL2; (first | exact Or.inl rfl | exact Or.inr rfl | exact b2i_01 _ | assumption)) | ((first | with_reducible apply w_MA | with_reducible apply w_MW | with_reducible apply w_MY | with_reducible apply w_MB | with_reducible apply w_MJ | with_reducible apply w_MK); exact hL2; rfl; rfl; rfl; (first | with_reducible rfl | with_reducible exact ixo _ | with_reducible exact ixoc _ _ | with_reducible exact ixom _ _ _ | with_reducible exact ixop _ _ | with_reducible exact ixod _ _ | assumption); omega))
      rw [hg2.2.1, nI_1]
      have hg3 := ngM_Ev (v := ev9 M' + 1) hg2
      refine v_rV ⟨eo_uI (eo_uI o2 rfl) rfl, ?_⟩
      exact ngM_An (v := none) hg3
    unfold fX10_eveningGoes_80
    repeat (first | with_reducible apply v_lt | ((with_reducible apply w_MR); exact hL1; rfl) | ((with_reducible apply w_lv); exact hL1; assumption) | ((with_reducible apply vMI); exact hL1) | ((with_reducible apply vMS); exact hL1) | ((with_reducible apply vMC); exact hL1) | ((with_reducible apply vMZ); exact hL1; (first | exact Or.inl rfl | exact Or.inr rfl | exact b2i_01 _ | assumption)) | ((first | with_reducible apply w_MA | with_reducible apply w_MW | with_reducible apply w_MY | with_reducible apply w_MB | with_reducible apply w_MJ | with_reducible apply w_MK); exact hL1; rfl; rfl; rfl; (first | with_reducible rfl | with_reducible exact ixo _ | with_reducible exact ixoc _ _ | with_reducible exact ixom _ _ _ | with_reducible exact ixop _ _ | with_reducible exact ixod _ _ | assumption); omega))
    rw [hz1]
    refine v_b (fun e => ?_) (fun e => ?_)
    · subst e
      exact fin _ _ hL1 o1 hg2
    · obtain ⟨e1, hr⟩ := hb e
      subst e e1
      repeat (first | with_reducible apply v_lt | ((with_reducible apply w_MR); exact hL1; rfl) | ((with_reducible apply w_lv); exact hL1; assumption) | ((with_reducible apply vMI); exact hL1) | ((with_reducible apply vMS); exact hL1) | ((with_reducible apply vMC); exact hL1) | ((with_reducible apply vMZ); exact hL1; (first | exact Or.inl rfl | exact Or.inr rfl | exact b2i_01 _ | assumption)) | ((first | with_reducible apply w_MA | with_reducible apply w_MW | with_reducible apply w_MY | with_reducible apply w_MB | with_reducible apply w_MJ | with_reducible apply w_MK); exact hL1; rfl; rfl; rfl; (first | with_reducible rfl | with_reducible exact ixo _ | with_reducible exact ixoc _ _ | with_reducible exact ixom _ _ _ | with_reducible exact ixop _ _ | with_reducible exact ixod _ _ | assumption); omega))
      rw [hq1]
      have hg3 : ngM (uI h1 334 (6 + r) (nI (qt9 T))) 334 (setQ (decQ M) r (qt9 T)) := ngM_Q (by omega) hg2
      rw [hg3.2.2.2, nI_1]
      exact fin _ _ hL1 (eo_uI (eo_uI o1 rfl) rfl) (ngM_Ru hg3)
theorem goesM {t u l fu : Nat} {T : AT} {N : AN} {h : mh} {s : Int32} {st : Bool} (hM : MC t u l T N h) (hfu : 1000 ≤ fu) (hs : gI h 299 53 = s) (hst : gI h 299 54 = b2i st) : ok (fX10_eveningGoes fu 299 h) (fun _ h' => eo sMe h h' ∧ MC t u l T (pass T N (an9 N) (!st && crk T s (nI (ev9 N)))) h') := by
  obtain ⟨hy, hl, hlv, htx, hng, hwT, hwN⟩ := id hM
  have hL := LM_of hy
  have hr6 := hwT.1
  have hwp := wf_pass (cr := (!st && crk T s (nI (ev9 N)))) hwT hwN hwN.2.2.1
  have up : ∀ {M : AN} {R : Option (Unit × mh)} {cr : Bool}, cr = (!st && crk T s (nI (ev9 N))) → M = pass T N (an9 N) cr → ok R (fun _ h' => eo sMe h h' ∧ ngM h' 334 M) → ok R (fun _ h' => eo sMe h h' ∧ MC t u l T (pass T N (an9 N) (!st && crk T s (nI (ev9 N)))) h') := fun e0 e q => by
    subst e e0
    exact ok_mono q (fun _ h' z => ⟨z.1, MC_eE z.1 hM z.2 hwp⟩)
  have o1 : eo (fun a k => a = 299 ∧ k = 57) h (uI h 299 57 0) := eo_uI eo_rf ⟨rfl, rfl⟩
  have hM1 : MC t u l T N (uI h 299 57 0) := MC_eo o1 (fun a k q => by omega) hM
  have z1 : gI (uI h 299 57 0) 299 57 = b2i false := gI_eq
  have o1' : eo sMe h (uI h 299 57 0) := eo_mono o1 (fun a k q => Or.inr (Or.inr (Or.inr (Or.inr q))))
  -- nothing is heard
  have n30 : ∀ v1, ok (fX10_eveningGoes_30 fu 299 v1 h) (fun _ h' => eo sMe h h' ∧ ngM h' 334 (endE (decQ N))) := by
    intro v1
    unfold fX10_eveningGoes_30 fX10_eveningGoes_31
    repeat (first | with_reducible apply v_lt | ((with_reducible apply w_MR); exact hL; rfl) | ((with_reducible apply w_lv); exact hL; assumption) | ((with_reducible apply vMI); exact hL) | ((with_reducible apply vMS); exact hL) | ((with_reducible apply vMC); exact hL) | ((with_reducible apply vMZ); exact hL; (first | exact Or.inl rfl | exact Or.inr rfl | exact b2i_01 _ | assumption)) | ((first | with_reducible apply w_MA | with_reducible apply w_MW | with_reducible apply w_MY | with_reducible apply w_MB | with_reducible apply w_MJ | with_reducible apply w_MK); exact hL; rfl; rfl; rfl; (first | with_reducible rfl | with_reducible exact ixo _ | with_reducible exact ixoc _ _ | with_reducible exact ixom _ _ _ | with_reducible exact ixop _ _ | with_reducible exact ixod _ _ | assumption); omega))
    refine v_it rfl ?_
    exact ok_mono (goesM46 (r := 0) (b := false) hM1 hfu (fun z => by cases z) z1) (fun _ h' q => ⟨eo_tr o1' (eo_mono q.1 (fun a k z => Or.inr (Or.inl z))), q.2⟩)
  -- it is heard
  have n26 : ∀ r, r < nR T → ok (fX10_eveningGoes_26 fu 299 (nI r) h) (fun _ h' => eo sMe h h' ∧ ngM h' 334 (endE (rungQ T (decQ (hearN T N r)) r (ringN T N r)))) := by
    intro r hr
    unfold fX10_eveningGoes_26 fX10_eveningGoes_31
    repeat (first | with_reducible apply v_lt | ((with_reducible apply w_MR); exact hL; rfl) | ((with_reducible apply w_lv); exact hL; assumption) | ((with_reducible apply vMI); exact hL) | ((with_reducible apply vMS); exact hL) | ((with_reducible apply vMC); exact hL) | ((with_reducible apply vMZ); exact hL; (first | exact Or.inl rfl | exact Or.inr rfl | exact b2i_01 _ | assumption)) | ((first | with_reducible apply w_MA | with_reducible apply w_MW | with_reducible apply w_MY | with_reducible apply w_MB | with_reducible apply w_MJ | with_reducible apply w_MK); exact hL; rfl; rfl; rfl; (first | with_reducible rfl | with_reducible exact ixo _ | with_reducible exact ixoc _ _ | with_reducible exact ixom _ _ _ | with_reducible exact ixop _ _ | with_reducible exact ixod _ _ | assumption); omega))
    refine v_ie (by decide) ?_
    repeat (first | with_reducible apply v_lt | ((with_reducible apply w_MR); exact hL; rfl) | ((with_reducible apply w_lv); exact hL; assumption) | ((with_reducible apply vMI); exact hL) | ((with_reducible apply vMS); exact hL) | ((with_reducible apply vMC); exact hL) | ((with_reducible apply vMZ); exact hL; (first | exact Or.inl rfl | exact Or.inr rfl | exact b2i_01 _ | assumption)) | ((first | with_reducible apply w_MA | with_reducible apply w_MW | with_reducible apply w_MY | with_reducible apply w_MB | with_reducible apply w_MJ | with_reducible apply w_MK); exact hL; rfl; rfl; rfl; (first | with_reducible rfl | with_reducible exact ixo _ | with_reducible exact ixoc _ _ | with_reducible exact ixom _ _ _ | with_reducible exact ixop _ _ | with_reducible exact ixod _ _ | assumption); omega))
    refine v_bd (hearM hM1 hfu hr) (fun _ h2 hq => ?_)
    obtain ⟨o2, hg2, hz2⟩ := hq
    have hM2 : MC t u l T (hearN T N r) h2 := MC_eE o2 hM1 hg2 (wf_hearN hwT hwN)
    exact ok_mono (goesM46 (r := r) hM2 hfu (fun _ => ⟨rfl, hr⟩) hz2) (fun _ h' q => ⟨eo_tr o1' (eo_tr o2 (eo_mono q.1 (fun a k z => Or.inr (Or.inl z)))), q.2⟩)
  unfold fX10_eveningGoes
  repeat (first | with_reducible apply v_lt | ((with_reducible apply w_MR); exact hL; rfl) | ((with_reducible apply w_lv); exact hL; assumption) | ((with_reducible apply vMI); exact hL) | ((with_reducible apply vMS); exact hL) | ((with_reducible apply vMC); exact hL) | ((with_reducible apply vMZ); exact hL; (first | exact Or.inl rfl | exact Or.inr rfl | exact b2i_01 _ | assumption)) | ((first | with_reducible apply w_MA | with_reducible apply w_MW | with_reducible apply w_MY | with_reducible apply w_MB | with_reducible apply w_MJ | with_reducible apply w_MK); exact hL; rfl; rfl; rfl; (first | with_reducible rfl | with_reducible exact ixo _ | with_reducible exact ixoc _ _ | with_reducible exact ixom _ _ _ | with_reducible exact ixop _ _ | with_reducible exact ixod _ _ | assumption); omega))
  rw [hng.2.2.1]
  cases han : an9 N with
  | none =>
    rw [han] at up
    refine v_it (by decide) ?_
    exact up (M := endE (decQ N)) rfl rfl (n30 _)
  | some r =>
    have hr := hwN.2.2.1 r han
    rw [han] at up
    show ok (if nI r < 0 then _ else _) _
    refine v_ie (nI_pos (by omega)) ?_
    repeat (first | with_reducible apply v_lt | ((with_reducible apply w_MR); exact hL; rfl) | ((with_reducible apply w_lv); exact hL; assumption) | ((with_reducible apply vMI); exact hL) | ((with_reducible apply vMS); exact hL) | ((with_reducible apply vMC); exact hL) | ((with_reducible apply vMZ); exact hL; (first | exact Or.inl rfl | exact Or.inr rfl | exact b2i_01 _ | assumption)) | ((first | with_reducible apply w_MA | with_reducible apply w_MW | with_reducible apply w_MY | with_reducible apply w_MB | with_reducible apply w_MJ | with_reducible apply w_MK); exact hL; rfl; rfl; rfl; (first | with_reducible rfl | with_reducible exact ixo _ | with_reducible exact ixoc _ _ | with_reducible exact ixom _ _ _ | with_reducible exact ixop _ _ | with_reducible exact ixod _ _ | assumption); omega))
    rw [hst]
    refine v_b (fun e => ?_) (fun e => ?_)
    · subst e
      repeat (first | with_reducible apply v_lt | ((with_reducible apply w_MR); exact hL; rfl) | ((with_reducible apply w_lv); exact hL; assumption) | ((with_reducible apply vMI); exact hL) | ((with_reducible apply vMS); exact hL) | ((with_reducible apply vMC); exact hL) | ((with_reducible apply vMZ); exact hL; (first | exact Or.inl rfl | exact Or.inr rfl | exact b2i_01 _ | assumption)) | ((first | with_reducible apply w_MA | with_reducible apply w_MW | with_reducible apply w_MY | with_reducible apply w_MB | with_reducible apply w_MJ | with_reducible apply w_MK); exact hL; rfl; rfl; rfl; (first | with_reducible rfl | with_reducible exact ixo _ | with_reducible exact ixoc _ _ | with_reducible exact ixom _ _ _ | with_reducible exact ixop _ _ | with_reducible exact ixod _ _ | assumption); omega))
      refine v_eq (crackM hM hs) ?_
      refine v_b (fun e => ?_) (fun e => ?_)
      · exact up (cr := false) (by rw [e]; rfl) rfl (n26 r hr)
      · exact up (cr := true) (by rw [e]; rfl) rfl (n30 _)
    · subst e
      exact up (cr := false) rfl rfl (n26 r hr)
/-- evenings gone through -/
def runE (T : AT) (s : Int32) (N : AN) : Nat → AN
  | 0 => N
  | j + 1 => pass T (runE T s N j) (an9 (runE T s N j)) (crk T s (nI (ev9 (runE T s N j))))
theorem wf_runE {T : AT} {s : Int32} {N : AN} (hT : wfT T) (hN : wfN T N) : ∀ j, wfN T (runE T s N j)
  | 0 => hN
  | j + 1 => wf_pass hT (wf_runE hT hN j) (wf_runE hT hN j).2.2.1
theorem goesnM {t u l fu n : Nat} {T : AT} {N : AN} {h : mh} {s : Int32} (hM : MC t u l T N h) (hfu : 1000 ≤ fu) (hn : n ≤ 30) (hs : gI h 299 53 = s) (hst : gI h 299 54 = b2i false) : ok (fX10_goes fu 299 (nI n) h) (fun _ h' => eo sMe h h' ∧ MC t u l T (runE T s N n) h') := by
  unfold fX10_goes
  have h0 : MC t u l T (runE T s N 0) h := hM
  refine itr_up (I := fun j s' => s'.1 = nI j ∧ eo sMe h s'.2 ∧ MC t u l T (runE T s N j) s'.2) (P := fun R => ok R _) (n := n) ?_ ?_ fu 0 _ (by omega) (by omega) ⟨rfl, eo_rf, h0⟩
  · intro j s' k hj hI hk
    obtain ⟨w, h1⟩ := s'
    obtain ⟨e1, o1, hM1⟩ := hI
    dsimp only at e1 o1 hM1
    subst e1
    have hL1 := LM_of hM1.1
    have hs1 : gI h1 299 53 = s := by rw [o1.2 _ _ (fun z => by unfold sMe sV at z; omega)]; exact hs
    have hst1 : gI h1 299 54 = b2i false := by rw [o1.2 _ _ (fun z => by unfold sMe sV at z; omega)]; exact hst
    unfold bX10_goes_2
    dsimp only
    refine v_ie (nI_ge hj (by omega)) ?_
    repeat (first | with_reducible apply v_lt | ((with_reducible apply w_MR); exact hL1; rfl) | ((with_reducible apply w_lv); exact hL1; assumption) | ((with_reducible apply vMI); exact hL1) | ((with_reducible apply vMS); exact hL1) | ((with_reducible apply vMC); exact hL1) | ((with_reducible apply vMZ); exact hL1; (first | exact Or.inl rfl | exact Or.inr rfl | exact b2i_01 _ | assumption)) | ((first | with_reducible apply w_MA | with_reducible apply w_MW | with_reducible apply w_MY | with_reducible apply w_MB | with_reducible apply w_MJ | with_reducible apply w_MK); exact hL1; rfl; rfl; rfl; (first | with_reducible rfl | with_reducible exact ixo _ | with_reducible exact ixoc _ _ | with_reducible exact ixom _ _ _ | with_reducible exact ixop _ _ | with_reducible exact ixod _ _ | assumption); omega))
    refine v_bd (goesM hM1 hfu hs1 hst1) (fun _ h2 hq => ?_)
    obtain ⟨o2, hM2⟩ := hq
    rw [Bool.not_false, Bool.true_and] at hM2
    exact hk _ ⟨nI_1 _, eo_tr o1 o2, hM2⟩
  · intro s' k hI
    obtain ⟨w, h1⟩ := s'
    obtain ⟨e1, o1, hM1⟩ := hI
    dsimp only at e1 o1 hM1
    subst e1
    unfold bX10_goes_2
    dsimp only
    exact v_it (nI_le (Nat.le_refl _) (by omega)) (v_rV ⟨o1, hM1⟩)
theorem passnC {t u fu n m : Nat} {T : AT} {N : AN} {h : mh} (hC : CC t u T n N h) (hfu : 1000 ≤ fu) (hm : m ≤ 30) : ok (fX6_passEvenings fu t n (nI m) h) (fun _ h' => eo (sE t n) h h' ∧ CC t u T n (runE T (nI (sd9 T)) N m) h') := by
  have hn := hC.2.2.2.1
  unfold fX6_passEvenings
  have h0 : CC t u T n (runE T (nI (sd9 T)) N 0) h := hC
  refine itr_up (I := fun j s' => s'.1 = nI j ∧ eo (sE t n) h s'.2 ∧ CC t u T n (runE T (nI (sd9 T)) N j) s'.2) (P := fun R => ok R _) (n := m) ?_ ?_ fu 0 _ (by omega) (by omega) ⟨rfl, eo_rf, h0⟩
  · intro j s' k hj hI hk
    obtain ⟨w, h1⟩ := s'
    obtain ⟨e1, o1, hC1⟩ := hI
    dsimp only at e1 o1 hC1
    subst e1
    have hT1 := LT_of hC1.1
    unfold bX6_passEvenings_2
    dsimp only
    refine v_ie (nI_ge hj (by omega)) ?_
    repeat (first | with_reducible apply v_lt | ((with_reducible apply vXR4); exact hT1) | ((with_reducible apply w_XR); exact (LM_T hT1); rfl) | ((with_reducible apply w_TR); exact hT1; rfl) | ((with_reducible apply w_UR); exact hT1; rfl) | ((first | with_reducible apply vXI | with_reducible apply vXS | with_reducible apply vXC); exact (LM_T hT1)) | ((first | with_reducible apply vT0I | with_reducible apply vT9I | with_reducible apply vT0C | with_reducible apply vT9C | with_reducible apply vT0S | with_reducible apply vT9S); exact hT1) | ((first | with_reducible apply vNR0 | with_reducible apply vNR1 | with_reducible apply vNR2 | with_reducible apply vNR3 | with_reducible apply vNI | with_reducible apply vNS | with_reducible apply vNC); (first | assumption | exact m39 | exact m44); exact (LM_T hT1)) | ((first | with_reducible apply w_NA | with_reducible apply w_NW); exact (LM_T hT1); (first | assumption | exact m39 | exact m44); rfl; rfl; (first | with_reducible rfl | with_reducible exact ixo _ | with_reducible exact ixoc _ _ | with_reducible exact ixom _ _ _ | with_reducible exact ixop _ _ | with_reducible exact ixod _ _ | assumption); omega) | ((first | with_reducible apply w_TA | with_reducible apply w_TW | with_reducible apply w_TJ | with_reducible apply w_TK); exact hT1; rfl; rfl; (first | with_reducible rfl | with_reducible exact ixo _ | with_reducible exact ixoc _ _ | with_reducible exact ixom _ _ _ | with_reducible exact ixop _ _ | with_reducible exact ixod _ _ | assumption); omega))
    rw [hC1.2.2.1.2.2.2.1, hC1.2.2.1.2.2.1, hC1.2.1.2.2.2.2.2.2.1]
    refine v_eq (crackC hC1) ?_
    repeat (first | with_reducible apply v_lt | ((with_reducible apply vXR4); exact hT1) | ((with_reducible apply w_XR); exact (LM_T hT1); rfl) | ((with_reducible apply w_TR); exact hT1; rfl) | ((with_reducible apply w_UR); exact hT1; rfl) | ((first | with_reducible apply vXI | with_reducible apply vXS | with_reducible apply vXC); exact (LM_T hT1)) | ((first | with_reducible apply vT0I | with_reducible apply vT9I | with_reducible apply vT0C | with_reducible apply vT9C | with_reducible apply vT0S | with_reducible apply vT9S); exact hT1) | ((first | with_reducible apply vNR0 | with_reducible apply vNR1 | with_reducible apply vNR2 | with_reducible apply vNR3 | with_reducible apply vNI | with_reducible apply vNS | with_reducible apply vNC); (first | assumption | exact m39 | exact m44); exact (LM_T hT1)) | ((first | with_reducible apply w_NA | with_reducible apply w_NW); exact (LM_T hT1); (first | assumption | exact m39 | exact m44); rfl; rfl; (first | with_reducible rfl | with_reducible exact ixo _ | with_reducible exact ixoc _ _ | with_reducible exact ixom _ _ _ | with_reducible exact ixop _ _ | with_reducible exact ixod _ _ | assumption); omega) | ((first | with_reducible apply w_TA | with_reducible apply w_TW | with_reducible apply w_TJ | with_reducible apply w_TK); exact hT1; rfl; rfl; (first | with_reducible rfl | with_reducible exact ixo _ | with_reducible exact ixoc _ _ | with_reducible exact ixom _ _ _ | with_reducible exact ixop _ _ | with_reducible exact ixod _ _ | assumption); omega))
    refine v_bd (passC hC1 hfu hC1.2.2.2.2.2.2.2.1) (fun _ h2 hq => ?_)
    obtain ⟨o2, hC2⟩ := hq
    exact hk _ ⟨nI_1 _, eo_tr o1 o2, hC2⟩
  · intro s' k hI
    obtain ⟨w, h1⟩ := s'
    obtain ⟨e1, o1, hC1⟩ := hI
    dsimp only at e1 o1 hC1
    subst e1
    unfold bX6_passEvenings_2
    dsimp only
    exact v_it (nI_le (Nat.le_refl _) (by omega)) (v_rV ⟨o1, hC1⟩)
/-- a role announced, unless it is quiet then -/
def opt (N : AN) (r : Nat) : Option Nat := if qu N r = 0 then some r else none
theorem hearU_An (T : AT) (N : AN) (a : Option Nat) (r s : Nat) : ∀ o, hearU T (setAn N a) r s o = setAn (hearU T N r s o) a
  | 0 => rfl
  | o + 1 => by
    unfold hearU
    rw [hearU_An T N a r s o]
    show (if onB N o then _ else _) = _
    split <;> rfl
theorem ringU_An (T : AT) (N : AN) (a : Option Nat) (r s : Nat) : ∀ o, ringU T (setAn N a) r s o = ringU T N r s o
  | 0 => rfl
  | o + 1 => by
    unfold ringU
    rw [ringU_An T N a r s o]
    rfl
theorem saidU_An (T : AT) (N : AN) (a : Option Nat) (r : Nat) : ∀ f, saidU T (setAn N a) r f = saidU T N r f
  | 0 => rfl
  | f + 1 => by
    unfold saidU
    rw [saidU_An T N a r f]
    rfl
theorem pass_An (T : AT) (N : AN) (a b : Option Nat) (cr : Bool) : pass T (setAn N a) b cr = pass T N b cr := by
  unfold pass
  cases b with
  | none => rfl
  | some r =>
    dsimp only
    split
    · rfl
    · unfold hearN ringN said
      rw [saidU_An, hearU_An, ringU_An]
      unfold rungQ
      split <;> rfl
theorem pass1C {t u fu n r : Nat} {T : AT} {N : AN} {h : mh} {cr : Bool} (hC : CC t u T n N h) (hfu : 1000 ≤ fu) (hr : r < nR T) : ok (fX6_passEveningOf fu t n (nI r) (b2i cr) h) (fun _ h' => eo (sE t n) h h' ∧ CC t u T n (pass T N (opt N r) cr) h') := by
  have hT := LT_of hC.1
  have hn := hC.2.2.2.1
  have hr6 := hC.2.2.2.2.1.1
  have hq := (hC.2.2.2.2.2.1 r (by omega)).2.2
  unfold fX6_passEveningOf
  repeat (first | with_reducible apply v_lt | ((with_reducible apply vXR4); exact hT) | ((with_reducible apply w_XR); exact (LM_T hT); rfl) | ((with_reducible apply w_TR); exact hT; rfl) | ((with_reducible apply w_UR); exact hT; rfl) | ((first | with_reducible apply vXI | with_reducible apply vXS | with_reducible apply vXC); exact (LM_T hT)) | ((first | with_reducible apply vT0I | with_reducible apply vT9I | with_reducible apply vT0C | with_reducible apply vT9C | with_reducible apply vT0S | with_reducible apply vT9S); exact hT) | ((first | with_reducible apply vNR0 | with_reducible apply vNR1 | with_reducible apply vNR2 | with_reducible apply vNR3 | with_reducible apply vNI | with_reducible apply vNS | with_reducible apply vNC); (first | assumption | exact m39 | exact m44); exact (LM_T hT)) | ((first | with_reducible apply w_NA | with_reducible apply w_NW); exact (LM_T hT); (first | assumption | exact m39 | exact m44); rfl; rfl; (first | with_reducible rfl | with_reducible exact ixo _ | with_reducible exact ixoc _ _ | with_reducible exact ixom _ _ _ | with_reducible exact ixop _ _ | with_reducible exact ixod _ _ | assumption); omega) | ((first | with_reducible apply w_TA | with_reducible apply w_TW | with_reducible apply w_TJ | with_reducible apply w_TK); exact hT; rfl; rfl; (first | with_reducible rfl | with_reducible exact ixo _ | with_reducible exact ixoc _ _ | with_reducible exact ixom _ _ _ | with_reducible exact ixop _ _ | with_reducible exact ixod _ _ | assumption); omega))
  rw [(hC.2.2.1.1 r (by omega)).2.2.2]
  refine v_z (by omega) (fun e => ?_) (fun e => ?_)
  · unfold fX6_passEveningOf_16
    repeat (first | with_reducible apply v_lt | ((with_reducible apply vXR4); exact hT) | ((with_reducible apply w_XR); exact (LM_T hT); rfl) | ((with_reducible apply w_TR); exact hT; rfl) | ((with_reducible apply w_UR); exact hT; rfl) | ((first | with_reducible apply vXI | with_reducible apply vXS | with_reducible apply vXC); exact (LM_T hT)) | ((first | with_reducible apply vT0I | with_reducible apply vT9I | with_reducible apply vT0C | with_reducible apply vT9C | with_reducible apply vT0S | with_reducible apply vT9S); exact hT) | ((first | with_reducible apply vNR0 | with_reducible apply vNR1 | with_reducible apply vNR2 | with_reducible apply vNR3 | with_reducible apply vNI | with_reducible apply vNS | with_reducible apply vNC); (first | assumption | exact m39 | exact m44); exact (LM_T hT)) | ((first | with_reducible apply w_NA | with_reducible apply w_NW); exact (LM_T hT); (first | assumption | exact m39 | exact m44); rfl; rfl; (first | with_reducible rfl | with_reducible exact ixo _ | with_reducible exact ixoc _ _ | with_reducible exact ixom _ _ _ | with_reducible exact ixop _ _ | with_reducible exact ixod _ _ | assumption); omega) | ((first | with_reducible apply w_TA | with_reducible apply w_TW | with_reducible apply w_TJ | with_reducible apply w_TK); exact hT; rfl; rfl; (first | with_reducible rfl | with_reducible exact ixo _ | with_reducible exact ixoc _ _ | with_reducible exact ixom _ _ _ | with_reducible exact ixop _ _ | with_reducible exact ixod _ _ | assumption); omega))
    have eo1 : opt N r = some r := if_pos e
    rw [eo1]
    exact v_bd (passC (a := some r) hC hfu (fun r' z => by cases z; exact hr)) (fun _ h2 hq => v_rV hq)
  · unfold fX6_passEveningOf_16
    repeat (first | with_reducible apply v_lt | ((with_reducible apply vXR4); exact hT) | ((with_reducible apply w_XR); exact (LM_T hT); rfl) | ((with_reducible apply w_TR); exact hT; rfl) | ((with_reducible apply w_UR); exact hT; rfl) | ((first | with_reducible apply vXI | with_reducible apply vXS | with_reducible apply vXC); exact (LM_T hT)) | ((first | with_reducible apply vT0I | with_reducible apply vT9I | with_reducible apply vT0C | with_reducible apply vT9C | with_reducible apply vT0S | with_reducible apply vT9S); exact hT) | ((first | with_reducible apply vNR0 | with_reducible apply vNR1 | with_reducible apply vNR2 | with_reducible apply vNR3 | with_reducible apply vNI | with_reducible apply vNS | with_reducible apply vNC); (first | assumption | exact m39 | exact m44); exact (LM_T hT)) | ((first | with_reducible apply w_NA | with_reducible apply w_NW); exact (LM_T hT); (first | assumption | exact m39 | exact m44); rfl; rfl; (first | with_reducible rfl | with_reducible exact ixo _ | with_reducible exact ixoc _ _ | with_reducible exact ixom _ _ _ | with_reducible exact ixop _ _ | with_reducible exact ixod _ _ | assumption); omega) | ((first | with_reducible apply w_TA | with_reducible apply w_TW | with_reducible apply w_TJ | with_reducible apply w_TK); exact hT; rfl; rfl; (first | with_reducible rfl | with_reducible exact ixo _ | with_reducible exact ixoc _ _ | with_reducible exact ixom _ _ _ | with_reducible exact ixop _ _ | with_reducible exact ixod _ _ | assumption); omega))
    have eo1 : opt N r = none := if_neg (by omega)
    rw [eo1]
    exact v_bd (passC (a := none) hC hfu (fun r' z => by cases z)) (fun _ h2 hq => v_rV hq)
theorem wf_setAn {T : AT} {N : AN} {a : Option Nat} (ha : ∀ r, a = some r → r < nR T) (hN : wfN T N) : wfN T (setAn N a) := ⟨hN.1, hN.2.1, ha, hN.2.2.2.1, hN.2.2.2.2⟩
theorem goes1M {t u l fu r : Nat} {T : AT} {N : AN} {h : mh} {s : Int32} {st : Bool} (hM : MC t u l T N h) (hfu : 1000 ≤ fu) (hr : r < nR T) (hs : gI h 299 53 = s) (hst : gI h 299 54 = b2i st) : ok (fX10_goesWith fu 299 (nI r) h) (fun _ h' => eo sMe h h' ∧ MC t u l T (pass T N (opt N r) (!st && crk T s (nI (ev9 N)))) h') := by
  obtain ⟨hy, hl, hlv, htx, hng, hwT, hwN⟩ := id hM
  have hL := LM_of hy
  have hr6 := hwT.1
  have hq := (hwN.1 r (by omega)).2.2
  have main : ∀ a : Option Nat, (∀ r', a = some r' → r' < nR T) → ok (fX10_goesWith_24 fu 299 (nI r) 334 31 (anM a) h) (fun _ h' => eo sMe h h' ∧ MC t u l T (pass T N a (!st && crk T s (nI (ev9 N)))) h') := by
    intro a ha
    unfold fX10_goesWith_24
    repeat (first | with_reducible apply v_lt | ((with_reducible apply w_MR); exact hL; rfl) | ((with_reducible apply w_lv); exact hL; assumption) | ((with_reducible apply vMI); exact hL) | ((with_reducible apply vMS); exact hL) | ((with_reducible apply vMC); exact hL) | ((with_reducible apply vMZ); exact hL; (first | exact Or.inl rfl | exact Or.inr rfl | exact b2i_01 _ | assumption)) | ((first | with_reducible apply w_MA | with_reducible apply w_MW | with_reducible apply w_MY | with_reducible apply w_MB | with_reducible apply w_MJ | with_reducible apply w_MK); exact hL; rfl; rfl; rfl; (first | with_reducible rfl | with_reducible exact ixo _ | with_reducible exact ixoc _ _ | with_reducible exact ixom _ _ _ | with_reducible exact ixop _ _ | with_reducible exact ixod _ _ | assumption); omega))
    have o1 : eo sMe h (uI h 334 31 (anM a)) := eo_uI eo_rf (Or.inr (Or.inl rfl))
    have hM1 : MC t u l T (setAn N a) (uI h 334 31 (anM a)) := MC_eE o1 hM (ngM_An hng) (wf_setAn ha hwN)
    refine v_bd (goesM hM1 hfu (s := s) (st := st) (by rw [gI_ne (by omega)]; exact hs) (by rw [gI_ne (by omega)]; exact hst)) (fun _ h2 hq => v_rV ⟨eo_tr o1 hq.1, ?_⟩)
    have := hq.2
    rw [pass_An] at this
    exact this
  unfold fX10_goesWith
  repeat (first | with_reducible apply v_lt | ((with_reducible apply w_MR); exact hL; rfl) | ((with_reducible apply w_lv); exact hL; assumption) | ((with_reducible apply vMI); exact hL) | ((with_reducible apply vMS); exact hL) | ((with_reducible apply vMC); exact hL) | ((with_reducible apply vMZ); exact hL; (first | exact Or.inl rfl | exact Or.inr rfl | exact b2i_01 _ | assumption)) | ((first | with_reducible apply w_MA | with_reducible apply w_MW | with_reducible apply w_MY | with_reducible apply w_MB | with_reducible apply w_MJ | with_reducible apply w_MK); exact hL; rfl; rfl; rfl; (first | with_reducible rfl | with_reducible exact ixo _ | with_reducible exact ixoc _ _ | with_reducible exact ixom _ _ _ | with_reducible exact ixop _ _ | with_reducible exact ixod _ _ | assumption); omega))
  rw [(hng.1 r (by omega)).2.1]
  refine v_ze (by omega) (fun e => ?_) (fun e => ?_)
  · have eo1 : opt N r = some r := if_pos e
    rw [eo1]
    exact main (some r) (fun r' z => by cases z; exact hr)
  · have eo1 : opt N r = none := if_neg (by omega)
    rw [eo1]
    exact main none (fun r' z => by cases z)
