/-! PLANS IN THE REFERENCE -/
/-- for whom: all, or one -/
def forW (T : AT) (x : Int32) (W : Nat) : Prop := (x = -1 ∧ W = 2 ^ nL9 T - 1) ∨ ∃ o, o < nL9 T ∧ x = nI o ∧ W = 2 ^ o
theorem en_one {T : AT} {N : AN} {o : Nat} (ho : o < nL9 T) : enB T (2 ^ o) N = doneB T N o := by
  have : lkV T N (2 ^ o) = lack T N o := by
    apply Nat.eq_of_testBit_eq
    intro i
    cases e : (lack T N o).testBit i
    · rw [← Bool.not_eq_true]
      intro z
      obtain ⟨l, hl, e1, e2⟩ := (lkV_tb _ _ _ _).mp z
      rw [tb_pow] at e1
      have := of_decide_eq_true e1
      subst this
      rw [e] at e2
      cases e2
    · exact (lkV_tb _ _ _ _).mpr ⟨o, ho, by rw [tb_pow, decide_eq_true rfl], e⟩
  unfold enB doneB
  rw [this]
theorem en_all {T : AT} {N : AN} : enB T (2 ^ nL9 T - 1) N = decide (dnV T N = 2 ^ nL9 T - 1) := by
  by_cases z : dnV T N = 2 ^ nL9 T - 1
  · rw [decide_eq_true z]
    unfold enB
    refine decide_eq_true (Nat.eq_of_testBit_eq (fun i => ?_))
    rw [Nat.zero_testBit, ← Bool.not_eq_true]
    intro w
    obtain ⟨l, hl, e1, e2⟩ := (lkV_tb _ _ _ _).mp w
    have := congrArg (fun x => x.testBit l) z
    unfold dnV at this
    simp only [bitsU_tb, Nat.testBit_two_pow_sub_one, decide_eq_true hl, Bool.true_and] at this
    unfold doneB at this
    rw [of_decide_eq_true this, Nat.zero_testBit] at e2
    cases e2
  · rw [decide_eq_false z]
    unfold enB
    refine decide_eq_false (fun w => z (Nat.eq_of_testBit_eq (fun i => ?_)))
    unfold dnV
    rw [bitsU_tb, Nat.testBit_two_pow_sub_one]
    by_cases hi : i < nL9 T
    · rw [decide_eq_true hi, Bool.true_and]
      unfold doneB
      refine decide_eq_true (Nat.eq_of_testBit_eq (fun b => ?_))
      rw [Nat.zero_testBit, ← Bool.not_eq_true]
      intro y
      have := (lkV_tb T N (2 ^ nL9 T - 1) b).mpr ⟨i, hi, by rw [Nat.testBit_two_pow_sub_one, decide_eq_true hi], y⟩
      rw [w, Nat.zero_testBit] at this
      cases this
    · rw [decide_eq_false hi, Bool.false_and]
theorem enoughM {t u l fu W : Nat} {T : AT} {N : AN} {h : mh} {x : Int32} (hM : MC t u l T N h) (hfu : 1000 ≤ fu) (hx : forW T x W) : fX10_isEnough fu 299 x h = some (b2i (enB T W N), h) := by
  obtain ⟨hy, hl, hlv, htx, hng, hwT, hwN⟩ := id hM
  have hL := LM_of hy
  have h6 := hwT.2.1
  have h64 := pw6 h6
  refine ok_eq ?_
  unfold fX10_isEnough
  rcases hx with ⟨rfl, rfl⟩ | ⟨o, ho, rfl, rfl⟩
  · refine v_it rfl ?_
    repeat (first | with_reducible apply v_lt | ((with_reducible apply w_MR); exact hL; rfl) | ((with_reducible apply w_lv); exact hL; assumption) | ((with_reducible apply vMI); exact hL) | ((with_reducible apply vMS); exact hL) | ((with_reducible apply vMC); exact hL) | ((with_reducible apply vMZ); exact hL; (first | exact Or.inl rfl | exact Or.inr rfl | exact b2i_01 _ | assumption)) | ((first | with_reducible apply w_MA | with_reducible apply w_MW | with_reducible apply w_MY | with_reducible apply w_MB | with_reducible apply w_MJ | with_reducible apply w_MK); exact hL; rfl; rfl; rfl; (first | with_reducible rfl | with_reducible exact ixo _ | with_reducible exact ixoc _ _ | with_reducible exact ixom _ _ _ | with_reducible exact ixop _ _ | with_reducible exact ixod _ _ | assumption); omega))
    refine v_eq (doneM hM hfu) ?_
    repeat (first | with_reducible apply v_lt | ((with_reducible apply w_MR); exact hL; rfl) | ((with_reducible apply w_lv); exact hL; assumption) | ((with_reducible apply vMI); exact hL) | ((with_reducible apply vMS); exact hL) | ((with_reducible apply vMC); exact hL) | ((with_reducible apply vMZ); exact hL; (first | exact Or.inl rfl | exact Or.inr rfl | exact b2i_01 _ | assumption)) | ((first | with_reducible apply w_MA | with_reducible apply w_MW | with_reducible apply w_MY | with_reducible apply w_MB | with_reducible apply w_MJ | with_reducible apply w_MK); exact hL; rfl; rfl; rfl; (first | with_reducible rfl | with_reducible exact ixo _ | with_reducible exact ixoc _ _ | with_reducible exact ixom _ _ _ | with_reducible exact ixop _ _ | with_reducible exact ixod _ _ | assumption); omega))
    rw [htx.2.1, shl1 _ (by omega), show nI (2 ^ nL9 T) - 1 = nI (2 ^ nL9 T - 1) from pk_sub (b := 1) (Nat.pow_pos (by decide)), en_all]
    have hd : dnV T N < 64 := bitsU_64 _ h6
    refine v_if (fun e => v_rZ (Or.inr rfl) ⟨?_, rfl⟩) (fun e => v_rZ (Or.inl rfl) ⟨?_, rfl⟩)
    · rw [nI_eq (by omega) (by omega)] at e
      rw [decide_eq_true e]
      rfl
    · rw [nI_eq (by omega) (by omega)] at e
      rw [decide_eq_false e]
      rfl
  · refine v_ie (fun z => nI_pos (n := o) (by omega) (by rw [show nI o = -1 from z]; decide)) ?_
    repeat (first | with_reducible apply v_lt | ((with_reducible apply w_MR); exact hL; rfl) | ((with_reducible apply w_lv); exact hL; assumption) | ((with_reducible apply vMI); exact hL) | ((with_reducible apply vMS); exact hL) | ((with_reducible apply vMC); exact hL) | ((with_reducible apply vMZ); exact hL; (first | exact Or.inl rfl | exact Or.inr rfl | exact b2i_01 _ | assumption)) | ((first | with_reducible apply w_MA | with_reducible apply w_MW | with_reducible apply w_MY | with_reducible apply w_MB | with_reducible apply w_MJ | with_reducible apply w_MK); exact hL; rfl; rfl; rfl; (first | with_reducible rfl | with_reducible exact ixo _ | with_reducible exact ixoc _ _ | with_reducible exact ixom _ _ _ | with_reducible exact ixop _ _ | with_reducible exact ixod _ _ | assumption); omega))
    refine v_eq (hasDoneM hM ho) ?_
    rw [en_one ho]
    exact v_rZ (b2i_01 _) ⟨rfl, rfl⟩
def sW (a k : Nat) : Prop := sMe a k ∨ (a = 299 ∧ (k = 53 ∨ k = 54))
theorem sW_R {a k : Nat} (q : sW a k) : sR a k := by unfold sW sMe sV at q; unfold sR; omega
theorem copyS2 {t u l fu : Nat} {T : AT} {N : AN} {h : mh} (hM : MN t u l T N h) (hfu : 1000 ≤ fu) : ok (fX10_copiesStill fu 299 h) (fun _ h' => eo sW h h' ∧ MC t u l T N h' ∧ gI h' 299 53 = nI (sd9 T) ∧ gI h' 299 54 = b2i true) := by
  obtain ⟨hy, hl, hlv, htx, hng, hwT, hwN⟩ := id hM
  have hL := LM_of hy
  unfold fX10_copiesStill
  repeat (first | with_reducible apply v_lt | ((with_reducible apply w_MR); exact hL; rfl) | ((with_reducible apply w_lv); exact hL; assumption) | ((with_reducible apply vMI); exact hL) | ((with_reducible apply vMS); exact hL) | ((with_reducible apply vMC); exact hL) | ((with_reducible apply vMZ); exact hL; (first | exact Or.inl rfl | exact Or.inr rfl | exact b2i_01 _ | assumption)) | ((first | with_reducible apply w_MA | with_reducible apply w_MW | with_reducible apply w_MY | with_reducible apply w_MB | with_reducible apply w_MJ | with_reducible apply w_MK); exact hL; rfl; rfl; rfl; (first | with_reducible rfl | with_reducible exact ixo _ | with_reducible exact ixoc _ _ | with_reducible exact ixom _ _ _ | with_reducible exact ixop _ _ | with_reducible exact ixod _ _ | assumption); omega))
  refine v_bd (P := fun _ h1 => eo sW h h1 ∧ MC t u l T N h1 ∧ gI h1 299 53 = nI (sd9 T)) ?_ (fun _ h1 hq => ?_)
  · unfold fX10_copies
    refine loop2 (I := fun j h' => eo (fun a _ => a = 334) h h' ∧ ∀ i, i < j → gI h' 334 i = gI h 333 i) (n := 33) (by omega) hfu ⟨eo_rf, fun i hi => by omega⟩ ?_ ?_
    · intro h1 k hI
      obtain ⟨o1, hz⟩ := hI
      have hL1 := LM_eo o1 hL
      have hlv1 : gI h1 299 18 = nI l := by
        rw [o1.2 _ _ (by decide)]
        exact hlv
      have hs1 : gI h1 320 l = nI (sd9 T) := by
        rw [o1.2 _ _ (show ¬ (320 : Nat) = 334 by decide)]
        exact htx.2.2.2.2.2.2.1
      unfold bX10_copies_2
      dsimp only
      refine v_it (by decide) ?_
      unfold fX10_copies_26
      repeat (first | with_reducible apply v_lt | ((with_reducible apply w_MR); exact hL1; rfl) | ((with_reducible apply w_lv); exact hL1; assumption) | ((with_reducible apply vMI); exact hL1) | ((with_reducible apply vMS); exact hL1) | ((with_reducible apply vMC); exact hL1) | ((with_reducible apply vMZ); exact hL1; (first | exact Or.inl rfl | exact Or.inr rfl | exact b2i_01 _ | assumption)) | ((first | with_reducible apply w_MA | with_reducible apply w_MW | with_reducible apply w_MY | with_reducible apply w_MB | with_reducible apply w_MJ | with_reducible apply w_MK); exact hL1; rfl; rfl; rfl; (first | with_reducible rfl | with_reducible exact ixo _ | with_reducible exact ixoc _ _ | with_reducible exact ixom _ _ _ | with_reducible exact ixop _ _ | with_reducible exact ixod _ _ | assumption); omega))
      rw [hs1]
      have o2 : eo sW h (uI (uI h1 299 53 (nI (sd9 T))) 299 54 0) := eo_uI (eo_uI (eo_mono o1 (fun a k q => Or.inl (Or.inr (Or.inl q)))) (Or.inr ⟨rfl, Or.inl rfl⟩)) (Or.inr ⟨rfl, Or.inr rfl⟩)
      have hN2 := MN_eo o2 (fun a k q => sW_R q) hM
      refine v_rV ⟨o2, ⟨hN2.1, hN2.2.1, hN2.2.2.1, hN2.2.2.2.1, ?_, hwT, hwN⟩, ?_⟩
      · refine ngM_cp (fun i hi => ?_) hng
        rw [gI_ne (by omega), gI_ne (by omega)]
        exact hz i hi
      · rw [gI_ne (by omega), gI_eq]
    · intro j h1 k hj hI hk
      obtain ⟨o1, hz⟩ := hI
      have hL1 := LM_eo o1 hL
      unfold bX10_copies_2
      dsimp only
      refine v_ie (nI_ge (b := 33) hj (by omega)) ?_
      repeat (first | with_reducible apply v_lt | ((with_reducible apply w_MR); exact hL1; rfl) | ((with_reducible apply w_lv); exact hL1; assumption) | ((with_reducible apply vMI); exact hL1) | ((with_reducible apply vMS); exact hL1) | ((with_reducible apply vMC); exact hL1) | ((with_reducible apply vMZ); exact hL1; (first | exact Or.inl rfl | exact Or.inr rfl | exact b2i_01 _ | assumption)) | ((first | with_reducible apply w_MA | with_reducible apply w_MW | with_reducible apply w_MY | with_reducible apply w_MB | with_reducible apply w_MJ | with_reducible apply w_MK); exact hL1; rfl; rfl; rfl; (first | with_reducible rfl | with_reducible exact ixo _ | with_reducible exact ixoc _ _ | with_reducible exact ixom _ _ _ | with_reducible exact ixop _ _ | with_reducible exact ixod _ _ | assumption); omega))
      refine hk _ ⟨eo_uI o1 rfl, fun i hi => ?_⟩
      by_cases e : i = j
      · rw [gI_eq' ⟨rfl, e⟩, o1.2 _ _ (show ¬ (333 : Nat) = 334 by decide), e]
      · rw [gI_ne (fun z => e z.2)]
        exact hz i (by omega)
  · obtain ⟨o1, hM1, e1⟩ := hq
    have hL1 := LM_of hM1.1
    repeat (first | with_reducible apply v_lt | ((with_reducible apply w_MR); exact hL1; rfl) | ((with_reducible apply w_lv); exact hL1; assumption) | ((with_reducible apply vMI); exact hL1) | ((with_reducible apply vMS); exact hL1) | ((with_reducible apply vMC); exact hL1) | ((with_reducible apply vMZ); exact hL1; (first | exact Or.inl rfl | exact Or.inr rfl | exact b2i_01 _ | assumption)) | ((first | with_reducible apply w_MA | with_reducible apply w_MW | with_reducible apply w_MY | with_reducible apply w_MB | with_reducible apply w_MJ | with_reducible apply w_MK); exact hL1; rfl; rfl; rfl; (first | with_reducible rfl | with_reducible exact ixo _ | with_reducible exact ixoc _ _ | with_reducible exact ixom _ _ _ | with_reducible exact ixop _ _ | with_reducible exact ixod _ _ | assumption); omega))
    exact v_rV ⟨eo_uI o1 (Or.inr ⟨rfl, Or.inr rfl⟩), MC_54 hM1, by rw [gI_ne (by omega)]; exact e1, gI_eq⟩
theorem pw6n {R k : Nat} (hR : R ≤ 6) (hk : k ≤ 4) : R ^ k ≤ 1296 := Nat.le_trans (Nat.pow_le_pow_left hR k) (Nat.le_trans (Nat.pow_le_pow_right (n := 6) (by decide) hk) (by decide))
theorem wayM {t u l fu W way n : Nat} {T : AT} {N : AN} {h : mh} {x : Int32} (hM : MN t u l T N h) (hfu : 1000 ≤ fu) (hx : forW T x W) (hn : n ≤ 4) (hR : 0 < nR T) (hw : way < 10000) : ok (fX10_doesWay fu 299 x (nI way) (nI n) h) (fun y h' => eo sW h h' ∧ y = b2i (dwB T W way n N)) := by
  have hwT := hM.2.2.2.2.2.1
  have hr6 := hwT.1
  have hL := LM_of hM.1
  unfold fX10_doesWay
  repeat (first | with_reducible apply v_lt | ((with_reducible apply w_MR); exact hL; rfl) | ((with_reducible apply w_lv); exact hL; assumption) | ((with_reducible apply vMI); exact hL) | ((with_reducible apply vMS); exact hL) | ((with_reducible apply vMC); exact hL) | ((with_reducible apply vMZ); exact hL; (first | exact Or.inl rfl | exact Or.inr rfl | exact b2i_01 _ | assumption)) | ((first | with_reducible apply w_MA | with_reducible apply w_MW | with_reducible apply w_MY | with_reducible apply w_MB | with_reducible apply w_MJ | with_reducible apply w_MK); exact hL; rfl; rfl; rfl; (first | with_reducible rfl | with_reducible exact ixo _ | with_reducible exact ixoc _ _ | with_reducible exact ixom _ _ _ | with_reducible exact ixop _ _ | with_reducible exact ixod _ _ | assumption); omega))
  refine v_bd (copyS2 hM hfu) (fun _ h1 hq => ?_)
  obtain ⟨o1, hM1, s1, b1⟩ := hq
  apply v_lt
  refine itr_up (I := fun j s => ∃ N' : AN, s.1 = nI (n - j) - 1 ∧ eo sW h s.2 ∧ MC t u l T N' s.2 ∧ gI s.2 299 53 = nI (sd9 T) ∧ gI s.2 299 54 = b2i true ∧ dwB T W way n N = dwB T W way (n - j) N') (P := fun R => ok R _) (n := n) ?_ ?_ fu 0 _ (by omega) (by omega) ⟨N, rfl, o1, hM1, s1, b1, rfl⟩
  · intro j s kk hj hI hk
    obtain ⟨w, h2⟩ := s
    obtain ⟨N', e1, o2, hM2, s2, b2, q2⟩ := hI
    dsimp only at e1 o2 hM2 s2 b2
    obtain ⟨m, hm⟩ : ∃ m, n - j = m + 1 := ⟨n - j - 1, by omega⟩
    rw [hm, nI_m1.1] at e1
    subst e1
    rw [hm] at q2
    obtain ⟨hy2, hl, hlv2, htx2, hng2, -, hwN2⟩ := id hM2
    have hL2 := LM_of hy2
    have p0 : 0 < nR T ^ m := Nat.pow_pos hR
    have p1 := pw6n (R := nR T) (k := m) hr6 (by omega)
    have hdw : way / nR T ^ m ≤ way := Nat.div_le_self _ _
    have hdg : way / nR T ^ m % nR T < nR T := Nat.mod_lt _ hR
    have eF : dwB T W way (m + 1) N' = if qu N' (way / nR T ^ m % nR T) = 0 then dwB T W way m (pass T N' (some (way / nR T ^ m % nR T)) false) else false := by
      unfold dwB
      rw [show wyR T way (m + 1) N' = if qu N' (way / nR T ^ m % nR T) = 0 then wyR T way m (pass T N' (some (way / nR T ^ m % nR T)) false) else none from rfl]
      by_cases z : qu N' (way / nR T ^ m % nR T) = 0
      · rw [if_pos z, if_pos z]
      · rw [if_neg z, if_neg z]
    unfold bX10_doesWay_9
    dsimp only
    refine v_ie (nI_pos (by omega)) ?_
    repeat (first | with_reducible apply v_lt | ((with_reducible apply w_MR); exact hL2; rfl) | ((with_reducible apply w_lv); exact hL2; assumption) | ((with_reducible apply vMI); exact hL2) | ((with_reducible apply vMS); exact hL2) | ((with_reducible apply vMC); exact hL2) | ((with_reducible apply vMZ); exact hL2; (first | exact Or.inl rfl | exact Or.inr rfl | exact b2i_01 _ | assumption)) | ((first | with_reducible apply w_MA | with_reducible apply w_MW | with_reducible apply w_MY | with_reducible apply w_MB | with_reducible apply w_MJ | with_reducible apply w_MK); exact hL2; rfl; rfl; rfl; (first | with_reducible rfl | with_reducible exact ixo _ | with_reducible exact ixoc _ _ | with_reducible exact ixom _ _ _ | with_reducible exact ixop _ _ | with_reducible exact ixod _ _ | assumption); omega))
    rw [htx2.1]
    refine v_eq (powM (v := nR T) (n := m) hfu (by omega)) ?_
    refine v_dv (nI_ne0 p0 (by omega)) ?_
    rw [pk_div (by omega) p0 (by omega)]
    repeat (first | with_reducible apply v_lt | ((with_reducible apply w_MR); exact hL2; rfl) | ((with_reducible apply w_lv); exact hL2; assumption) | ((with_reducible apply vMI); exact hL2) | ((with_reducible apply vMS); exact hL2) | ((with_reducible apply vMC); exact hL2) | ((with_reducible apply vMZ); exact hL2; (first | exact Or.inl rfl | exact Or.inr rfl | exact b2i_01 _ | assumption)) | ((first | with_reducible apply w_MA | with_reducible apply w_MW | with_reducible apply w_MY | with_reducible apply w_MB | with_reducible apply w_MJ | with_reducible apply w_MK); exact hL2; rfl; rfl; rfl; (first | with_reducible rfl | with_reducible exact ixo _ | with_reducible exact ixoc _ _ | with_reducible exact ixom _ _ _ | with_reducible exact ixop _ _ | with_reducible exact ixod _ _ | assumption); omega))
    rw [htx2.1]
    refine v_rm (nI_ne0 hR (by omega)) ?_
    rw [pk_rem (by omega) hR (by omega)]
    obtain ⟨a, ea⟩ : ∃ a, way / nR T ^ m % nR T = a := ⟨_, rfl⟩
    rw [ea] at eF hdg ⊢
    have hq := (hwN2.1 a (by omega)).2.2
    repeat (first | with_reducible apply v_lt | ((with_reducible apply w_MR); exact hL2; rfl) | ((with_reducible apply w_lv); exact hL2; assumption) | ((with_reducible apply vMI); exact hL2) | ((with_reducible apply vMS); exact hL2) | ((with_reducible apply vMC); exact hL2) | ((with_reducible apply vMZ); exact hL2; (first | exact Or.inl rfl | exact Or.inr rfl | exact b2i_01 _ | assumption)) | ((first | with_reducible apply w_MA | with_reducible apply w_MW | with_reducible apply w_MY | with_reducible apply w_MB | with_reducible apply w_MJ | with_reducible apply w_MK); exact hL2; rfl; rfl; rfl; (first | with_reducible rfl | with_reducible exact ixo _ | with_reducible exact ixoc _ _ | with_reducible exact ixom _ _ _ | with_reducible exact ixop _ _ | with_reducible exact ixod _ _ | assumption); omega))
    rw [(hng2.1 a (by omega)).2.1]
    refine v_z (by omega) (fun z => ?_) (fun z => v_rZ (Or.inl rfl) ⟨o2, ?_⟩)
    · repeat (first | with_reducible apply v_lt | ((with_reducible apply w_MR); exact hL2; rfl) | ((with_reducible apply w_lv); exact hL2; assumption) | ((with_reducible apply vMI); exact hL2) | ((with_reducible apply vMS); exact hL2) | ((with_reducible apply vMC); exact hL2) | ((with_reducible apply vMZ); exact hL2; (first | exact Or.inl rfl | exact Or.inr rfl | exact b2i_01 _ | assumption)) | ((first | with_reducible apply w_MA | with_reducible apply w_MW | with_reducible apply w_MY | with_reducible apply w_MB | with_reducible apply w_MJ | with_reducible apply w_MK); exact hL2; rfl; rfl; rfl; (first | with_reducible rfl | with_reducible exact ixo _ | with_reducible exact ixoc _ _ | with_reducible exact ixom _ _ _ | with_reducible exact ixop _ _ | with_reducible exact ixod _ _ | assumption); omega))
      have ha : ∀ r', some a = some r' → r' < nR T := fun r' z => by cases z; exact hdg
      have o3 : eo sMe h2 (uI h2 334 31 (nI a)) := eo_uI eo_rf (Or.inr (Or.inl rfl))
      have hM3 : MC t u l T (setAn N' (some a)) (uI h2 334 31 (nI a)) := MC_eE o3 hM2 (ngM_An (v := some a) hng2) (wf_setAn ha hwN2)
      refine v_bd (goesM hM3 hfu (s := nI (sd9 T)) (st := true) (by rw [gI_ne (by omega)]; exact s2) (by rw [gI_ne (by omega)]; exact b2)) (fun _ h4 hq => ?_)
      obtain ⟨o4, hM4⟩ := hq
      rw [pass_An, Bool.not_true, Bool.false_and] at hM4
      have hM4 : MC t u l T (pass T N' (some a) false) h4 := hM4
      have o34 := eo_tr o3 o4
      rw [nI_m1.2]
      refine hk _ ⟨pass T N' (some a) false, ?_, eo_tr o2 (eo_mono o34 (fun a k q => Or.inl q)), hM4, ?_, ?_, ?_⟩
      · dsimp only
        rw [show n - (j + 1) = m from by omega]
      · dsimp only
        rw [o34.2 _ _ (fun z => by unfold sMe sV at z; omega)]
        exact s2
      · dsimp only
        rw [o34.2 _ _ (fun z => by unfold sMe sV at z; omega)]
        exact b2
      · rw [q2, eF, if_pos z, show n - (j + 1) = m from by omega]
    · rw [q2, eF, if_neg (by omega)]
      rfl
  · intro s kk hI
    obtain ⟨w, h2⟩ := s
    obtain ⟨N', e1, o2, hM2, s2, b2, q2⟩ := hI
    dsimp only at e1 o2 hM2 s2 b2
    rw [Nat.sub_self] at e1 q2
    subst e1
    have hL2 := LM_of hM2.1
    unfold bX10_doesWay_9
    dsimp only
    refine v_it (by decide) ?_
    unfold fX10_doesWay_76
    repeat (first | with_reducible apply v_lt | ((with_reducible apply w_MR); exact hL2; rfl) | ((with_reducible apply w_lv); exact hL2; assumption) | ((with_reducible apply vMI); exact hL2) | ((with_reducible apply vMS); exact hL2) | ((with_reducible apply vMC); exact hL2) | ((with_reducible apply vMZ); exact hL2; (first | exact Or.inl rfl | exact Or.inr rfl | exact b2i_01 _ | assumption)) | ((first | with_reducible apply w_MA | with_reducible apply w_MW | with_reducible apply w_MY | with_reducible apply w_MB | with_reducible apply w_MJ | with_reducible apply w_MK); exact hL2; rfl; rfl; rfl; (first | with_reducible rfl | with_reducible exact ixo _ | with_reducible exact ixoc _ _ | with_reducible exact ixom _ _ _ | with_reducible exact ixop _ _ | with_reducible exact ixod _ _ | assumption); omega))
    refine v_eq (enoughM hM2 hfu hx) ?_
    rw [q2]
    exact v_rZ (b2i_01 _) ⟨o2, rfl⟩
theorem findM {t u l fu W : Nat} {T : AT} {N : AN} {h : mh} {x : Int32} (hM : MN t u l T N h) (hfu : 5000 ≤ fu) (hx : forW T x W) : ok (fX10_findsPlan fu 299 x h) (fun _ h' => eo sR h h' ∧ (match fsM T W N 5 0 with
    | none => gI h' 299 60 = nI 5
    | some (m, ps) => m ≤ 4 ∧ gI h' 299 60 = nI m ∧ (0 < m → ∃ w, w < 10000 ∧ gI h' 299 61 = nI w ∧ ∀ i, i < m → w / nR T ^ (m - 1 - i) % nR T = ps.getD i 0))) := by
  have hfu1 : 1000 ≤ fu := by omega
  have hwT := hM.2.2.2.2.2.1
  have hr6 := hwT.1
  have hL := LM_of hM.1
  unfold fX10_findsPlan
  repeat (first | with_reducible apply v_lt | ((with_reducible apply w_MR); exact hL; rfl) | ((with_reducible apply w_lv); exact hL; assumption) | ((with_reducible apply vMI); exact hL) | ((with_reducible apply vMS); exact hL) | ((with_reducible apply vMC); exact hL) | ((with_reducible apply vMZ); exact hL; (first | exact Or.inl rfl | exact Or.inr rfl | exact b2i_01 _ | assumption)) | ((first | with_reducible apply w_MA | with_reducible apply w_MW | with_reducible apply w_MY | with_reducible apply w_MB | with_reducible apply w_MJ | with_reducible apply w_MK); exact hL; rfl; rfl; rfl; (first | with_reducible rfl | with_reducible exact ixo _ | with_reducible exact ixoc _ _ | with_reducible exact ixom _ _ _ | with_reducible exact ixop _ _ | with_reducible exact ixod _ _ | assumption); omega))
  refine v_bd (copyS2 hM hfu1) (fun _ h1 hq => ?_)
  obtain ⟨o1, hM1, s1, b1⟩ := hq
  have hL1 := LM_of hM1.1
  repeat (first | with_reducible apply v_lt | ((with_reducible apply w_MR); exact hL1; rfl) | ((with_reducible apply w_lv); exact hL1; assumption) | ((with_reducible apply vMI); exact hL1) | ((with_reducible apply vMS); exact hL1) | ((with_reducible apply vMC); exact hL1) | ((with_reducible apply vMZ); exact hL1; (first | exact Or.inl rfl | exact Or.inr rfl | exact b2i_01 _ | assumption)) | ((first | with_reducible apply w_MA | with_reducible apply w_MW | with_reducible apply w_MY | with_reducible apply w_MB | with_reducible apply w_MJ | with_reducible apply w_MK); exact hL1; rfl; rfl; rfl; (first | with_reducible rfl | with_reducible exact ixo _ | with_reducible exact ixoc _ _ | with_reducible exact ixom _ _ _ | with_reducible exact ixop _ _ | with_reducible exact ixod _ _ | assumption); omega))
  have o2 : eo sR h (uI h1 299 60 0) := eo_uI (eo_mono o1 (fun a k q => sW_R q)) (by unfold sR; omega)
  have hM2 : MC t u l T N (uI h1 299 60 0) := by
    obtain ⟨q1, q2, q3, q4, q5, q6, q7⟩ := hM1
    exact ⟨q1, q2, by rw [gI_ne (by omega)]; exact q3, txM_eo (S := fun a _ => a = 299) (eo_uI eo_rf rfl) (fun a h1 h2 k z => by omega) q4, ngM_o (by decide) q5, q6, q7⟩
  refine v_eq (enoughM hM2 hfu1 hx) ?_
  have e50 : fsM T W N 5 0 = match rch T W 0 N with
      | some ps => some (0, ps)
      | none => fsM T W N 4 1 := rfl
  have er : rch T W 0 N = if enB T W N then some [] else none := rfl
  refine v_b (fun e => ?_) (fun e => ?_)
  · have e51 : fsM T W N 5 0 = fsM T W N 4 1 := by rw [e50, er, e]; rfl
    rw [e51]
    have hL2 := LM_of hM2.1
    repeat (first | with_reducible apply v_lt | ((with_reducible apply w_MR); exact hL2; rfl) | ((with_reducible apply w_lv); exact hL2; assumption) | ((with_reducible apply vMI); exact hL2) | ((with_reducible apply vMS); exact hL2) | ((with_reducible apply vMC); exact hL2) | ((with_reducible apply vMZ); exact hL2; (first | exact Or.inl rfl | exact Or.inr rfl | exact b2i_01 _ | assumption)) | ((first | with_reducible apply w_MA | with_reducible apply w_MW | with_reducible apply w_MY | with_reducible apply w_MB | with_reducible apply w_MJ | with_reducible apply w_MK); exact hL2; rfl; rfl; rfl; (first | with_reducible rfl | with_reducible exact ixo _ | with_reducible exact ixoc _ _ | with_reducible exact ixom _ _ _ | with_reducible exact ixop _ _ | with_reducible exact ixod _ _ | assumption); omega))
    refine itr_up (I := fun j s => eo sR h s ∧ gI s 299 60 = nI (1 + j) ∧ fsM T W N (4 - j) (1 + j) = fsM T W N 4 1) (P := fun R => ok R _) (n := 4) ?_ ?_ fu 0 _ (by omega) (by omega) ⟨eo_uI o2 (by unfold sR; omega), gI_eq, rfl⟩
    · intro j h3 kk hj hI hk
      obtain ⟨o3, e3, f3⟩ := hI
      have hM3 := MN_eo o3 (fun a k q => q) hM
      have hL3 := LM_of hM3.1
      have p1 := pw6n (R := nR T) (k := 1 + j) hr6 (by omega)
      have fs : fsM T W N (4 - j) (1 + j) = match rch T W (1 + j) N with
          | some ps => some (1 + j, ps)
          | none => fsM T W N (4 - (j + 1)) (1 + (j + 1)) := by
        rw [show 4 - j = (4 - (j + 1)) + 1 from by omega]
        rfl
      unfold bX10_findsPlan_23
      repeat (first | with_reducible apply v_lt | ((with_reducible apply w_MR); exact hL3; rfl) | ((with_reducible apply w_lv); exact hL3; assumption) | ((with_reducible apply vMI); exact hL3) | ((with_reducible apply vMS); exact hL3) | ((with_reducible apply vMC); exact hL3) | ((with_reducible apply vMZ); exact hL3; (first | exact Or.inl rfl | exact Or.inr rfl | exact b2i_01 _ | assumption)) | ((first | with_reducible apply w_MA | with_reducible apply w_MW | with_reducible apply w_MY | with_reducible apply w_MB | with_reducible apply w_MJ | with_reducible apply w_MK); exact hL3; rfl; rfl; rfl; (first | with_reducible rfl | with_reducible exact ixo _ | with_reducible exact ixoc _ _ | with_reducible exact ixom _ _ _ | with_reducible exact ixop _ _ | with_reducible exact ixod _ _ | assumption); omega))
      rw [e3]
      refine v_ie (nI_nlt (a := 4) (by omega) (by decide)) ?_
      repeat (first | with_reducible apply v_lt | ((with_reducible apply w_MR); exact hL3; rfl) | ((with_reducible apply w_lv); exact hL3; assumption) | ((with_reducible apply vMI); exact hL3) | ((with_reducible apply vMS); exact hL3) | ((with_reducible apply vMC); exact hL3) | ((with_reducible apply vMZ); exact hL3; (first | exact Or.inl rfl | exact Or.inr rfl | exact b2i_01 _ | assumption)) | ((first | with_reducible apply w_MA | with_reducible apply w_MW | with_reducible apply w_MY | with_reducible apply w_MB | with_reducible apply w_MJ | with_reducible apply w_MK); exact hL3; rfl; rfl; rfl; (first | with_reducible rfl | with_reducible exact ixo _ | with_reducible exact ixoc _ _ | with_reducible exact ixom _ _ _ | with_reducible exact ixop _ _ | with_reducible exact ixod _ _ | assumption); omega))
      refine itr_up (I := fun w s => eo sR h s ∧ gI s 299 60 = nI (1 + j) ∧ gI s 299 61 = nI w ∧ ∀ w', w' < w → dwB T W w' (1 + j) N = false) (P := fun R => ok R _) (n := nR T ^ (1 + j)) ?_ ?_ fu 0 _ (by omega) (by omega) ⟨eo_uI o3 (by unfold sR; omega), by rw [gI_ne (by omega)]; exact e3, gI_eq, fun w hw => by omega⟩
      · intro w h4 k4 hw hI4 hk4
        obtain ⟨o4, e4, w4, q4⟩ := hI4
        have hM4 := MN_eo o4 (fun a k q => q) hM
        obtain ⟨hy4, hl, hlv4, htx4, -⟩ := id hM4
        have hL4 := LM_of hy4
        have hR : 0 < nR T := Nat.pos_of_ne_zero (fun z => by rw [z, Nat.zero_pow (by omega)] at hw; omega)
        unfold bX10_findsPlan_36
        repeat (first | with_reducible apply v_lt | ((with_reducible apply w_MR); exact hL4; rfl) | ((with_reducible apply w_lv); exact hL4; assumption) | ((with_reducible apply vMI); exact hL4) | ((with_reducible apply vMS); exact hL4) | ((with_reducible apply vMC); exact hL4) | ((with_reducible apply vMZ); exact hL4; (first | exact Or.inl rfl | exact Or.inr rfl | exact b2i_01 _ | assumption)) | ((first | with_reducible apply w_MA | with_reducible apply w_MW | with_reducible apply w_MY | with_reducible apply w_MB | with_reducible apply w_MJ | with_reducible apply w_MK); exact hL4; rfl; rfl; rfl; (first | with_reducible rfl | with_reducible exact ixo _ | with_reducible exact ixoc _ _ | with_reducible exact ixom _ _ _ | with_reducible exact ixop _ _ | with_reducible exact ixod _ _ | assumption); omega))
        rw [htx4.1, e4, w4]
        refine v_eq (powM (v := nR T) (n := 1 + j) hfu1 (by omega)) ?_
        refine v_ie (nI_ge hw (by omega)) ?_
        repeat (first | with_reducible apply v_lt | ((with_reducible apply w_MR); exact hL4; rfl) | ((with_reducible apply w_lv); exact hL4; assumption) | ((with_reducible apply vMI); exact hL4) | ((with_reducible apply vMS); exact hL4) | ((with_reducible apply vMC); exact hL4) | ((with_reducible apply vMZ); exact hL4; (first | exact Or.inl rfl | exact Or.inr rfl | exact b2i_01 _ | assumption)) | ((first | with_reducible apply w_MA | with_reducible apply w_MW | with_reducible apply w_MY | with_reducible apply w_MB | with_reducible apply w_MJ | with_reducible apply w_MK); exact hL4; rfl; rfl; rfl; (first | with_reducible rfl | with_reducible exact ixo _ | with_reducible exact ixoc _ _ | with_reducible exact ixom _ _ _ | with_reducible exact ixop _ _ | with_reducible exact ixod _ _ | assumption); omega))
        rw [e4, w4]
        refine v_bd (wayM hM4 hfu1 hx (by omega) hR (by omega)) (fun y h5 hq => ?_)
        obtain ⟨o5, rfl⟩ := hq
        have hL5 := LM_eo o5 hL4
        have o15 : eo sR h h5 := eo_tr o4 (eo_mono o5 (fun a k q => sW_R q))
        have e5 : gI h5 299 60 = nI (1 + j) := by rw [o5.2 _ _ (fun z => by unfold sW sMe sV at z; omega)]; exact e4
        have w5 : gI h5 299 61 = nI w := by rw [o5.2 _ _ (fun z => by unfold sW sMe sV at z; omega)]; exact w4
        refine v_b (fun ed => ?_) (fun ed => v_rV ⟨o15, ?_⟩)
        · repeat (first | with_reducible apply v_lt | ((with_reducible apply w_MR); exact hL5; rfl) | ((with_reducible apply w_lv); exact hL5; assumption) | ((with_reducible apply vMI); exact hL5) | ((with_reducible apply vMS); exact hL5) | ((with_reducible apply vMC); exact hL5) | ((with_reducible apply vMZ); exact hL5; (first | exact Or.inl rfl | exact Or.inr rfl | exact b2i_01 _ | assumption)) | ((first | with_reducible apply w_MA | with_reducible apply w_MW | with_reducible apply w_MY | with_reducible apply w_MB | with_reducible apply w_MJ | with_reducible apply w_MK); exact hL5; rfl; rfl; rfl; (first | with_reducible rfl | with_reducible exact ixo _ | with_reducible exact ixoc _ _ | with_reducible exact ixom _ _ _ | with_reducible exact ixop _ _ | with_reducible exact ixod _ _ | assumption); omega))
          rw [w5, nI_1]
          refine hk4 _ ⟨eo_uI o15 (by unfold sR; omega), by rw [gI_ne (by omega)]; exact e5, gI_eq, fun w' hw' => ?_⟩
          by_cases z : w' = w
          · rw [z]
            exact ed
          · exact q4 w' (by omega)
        · rw [← f3, fs]
          cases en : rch T W (1 + j) N with
          | none =>
            rw [(way_rch (1 + j) N).1 en w hw] at ed
            cases ed
          | some ps =>
            obtain ⟨w0, v1, v2, v3, v4⟩ := (way_rch (1 + j) N).2 ps en
            have ew : w0 = w := by
              rcases Nat.lt_trichotomy w0 w with z | z | z
              · rw [q4 w0 z] at v2
                cases v2
              · exact z
              · rw [v3 w z] at ed
                cases ed
            subst ew
            exact ⟨by omega, e5, fun _ => ⟨w0, by omega, w5, v4⟩⟩
      · intro h4 k4 hI4
        obtain ⟨o4, e4, w4, q4⟩ := hI4
        have hM4 := MN_eo o4 (fun a k q => q) hM
        obtain ⟨hy4, hl, hlv4, htx4, -⟩ := id hM4
        have hL4 := LM_of hy4
        unfold bX10_findsPlan_36
        repeat (first | with_reducible apply v_lt | ((with_reducible apply w_MR); exact hL4; rfl) | ((with_reducible apply w_lv); exact hL4; assumption) | ((with_reducible apply vMI); exact hL4) | ((with_reducible apply vMS); exact hL4) | ((with_reducible apply vMC); exact hL4) | ((with_reducible apply vMZ); exact hL4; (first | exact Or.inl rfl | exact Or.inr rfl | exact b2i_01 _ | assumption)) | ((first | with_reducible apply w_MA | with_reducible apply w_MW | with_reducible apply w_MY | with_reducible apply w_MB | with_reducible apply w_MJ | with_reducible apply w_MK); exact hL4; rfl; rfl; rfl; (first | with_reducible rfl | with_reducible exact ixo _ | with_reducible exact ixoc _ _ | with_reducible exact ixom _ _ _ | with_reducible exact ixop _ _ | with_reducible exact ixod _ _ | assumption); omega))
        rw [htx4.1, e4, w4]
        refine v_eq (powM (v := nR T) (n := 1 + j) hfu1 (by omega)) ?_
        refine v_it (nI_le (Nat.le_refl _) (by omega)) ?_
        unfold fX10_findsPlan_89
        repeat (first | with_reducible apply v_lt | ((with_reducible apply w_MR); exact hL4; rfl) | ((with_reducible apply w_lv); exact hL4; assumption) | ((with_reducible apply vMI); exact hL4) | ((with_reducible apply vMS); exact hL4) | ((with_reducible apply vMC); exact hL4) | ((with_reducible apply vMZ); exact hL4; (first | exact Or.inl rfl | exact Or.inr rfl | exact b2i_01 _ | assumption)) | ((first | with_reducible apply w_MA | with_reducible apply w_MW | with_reducible apply w_MY | with_reducible apply w_MB | with_reducible apply w_MJ | with_reducible apply w_MK); exact hL4; rfl; rfl; rfl; (first | with_reducible rfl | with_reducible exact ixo _ | with_reducible exact ixoc _ _ | with_reducible exact ixom _ _ _ | with_reducible exact ixop _ _ | with_reducible exact ixod _ _ | assumption); omega))
        rw [e4, nI_1]
        refine hk _ ⟨eo_uI o4 (by unfold sR; omega), gI_eq, ?_⟩
        rw [← f3, fs]
        cases en : rch T W (1 + j) N with
        | none => rfl
        | some ps =>
          obtain ⟨w0, v1, v2, v3, v4⟩ := (way_rch (1 + j) N).2 ps en
          rw [q4 w0 v1] at v2
          cases v2
    · intro h3 kk hI
      obtain ⟨o3, e3, f3⟩ := hI
      have hL3 := LM_eo o3 hL
      have f3 : fsM T W N 4 1 = none := f3.symm
      unfold bX10_findsPlan_23
      repeat (first | with_reducible apply v_lt | ((with_reducible apply w_MR); exact hL3; rfl) | ((with_reducible apply w_lv); exact hL3; assumption) | ((with_reducible apply vMI); exact hL3) | ((with_reducible apply vMS); exact hL3) | ((with_reducible apply vMC); exact hL3) | ((with_reducible apply vMZ); exact hL3; (first | exact Or.inl rfl | exact Or.inr rfl | exact b2i_01 _ | assumption)) | ((first | with_reducible apply w_MA | with_reducible apply w_MW | with_reducible apply w_MY | with_reducible apply w_MB | with_reducible apply w_MJ | with_reducible apply w_MK); exact hL3; rfl; rfl; rfl; (first | with_reducible rfl | with_reducible exact ixo _ | with_reducible exact ixoc _ _ | with_reducible exact ixom _ _ _ | with_reducible exact ixop _ _ | with_reducible exact ixod _ _ | assumption); omega))
      rw [e3, f3]
      exact v_it (by decide) (v_rV ⟨o3, e3⟩)
  · rw [e50, er, e, if_pos rfl]
    exact v_rV ⟨o2, by omega, gI_eq, fun z => by omega⟩
theorem plan_ps {T : AT} {W m : Nat} {N : AN} {ps : List Nat} : ∀ {f k : Nat}, fsM T W N f k = some (m, ps) → rch T W m N = some ps
  | 0, _, h => by cases h
  | f + 1, k, h => by
    unfold fsM at h
    cases e : rch T W k N with
    | some qs =>
      rw [e] at h
      cases h
      exact e
    | none =>
      rw [e] at h
      exact plan_ps h
theorem pl26C {t u fu W : Nat} {T : AT} {N : AN} {h : mh} {x y s : Int32} (hC : CC t u T 39 N h) (hfu : 1000 ≤ fu) (hx : forW T x W) (hy9 : y = -1 ∨ ∃ i, i < 4 ∧ y = nI i) : ok (fX9_plan_26 fu 0 x y s h) (fun z h' => eo (sQ t) h h' ∧ z = plV (fsM T W N 5 0) y) := by
  obtain ⟨hy, htx, hng, hn, hwT, hwN⟩ := id hC
  have hT := LT_of hy
  have h6 := hwT.2.1
  have h64 := pw6 h6
  have hp : 0 < 2 ^ nL9 T := Nat.pow_pos (by decide)
  have few : ok (fX4_fewest fu 49 t 39 x h) (fun x h' => eo (sQ t) h h' ∧ (match fsM T W N 5 0 with
    | none => x = -2
    | some (m, ps) => m ≤ 4 ∧ x = nI m ∧ ∀ i, i < m → gI h' 51 i = nI (ps.getD i 0))) := by
    unfold fX4_fewest
    rcases hx with ⟨rfl, rfl⟩ | ⟨o, ho, rfl, rfl⟩
    · refine v_it rfl ?_
      repeat (first | with_reducible apply v_lt | ((with_reducible apply vXR4); exact hT) | ((with_reducible apply w_XR); exact (LM_T hT); rfl) | ((with_reducible apply w_TR); exact hT; rfl) | ((with_reducible apply w_UR); exact hT; rfl) | ((first | with_reducible apply vXI | with_reducible apply vXS | with_reducible apply vXC); exact (LM_T hT)) | ((first | with_reducible apply vT0I | with_reducible apply vT9I | with_reducible apply vT0C | with_reducible apply vT9C | with_reducible apply vT0S | with_reducible apply vT9S); exact hT) | ((first | with_reducible apply vNR0 | with_reducible apply vNR1 | with_reducible apply vNR2 | with_reducible apply vNR3 | with_reducible apply vNI | with_reducible apply vNS | with_reducible apply vNC); (first | assumption | exact m39 | exact m44); exact (LM_T hT)) | ((first | with_reducible apply w_NA | with_reducible apply w_NW); exact (LM_T hT); (first | assumption | exact m39 | exact m44); rfl; rfl; (first | with_reducible rfl | with_reducible exact ixo _ | with_reducible exact ixoc _ _ | with_reducible exact ixom _ _ _ | with_reducible exact ixop _ _ | with_reducible exact ixod _ _ | assumption); omega) | ((first | with_reducible apply w_TA | with_reducible apply w_TW | with_reducible apply w_TJ | with_reducible apply w_TK); exact hT; rfl; rfl; (first | with_reducible rfl | with_reducible exact ixo _ | with_reducible exact ixoc _ _ | with_reducible exact ixom _ _ _ | with_reducible exact ixop _ _ | with_reducible exact ixod _ _ | assumption); omega))
      rw [htx.2.1, shl1 _ (by omega), show nI (2 ^ nL9 T) - 1 = nI (2 ^ nL9 T - 1) from pk_sub (b := 1) hp]
      exact fewC19 hC hfu (by omega)
    · refine v_ie (fun z => nI_pos (n := o) (by omega) (by rw [show nI o = -1 from z]; decide)) ?_
      rw [shl1 _ (by omega)]
      exact fewC19 hC hfu (pop1 o (by omega)).2
  unfold fX9_plan_26
  refine v_ie ?_ (v_it ?_ ?_)
  · rcases hy9 with rfl | ⟨i, hi, rfl⟩
    · decide
    · exact fun z => nI_pos (n := i) (by omega) (Int32.lt_trans z (by decide))
  · rcases hy9 with rfl | ⟨i, hi, rfl⟩
    · decide
    · exact nI_lt (b := 4) hi (by decide)
  repeat (first | with_reducible apply v_lt | ((with_reducible apply vXR4); exact hT) | ((with_reducible apply w_XR); exact (LM_T hT); rfl) | ((with_reducible apply w_TR); exact hT; rfl) | ((with_reducible apply w_UR); exact hT; rfl) | ((first | with_reducible apply vXI | with_reducible apply vXS | with_reducible apply vXC); exact (LM_T hT)) | ((first | with_reducible apply vT0I | with_reducible apply vT9I | with_reducible apply vT0C | with_reducible apply vT9C | with_reducible apply vT0S | with_reducible apply vT9S); exact hT) | ((first | with_reducible apply vNR0 | with_reducible apply vNR1 | with_reducible apply vNR2 | with_reducible apply vNR3 | with_reducible apply vNI | with_reducible apply vNS | with_reducible apply vNC); (first | assumption | exact m39 | exact m44); exact (LM_T hT)) | ((first | with_reducible apply w_NA | with_reducible apply w_NW); exact (LM_T hT); (first | assumption | exact m39 | exact m44); rfl; rfl; (first | with_reducible rfl | with_reducible exact ixo _ | with_reducible exact ixoc _ _ | with_reducible exact ixom _ _ _ | with_reducible exact ixop _ _ | with_reducible exact ixod _ _ | assumption); omega) | ((first | with_reducible apply w_TA | with_reducible apply w_TW | with_reducible apply w_TJ | with_reducible apply w_TK); exact hT; rfl; rfl; (first | with_reducible rfl | with_reducible exact ixo _ | with_reducible exact ixoc _ _ | with_reducible exact ixom _ _ _ | with_reducible exact ixop _ _ | with_reducible exact ixod _ _ | assumption); omega) | ((with_reducible apply v49R0); exact (LM_T hT)) | ((with_reducible apply v49R1); exact (LM_T hT)) | ((with_reducible apply v49I); exact (LM_T hT)) | ((with_reducible apply v49S); exact (LM_T hT)) | ((with_reducible apply v49Z); exact (LM_T hT); first | exact Or.inl rfl | exact Or.inr rfl | assumption) | ((with_reducible apply v49C); exact (LM_T hT)) | ((with_reducible apply v50A); exact (LM_T hT); (first | with_reducible exact ix6 _ _ | with_reducible rfl | with_reducible exact ixc12 _ | with_reducible exact ixc18 _ | with_reducible exact ixc24 _ | with_reducible exact ixc6 _ | with_reducible exact ixl0 | with_reducible exact ixl1 | with_reducible exact ixl2 | with_reducible exact ixl3 | with_reducible exact ixl4 | with_reducible exact ixl5 | with_reducible exact ixl6 | with_reducible exact ixl7 | with_reducible exact ixl8 | with_reducible exact ixl9 | with_reducible exact ixl10 | with_reducible exact ixl11 | with_reducible exact ixl12 | with_reducible exact ixl13 | with_reducible exact ixl14 | with_reducible exact ixl15 | with_reducible exact ixl16 | with_reducible exact ixl17 | with_reducible exact ixl18 | with_reducible exact ixl19 | with_reducible exact ixl20 | with_reducible exact ixl21 | with_reducible exact ixl22 | with_reducible exact ixl23 | with_reducible exact ixl24 | with_reducible exact ixl25 | with_reducible exact ixl26 | with_reducible exact ixl27 | with_reducible exact ixl28 | with_reducible exact ixl29 | with_reducible exact ixl30 | with_reducible exact ixl31 | with_reducible exact ixl32 | with_reducible exact ix4 _ _ | with_reducible exact ix33 _ _); omega) | ((with_reducible apply v51A); exact (LM_T hT); (first | with_reducible exact ix6 _ _ | with_reducible rfl | with_reducible exact ixc12 _ | with_reducible exact ixc18 _ | with_reducible exact ixc24 _ | with_reducible exact ixc6 _ | with_reducible exact ixl0 | with_reducible exact ixl1 | with_reducible exact ixl2 | with_reducible exact ixl3 | with_reducible exact ixl4 | with_reducible exact ixl5 | with_reducible exact ixl6 | with_reducible exact ixl7 | with_reducible exact ixl8 | with_reducible exact ixl9 | with_reducible exact ixl10 | with_reducible exact ixl11 | with_reducible exact ixl12 | with_reducible exact ixl13 | with_reducible exact ixl14 | with_reducible exact ixl15 | with_reducible exact ixl16 | with_reducible exact ixl17 | with_reducible exact ixl18 | with_reducible exact ixl19 | with_reducible exact ixl20 | with_reducible exact ixl21 | with_reducible exact ixl22 | with_reducible exact ixl23 | with_reducible exact ixl24 | with_reducible exact ixl25 | with_reducible exact ixl26 | with_reducible exact ixl27 | with_reducible exact ixl28 | with_reducible exact ixl29 | with_reducible exact ixl30 | with_reducible exact ixl31 | with_reducible exact ixl32 | with_reducible exact ix4 _ _ | with_reducible exact ix33 _ _); omega) | ((with_reducible apply v51W); exact (LM_T hT); (first | with_reducible exact ix6 _ _ | with_reducible rfl | with_reducible exact ixc12 _ | with_reducible exact ixc18 _ | with_reducible exact ixc24 _ | with_reducible exact ixc6 _ | with_reducible exact ixl0 | with_reducible exact ixl1 | with_reducible exact ixl2 | with_reducible exact ixl3 | with_reducible exact ixl4 | with_reducible exact ixl5 | with_reducible exact ixl6 | with_reducible exact ixl7 | with_reducible exact ixl8 | with_reducible exact ixl9 | with_reducible exact ixl10 | with_reducible exact ixl11 | with_reducible exact ixl12 | with_reducible exact ixl13 | with_reducible exact ixl14 | with_reducible exact ixl15 | with_reducible exact ixl16 | with_reducible exact ixl17 | with_reducible exact ixl18 | with_reducible exact ixl19 | with_reducible exact ixl20 | with_reducible exact ixl21 | with_reducible exact ixl22 | with_reducible exact ixl23 | with_reducible exact ixl24 | with_reducible exact ixl25 | with_reducible exact ixl26 | with_reducible exact ixl27 | with_reducible exact ixl28 | with_reducible exact ixl29 | with_reducible exact ixl30 | with_reducible exact ixl31 | with_reducible exact ixl32 | with_reducible exact ix4 _ _ | with_reducible exact ix33 _ _); omega))
  refine v_bd few (fun v h1 hq => ?_)
  obtain ⟨o1, q1⟩ := hq
  have hT1 := LT_eo o1 hT
  have hL1 := LM_T hT1
  cases e : fsM T W N 5 0 with
  | none =>
    rw [e] at q1
    dsimp only at q1
    subst q1
    exact v_it rfl (v_rI ⟨o1, rfl⟩)
  | some a =>
    obtain ⟨m, ps⟩ := a
    rw [e] at q1
    obtain ⟨m4, rfl, q1⟩ := q1
    refine v_ie (fun z => nI_pos (n := m) (by omega) (by rw [show nI m = -2 from z]; decide)) ?_
    show ok _ (fun z h' => eo (sQ t) h h' ∧ z = if y = -1 then nI m else if nI m ≤ y then -1 else nI (ps.getD y.toNatClampNeg 0))
    refine v_if (fun z => v_rI ⟨o1, by rw [if_pos z]⟩) (fun z => ?_)
    rw [if_neg z]
    refine v_if (fun w => v_rI ⟨o1, by rw [if_pos w]⟩) (fun w => ?_)
    rw [if_neg w]
    rcases hy9 with rfl | ⟨i, hi, rfl⟩
    · exact absurd rfl z
    · rw [nI_leI (by omega) (by omega)] at w
      repeat (first | with_reducible apply v_lt | ((with_reducible apply vXR4); exact hT1) | ((with_reducible apply w_XR); exact (LM_T hT1); rfl) | ((with_reducible apply w_TR); exact hT1; rfl) | ((with_reducible apply w_UR); exact hT1; rfl) | ((first | with_reducible apply vXI | with_reducible apply vXS | with_reducible apply vXC); exact (LM_T hT1)) | ((first | with_reducible apply vT0I | with_reducible apply vT9I | with_reducible apply vT0C | with_reducible apply vT9C | with_reducible apply vT0S | with_reducible apply vT9S); exact hT1) | ((first | with_reducible apply vNR0 | with_reducible apply vNR1 | with_reducible apply vNR2 | with_reducible apply vNR3 | with_reducible apply vNI | with_reducible apply vNS | with_reducible apply vNC); (first | assumption | exact m39 | exact m44); exact (LM_T hT1)) | ((first | with_reducible apply w_NA | with_reducible apply w_NW); exact (LM_T hT1); (first | assumption | exact m39 | exact m44); rfl; rfl; (first | with_reducible rfl | with_reducible exact ixo _ | with_reducible exact ixoc _ _ | with_reducible exact ixom _ _ _ | with_reducible exact ixop _ _ | with_reducible exact ixod _ _ | assumption); omega) | ((first | with_reducible apply w_TA | with_reducible apply w_TW | with_reducible apply w_TJ | with_reducible apply w_TK); exact hT1; rfl; rfl; (first | with_reducible rfl | with_reducible exact ixo _ | with_reducible exact ixoc _ _ | with_reducible exact ixom _ _ _ | with_reducible exact ixop _ _ | with_reducible exact ixod _ _ | assumption); omega) | ((with_reducible apply v49R0); exact (LM_T hT1)) | ((with_reducible apply v49R1); exact (LM_T hT1)) | ((with_reducible apply v49I); exact (LM_T hT1)) | ((with_reducible apply v49S); exact (LM_T hT1)) | ((with_reducible apply v49Z); exact (LM_T hT1); first | exact Or.inl rfl | exact Or.inr rfl | assumption) | ((with_reducible apply v49C); exact (LM_T hT1)) | ((with_reducible apply v50A); exact (LM_T hT1); (first | with_reducible exact ix6 _ _ | with_reducible rfl | with_reducible exact ixc12 _ | with_reducible exact ixc18 _ | with_reducible exact ixc24 _ | with_reducible exact ixc6 _ | with_reducible exact ixl0 | with_reducible exact ixl1 | with_reducible exact ixl2 | with_reducible exact ixl3 | with_reducible exact ixl4 | with_reducible exact ixl5 | with_reducible exact ixl6 | with_reducible exact ixl7 | with_reducible exact ixl8 | with_reducible exact ixl9 | with_reducible exact ixl10 | with_reducible exact ixl11 | with_reducible exact ixl12 | with_reducible exact ixl13 | with_reducible exact ixl14 | with_reducible exact ixl15 | with_reducible exact ixl16 | with_reducible exact ixl17 | with_reducible exact ixl18 | with_reducible exact ixl19 | with_reducible exact ixl20 | with_reducible exact ixl21 | with_reducible exact ixl22 | with_reducible exact ixl23 | with_reducible exact ixl24 | with_reducible exact ixl25 | with_reducible exact ixl26 | with_reducible exact ixl27 | with_reducible exact ixl28 | with_reducible exact ixl29 | with_reducible exact ixl30 | with_reducible exact ixl31 | with_reducible exact ixl32 | with_reducible exact ix4 _ _ | with_reducible exact ix33 _ _); omega) | ((with_reducible apply v51A); exact (LM_T hT1); (first | with_reducible exact ix6 _ _ | with_reducible rfl | with_reducible exact ixc12 _ | with_reducible exact ixc18 _ | with_reducible exact ixc24 _ | with_reducible exact ixc6 _ | with_reducible exact ixl0 | with_reducible exact ixl1 | with_reducible exact ixl2 | with_reducible exact ixl3 | with_reducible exact ixl4 | with_reducible exact ixl5 | with_reducible exact ixl6 | with_reducible exact ixl7 | with_reducible exact ixl8 | with_reducible exact ixl9 | with_reducible exact ixl10 | with_reducible exact ixl11 | with_reducible exact ixl12 | with_reducible exact ixl13 | with_reducible exact ixl14 | with_reducible exact ixl15 | with_reducible exact ixl16 | with_reducible exact ixl17 | with_reducible exact ixl18 | with_reducible exact ixl19 | with_reducible exact ixl20 | with_reducible exact ixl21 | with_reducible exact ixl22 | with_reducible exact ixl23 | with_reducible exact ixl24 | with_reducible exact ixl25 | with_reducible exact ixl26 | with_reducible exact ixl27 | with_reducible exact ixl28 | with_reducible exact ixl29 | with_reducible exact ixl30 | with_reducible exact ixl31 | with_reducible exact ixl32 | with_reducible exact ix4 _ _ | with_reducible exact ix33 _ _); omega) | ((with_reducible apply v51W); exact (LM_T hT1); (first | with_reducible exact ix6 _ _ | with_reducible rfl | with_reducible exact ixc12 _ | with_reducible exact ixc18 _ | with_reducible exact ixc24 _ | with_reducible exact ixc6 _ | with_reducible exact ixl0 | with_reducible exact ixl1 | with_reducible exact ixl2 | with_reducible exact ixl3 | with_reducible exact ixl4 | with_reducible exact ixl5 | with_reducible exact ixl6 | with_reducible exact ixl7 | with_reducible exact ixl8 | with_reducible exact ixl9 | with_reducible exact ixl10 | with_reducible exact ixl11 | with_reducible exact ixl12 | with_reducible exact ixl13 | with_reducible exact ixl14 | with_reducible exact ixl15 | with_reducible exact ixl16 | with_reducible exact ixl17 | with_reducible exact ixl18 | with_reducible exact ixl19 | with_reducible exact ixl20 | with_reducible exact ixl21 | with_reducible exact ixl22 | with_reducible exact ixl23 | with_reducible exact ixl24 | with_reducible exact ixl25 | with_reducible exact ixl26 | with_reducible exact ixl27 | with_reducible exact ixl28 | with_reducible exact ixl29 | with_reducible exact ixl30 | with_reducible exact ixl31 | with_reducible exact ixl32 | with_reducible exact ix4 _ _ | with_reducible exact ix33 _ _); omega))
      rw [nI_clamp (by omega)]
      exact v_rI ⟨o1, q1 i (by omega)⟩
theorem pl13M {t u l fu W : Nat} {T : AT} {N : AN} {h : mh} {x y : Int32} (hM : MN t u l T N h) (hfu : 5000 ≤ fu) (hx : forW T x W) (hy9 : y = -1 ∨ ∃ i, i < 4 ∧ y = nI i) : ok (fX10_plan_13 fu 299 x y h) (fun z h' => eo sR h h' ∧ z = plV (fsM T W N 5 0) y) := by
  have hfu1 : 1000 ≤ fu := by omega
  have hwT := hM.2.2.2.2.2.1
  have hr6 := hwT.1
  have hL := LM_of hM.1
  unfold fX10_plan_13
  refine v_eq (show fX10_in fu y (-1) 3 h = some (1, h) from ?_) ?_
  · refine ok_eq ?_
    unfold fX10_in
    rcases hy9 with rfl | ⟨i, hi, rfl⟩
    · exact v_ie (by decide) (v_ie (by decide) (v_rZ (Or.inr rfl) ⟨rfl, rfl⟩))
    · exact v_ie (fun z => nI_pos (n := i) (by omega) (Int32.lt_trans z (by decide))) (v_ie (nI_nlt (a := 3) (by omega) (by decide)) (v_rZ (Or.inr rfl) ⟨rfl, rfl⟩))
  refine v_ie (by decide) ?_
  repeat (first | with_reducible apply v_lt | ((with_reducible apply w_MR); exact hL; rfl) | ((with_reducible apply w_lv); exact hL; assumption) | ((with_reducible apply vMI); exact hL) | ((with_reducible apply vMS); exact hL) | ((with_reducible apply vMC); exact hL) | ((with_reducible apply vMZ); exact hL; (first | exact Or.inl rfl | exact Or.inr rfl | exact b2i_01 _ | assumption)) | ((first | with_reducible apply w_MA | with_reducible apply w_MW | with_reducible apply w_MY | with_reducible apply w_MB | with_reducible apply w_MJ | with_reducible apply w_MK); exact hL; rfl; rfl; rfl; (first | with_reducible rfl | with_reducible exact ixo _ | with_reducible exact ixoc _ _ | with_reducible exact ixom _ _ _ | with_reducible exact ixop _ _ | with_reducible exact ixod _ _ | assumption); omega))
  refine v_bd (findM hM hfu hx) (fun _ h1 hq => ?_)
  obtain ⟨o1, q1⟩ := hq
  have hM1 := MN_eo o1 (fun a k q => q) hM
  obtain ⟨hy1, hl, hlv1, htx1, -⟩ := id hM1
  have hL1 := LM_of hy1
  repeat (first | with_reducible apply v_lt | ((with_reducible apply w_MR); exact hL1; rfl) | ((with_reducible apply w_lv); exact hL1; assumption) | ((with_reducible apply vMI); exact hL1) | ((with_reducible apply vMS); exact hL1) | ((with_reducible apply vMC); exact hL1) | ((with_reducible apply vMZ); exact hL1; (first | exact Or.inl rfl | exact Or.inr rfl | exact b2i_01 _ | assumption)) | ((first | with_reducible apply w_MA | with_reducible apply w_MW | with_reducible apply w_MY | with_reducible apply w_MB | with_reducible apply w_MJ | with_reducible apply w_MK); exact hL1; rfl; rfl; rfl; (first | with_reducible rfl | with_reducible exact ixo _ | with_reducible exact ixoc _ _ | with_reducible exact ixom _ _ _ | with_reducible exact ixop _ _ | with_reducible exact ixod _ _ | assumption); omega))
  cases e : fsM T W N 5 0 with
  | none =>
    rw [e] at q1
    dsimp only at q1
    rw [q1]
    exact v_it rfl (v_rI ⟨o1, rfl⟩)
  | some a =>
    obtain ⟨m, ps⟩ := a
    rw [e] at q1
    obtain ⟨m4, e60, q1⟩ := q1
    obtain ⟨pl, pr⟩ := rch_len (plan_ps e)
    rw [e60]
    refine v_ie (fun z => ?_) ?_
    · rw [show (5 : Int32) = nI 5 from rfl, nI_eq (by omega) (by omega)] at z
      omega
    show ok _ (fun z h' => eo sR h h' ∧ z = if y = -1 then nI m else if nI m ≤ y then -1 else nI (ps.getD y.toNatClampNeg 0))
    refine v_if (fun z => ?_) (fun z => ?_)
    · repeat (first | with_reducible apply v_lt | ((with_reducible apply w_MR); exact hL1; rfl) | ((with_reducible apply w_lv); exact hL1; assumption) | ((with_reducible apply vMI); exact hL1) | ((with_reducible apply vMS); exact hL1) | ((with_reducible apply vMC); exact hL1) | ((with_reducible apply vMZ); exact hL1; (first | exact Or.inl rfl | exact Or.inr rfl | exact b2i_01 _ | assumption)) | ((first | with_reducible apply w_MA | with_reducible apply w_MW | with_reducible apply w_MY | with_reducible apply w_MB | with_reducible apply w_MJ | with_reducible apply w_MK); exact hL1; rfl; rfl; rfl; (first | with_reducible rfl | with_reducible exact ixo _ | with_reducible exact ixoc _ _ | with_reducible exact ixom _ _ _ | with_reducible exact ixop _ _ | with_reducible exact ixod _ _ | assumption); omega))
      rw [if_pos z]
      exact v_rI ⟨o1, e60⟩
    rw [if_neg z]
    repeat (first | with_reducible apply v_lt | ((with_reducible apply w_MR); exact hL1; rfl) | ((with_reducible apply w_lv); exact hL1; assumption) | ((with_reducible apply vMI); exact hL1) | ((with_reducible apply vMS); exact hL1) | ((with_reducible apply vMC); exact hL1) | ((with_reducible apply vMZ); exact hL1; (first | exact Or.inl rfl | exact Or.inr rfl | exact b2i_01 _ | assumption)) | ((first | with_reducible apply w_MA | with_reducible apply w_MW | with_reducible apply w_MY | with_reducible apply w_MB | with_reducible apply w_MJ | with_reducible apply w_MK); exact hL1; rfl; rfl; rfl; (first | with_reducible rfl | with_reducible exact ixo _ | with_reducible exact ixoc _ _ | with_reducible exact ixom _ _ _ | with_reducible exact ixop _ _ | with_reducible exact ixod _ _ | assumption); omega))
    rw [e60]
    refine v_if (fun w => v_rI ⟨o1, by rw [if_pos w]⟩) (fun w => ?_)
    rw [if_neg w]
    rcases hy9 with rfl | ⟨i, hi, rfl⟩
    · exact absurd rfl z
    · rw [nI_leI (by omega) (by omega)] at w
      obtain ⟨wy, w1, w2, w3⟩ := q1 (by omega)
      have hR : 0 < nR T := by
        have : ps ≠ [] := fun z => by rw [z] at pl; simp at pl; omega
        obtain ⟨r, hr⟩ := List.exists_mem_of_ne_nil ps this
        have := pr r hr
        omega
      have p0 : 0 < nR T ^ (m - 1 - i) := Nat.pow_pos hR
      have p1 := pw6n (R := nR T) (k := m - 1 - i) hr6 (by omega)
      have hdw : wy / nR T ^ (m - 1 - i) ≤ wy := Nat.div_le_self _ _
      repeat (first | with_reducible apply v_lt | ((with_reducible apply w_MR); exact hL1; rfl) | ((with_reducible apply w_lv); exact hL1; assumption) | ((with_reducible apply vMI); exact hL1) | ((with_reducible apply vMS); exact hL1) | ((with_reducible apply vMC); exact hL1) | ((with_reducible apply vMZ); exact hL1; (first | exact Or.inl rfl | exact Or.inr rfl | exact b2i_01 _ | assumption)) | ((first | with_reducible apply w_MA | with_reducible apply w_MW | with_reducible apply w_MY | with_reducible apply w_MB | with_reducible apply w_MJ | with_reducible apply w_MK); exact hL1; rfl; rfl; rfl; (first | with_reducible rfl | with_reducible exact ixo _ | with_reducible exact ixoc _ _ | with_reducible exact ixom _ _ _ | with_reducible exact ixop _ _ | with_reducible exact ixod _ _ | assumption); omega))
      rw [w2, htx1.1, e60, show nI m - 1 - nI i = nI (m - 1 - i) from by rw [show nI m - 1 = nI (m - 1) from pk_sub (b := 1) (by omega), pk_sub (by omega)]]
      refine v_eq (powM (v := nR T) (n := m - 1 - i) hfu1 (by omega)) ?_
      refine v_dv (nI_ne0 p0 (by omega)) ?_
      rw [pk_div (by omega) p0 (by omega)]
      repeat (first | with_reducible apply v_lt | ((with_reducible apply w_MR); exact hL1; rfl) | ((with_reducible apply w_lv); exact hL1; assumption) | ((with_reducible apply vMI); exact hL1) | ((with_reducible apply vMS); exact hL1) | ((with_reducible apply vMC); exact hL1) | ((with_reducible apply vMZ); exact hL1; (first | exact Or.inl rfl | exact Or.inr rfl | exact b2i_01 _ | assumption)) | ((first | with_reducible apply w_MA | with_reducible apply w_MW | with_reducible apply w_MY | with_reducible apply w_MB | with_reducible apply w_MJ | with_reducible apply w_MK); exact hL1; rfl; rfl; rfl; (first | with_reducible rfl | with_reducible exact ixo _ | with_reducible exact ixoc _ _ | with_reducible exact ixom _ _ _ | with_reducible exact ixop _ _ | with_reducible exact ixod _ _ | assumption); omega))
      rw [htx1.1]
      refine v_rm (nI_ne0 hR (by omega)) ?_
      rw [pk_rem (by omega) hR (by omega), w3 i (by omega), nI_clamp (by omega)]
      exact v_rI ⟨o1, rfl⟩
theorem st_plan {fu : Nat} (hfu : 5000 ≤ fu) (h : mh) (x0 x1 : Int32) (hS : Sim h) : pr Sim (fX9_plan fu 0 x0 x1 h) (fun h1 => fX10_plan fu 299 x0 x1 h1) := by
  obtain ⟨t, u, l, T, N, D, hS⟩ := hS
  have hC := hS.1
  have hT := LT_of hC.1
  obtain ⟨hy, htx, hng, -, hwT, hwN⟩ := id hC
  have hr6 := hwT.1
  have ho6 := hwT.2.1
  have hfu1 : 1000 ≤ fu := by omega
  have h64 := pw6 ho6
  -- the second number
  by_cases hy9 : x1 = -1 ∨ ∃ i, i < 4 ∧ x1 = nI i
  · by_cases q0 : x0 = -1
    · subst q0
      refine pr_q (plV (fsM T (2 ^ nL9 T - 1) N 5 0) x1) hS ?_ (fun h1 hS1 => ?_)
      · unfold fX9_plan
        refine v_it rfl ?_
        unfold fX9_plan_10
        refine v_ie (by decide) ?_
        exact pl26C hC hfu1 (Or.inl ⟨rfl, rfl⟩) hy9
      · unfold fX10_plan
        refine v_it rfl ?_
        exact pl13M hS1.2.1 hfu (Or.inl ⟨rfl, rfl⟩) hy9
    · by_cases q : ∃ r, r < nL9 T ∧ x0 = nI r
      · obtain ⟨o, ho, rfl⟩ := q
        refine pr_q (plV (fsM T (2 ^ o) N 5 0) x1) hS ?_ (fun h1 hS1 => ?_)
        · unfold fX9_plan
          refine v_ie q0 ?_
          unfold fX9_plan_10
          refine v_it rfl ?_
          repeat (first | with_reducible apply v_lt | ((with_reducible apply vXR4); exact hT) | ((with_reducible apply w_XR); exact (LM_T hT); rfl) | ((with_reducible apply w_TR); exact hT; rfl) | ((with_reducible apply w_UR); exact hT; rfl) | ((first | with_reducible apply vXI | with_reducible apply vXS | with_reducible apply vXC); exact (LM_T hT)) | ((first | with_reducible apply vT0I | with_reducible apply vT9I | with_reducible apply vT0C | with_reducible apply vT9C | with_reducible apply vT0S | with_reducible apply vT9S); exact hT) | ((first | with_reducible apply vNR0 | with_reducible apply vNR1 | with_reducible apply vNR2 | with_reducible apply vNR3 | with_reducible apply vNI | with_reducible apply vNS | with_reducible apply vNC); (first | assumption | exact m39 | exact m44); exact (LM_T hT)) | ((first | with_reducible apply w_NA | with_reducible apply w_NW); exact (LM_T hT); (first | assumption | exact m39 | exact m44); rfl; rfl; (first | with_reducible rfl | with_reducible exact ixo _ | with_reducible exact ixoc _ _ | with_reducible exact ixom _ _ _ | with_reducible exact ixop _ _ | with_reducible exact ixod _ _ | assumption); omega) | ((first | with_reducible apply w_TA | with_reducible apply w_TW | with_reducible apply w_TJ | with_reducible apply w_TK); exact hT; rfl; rfl; (first | with_reducible rfl | with_reducible exact ixo _ | with_reducible exact ixoc _ _ | with_reducible exact ixom _ _ _ | with_reducible exact ixop _ _ | with_reducible exact ixod _ _ | assumption); omega))
          refine v_eq (listC1 hC ho) ?_
          refine v_ie (by decide) ?_
          exact pl26C hC hfu1 (Or.inr ⟨o, ho, rfl, rfl⟩) hy9
        · have hM1 := hS1.2.1
          obtain ⟨hy1, hl, hlv1, htx1, hng1, -, -⟩ := id hM1
          have hL1 := LM_of hy1
          unfold fX10_plan
          refine v_ie q0 ?_
          repeat (first | with_reducible apply v_lt | ((with_reducible apply w_MR); exact hL1; rfl) | ((with_reducible apply w_lv); exact hL1; assumption) | ((with_reducible apply vMI); exact hL1) | ((with_reducible apply vMS); exact hL1) | ((with_reducible apply vMC); exact hL1) | ((with_reducible apply vMZ); exact hL1; (first | exact Or.inl rfl | exact Or.inr rfl | exact b2i_01 _ | assumption)) | ((first | with_reducible apply w_MA | with_reducible apply w_MW | with_reducible apply w_MY | with_reducible apply w_MB | with_reducible apply w_MJ | with_reducible apply w_MK); exact hL1; rfl; rfl; rfl; (first | with_reducible rfl | with_reducible exact ixo _ | with_reducible exact ixoc _ _ | with_reducible exact ixom _ _ _ | with_reducible exact ixop _ _ | with_reducible exact ixod _ _ | assumption); omega))
          refine v_eq (listM1 hM1 ho) ?_
          refine v_ie (by decide) ?_
          exact pl13M hM1 hfu (Or.inr ⟨o, ho, rfl, rfl⟩) hy9
      · refine pr_q (-1) hS ?_ (fun h1 hS1 => ?_)
        · unfold fX9_plan
          refine v_ie q0 ?_
          unfold fX9_plan_10
          refine v_it rfl ?_
          repeat (first | with_reducible apply v_lt | ((with_reducible apply vXR4); exact hT) | ((with_reducible apply w_XR); exact (LM_T hT); rfl) | ((with_reducible apply w_TR); exact hT; rfl) | ((with_reducible apply w_UR); exact hT; rfl) | ((first | with_reducible apply vXI | with_reducible apply vXS | with_reducible apply vXC); exact (LM_T hT)) | ((first | with_reducible apply vT0I | with_reducible apply vT9I | with_reducible apply vT0C | with_reducible apply vT9C | with_reducible apply vT0S | with_reducible apply vT9S); exact hT) | ((first | with_reducible apply vNR0 | with_reducible apply vNR1 | with_reducible apply vNR2 | with_reducible apply vNR3 | with_reducible apply vNI | with_reducible apply vNS | with_reducible apply vNC); (first | assumption | exact m39 | exact m44); exact (LM_T hT)) | ((first | with_reducible apply w_NA | with_reducible apply w_NW); exact (LM_T hT); (first | assumption | exact m39 | exact m44); rfl; rfl; (first | with_reducible rfl | with_reducible exact ixo _ | with_reducible exact ixoc _ _ | with_reducible exact ixom _ _ _ | with_reducible exact ixop _ _ | with_reducible exact ixod _ _ | assumption); omega) | ((first | with_reducible apply w_TA | with_reducible apply w_TW | with_reducible apply w_TJ | with_reducible apply w_TK); exact hT; rfl; rfl; (first | with_reducible rfl | with_reducible exact ixo _ | with_reducible exact ixoc _ _ | with_reducible exact ixom _ _ _ | with_reducible exact ixop _ _ | with_reducible exact ixod _ _ | assumption); omega))
          exact v_eq (listC0 hC q) (v_it rfl (v_rI ⟨eo_rf, rfl⟩))
        · have hM1 := hS1.2.1
          obtain ⟨hy1, hl, hlv1, htx1, hng1, -, -⟩ := id hM1
          have hL1 := LM_of hy1
          unfold fX10_plan
          refine v_ie q0 ?_
          repeat (first | with_reducible apply v_lt | ((with_reducible apply w_MR); exact hL1; rfl) | ((with_reducible apply w_lv); exact hL1; assumption) | ((with_reducible apply vMI); exact hL1) | ((with_reducible apply vMS); exact hL1) | ((with_reducible apply vMC); exact hL1) | ((with_reducible apply vMZ); exact hL1; (first | exact Or.inl rfl | exact Or.inr rfl | exact b2i_01 _ | assumption)) | ((first | with_reducible apply w_MA | with_reducible apply w_MW | with_reducible apply w_MY | with_reducible apply w_MB | with_reducible apply w_MJ | with_reducible apply w_MK); exact hL1; rfl; rfl; rfl; (first | with_reducible rfl | with_reducible exact ixo _ | with_reducible exact ixoc _ _ | with_reducible exact ixom _ _ _ | with_reducible exact ixop _ _ | with_reducible exact ixod _ _ | assumption); omega))
          exact v_eq (listM0 hM1 q) (v_it rfl (v_rI ⟨eo_rf, rfl⟩))
  · have out : ¬ x1 < -1 → ¬ x1 < 4 ∧ 3 < x1 := fun h1 => by
      have h0 : ¬ x1 < 0 := fun z => by
        apply hy9
        left
        apply Int32.toInt_inj.mp
        rw [lt_i] at h1 z
        have e1 : (-1 : Int32).toInt = -1 := by decide
        have e0 : (0 : Int32).toInt = 0 := by decide
        omega
      obtain ⟨j, hj, e⟩ := nI_of h0
      subst e
      have : 4 ≤ j := Nat.le_of_not_lt (fun z => hy9 (Or.inr ⟨j, z, rfl⟩))
      exact ⟨nI_nlt (b := 4) this hj, nI_lt (a := 3) (by omega) hj⟩
    have c26 : ∀ s : Int32, ok (fX9_plan_26 fu 0 x0 x1 s h) (fun z h' => eo (sQ t) h h' ∧ z = -1) := by
      intro s
      unfold fX9_plan_26
      refine v_if (fun e => v_rI ⟨eo_rf, rfl⟩) (fun e => ?_)
      exact v_ie (out e).1 (v_rI ⟨eo_rf, rfl⟩)
    have m13 : ∀ h1 : mh, ok (fX10_plan_13 fu 299 x0 x1 h1) (fun z h' => eo sR h1 h' ∧ z = -1) := by
      intro h1
      unfold fX10_plan_13
      refine v_eq (show fX10_in fu x1 (-1) 3 h1 = some (0, h1) from ?_) (v_it rfl (v_rI ⟨eo_rf, rfl⟩))
      refine ok_eq ?_
      unfold fX10_in
      exact v_if (fun e => v_rZ (Or.inl rfl) ⟨rfl, rfl⟩) (fun e => v_it (out e).2 (v_rZ (Or.inl rfl) ⟨rfl, rfl⟩))
    refine pr_q (-1) hS ?_ (fun h1 hS1 => ?_)
    · unfold fX9_plan
      refine v_if (fun e => ?_) (fun e => ?_)
      · unfold fX9_plan_10
        exact v_ie (by decide) (c26 _)
      · unfold fX9_plan_10
        refine v_it rfl ?_
        repeat (first | with_reducible apply v_lt | ((with_reducible apply vXR4); exact hT) | ((with_reducible apply w_XR); exact (LM_T hT); rfl) | ((with_reducible apply w_TR); exact hT; rfl) | ((with_reducible apply w_UR); exact hT; rfl) | ((first | with_reducible apply vXI | with_reducible apply vXS | with_reducible apply vXC); exact (LM_T hT)) | ((first | with_reducible apply vT0I | with_reducible apply vT9I | with_reducible apply vT0C | with_reducible apply vT9C | with_reducible apply vT0S | with_reducible apply vT9S); exact hT) | ((first | with_reducible apply vNR0 | with_reducible apply vNR1 | with_reducible apply vNR2 | with_reducible apply vNR3 | with_reducible apply vNI | with_reducible apply vNS | with_reducible apply vNC); (first | assumption | exact m39 | exact m44); exact (LM_T hT)) | ((first | with_reducible apply w_NA | with_reducible apply w_NW); exact (LM_T hT); (first | assumption | exact m39 | exact m44); rfl; rfl; (first | with_reducible rfl | with_reducible exact ixo _ | with_reducible exact ixoc _ _ | with_reducible exact ixom _ _ _ | with_reducible exact ixop _ _ | with_reducible exact ixod _ _ | assumption); omega) | ((first | with_reducible apply w_TA | with_reducible apply w_TW | with_reducible apply w_TJ | with_reducible apply w_TK); exact hT; rfl; rfl; (first | with_reducible rfl | with_reducible exact ixo _ | with_reducible exact ixoc _ _ | with_reducible exact ixom _ _ _ | with_reducible exact ixop _ _ | with_reducible exact ixod _ _ | assumption); omega))
        by_cases q : ∃ r, r < nL9 T ∧ x0 = nI r
        · obtain ⟨o, ho, rfl⟩ := q
          exact v_eq (listC1 hC ho) (v_ie (by decide) (c26 _))
        · exact v_eq (listC0 hC q) (v_it rfl (v_rI ⟨eo_rf, rfl⟩))
    · have hM1 := hS1.2.1
      obtain ⟨hy1, hl, hlv1, htx1, hng1, -, -⟩ := id hM1
      have hL1 := LM_of hy1
      unfold fX10_plan
      refine v_if (fun e => m13 h1) (fun e => ?_)
      repeat (first | with_reducible apply v_lt | ((with_reducible apply w_MR); exact hL1; rfl) | ((with_reducible apply w_lv); exact hL1; assumption) | ((with_reducible apply vMI); exact hL1) | ((with_reducible apply vMS); exact hL1) | ((with_reducible apply vMC); exact hL1) | ((with_reducible apply vMZ); exact hL1; (first | exact Or.inl rfl | exact Or.inr rfl | exact b2i_01 _ | assumption)) | ((first | with_reducible apply w_MA | with_reducible apply w_MW | with_reducible apply w_MY | with_reducible apply w_MB | with_reducible apply w_MJ | with_reducible apply w_MK); exact hL1; rfl; rfl; rfl; (first | with_reducible rfl | with_reducible exact ixo _ | with_reducible exact ixoc _ _ | with_reducible exact ixom _ _ _ | with_reducible exact ixop _ _ | with_reducible exact ixod _ _ | assumption); omega))
      by_cases q : ∃ r, r < nL9 T ∧ x0 = nI r
      · obtain ⟨o, ho, rfl⟩ := q
        exact v_eq (listM1 hM1 ho) (v_ie (by decide) (m13 h1))
      · exact v_eq (listM0 hM1 q) (v_it rfl (v_rI ⟨eo_rf, rfl⟩))
