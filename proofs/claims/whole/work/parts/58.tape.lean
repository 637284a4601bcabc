/-! THE TAPE -/
def byt (x : Int32) (i : Nat) : Int32 := (x >>> (nI (24 - 8 * i) &&& 31)).toInt8.toInt32.toInt8.toInt32
theorem ush_by {x : Int32} {n : Nat} (hn : n = 0 ∨ n = 8 ∨ n = 16 ∨ n = 24) : (ush x (nI n)).toInt8 = (x >>> (nI n &&& 31)).toInt8 := by
  have key : ∀ m, m ≤ 24 → (x.toBitVec >>> m).signExtend 8 = (x.toBitVec.sshiftRight m).signExtend 8 := by
    intro m hm
    apply BitVec.eq_of_getLsbD_eq
    intro i hi
    rw [BitVec.getLsbD_signExtend, BitVec.getLsbD_signExtend, BitVec.getLsbD_ushiftRight, BitVec.getLsbD_sshiftRight, if_pos (show i < 32 by omega), if_pos (show i < 32 by omega), if_pos (show m + i < 32 by omega), decide_eq_false (show ¬ 32 ≤ i by omega)]
    rfl
  apply Int8.toBitVec_inj.1
  rcases hn with rfl | rfl | rfl | rfl
  · exact key 0 (by omega)
  · exact key 8 (by omega)
  · exact key 16 (by omega)
  · exact key 24 (by omega)
theorem by_of (y : Int32) : ∃ n, n < 256 ∧ y.toInt8.toInt32 = byN n := by
  refine ⟨y.toInt8.toBitVec.toNat, y.toInt8.toBitVec.isLt, ?_⟩
  unfold byN
  congr 1
  apply Int8.toBitVec_inj.1
  show y.toInt8.toBitVec = (BitVec.ofNat 32 y.toInt8.toBitVec.toNat).signExtend 8
  apply BitVec.eq_of_getLsbD_eq
  intro i hi
  rw [BitVec.getLsbD_signExtend, if_pos (show i < 32 by omega), decide_eq_true hi, Bool.true_and, BitVec.getLsbD_ofNat, decide_eq_true (show i < 32 by omega), Bool.true_and]
  rfl
theorem byt_by (x : Int32) (i : Nat) : ∃ n, n < 256 ∧ byt x i = byN n := by_of _
def shI (j : Nat) : Int32 := if j = 4 then -8 else nI (24 - 8 * j)
theorem shI_s : ∀ j, j < 4 → shI j + (-8) = shI (j + 1) ∧ ¬ shI j < 0 ∧ shI j = nI (24 - 8 * j) := by decide +kernel
theorem put4 {x : Int32} {j : Nat} (hj : j < 4) : (ush x (shI j)).toInt8.toInt32.toInt8.toInt32 = byt x j := by
  unfold byt
  rw [(shI_s j hj).2.2, ush_by (by omega)]
theorem putC {t fu k : Nat} {x : Int32} {h : mh} (hT : LT t h.2) (hfu : 1000 ≤ fu) (hk : k + 4 ≤ 2000) (e : gI h 0 1 = nI k) : ok (fX9_putOnTape fu 0 x h) (fun _ h' => eo (fun a j => a = 1 ∨ (a = 0 ∧ j = 1)) h h' ∧ gI h' 0 1 = nI (k + 4) ∧ (∀ i, i < k → gI h' 1 i = gI h 1 i) ∧ ∀ i, i < 4 → gI h' 1 (k + i) = byt x i) := by
  unfold fX9_putOnTape
  refine itr_up (I := fun j s => s.1 = shI j ∧ eo (fun a j => a = 1 ∨ (a = 0 ∧ j = 1)) h s.2 ∧ gI s.2 0 1 = nI (k + j) ∧ (∀ i, i < k → gI s.2 1 i = gI h 1 i) ∧ ∀ i, i < j → gI s.2 1 (k + i) = byt x i) (P := fun R => ok R _) (n := 4) ?_ ?_ fu 0 _ (by omega) (by omega) ⟨rfl, eo_rf, e, fun i _ => rfl, fun i hi => by omega⟩
  · intro j s kk hj hI hk2
    obtain ⟨w, h1⟩ := s
    obtain ⟨e1, o1, e2, q1, q2⟩ := hI
    dsimp only at e1 o1 e2 q1 q2
    subst e1
    have hT1 := LT_eo o1 hT
    have hL1 := LM_T hT1
    unfold bX9_putOnTape_3
    dsimp only
    refine v_ie (shI_s j hj).2.1 ?_
    repeat (first | with_reducible apply v_lt | ((with_reducible apply vXR4); exact hT1) | ((with_reducible apply w_XR); exact (LM_T hT1); rfl) | ((with_reducible apply w_TR); exact hT1; rfl) | ((with_reducible apply w_UR); exact hT1; rfl) | ((first | with_reducible apply vXI | with_reducible apply vXS | with_reducible apply vXC); exact (LM_T hT1)) | ((first | with_reducible apply vT0I | with_reducible apply vT9I | with_reducible apply vT0C | with_reducible apply vT9C | with_reducible apply vT0S | with_reducible apply vT9S); exact hT1) | ((first | with_reducible apply vNR0 | with_reducible apply vNR1 | with_reducible apply vNR2 | with_reducible apply vNR3 | with_reducible apply vNI | with_reducible apply vNS | with_reducible apply vNC); (first | assumption | exact m39 | exact m44); exact (LM_T hT1)) | ((first | with_reducible apply w_NA | with_reducible apply w_NW); exact (LM_T hT1); (first | assumption | exact m39 | exact m44); rfl; rfl; (first | with_reducible rfl | with_reducible exact ixo _ | with_reducible exact ixoc _ _ | with_reducible exact ixom _ _ _ | with_reducible exact ixop _ _ | with_reducible exact ixod _ _ | assumption); omega) | ((first | with_reducible apply w_TA | with_reducible apply w_TW | with_reducible apply w_TJ | with_reducible apply w_TK); exact hT1; rfl; rfl; (first | with_reducible rfl | with_reducible exact ixo _ | with_reducible exact ixoc _ _ | with_reducible exact ixom _ _ _ | with_reducible exact ixop _ _ | with_reducible exact ixod _ _ | assumption); omega))
    rw [e2]
    refine v_ie (nI_ge (b := 2000) (by omega) (by omega)) ?_
    repeat (first | with_reducible apply v_lt | ((with_reducible apply vXR4); exact hT1) | ((with_reducible apply w_XR); exact (LM_T hT1); rfl) | ((with_reducible apply w_TR); exact hT1; rfl) | ((with_reducible apply w_UR); exact hT1; rfl) | ((first | with_reducible apply vXI | with_reducible apply vXS | with_reducible apply vXC); exact (LM_T hT1)) | ((first | with_reducible apply vT0I | with_reducible apply vT9I | with_reducible apply vT0C | with_reducible apply vT9C | with_reducible apply vT0S | with_reducible apply vT9S); exact hT1) | ((first | with_reducible apply vNR0 | with_reducible apply vNR1 | with_reducible apply vNR2 | with_reducible apply vNR3 | with_reducible apply vNI | with_reducible apply vNS | with_reducible apply vNC); (first | assumption | exact m39 | exact m44); exact (LM_T hT1)) | ((first | with_reducible apply w_NA | with_reducible apply w_NW); exact (LM_T hT1); (first | assumption | exact m39 | exact m44); rfl; rfl; (first | with_reducible rfl | with_reducible exact ixo _ | with_reducible exact ixoc _ _ | with_reducible exact ixom _ _ _ | with_reducible exact ixop _ _ | with_reducible exact ixod _ _ | assumption); omega) | ((first | with_reducible apply w_TA | with_reducible apply w_TW | with_reducible apply w_TJ | with_reducible apply w_TK); exact hT1; rfl; rfl; (first | with_reducible rfl | with_reducible exact ixo _ | with_reducible exact ixoc _ _ | with_reducible exact ixom _ _ _ | with_reducible exact ixop _ _ | with_reducible exact ixod _ _ | assumption); omega))
    apply vX1W hL1 (e := e2) (hj := by omega)
    repeat (first | with_reducible apply v_lt | ((with_reducible apply vXR4); exact hT1) | ((with_reducible apply w_XR); exact (LM_T hT1); rfl) | ((with_reducible apply w_TR); exact hT1; rfl) | ((with_reducible apply w_UR); exact hT1; rfl) | ((first | with_reducible apply vXI | with_reducible apply vXS | with_reducible apply vXC); exact (LM_T hT1)) | ((first | with_reducible apply vT0I | with_reducible apply vT9I | with_reducible apply vT0C | with_reducible apply vT9C | with_reducible apply vT0S | with_reducible apply vT9S); exact hT1) | ((first | with_reducible apply vNR0 | with_reducible apply vNR1 | with_reducible apply vNR2 | with_reducible apply vNR3 | with_reducible apply vNI | with_reducible apply vNS | with_reducible apply vNC); (first | assumption | exact m39 | exact m44); exact (LM_T hT1)) | ((first | with_reducible apply w_NA | with_reducible apply w_NW); exact (LM_T hT1); (first | assumption | exact m39 | exact m44); rfl; rfl; (first | with_reducible rfl | with_reducible exact ixo _ | with_reducible exact ixoc _ _ | with_reducible exact ixom _ _ _ | with_reducible exact ixop _ _ | with_reducible exact ixod _ _ | assumption); omega) | ((first | with_reducible apply w_TA | with_reducible apply w_TW | with_reducible apply w_TJ | with_reducible apply w_TK); exact hT1; rfl; rfl; (first | with_reducible rfl | with_reducible exact ixo _ | with_reducible exact ixoc _ _ | with_reducible exact ixom _ _ _ | with_reducible exact ixop _ _ | with_reducible exact ixod _ _ | assumption); omega))
    rw [gI_ne (by omega), e2, nI_1, put4 hj, (shI_s j hj).1]
    refine hk2 _ ⟨rfl, eo_uI (eo_uI o1 (by omega)) (by omega), gI_eq, fun i hi => ?_, fun i hi => ?_⟩
    · dsimp only
      rw [gI_ne (by omega), gI_ne (by omega)]
      exact q1 i hi
    · dsimp only
      by_cases z : i = j
      · subst z
        rw [gI_ne (by omega), gI_eq]
      · rw [gI_ne (by omega), gI_ne (by omega)]
        exact q2 i (by omega)
  · intro s kk hI
    obtain ⟨w, h1⟩ := s
    obtain ⟨e1, o1, e2, q1, q2⟩ := hI
    dsimp only at e1 o1 e2 q1 q2
    subst e1
    unfold bX9_putOnTape_3
    dsimp only
    exact v_it (by decide) (v_rV ⟨o1, e2, q1, q2⟩)
theorem putM {fu k : Nat} {x : Int32} {h : mh} (hL : LM h.2) (hfu : 1000 ≤ fu) (hk : k + 4 ≤ 2000) (e : gI h 299 2 = nI k) : ok (fX10_put fu 299 x h) (fun _ h' => eo (fun a j => a = 300 ∨ (a = 299 ∧ j = 2)) h h' ∧ gI h' 299 2 = nI (k + 4) ∧ (∀ i, i < k → gI h' 300 i = gI h 300 i) ∧ ∀ i, i < 4 → gI h' 300 (k + i) = byt x i) := by
  unfold fX10_put
  refine itr_up (I := fun j s => s.1 = shI j ∧ eo (fun a j => a = 300 ∨ (a = 299 ∧ j = 2)) h s.2 ∧ gI s.2 299 2 = nI (k + j) ∧ (∀ i, i < k → gI s.2 300 i = gI h 300 i) ∧ ∀ i, i < j → gI s.2 300 (k + i) = byt x i) (P := fun R => ok R _) (n := 4) ?_ ?_ fu 0 _ (by omega) (by omega) ⟨rfl, eo_rf, e, fun i _ => rfl, fun i hi => by omega⟩
  · intro j s kk hj hI hk2
    obtain ⟨w, h1⟩ := s
    obtain ⟨e1, o1, e2, q1, q2⟩ := hI
    dsimp only at e1 o1 e2 q1 q2
    subst e1
    have hL1 := LM_eo o1 hL
    unfold bX10_put_3
    dsimp only
    refine v_ie (shI_s j hj).2.1 ?_
    repeat (first | with_reducible apply v_lt | ((with_reducible apply w_MR); exact hL1; rfl) | ((with_reducible apply w_lv); exact hL1; assumption) | ((with_reducible apply vMI); exact hL1) | ((with_reducible apply vMS); exact hL1) | ((with_reducible apply vMC); exact hL1) | ((with_reducible apply vMZ); exact hL1; (first | exact Or.inl rfl | exact Or.inr rfl | exact b2i_01 _ | assumption)) | ((first | with_reducible apply w_MA | with_reducible apply w_MW | with_reducible apply w_MY | with_reducible apply w_MB | with_reducible apply w_MJ | with_reducible apply w_MK); exact hL1; rfl; rfl; rfl; (first | with_reducible rfl | with_reducible exact ixo _ | with_reducible exact ixoc _ _ | with_reducible exact ixom _ _ _ | with_reducible exact ixop _ _ | with_reducible exact ixod _ _ | assumption); omega))
    rw [gI_ne (by omega), e2, nI_1, (shI_s j hj).1]
    refine hk2 _ ⟨rfl, eo_uI (eo_uI o1 (by omega)) (by omega), gI_eq, fun i hi => ?_, fun i hi => ?_⟩
    · dsimp only
      rw [gI_ne (by omega), gI_ne (by omega)]
      exact q1 i hi
    · dsimp only
      by_cases z : i = j
      · subst z
        rw [gI_ne (by omega), gI_eq, (shI_s i hj).2.2]
        rfl
      · rw [gI_ne (by omega), gI_ne (by omega)]
        exact q2 i (by omega)
  · intro s kk hI
    obtain ⟨w, h1⟩ := s
    obtain ⟨e1, o1, e2, q1, q2⟩ := hI
    dsimp only at e1 o1 e2 q1 q2
    subst e1
    unfold bX10_put_3
    dsimp only
    exact v_it (by decide) (v_rV ⟨o1, e2, q1, q2⟩)
def setTp (D : SD) (k : Nat) : SD := (k, dU D, dX D, dP D, dH D, dS D, dT D, dW D)
/-- nothing but the tape changes -/
theorem Sm_tape {S : Nat → Nat → Prop} {t u l : Nat} {T : AT} {N : AN} {D : SD} {h h1 : mh} {k : Nat} (hS : Sm t u l T N D h) (o : eo S h h1) (hs : ∀ a j, S a j → (a = 1 ∨ (a = 0 ∧ j = 1)) ∨ (a = 300 ∨ (a = 299 ∧ j = 2))) (hT : rTp k h1) : Sm t u l T N (setTp D k) h1 := by
  obtain ⟨q1, q2, q3, q4, q5, q6, q7⟩ := hS
  have ht := t_hi q1.1
  refine ⟨?_, ?_, hT, rUn_eo o (fun a j z w => ?_) q4, rSl_eo o (fun a j z w => ?_) q5, rTo_eo o (fun a j z w => ?_) q6, rKy_eo o q7⟩
  · obtain ⟨p1, p2, p3, p4, p5, p6⟩ := q1
    exact ⟨Ly_eo p1 o, txC_eo o (fun a _ _ _ k z => by have := hs _ _ z; omega) p2, ngC_eo o (fun a _ _ k z => by have := hs _ _ z; omega) p3, p4, p5, p6⟩
  · obtain ⟨p1, p2, p3, p4, p5, p6, p7⟩ := q2
    exact ⟨Ly_eo p1 o, p2, by rw [o.2 _ _ (fun z => by have := hs _ _ z; omega)]; exact p3, txM_eo o (fun a h1 h2 k z => by have := hs _ _ z; omega) p4, ngM_eo o (fun k z => by have := hs _ _ z; omega) p5, p6, p7⟩
  all_goals
    have := hs _ _ z
    omega
theorem st_back {fu : Nat} (h : mh) (x0 : Int32) (hS : Sim h) : pr Sim (fX9_back fu 0 x0 h) (fun h1 => fX10_back fu 299 x0 h1) := by
  obtain ⟨t, u, l, T, N, D, hS⟩ := hS
  have hC := hS.1
  have hT := LT_of hC.1
  obtain ⟨hy, htx, hng, -, hwT, hwN⟩ := id hC
  have hr6 := hwT.1
  have ho6 := hwT.2.1
  have hL := LM_T hT
  obtain ⟨t1, t2, t3, t4, t5⟩ := hS.2.2.1
  by_cases q : ∃ n, n < dK D + 1 ∧ x0 = nI n
  · obtain ⟨n, hn, rfl⟩ := q
    have e : nI (dK D) - nI n = nI (dK D - n) := pk_sub (by omega)
    refine ⟨nI (dK D - n), uI h 0 1 (nI (dK D - n)), uI (uI h 0 1 (nI (dK D - n))) 299 2 (nI (dK D - n)), ok_eq ?_, ok_eq ?_, ⟨t, u, hy⟩, t, u, l, T, N, setTp D (dK D - n), ?_⟩
    · unfold fX9_back
      refine v_ie (nI_pos (by omega)) ?_
      repeat (first | with_reducible apply v_lt | ((with_reducible apply vXR4); exact hT) | ((with_reducible apply w_XR); exact (LM_T hT); rfl) | ((with_reducible apply w_TR); exact hT; rfl) | ((with_reducible apply w_UR); exact hT; rfl) | ((first | with_reducible apply vXI | with_reducible apply vXS | with_reducible apply vXC); exact (LM_T hT)) | ((first | with_reducible apply vT0I | with_reducible apply vT9I | with_reducible apply vT0C | with_reducible apply vT9C | with_reducible apply vT0S | with_reducible apply vT9S); exact hT) | ((first | with_reducible apply vNR0 | with_reducible apply vNR1 | with_reducible apply vNR2 | with_reducible apply vNR3 | with_reducible apply vNI | with_reducible apply vNS | with_reducible apply vNC); (first | assumption | exact m39 | exact m44); exact (LM_T hT)) | ((first | with_reducible apply w_NA | with_reducible apply w_NW); exact (LM_T hT); (first | assumption | exact m39 | exact m44); rfl; rfl; (first | with_reducible rfl | with_reducible exact ixo _ | with_reducible exact ixoc _ _ | with_reducible exact ixom _ _ _ | with_reducible exact ixop _ _ | with_reducible exact ixod _ _ | assumption); omega) | ((first | with_reducible apply w_TA | with_reducible apply w_TW | with_reducible apply w_TJ | with_reducible apply w_TK); exact hT; rfl; rfl; (first | with_reducible rfl | with_reducible exact ixo _ | with_reducible exact ixoc _ _ | with_reducible exact ixom _ _ _ | with_reducible exact ixop _ _ | with_reducible exact ixod _ _ | assumption); omega))
      rw [t2]
      refine v_it (nI_le (by omega) (by omega)) ?_
      repeat (first | with_reducible apply v_lt | ((with_reducible apply vXR4); exact hT) | ((with_reducible apply w_XR); exact (LM_T hT); rfl) | ((with_reducible apply w_TR); exact hT; rfl) | ((with_reducible apply w_UR); exact hT; rfl) | ((first | with_reducible apply vXI | with_reducible apply vXS | with_reducible apply vXC); exact (LM_T hT)) | ((first | with_reducible apply vT0I | with_reducible apply vT9I | with_reducible apply vT0C | with_reducible apply vT9C | with_reducible apply vT0S | with_reducible apply vT9S); exact hT) | ((first | with_reducible apply vNR0 | with_reducible apply vNR1 | with_reducible apply vNR2 | with_reducible apply vNR3 | with_reducible apply vNI | with_reducible apply vNS | with_reducible apply vNC); (first | assumption | exact m39 | exact m44); exact (LM_T hT)) | ((first | with_reducible apply w_NA | with_reducible apply w_NW); exact (LM_T hT); (first | assumption | exact m39 | exact m44); rfl; rfl; (first | with_reducible rfl | with_reducible exact ixo _ | with_reducible exact ixoc _ _ | with_reducible exact ixom _ _ _ | with_reducible exact ixop _ _ | with_reducible exact ixod _ _ | assumption); omega) | ((first | with_reducible apply w_TA | with_reducible apply w_TW | with_reducible apply w_TJ | with_reducible apply w_TK); exact hT; rfl; rfl; (first | with_reducible rfl | with_reducible exact ixo _ | with_reducible exact ixoc _ _ | with_reducible exact ixom _ _ _ | with_reducible exact ixop _ _ | with_reducible exact ixod _ _ | assumption); omega))
      rw [t2, e, gI_eq]
      exact v_rI ⟨rfl, rfl⟩
    · unfold fX10_back
      refine v_ie (nI_pos (by omega)) ?_
      repeat (first | with_reducible apply v_lt | ((with_reducible apply w_MR); exact hL; rfl) | ((with_reducible apply w_lv); exact hL; assumption) | ((with_reducible apply vMI); exact hL) | ((with_reducible apply vMS); exact hL) | ((with_reducible apply vMC); exact hL) | ((with_reducible apply vMZ); exact hL; (first | exact Or.inl rfl | exact Or.inr rfl | exact b2i_01 _ | assumption)) | ((first | with_reducible apply w_MA | with_reducible apply w_MW | with_reducible apply w_MY | with_reducible apply w_MB | with_reducible apply w_MJ | with_reducible apply w_MK); exact hL; rfl; rfl; rfl; (first | with_reducible rfl | with_reducible exact ixo _ | with_reducible exact ixoc _ _ | with_reducible exact ixom _ _ _ | with_reducible exact ixop _ _ | with_reducible exact ixod _ _ | assumption); omega))
      rw [gI_ne (by omega), t3]
      refine v_it (nI_le (by omega) (by omega)) ?_
      repeat (first | with_reducible apply v_lt | ((with_reducible apply w_MR); exact hL; rfl) | ((with_reducible apply w_lv); exact hL; assumption) | ((with_reducible apply vMI); exact hL) | ((with_reducible apply vMS); exact hL) | ((with_reducible apply vMC); exact hL) | ((with_reducible apply vMZ); exact hL; (first | exact Or.inl rfl | exact Or.inr rfl | exact b2i_01 _ | assumption)) | ((first | with_reducible apply w_MA | with_reducible apply w_MW | with_reducible apply w_MY | with_reducible apply w_MB | with_reducible apply w_MJ | with_reducible apply w_MK); exact hL; rfl; rfl; rfl; (first | with_reducible rfl | with_reducible exact ixo _ | with_reducible exact ixoc _ _ | with_reducible exact ixom _ _ _ | with_reducible exact ixop _ _ | with_reducible exact ixod _ _ | assumption); omega))
      simp (disch := omega) only [gI_eq, gI_ne, t3, e]
      exact v_rI ⟨rfl, rfl⟩
    · refine Sm_tape (S := fun a j => (a = 0 ∧ j = 1) ∨ (a = 299 ∧ j = 2)) hS (eo_uI (eo_uI eo_rf (by omega)) (by omega)) (fun a j z => by omega) ⟨by omega, ?_, gI_eq, fun i hi => ?_, ?_⟩
      · rw [gI_ne (by omega), gI_eq]
      · rw [gI_ne (by omega), gI_ne (by omega), gI_ne (by omega), gI_ne (by omega)]
        exact t4 i (by omega)
      · rw [gI_ne (by omega), gI_ne (by omega), gI_ne (by omega), gI_ne (by omega)]
        exact t5
  · refine pr_q (-1) hS ?_ (fun h1 hS1 => ?_)
    · unfold fX9_back
      refine v_if (fun e => v_rI ⟨eo_rf, rfl⟩) (fun e => ?_)
      repeat (first | with_reducible apply v_lt | ((with_reducible apply vXR4); exact hT) | ((with_reducible apply w_XR); exact (LM_T hT); rfl) | ((with_reducible apply w_TR); exact hT; rfl) | ((with_reducible apply w_UR); exact hT; rfl) | ((first | with_reducible apply vXI | with_reducible apply vXS | with_reducible apply vXC); exact (LM_T hT)) | ((first | with_reducible apply vT0I | with_reducible apply vT9I | with_reducible apply vT0C | with_reducible apply vT9C | with_reducible apply vT0S | with_reducible apply vT9S); exact hT) | ((first | with_reducible apply vNR0 | with_reducible apply vNR1 | with_reducible apply vNR2 | with_reducible apply vNR3 | with_reducible apply vNI | with_reducible apply vNS | with_reducible apply vNC); (first | assumption | exact m39 | exact m44); exact (LM_T hT)) | ((first | with_reducible apply w_NA | with_reducible apply w_NW); exact (LM_T hT); (first | assumption | exact m39 | exact m44); rfl; rfl; (first | with_reducible rfl | with_reducible exact ixo _ | with_reducible exact ixoc _ _ | with_reducible exact ixom _ _ _ | with_reducible exact ixop _ _ | with_reducible exact ixod _ _ | assumption); omega) | ((first | with_reducible apply w_TA | with_reducible apply w_TW | with_reducible apply w_TJ | with_reducible apply w_TK); exact hT; rfl; rfl; (first | with_reducible rfl | with_reducible exact ixo _ | with_reducible exact ixoc _ _ | with_reducible exact ixom _ _ _ | with_reducible exact ixop _ _ | with_reducible exact ixod _ _ | assumption); omega))
      rw [t2]
      exact v_ie (Int32.not_le.mpr (out_k q e (by omega))) (v_rI ⟨eo_rf, rfl⟩)
    · have hM1 := hS1.2.1
      obtain ⟨hy1, hl, hlv1, htx1, hng1, -, -⟩ := id hM1
      have hL1 := LM_of hy1
      unfold fX10_back
      refine v_if (fun e => v_rI ⟨eo_rf, rfl⟩) (fun e => ?_)
      repeat (first | with_reducible apply v_lt | ((with_reducible apply w_MR); exact hL1; rfl) | ((with_reducible apply w_lv); exact hL1; assumption) | ((with_reducible apply vMI); exact hL1) | ((with_reducible apply vMS); exact hL1) | ((with_reducible apply vMC); exact hL1) | ((with_reducible apply vMZ); exact hL1; (first | exact Or.inl rfl | exact Or.inr rfl | exact b2i_01 _ | assumption)) | ((first | with_reducible apply w_MA | with_reducible apply w_MW | with_reducible apply w_MY | with_reducible apply w_MB | with_reducible apply w_MJ | with_reducible apply w_MK); exact hL1; rfl; rfl; rfl; (first | with_reducible rfl | with_reducible exact ixo _ | with_reducible exact ixoc _ _ | with_reducible exact ixom _ _ _ | with_reducible exact ixop _ _ | with_reducible exact ixod _ _ | assumption); omega))
      rw [hS1.2.2.1.2.2.1]
      exact v_ie (Int32.not_le.mpr (out_k q e (by omega))) (v_rI ⟨eo_rf, rfl⟩)
def bt5 (a b c d e : Int32) (i : Nat) : Int32 := byt (if i < 4 then a else if i < 8 then b else if i < 12 then c else if i < 16 then d else e) (i % 4)
def FC (h0 : mh) (k : Nat) (B : Nat → Int32) (m : Nat) (h : mh) : Prop := eo (fun a j => a = 1 ∨ (a = 0 ∧ j = 1)) h0 h ∧ gI h 0 1 = nI (k + 4 * m) ∧ (∀ i, i < k → gI h 1 i = gI h0 1 i) ∧ ∀ i, i < 4 * m → gI h 1 (k + i) = B i
def FM (h0 : mh) (k : Nat) (B : Nat → Int32) (m : Nat) (h : mh) : Prop := eo (fun a j => a = 300 ∨ (a = 299 ∧ j = 2)) h0 h ∧ gI h 299 2 = nI (k + 4 * m) ∧ (∀ i, i < k → gI h 300 i = gI h0 300 i) ∧ ∀ i, i < 4 * m → gI h 300 (k + i) = B i
theorem feedC1 {t fu k m : Nat} {x : Int32} {h0 h : mh} {B : Nat → Int32} (hT : LT t h0.2) (hfu : 1000 ≤ fu) (hk : k + 4 * m + 4 ≤ 2000) (hB : ∀ i, i < 4 → byt x i = B (4 * m + i)) (q : FC h0 k B m h) : ok (fX9_putOnTape fu 0 x h) (fun _ h' => FC h0 k B (m + 1) h') := by
  obtain ⟨o, e, q1, q2⟩ := q
  refine ok_mono (putC (LT_eo o hT) hfu hk e) (fun _ h' z => ?_)
  obtain ⟨z1, z2, z3, z4⟩ := z
  refine ⟨eo_tr o z1, ?_, fun i hi => ?_, fun i hi => ?_⟩
  · rw [z2]
    congr 1
  · rw [z3 i (by omega)]
    exact q1 i hi
  · by_cases w : i < 4 * m
    · rw [z3 (k + i) (by omega)]
      exact q2 i w
    · have := z4 (i - 4 * m) (by omega)
      rw [hB (i - 4 * m) (by omega), show k + 4 * m + (i - 4 * m) = k + i from by omega, show 4 * m + (i - 4 * m) = i from by omega] at this
      exact this
theorem feedM1 {fu k m : Nat} {x : Int32} {h0 h : mh} {B : Nat → Int32} (hL : LM h0.2) (hfu : 1000 ≤ fu) (hk : k + 4 * m + 4 ≤ 2000) (hB : ∀ i, i < 4 → byt x i = B (4 * m + i)) (q : FM h0 k B m h) : ok (fX10_put fu 299 x h) (fun _ h' => FM h0 k B (m + 1) h') := by
  obtain ⟨o, e, q1, q2⟩ := q
  refine ok_mono (putM (LM_eo o hL) hfu hk e) (fun _ h' z => ?_)
  obtain ⟨z1, z2, z3, z4⟩ := z
  refine ⟨eo_tr o z1, ?_, fun i hi => ?_, fun i hi => ?_⟩
  · rw [z2]
    congr 1
  · rw [z3 i (by omega)]
    exact q1 i hi
  · by_cases w : i < 4 * m
    · rw [z3 (k + i) (by omega)]
      exact q2 i w
    · have := z4 (i - 4 * m) (by omega)
      rw [hB (i - 4 * m) (by omega), show k + 4 * m + (i - 4 * m) = k + i from by omega, show 4 * m + (i - 4 * m) = i from by omega] at this
      exact this
theorem four {P : Nat → Prop} (h0 : P 0) (h1 : P 1) (h2 : P 2) (h3 : P 3) : ∀ i, i < 4 → P i := by
  intro i hi
  rcases (show i = 0 ∨ i = 1 ∨ i = 2 ∨ i = 3 by omega) with rfl | rfl | rfl | rfl <;> assumption
theorem st_feed {fu : Nat} (hfu : 1000 ≤ fu) (h : mh) (x0 x1 x2 x3 x4 : Int32) (hS : Sim h) : pr Sim (fX9_feed fu 0 x0 x1 x2 x3 x4 h) (fun h1 => fX10_feed fu 299 x0 x1 x2 x3 x4 h1) := by
  obtain ⟨t, u, l, T, N, D, hS⟩ := hS
  have hC := hS.1
  have hT := LT_of hC.1
  obtain ⟨hy, htx, hng, -, hwT, hwN⟩ := id hC
  have hr6 := hwT.1
  have ho6 := hwT.2.1
  have hL := LM_T hT
  obtain ⟨t1, t2, t3, t4, t5⟩ := hS.2.2.1
  have e20 : nI (dK D) + 20 = nI (dK D + 20) := ixd _ 20
  by_cases q : dK D + 20 ≤ 2000
  · have b0 := four (P := fun i => byt x0 i = bt5 x0 x1 x2 x3 x4 (4 * 0 + i)) rfl rfl rfl rfl
    have b1 := four (P := fun i => byt x1 i = bt5 x0 x1 x2 x3 x4 (4 * 1 + i)) rfl rfl rfl rfl
    have b2 := four (P := fun i => byt x2 i = bt5 x0 x1 x2 x3 x4 (4 * 2 + i)) rfl rfl rfl rfl
    have b3 := four (P := fun i => byt x3 i = bt5 x0 x1 x2 x3 x4 (4 * 3 + i)) rfl rfl rfl rfl
    have b4 := four (P := fun i => byt x4 i = bt5 x0 x1 x2 x3 x4 (4 * 4 + i)) rfl rfl rfl rfl
    have hA : ok (fX9_feed fu 0 x0 x1 x2 x3 x4 h) (fun x h' => FC h (dK D) (bt5 x0 x1 x2 x3 x4) 5 h' ∧ x = nI (dK D + 20)) := by
      unfold fX9_feed
      repeat (first | with_reducible apply v_lt | ((with_reducible apply vXR4); exact hT) | ((with_reducible apply w_XR); exact (LM_T hT); rfl) | ((with_reducible apply w_TR); exact hT; rfl) | ((with_reducible apply w_UR); exact hT; rfl) | ((first | with_reducible apply vXI | with_reducible apply vXS | with_reducible apply vXC); exact (LM_T hT)) | ((first | with_reducible apply vT0I | with_reducible apply vT9I | with_reducible apply vT0C | with_reducible apply vT9C | with_reducible apply vT0S | with_reducible apply vT9S); exact hT) | ((first | with_reducible apply vNR0 | with_reducible apply vNR1 | with_reducible apply vNR2 | with_reducible apply vNR3 | with_reducible apply vNI | with_reducible apply vNS | with_reducible apply vNC); (first | assumption | exact m39 | exact m44); exact (LM_T hT)) | ((first | with_reducible apply w_NA | with_reducible apply w_NW); exact (LM_T hT); (first | assumption | exact m39 | exact m44); rfl; rfl; (first | with_reducible rfl | with_reducible exact ixo _ | with_reducible exact ixoc _ _ | with_reducible exact ixom _ _ _ | with_reducible exact ixop _ _ | with_reducible exact ixod _ _ | assumption); omega) | ((first | with_reducible apply w_TA | with_reducible apply w_TW | with_reducible apply w_TJ | with_reducible apply w_TK); exact hT; rfl; rfl; (first | with_reducible rfl | with_reducible exact ixo _ | with_reducible exact ixoc _ _ | with_reducible exact ixom _ _ _ | with_reducible exact ixop _ _ | with_reducible exact ixod _ _ | assumption); omega))
      rw [t2, e20]
      refine v_it (nI_le (b := 2000) q (by decide)) ?_
      repeat (first | with_reducible apply v_lt | ((with_reducible apply vXR4); exact hT) | ((with_reducible apply w_XR); exact (LM_T hT); rfl) | ((with_reducible apply w_TR); exact hT; rfl) | ((with_reducible apply w_UR); exact hT; rfl) | ((first | with_reducible apply vXI | with_reducible apply vXS | with_reducible apply vXC); exact (LM_T hT)) | ((first | with_reducible apply vT0I | with_reducible apply vT9I | with_reducible apply vT0C | with_reducible apply vT9C | with_reducible apply vT0S | with_reducible apply vT9S); exact hT) | ((first | with_reducible apply vNR0 | with_reducible apply vNR1 | with_reducible apply vNR2 | with_reducible apply vNR3 | with_reducible apply vNI | with_reducible apply vNS | with_reducible apply vNC); (first | assumption | exact m39 | exact m44); exact (LM_T hT)) | ((first | with_reducible apply w_NA | with_reducible apply w_NW); exact (LM_T hT); (first | assumption | exact m39 | exact m44); rfl; rfl; (first | with_reducible rfl | with_reducible exact ixo _ | with_reducible exact ixoc _ _ | with_reducible exact ixom _ _ _ | with_reducible exact ixop _ _ | with_reducible exact ixod _ _ | assumption); omega) | ((first | with_reducible apply w_TA | with_reducible apply w_TW | with_reducible apply w_TJ | with_reducible apply w_TK); exact hT; rfl; rfl; (first | with_reducible rfl | with_reducible exact ixo _ | with_reducible exact ixoc _ _ | with_reducible exact ixom _ _ _ | with_reducible exact ixop _ _ | with_reducible exact ixod _ _ | assumption); omega))
      refine v_bd (feedC1 (k := dK D) (m := 0) hT hfu (by omega) b0 ⟨eo_rf, t2, fun i _ => rfl, fun i hi => by omega⟩) (fun _ h1 q1 => ?_)
      have hT1 := LT_eo q1.1 hT
      repeat (first | with_reducible apply v_lt | ((with_reducible apply vXR4); exact hT1) | ((with_reducible apply w_XR); exact (LM_T hT1); rfl) | ((with_reducible apply w_TR); exact hT1; rfl) | ((with_reducible apply w_UR); exact hT1; rfl) | ((first | with_reducible apply vXI | with_reducible apply vXS | with_reducible apply vXC); exact (LM_T hT1)) | ((first | with_reducible apply vT0I | with_reducible apply vT9I | with_reducible apply vT0C | with_reducible apply vT9C | with_reducible apply vT0S | with_reducible apply vT9S); exact hT1) | ((first | with_reducible apply vNR0 | with_reducible apply vNR1 | with_reducible apply vNR2 | with_reducible apply vNR3 | with_reducible apply vNI | with_reducible apply vNS | with_reducible apply vNC); (first | assumption | exact m39 | exact m44); exact (LM_T hT1)) | ((first | with_reducible apply w_NA | with_reducible apply w_NW); exact (LM_T hT1); (first | assumption | exact m39 | exact m44); rfl; rfl; (first | with_reducible rfl | with_reducible exact ixo _ | with_reducible exact ixoc _ _ | with_reducible exact ixom _ _ _ | with_reducible exact ixop _ _ | with_reducible exact ixod _ _ | assumption); omega) | ((first | with_reducible apply w_TA | with_reducible apply w_TW | with_reducible apply w_TJ | with_reducible apply w_TK); exact hT1; rfl; rfl; (first | with_reducible rfl | with_reducible exact ixo _ | with_reducible exact ixoc _ _ | with_reducible exact ixom _ _ _ | with_reducible exact ixop _ _ | with_reducible exact ixod _ _ | assumption); omega))
      refine v_bd (feedC1 (k := dK D) (m := 1) hT hfu (by omega) b1 q1) (fun _ h1 q1 => ?_)
      have hT1 := LT_eo q1.1 hT
      repeat (first | with_reducible apply v_lt | ((with_reducible apply vXR4); exact hT1) | ((with_reducible apply w_XR); exact (LM_T hT1); rfl) | ((with_reducible apply w_TR); exact hT1; rfl) | ((with_reducible apply w_UR); exact hT1; rfl) | ((first | with_reducible apply vXI | with_reducible apply vXS | with_reducible apply vXC); exact (LM_T hT1)) | ((first | with_reducible apply vT0I | with_reducible apply vT9I | with_reducible apply vT0C | with_reducible apply vT9C | with_reducible apply vT0S | with_reducible apply vT9S); exact hT1) | ((first | with_reducible apply vNR0 | with_reducible apply vNR1 | with_reducible apply vNR2 | with_reducible apply vNR3 | with_reducible apply vNI | with_reducible apply vNS | with_reducible apply vNC); (first | assumption | exact m39 | exact m44); exact (LM_T hT1)) | ((first | with_reducible apply w_NA | with_reducible apply w_NW); exact (LM_T hT1); (first | assumption | exact m39 | exact m44); rfl; rfl; (first | with_reducible rfl | with_reducible exact ixo _ | with_reducible exact ixoc _ _ | with_reducible exact ixom _ _ _ | with_reducible exact ixop _ _ | with_reducible exact ixod _ _ | assumption); omega) | ((first | with_reducible apply w_TA | with_reducible apply w_TW | with_reducible apply w_TJ | with_reducible apply w_TK); exact hT1; rfl; rfl; (first | with_reducible rfl | with_reducible exact ixo _ | with_reducible exact ixoc _ _ | with_reducible exact ixom _ _ _ | with_reducible exact ixop _ _ | with_reducible exact ixod _ _ | assumption); omega))
      refine v_bd (feedC1 (k := dK D) (m := 2) hT hfu (by omega) b2 q1) (fun _ h1 q1 => ?_)
      have hT1 := LT_eo q1.1 hT
      repeat (first | with_reducible apply v_lt | ((with_reducible apply vXR4); exact hT1) | ((with_reducible apply w_XR); exact (LM_T hT1); rfl) | ((with_reducible apply w_TR); exact hT1; rfl) | ((with_reducible apply w_UR); exact hT1; rfl) | ((first | with_reducible apply vXI | with_reducible apply vXS | with_reducible apply vXC); exact (LM_T hT1)) | ((first | with_reducible apply vT0I | with_reducible apply vT9I | with_reducible apply vT0C | with_reducible apply vT9C | with_reducible apply vT0S | with_reducible apply vT9S); exact hT1) | ((first | with_reducible apply vNR0 | with_reducible apply vNR1 | with_reducible apply vNR2 | with_reducible apply vNR3 | with_reducible apply vNI | with_reducible apply vNS | with_reducible apply vNC); (first | assumption | exact m39 | exact m44); exact (LM_T hT1)) | ((first | with_reducible apply w_NA | with_reducible apply w_NW); exact (LM_T hT1); (first | assumption | exact m39 | exact m44); rfl; rfl; (first | with_reducible rfl | with_reducible exact ixo _ | with_reducible exact ixoc _ _ | with_reducible exact ixom _ _ _ | with_reducible exact ixop _ _ | with_reducible exact ixod _ _ | assumption); omega) | ((first | with_reducible apply w_TA | with_reducible apply w_TW | with_reducible apply w_TJ | with_reducible apply w_TK); exact hT1; rfl; rfl; (first | with_reducible rfl | with_reducible exact ixo _ | with_reducible exact ixoc _ _ | with_reducible exact ixom _ _ _ | with_reducible exact ixop _ _ | with_reducible exact ixod _ _ | assumption); omega))
      refine v_bd (feedC1 (k := dK D) (m := 3) hT hfu (by omega) b3 q1) (fun _ h1 q1 => ?_)
      have hT1 := LT_eo q1.1 hT
      repeat (first | with_reducible apply v_lt | ((with_reducible apply vXR4); exact hT1) | ((with_reducible apply w_XR); exact (LM_T hT1); rfl) | ((with_reducible apply w_TR); exact hT1; rfl) | ((with_reducible apply w_UR); exact hT1; rfl) | ((first | with_reducible apply vXI | with_reducible apply vXS | with_reducible apply vXC); exact (LM_T hT1)) | ((first | with_reducible apply vT0I | with_reducible apply vT9I | with_reducible apply vT0C | with_reducible apply vT9C | with_reducible apply vT0S | with_reducible apply vT9S); exact hT1) | ((first | with_reducible apply vNR0 | with_reducible apply vNR1 | with_reducible apply vNR2 | with_reducible apply vNR3 | with_reducible apply vNI | with_reducible apply vNS | with_reducible apply vNC); (first | assumption | exact m39 | exact m44); exact (LM_T hT1)) | ((first | with_reducible apply w_NA | with_reducible apply w_NW); exact (LM_T hT1); (first | assumption | exact m39 | exact m44); rfl; rfl; (first | with_reducible rfl | with_reducible exact ixo _ | with_reducible exact ixoc _ _ | with_reducible exact ixom _ _ _ | with_reducible exact ixop _ _ | with_reducible exact ixod _ _ | assumption); omega) | ((first | with_reducible apply w_TA | with_reducible apply w_TW | with_reducible apply w_TJ | with_reducible apply w_TK); exact hT1; rfl; rfl; (first | with_reducible rfl | with_reducible exact ixo _ | with_reducible exact ixoc _ _ | with_reducible exact ixom _ _ _ | with_reducible exact ixop _ _ | with_reducible exact ixod _ _ | assumption); omega))
      refine v_bd (feedC1 (k := dK D) (m := 4) hT hfu (by omega) b4 q1) (fun _ h1 q1 => ?_)
      have hT1 := LT_eo q1.1 hT
      repeat (first | with_reducible apply v_lt | ((with_reducible apply vXR4); exact hT1) | ((with_reducible apply w_XR); exact (LM_T hT1); rfl) | ((with_reducible apply w_TR); exact hT1; rfl) | ((with_reducible apply w_UR); exact hT1; rfl) | ((first | with_reducible apply vXI | with_reducible apply vXS | with_reducible apply vXC); exact (LM_T hT1)) | ((first | with_reducible apply vT0I | with_reducible apply vT9I | with_reducible apply vT0C | with_reducible apply vT9C | with_reducible apply vT0S | with_reducible apply vT9S); exact hT1) | ((first | with_reducible apply vNR0 | with_reducible apply vNR1 | with_reducible apply vNR2 | with_reducible apply vNR3 | with_reducible apply vNI | with_reducible apply vNS | with_reducible apply vNC); (first | assumption | exact m39 | exact m44); exact (LM_T hT1)) | ((first | with_reducible apply w_NA | with_reducible apply w_NW); exact (LM_T hT1); (first | assumption | exact m39 | exact m44); rfl; rfl; (first | with_reducible rfl | with_reducible exact ixo _ | with_reducible exact ixoc _ _ | with_reducible exact ixom _ _ _ | with_reducible exact ixop _ _ | with_reducible exact ixod _ _ | assumption); omega) | ((first | with_reducible apply w_TA | with_reducible apply w_TW | with_reducible apply w_TJ | with_reducible apply w_TK); exact hT1; rfl; rfl; (first | with_reducible rfl | with_reducible exact ixo _ | with_reducible exact ixoc _ _ | with_reducible exact ixom _ _ _ | with_reducible exact ixop _ _ | with_reducible exact ixod _ _ | assumption); omega))
      exact v_rI ⟨q1, q1.2.1⟩
    obtain ⟨_, h1, eA, qA, rfl⟩ := hA
    have hL1 := LM_eo qA.1 hL
    have t3' : gI h1 299 2 = nI (dK D) := by
      rw [qA.1.2 _ _ (by omega)]
      exact t3
    have hB : ok (fX10_feed fu 299 x0 x1 x2 x3 x4 h1) (fun x h' => FM h1 (dK D) (bt5 x0 x1 x2 x3 x4) 5 h' ∧ x = nI (dK D + 20)) := by
      unfold fX10_feed
      repeat (first | with_reducible apply v_lt | ((with_reducible apply w_MR); exact hL1; rfl) | ((with_reducible apply w_lv); exact hL1; assumption) | ((with_reducible apply vMI); exact hL1) | ((with_reducible apply vMS); exact hL1) | ((with_reducible apply vMC); exact hL1) | ((with_reducible apply vMZ); exact hL1; (first | exact Or.inl rfl | exact Or.inr rfl | exact b2i_01 _ | assumption)) | ((first | with_reducible apply w_MA | with_reducible apply w_MW | with_reducible apply w_MY | with_reducible apply w_MB | with_reducible apply w_MJ | with_reducible apply w_MK); exact hL1; rfl; rfl; rfl; (first | with_reducible rfl | with_reducible exact ixo _ | with_reducible exact ixoc _ _ | with_reducible exact ixom _ _ _ | with_reducible exact ixop _ _ | with_reducible exact ixod _ _ | assumption); omega))
      rw [t3', e20]
      refine v_it (nI_le (b := 2000) q (by decide)) ?_
      repeat (first | with_reducible apply v_lt | ((with_reducible apply w_MR); exact hL1; rfl) | ((with_reducible apply w_lv); exact hL1; assumption) | ((with_reducible apply vMI); exact hL1) | ((with_reducible apply vMS); exact hL1) | ((with_reducible apply vMC); exact hL1) | ((with_reducible apply vMZ); exact hL1; (first | exact Or.inl rfl | exact Or.inr rfl | exact b2i_01 _ | assumption)) | ((first | with_reducible apply w_MA | with_reducible apply w_MW | with_reducible apply w_MY | with_reducible apply w_MB | with_reducible apply w_MJ | with_reducible apply w_MK); exact hL1; rfl; rfl; rfl; (first | with_reducible rfl | with_reducible exact ixo _ | with_reducible exact ixoc _ _ | with_reducible exact ixom _ _ _ | with_reducible exact ixop _ _ | with_reducible exact ixod _ _ | assumption); omega))
      refine v_bd (feedM1 (k := dK D) (m := 0) hL1 hfu (by omega) b0 ⟨eo_rf, t3', fun i _ => rfl, fun i hi => by omega⟩) (fun _ h2 q1 => ?_)
      have hL2 := LM_eo q1.1 hL1
      repeat (first | with_reducible apply v_lt | ((with_reducible apply w_MR); exact hL2; rfl) | ((with_reducible apply w_lv); exact hL2; assumption) | ((with_reducible apply vMI); exact hL2) | ((with_reducible apply vMS); exact hL2) | ((with_reducible apply vMC); exact hL2) | ((with_reducible apply vMZ); exact hL2; (first | exact Or.inl rfl | exact Or.inr rfl | exact b2i_01 _ | assumption)) | ((first | with_reducible apply w_MA | with_reducible apply w_MW | with_reducible apply w_MY | with_reducible apply w_MB | with_reducible apply w_MJ | with_reducible apply w_MK); exact hL2; rfl; rfl; rfl; (first | with_reducible rfl | with_reducible exact ixo _ | with_reducible exact ixoc _ _ | with_reducible exact ixom _ _ _ | with_reducible exact ixop _ _ | with_reducible exact ixod _ _ | assumption); omega))
      refine v_bd (feedM1 (k := dK D) (m := 1) hL1 hfu (by omega) b1 q1) (fun _ h2 q1 => ?_)
      have hL2 := LM_eo q1.1 hL1
      repeat (first | with_reducible apply v_lt | ((with_reducible apply w_MR); exact hL2; rfl) | ((with_reducible apply w_lv); exact hL2; assumption) | ((with_reducible apply vMI); exact hL2) | ((with_reducible apply vMS); exact hL2) | ((with_reducible apply vMC); exact hL2) | ((with_reducible apply vMZ); exact hL2; (first | exact Or.inl rfl | exact Or.inr rfl | exact b2i_01 _ | assumption)) | ((first | with_reducible apply w_MA | with_reducible apply w_MW | with_reducible apply w_MY | with_reducible apply w_MB | with_reducible apply w_MJ | with_reducible apply w_MK); exact hL2; rfl; rfl; rfl; (first | with_reducible rfl | with_reducible exact ixo _ | with_reducible exact ixoc _ _ | with_reducible exact ixom _ _ _ | with_reducible exact ixop _ _ | with_reducible exact ixod _ _ | assumption); omega))
      refine v_bd (feedM1 (k := dK D) (m := 2) hL1 hfu (by omega) b2 q1) (fun _ h2 q1 => ?_)
      have hL2 := LM_eo q1.1 hL1
      repeat (first | with_reducible apply v_lt | ((with_reducible apply w_MR); exact hL2; rfl) | ((with_reducible apply w_lv); exact hL2; assumption) | ((with_reducible apply vMI); exact hL2) | ((with_reducible apply vMS); exact hL2) | ((with_reducible apply vMC); exact hL2) | ((with_reducible apply vMZ); exact hL2; (first | exact Or.inl rfl | exact Or.inr rfl | exact b2i_01 _ | assumption)) | ((first | with_reducible apply w_MA | with_reducible apply w_MW | with_reducible apply w_MY | with_reducible apply w_MB | with_reducible apply w_MJ | with_reducible apply w_MK); exact hL2; rfl; rfl; rfl; (first | with_reducible rfl | with_reducible exact ixo _ | with_reducible exact ixoc _ _ | with_reducible exact ixom _ _ _ | with_reducible exact ixop _ _ | with_reducible exact ixod _ _ | assumption); omega))
      refine v_bd (feedM1 (k := dK D) (m := 3) hL1 hfu (by omega) b3 q1) (fun _ h2 q1 => ?_)
      have hL2 := LM_eo q1.1 hL1
      repeat (first | with_reducible apply v_lt | ((with_reducible apply w_MR); exact hL2; rfl) | ((with_reducible apply w_lv); exact hL2; assumption) | ((with_reducible apply vMI); exact hL2) | ((with_reducible apply vMS); exact hL2) | ((with_reducible apply vMC); exact hL2) | ((with_reducible apply vMZ); exact hL2; (first | exact Or.inl rfl | exact Or.inr rfl | exact b2i_01 _ | assumption)) | ((first | with_reducible apply w_MA | with_reducible apply w_MW | with_reducible apply w_MY | with_reducible apply w_MB | with_reducible apply w_MJ | with_reducible apply w_MK); exact hL2; rfl; rfl; rfl; (first | with_reducible rfl | with_reducible exact ixo _ | with_reducible exact ixoc _ _ | with_reducible exact ixom _ _ _ | with_reducible exact ixop _ _ | with_reducible exact ixod _ _ | assumption); omega))
      refine v_bd (feedM1 (k := dK D) (m := 4) hL1 hfu (by omega) b4 q1) (fun _ h2 q1 => ?_)
      have hL2 := LM_eo q1.1 hL1
      repeat (first | with_reducible apply v_lt | ((with_reducible apply w_MR); exact hL2; rfl) | ((with_reducible apply w_lv); exact hL2; assumption) | ((with_reducible apply vMI); exact hL2) | ((with_reducible apply vMS); exact hL2) | ((with_reducible apply vMC); exact hL2) | ((with_reducible apply vMZ); exact hL2; (first | exact Or.inl rfl | exact Or.inr rfl | exact b2i_01 _ | assumption)) | ((first | with_reducible apply w_MA | with_reducible apply w_MW | with_reducible apply w_MY | with_reducible apply w_MB | with_reducible apply w_MJ | with_reducible apply w_MK); exact hL2; rfl; rfl; rfl; (first | with_reducible rfl | with_reducible exact ixo _ | with_reducible exact ixoc _ _ | with_reducible exact ixom _ _ _ | with_reducible exact ixop _ _ | with_reducible exact ixod _ _ | assumption); omega))
      exact v_rI ⟨q1, q1.2.1⟩
    obtain ⟨_, h2, eB, qB, rfl⟩ := hB
    refine ⟨_, h1, h2, eA, eB, ⟨t, u, Ly_eo hy qA.1⟩, t, u, l, T, N, setTp D (dK D + 20), ?_⟩
    obtain ⟨oA, a1, a2, a3⟩ := qA
    obtain ⟨oB, c1, c2, c3⟩ := qB
    refine Sm_tape (S := fun a j => (a = 1 ∨ (a = 0 ∧ j = 1)) ∨ (a = 300 ∨ (a = 299 ∧ j = 2))) hS (eo_tr (eo_mono oA (fun a j z => Or.inl z)) (eo_mono oB (fun a j z => Or.inr z))) (fun a j z => z) ⟨q, ?_, c1, fun i hi => ?_, ?_⟩
    · rw [oB.2 _ _ (by omega)]
      exact a1
    · rw [oB.2 _ _ (by omega)]
      by_cases z : i < dK D
      · rw [a2 i z, c2 i z, oA.2 _ _ (by omega)]
        exact t4 i z
      · have r1 := a3 (i - dK D) (by omega)
        have r2 := c3 (i - dK D) (by omega)
        rw [show dK D + (i - dK D) = i from by omega] at r1 r2
        rw [r1, r2]
        exact ⟨rfl, byt_by _ _⟩
    · rw [oB.2 _ _ (by omega), oA.2 _ _ (by omega), oB.2 _ _ (by omega), oA.2 _ _ (by omega)]
      exact t5
  · refine pr_q (-1) hS ?_ (fun h1 hS1 => ?_)
    · unfold fX9_feed
      repeat (first | with_reducible apply v_lt | ((with_reducible apply vXR4); exact hT) | ((with_reducible apply w_XR); exact (LM_T hT); rfl) | ((with_reducible apply w_TR); exact hT; rfl) | ((with_reducible apply w_UR); exact hT; rfl) | ((first | with_reducible apply vXI | with_reducible apply vXS | with_reducible apply vXC); exact (LM_T hT)) | ((first | with_reducible apply vT0I | with_reducible apply vT9I | with_reducible apply vT0C | with_reducible apply vT9C | with_reducible apply vT0S | with_reducible apply vT9S); exact hT) | ((first | with_reducible apply vNR0 | with_reducible apply vNR1 | with_reducible apply vNR2 | with_reducible apply vNR3 | with_reducible apply vNI | with_reducible apply vNS | with_reducible apply vNC); (first | assumption | exact m39 | exact m44); exact (LM_T hT)) | ((first | with_reducible apply w_NA | with_reducible apply w_NW); exact (LM_T hT); (first | assumption | exact m39 | exact m44); rfl; rfl; (first | with_reducible rfl | with_reducible exact ixo _ | with_reducible exact ixoc _ _ | with_reducible exact ixom _ _ _ | with_reducible exact ixop _ _ | with_reducible exact ixod _ _ | assumption); omega) | ((first | with_reducible apply w_TA | with_reducible apply w_TW | with_reducible apply w_TJ | with_reducible apply w_TK); exact hT; rfl; rfl; (first | with_reducible rfl | with_reducible exact ixo _ | with_reducible exact ixoc _ _ | with_reducible exact ixom _ _ _ | with_reducible exact ixop _ _ | with_reducible exact ixod _ _ | assumption); omega))
      rw [t2, e20]
      exact v_ie (nI_ge (a := 2000) (by omega) (by omega)) (v_rI ⟨eo_rf, rfl⟩)
    · have hM1 := hS1.2.1
      obtain ⟨hy1, hl, hlv1, htx1, hng1, -, -⟩ := id hM1
      have hL1 := LM_of hy1
      unfold fX10_feed
      repeat (first | with_reducible apply v_lt | ((with_reducible apply w_MR); exact hL1; rfl) | ((with_reducible apply w_lv); exact hL1; assumption) | ((with_reducible apply vMI); exact hL1) | ((with_reducible apply vMS); exact hL1) | ((with_reducible apply vMC); exact hL1) | ((with_reducible apply vMZ); exact hL1; (first | exact Or.inl rfl | exact Or.inr rfl | exact b2i_01 _ | assumption)) | ((first | with_reducible apply w_MA | with_reducible apply w_MW | with_reducible apply w_MY | with_reducible apply w_MB | with_reducible apply w_MJ | with_reducible apply w_MK); exact hL1; rfl; rfl; rfl; (first | with_reducible rfl | with_reducible exact ixo _ | with_reducible exact ixoc _ _ | with_reducible exact ixom _ _ _ | with_reducible exact ixop _ _ | with_reducible exact ixod _ _ | assumption); omega))
      rw [hS1.2.2.1.2.2.1, e20]
      exact v_ie (nI_ge (a := 2000) (by omega) (by omega)) (v_rI ⟨eo_rf, rfl⟩)
