/-! QUESTIONS: doubles, rumour, apart, circle -/
def anyU (p : Nat → Bool) : Nat → Bool
  | 0 => false
  | i + 1 => anyU p i || p i
theorem anyU_iff (p : Nat → Bool) : ∀ n, anyU p n = true ↔ ∃ i, i < n ∧ p i = true
  | 0 => ⟨(fun h => by cases h), (fun ⟨i, h, _⟩ => by omega)⟩
  | n + 1 => by
    unfold anyU
    rw [Bool.or_eq_true, anyU_iff p n]
    constructor
    · rintro (⟨i, h, e⟩ | e)
      · exact ⟨i, by omega, e⟩
      · exact ⟨n, by omega, e⟩
    · rintro ⟨i, h, e⟩
      by_cases z : i = n
      · exact Or.inr (z ▸ e)
      · exact Or.inl ⟨i, by omega, e⟩
def dbB (T : AT) (r s : Nat) : Bool := decide (¬ (riV T r &&& riV T s) = 0)
def dbI (T : AT) (r : Nat) (j : Nat) : Int32 := sumU (fun i => b2i (dbB T r (r + 1 + i))) j
def dbO (T : AT) (j : Nat) : Int32 := sumU (fun r => dbI T r (nR T - (r + 1))) j
theorem dbB_any (T : AT) (r s : Nat) : anyU (fun o => reB T o r && reB T o s) (nL9 T) = dbB T r s := by
  unfold dbB
  by_cases z : riV T r &&& riV T s = 0
  · rw [decide_eq_false (fun w => w z)]
    rw [← Bool.not_eq_true]
    intro h
    obtain ⟨i, hi, e⟩ := (anyU_iff _ _).mp h
    have h1 : (riV T r &&& riV T s).testBit i = true := by
      unfold riV
      rw [Nat.testBit_and, bitsU_tb, bitsU_tb, decide_eq_true hi, Bool.true_and, Bool.true_and]
      exact e
    rw [z, Nat.zero_testBit] at h1
    cases h1
  · rw [decide_eq_true z]
    obtain ⟨i, hi⟩ := Nat.exists_testBit_of_ne_zero z
    refine (anyU_iff _ _).mpr ⟨i, ?_⟩
    unfold riV at hi
    rw [Nat.testBit_and, bitsU_tb, bitsU_tb] at hi
    by_cases h2 : i < nL9 T
    · rw [decide_eq_true h2, Bool.true_and, Bool.true_and] at hi
      exact ⟨h2, hi⟩
    · rw [decide_eq_false h2, Bool.false_and, Bool.false_and] at hi
      cases hi
theorem st_doubles {fu : Nat} (hfu : 1000 ≤ fu) (h : mh) (hS : Sim h) : pr Sim (fX9_doubles fu 0 h) (fun h1 => fX10_doubles fu 299 h1) := by
  obtain ⟨t, u, l, T, N, D, hS⟩ := hS
  have hC := hS.1
  have hT := LT_of hC.1
  obtain ⟨hy, htx, hng, -, hwT, hwN⟩ := id hC
  have hr6 := hwT.1
  have ho6 := hwT.2.1
  have h64 : ∀ r, riV T r < 64 := fun r => bitsU_64 _ (by omega)
  refine pr_q (dbO T (nR T)) hS ?_ (fun h1 hS1 => ?_)
  · unfold fX9_doubles
    refine loop3 (I := fun j v h' => h' = h ∧ v = dbO T j) (n := nR T) (by omega) hfu ⟨rfl, rfl⟩ ?_ ?_
    · intro v h2 k hI
      obtain ⟨rfl, rfl⟩ := hI
      unfold bX9_doubles_4
      dsimp only
      repeat (first | with_reducible apply v_lt | ((with_reducible apply vXR4); exact hT) | ((with_reducible apply w_XR); exact (LM_T hT); rfl) | ((with_reducible apply w_TR); exact hT; rfl) | ((with_reducible apply w_UR); exact hT; rfl) | ((first | with_reducible apply vXI | with_reducible apply vXS | with_reducible apply vXC); exact (LM_T hT)) | ((first | with_reducible apply vT0I | with_reducible apply vT9I | with_reducible apply vT0C | with_reducible apply vT9C | with_reducible apply vT0S | with_reducible apply vT9S); exact hT) | ((first | with_reducible apply vNR0 | with_reducible apply vNR1 | with_reducible apply vNR2 | with_reducible apply vNR3 | with_reducible apply vNI | with_reducible apply vNS | with_reducible apply vNC); (first | assumption | exact m39 | exact m44); exact (LM_T hT)) | ((first | with_reducible apply w_NA | with_reducible apply w_NW); exact (LM_T hT); (first | assumption | exact m39 | exact m44); rfl; rfl; (first | with_reducible rfl | with_reducible exact ixo _ | with_reducible exact ixoc _ _ | with_reducible exact ixom _ _ _ | with_reducible exact ixop _ _ | with_reducible exact ixod _ _ | assumption); omega) | ((first | with_reducible apply w_TA | with_reducible apply w_TW | with_reducible apply w_TJ | with_reducible apply w_TK); exact hT; rfl; rfl; (first | with_reducible rfl | with_reducible exact ixo _ | with_reducible exact ixoc _ _ | with_reducible exact ixom _ _ _ | with_reducible exact ixop _ _ | with_reducible exact ixod _ _ | assumption); omega))
      rw [htx.1]
      exact v_it (nI_le (Nat.le_refl _) (by omega)) (v_rI ⟨eo_rf, rfl⟩)
    · intro j v h2 k hj hI hk
      obtain ⟨rfl, rfl⟩ := hI
      unfold bX9_doubles_4
      dsimp only
      repeat (first | with_reducible apply v_lt | ((with_reducible apply vXR4); exact hT) | ((with_reducible apply w_XR); exact (LM_T hT); rfl) | ((with_reducible apply w_TR); exact hT; rfl) | ((with_reducible apply w_UR); exact hT; rfl) | ((first | with_reducible apply vXI | with_reducible apply vXS | with_reducible apply vXC); exact (LM_T hT)) | ((first | with_reducible apply vT0I | with_reducible apply vT9I | with_reducible apply vT0C | with_reducible apply vT9C | with_reducible apply vT0S | with_reducible apply vT9S); exact hT) | ((first | with_reducible apply vNR0 | with_reducible apply vNR1 | with_reducible apply vNR2 | with_reducible apply vNR3 | with_reducible apply vNI | with_reducible apply vNS | with_reducible apply vNC); (first | assumption | exact m39 | exact m44); exact (LM_T hT)) | ((first | with_reducible apply w_NA | with_reducible apply w_NW); exact (LM_T hT); (first | assumption | exact m39 | exact m44); rfl; rfl; (first | with_reducible rfl | with_reducible exact ixo _ | with_reducible exact ixoc _ _ | with_reducible exact ixom _ _ _ | with_reducible exact ixop _ _ | with_reducible exact ixod _ _ | assumption); omega) | ((first | with_reducible apply w_TA | with_reducible apply w_TW | with_reducible apply w_TJ | with_reducible apply w_TK); exact hT; rfl; rfl; (first | with_reducible rfl | with_reducible exact ixo _ | with_reducible exact ixoc _ _ | with_reducible exact ixom _ _ _ | with_reducible exact ixop _ _ | with_reducible exact ixod _ _ | assumption); omega))
      rw [htx.1]
      refine v_ie (nI_ge hj (by omega)) ?_
      repeat (first | with_reducible apply v_lt | ((with_reducible apply vXR4); exact hT) | ((with_reducible apply w_XR); exact (LM_T hT); rfl) | ((with_reducible apply w_TR); exact hT; rfl) | ((with_reducible apply w_UR); exact hT; rfl) | ((first | with_reducible apply vXI | with_reducible apply vXS | with_reducible apply vXC); exact (LM_T hT)) | ((first | with_reducible apply vT0I | with_reducible apply vT9I | with_reducible apply vT0C | with_reducible apply vT9C | with_reducible apply vT0S | with_reducible apply vT9S); exact hT) | ((first | with_reducible apply vNR0 | with_reducible apply vNR1 | with_reducible apply vNR2 | with_reducible apply vNR3 | with_reducible apply vNI | with_reducible apply vNS | with_reducible apply vNC); (first | assumption | exact m39 | exact m44); exact (LM_T hT)) | ((first | with_reducible apply w_NA | with_reducible apply w_NW); exact (LM_T hT); (first | assumption | exact m39 | exact m44); rfl; rfl; (first | with_reducible rfl | with_reducible exact ixo _ | with_reducible exact ixoc _ _ | with_reducible exact ixom _ _ _ | with_reducible exact ixop _ _ | with_reducible exact ixod _ _ | assumption); omega) | ((first | with_reducible apply w_TA | with_reducible apply w_TW | with_reducible apply w_TJ | with_reducible apply w_TK); exact hT; rfl; rfl; (first | with_reducible rfl | with_reducible exact ixo _ | with_reducible exact ixoc _ _ | with_reducible exact ixom _ _ _ | with_reducible exact ixop _ _ | with_reducible exact ixod _ _ | assumption); omega))
      refine loop3b (j + 1) (nR T - (j + 1)) (I := fun i v' h' => h' = h2 ∧ v' = dbO T j + dbI T j i) (by omega) hfu (nI_1 j) ⟨rfl, (Int32.add_zero _).symm⟩ ?_ ?_
      · intro v' h3 k3 hI3
        obtain ⟨rfl, rfl⟩ := hI3
        unfold bX9_doubles_19
        dsimp only
        repeat (first | with_reducible apply v_lt | ((with_reducible apply vXR4); exact hT) | ((with_reducible apply w_XR); exact (LM_T hT); rfl) | ((with_reducible apply w_TR); exact hT; rfl) | ((with_reducible apply w_UR); exact hT; rfl) | ((first | with_reducible apply vXI | with_reducible apply vXS | with_reducible apply vXC); exact (LM_T hT)) | ((first | with_reducible apply vT0I | with_reducible apply vT9I | with_reducible apply vT0C | with_reducible apply vT9C | with_reducible apply vT0S | with_reducible apply vT9S); exact hT) | ((first | with_reducible apply vNR0 | with_reducible apply vNR1 | with_reducible apply vNR2 | with_reducible apply vNR3 | with_reducible apply vNI | with_reducible apply vNS | with_reducible apply vNC); (first | assumption | exact m39 | exact m44); exact (LM_T hT)) | ((first | with_reducible apply w_NA | with_reducible apply w_NW); exact (LM_T hT); (first | assumption | exact m39 | exact m44); rfl; rfl; (first | with_reducible rfl | with_reducible exact ixo _ | with_reducible exact ixoc _ _ | with_reducible exact ixom _ _ _ | with_reducible exact ixop _ _ | with_reducible exact ixod _ _ | assumption); omega) | ((first | with_reducible apply w_TA | with_reducible apply w_TW | with_reducible apply w_TJ | with_reducible apply w_TK); exact hT; rfl; rfl; (first | with_reducible rfl | with_reducible exact ixo _ | with_reducible exact ixoc _ _ | with_reducible exact ixom _ _ _ | with_reducible exact ixop _ _ | with_reducible exact ixod _ _ | assumption); omega))
        rw [htx.1]
        exact v_it (nI_le (by omega) (by omega)) (hk _ _ ⟨rfl, rfl⟩)
      · intro i v' h3 k3 hi hI3 hk3
        obtain ⟨rfl, rfl⟩ := hI3
        unfold bX9_doubles_19
        dsimp only
        repeat (first | with_reducible apply v_lt | ((with_reducible apply vXR4); exact hT) | ((with_reducible apply w_XR); exact (LM_T hT); rfl) | ((with_reducible apply w_TR); exact hT; rfl) | ((with_reducible apply w_UR); exact hT; rfl) | ((first | with_reducible apply vXI | with_reducible apply vXS | with_reducible apply vXC); exact (LM_T hT)) | ((first | with_reducible apply vT0I | with_reducible apply vT9I | with_reducible apply vT0C | with_reducible apply vT9C | with_reducible apply vT0S | with_reducible apply vT9S); exact hT) | ((first | with_reducible apply vNR0 | with_reducible apply vNR1 | with_reducible apply vNR2 | with_reducible apply vNR3 | with_reducible apply vNI | with_reducible apply vNS | with_reducible apply vNC); (first | assumption | exact m39 | exact m44); exact (LM_T hT)) | ((first | with_reducible apply w_NA | with_reducible apply w_NW); exact (LM_T hT); (first | assumption | exact m39 | exact m44); rfl; rfl; (first | with_reducible rfl | with_reducible exact ixo _ | with_reducible exact ixoc _ _ | with_reducible exact ixom _ _ _ | with_reducible exact ixop _ _ | with_reducible exact ixod _ _ | assumption); omega) | ((first | with_reducible apply w_TA | with_reducible apply w_TW | with_reducible apply w_TJ | with_reducible apply w_TK); exact hT; rfl; rfl; (first | with_reducible rfl | with_reducible exact ixo _ | with_reducible exact ixoc _ _ | with_reducible exact ixom _ _ _ | with_reducible exact ixop _ _ | with_reducible exact ixod _ _ | assumption); omega))
        rw [htx.1]
        refine v_ie (nI_ge (by omega) (by omega)) ?_
        repeat (first | with_reducible apply v_lt | ((with_reducible apply vXR4); exact hT) | ((with_reducible apply w_XR); exact (LM_T hT); rfl) | ((with_reducible apply w_TR); exact hT; rfl) | ((with_reducible apply w_UR); exact hT; rfl) | ((first | with_reducible apply vXI | with_reducible apply vXS | with_reducible apply vXC); exact (LM_T hT)) | ((first | with_reducible apply vT0I | with_reducible apply vT9I | with_reducible apply vT0C | with_reducible apply vT9C | with_reducible apply vT0S | with_reducible apply vT9S); exact hT) | ((first | with_reducible apply vNR0 | with_reducible apply vNR1 | with_reducible apply vNR2 | with_reducible apply vNR3 | with_reducible apply vNI | with_reducible apply vNS | with_reducible apply vNC); (first | assumption | exact m39 | exact m44); exact (LM_T hT)) | ((first | with_reducible apply w_NA | with_reducible apply w_NW); exact (LM_T hT); (first | assumption | exact m39 | exact m44); rfl; rfl; (first | with_reducible rfl | with_reducible exact ixo _ | with_reducible exact ixoc _ _ | with_reducible exact ixom _ _ _ | with_reducible exact ixop _ _ | with_reducible exact ixod _ _ | assumption); omega) | ((first | with_reducible apply w_TA | with_reducible apply w_TW | with_reducible apply w_TJ | with_reducible apply w_TK); exact hT; rfl; rfl; (first | with_reducible rfl | with_reducible exact ixo _ | with_reducible exact ixoc _ _ | with_reducible exact ixom _ _ _ | with_reducible exact ixop _ _ | with_reducible exact ixod _ _ | assumption); omega))
        refine v_eq (reallyItC hC hfu hj) ?_
        repeat (first | with_reducible apply v_lt | ((with_reducible apply vXR4); exact hT) | ((with_reducible apply w_XR); exact (LM_T hT); rfl) | ((with_reducible apply w_TR); exact hT; rfl) | ((with_reducible apply w_UR); exact hT; rfl) | ((first | with_reducible apply vXI | with_reducible apply vXS | with_reducible apply vXC); exact (LM_T hT)) | ((first | with_reducible apply vT0I | with_reducible apply vT9I | with_reducible apply vT0C | with_reducible apply vT9C | with_reducible apply vT0S | with_reducible apply vT9S); exact hT) | ((first | with_reducible apply vNR0 | with_reducible apply vNR1 | with_reducible apply vNR2 | with_reducible apply vNR3 | with_reducible apply vNI | with_reducible apply vNS | with_reducible apply vNC); (first | assumption | exact m39 | exact m44); exact (LM_T hT)) | ((first | with_reducible apply w_NA | with_reducible apply w_NW); exact (LM_T hT); (first | assumption | exact m39 | exact m44); rfl; rfl; (first | with_reducible rfl | with_reducible exact ixo _ | with_reducible exact ixoc _ _ | with_reducible exact ixom _ _ _ | with_reducible exact ixop _ _ | with_reducible exact ixod _ _ | assumption); omega) | ((first | with_reducible apply w_TA | with_reducible apply w_TW | with_reducible apply w_TJ | with_reducible apply w_TK); exact hT; rfl; rfl; (first | with_reducible rfl | with_reducible exact ixo _ | with_reducible exact ixoc _ _ | with_reducible exact ixom _ _ _ | with_reducible exact ixop _ _ | with_reducible exact ixod _ _ | assumption); omega))
        refine v_eq (reallyItC hC hfu (by omega)) ?_
        rw [fa_and]
        have := Nat.lt_of_le_of_lt (Nat.and_le_left (n := riV T j) (m := riV T (j + 1 + i))) (h64 j)
        refine v_ze (by omega) (fun e => hk3 _ _ ⟨rfl, ?_⟩) (fun e => hk3 _ _ ⟨rfl, ?_⟩)
        · show _ = dbO T j + (dbI T j i + b2i (dbB T j (j + 1 + i)))
          rw [← Int32.add_assoc, b2i_add]
          unfold dbB
          rw [decide_eq_false (fun z => z e)]
          rfl
        · show _ = dbO T j + (dbI T j i + b2i (dbB T j (j + 1 + i)))
          rw [← Int32.add_assoc, b2i_add]
          unfold dbB
          rw [decide_eq_true (by omega)]
          rfl
  · have hM1 := hS1.2.1
    obtain ⟨hy1, hl, hlv1, htx1, hng1, -, -⟩ := id hM1
    have hL1 := LM_of hy1
    unfold fX10_doubles
    refine loop3 (I := fun j v h' => h' = h1 ∧ v = dbO T j) (n := nR T) (by omega) hfu ⟨rfl, rfl⟩ ?_ ?_
    · intro v h2 k hI
      obtain ⟨rfl, rfl⟩ := hI
      unfold bX10_doubles_4
      dsimp only
      repeat (first | with_reducible apply v_lt | ((with_reducible apply w_MR); exact hL1; rfl) | ((with_reducible apply w_lv); exact hL1; assumption) | ((with_reducible apply vMI); exact hL1) | ((with_reducible apply vMS); exact hL1) | ((with_reducible apply vMC); exact hL1) | ((with_reducible apply vMZ); exact hL1; (first | exact Or.inl rfl | exact Or.inr rfl | exact b2i_01 _ | assumption)) | ((first | with_reducible apply w_MA | with_reducible apply w_MW | with_reducible apply w_MY | with_reducible apply w_MB | with_reducible apply w_MJ | with_reducible apply w_MK); exact hL1; rfl; rfl; rfl; (first | with_reducible rfl | with_reducible exact ixo _ | with_reducible exact ixoc _ _ | with_reducible exact ixom _ _ _ | with_reducible exact ixop _ _ | with_reducible exact ixod _ _ | assumption); omega))
      rw [htx1.1]
      exact v_it (nI_le (Nat.le_refl _) (by omega)) (v_rI ⟨eo_rf, rfl⟩)
    · intro j v h2 k hj hI hk
      obtain ⟨rfl, rfl⟩ := hI
      unfold bX10_doubles_4
      dsimp only
      repeat (first | with_reducible apply v_lt | ((with_reducible apply w_MR); exact hL1; rfl) | ((with_reducible apply w_lv); exact hL1; assumption) | ((with_reducible apply vMI); exact hL1) | ((with_reducible apply vMS); exact hL1) | ((with_reducible apply vMC); exact hL1) | ((with_reducible apply vMZ); exact hL1; (first | exact Or.inl rfl | exact Or.inr rfl | exact b2i_01 _ | assumption)) | ((first | with_reducible apply w_MA | with_reducible apply w_MW | with_reducible apply w_MY | with_reducible apply w_MB | with_reducible apply w_MJ | with_reducible apply w_MK); exact hL1; rfl; rfl; rfl; (first | with_reducible rfl | with_reducible exact ixo _ | with_reducible exact ixoc _ _ | with_reducible exact ixom _ _ _ | with_reducible exact ixop _ _ | with_reducible exact ixod _ _ | assumption); omega))
      rw [htx1.1]
      refine v_ie (nI_ge hj (by omega)) ?_
      repeat (first | with_reducible apply v_lt | ((with_reducible apply w_MR); exact hL1; rfl) | ((with_reducible apply w_lv); exact hL1; assumption) | ((with_reducible apply vMI); exact hL1) | ((with_reducible apply vMS); exact hL1) | ((with_reducible apply vMC); exact hL1) | ((with_reducible apply vMZ); exact hL1; (first | exact Or.inl rfl | exact Or.inr rfl | exact b2i_01 _ | assumption)) | ((first | with_reducible apply w_MA | with_reducible apply w_MW | with_reducible apply w_MY | with_reducible apply w_MB | with_reducible apply w_MJ | with_reducible apply w_MK); exact hL1; rfl; rfl; rfl; (first | with_reducible rfl | with_reducible exact ixo _ | with_reducible exact ixoc _ _ | with_reducible exact ixom _ _ _ | with_reducible exact ixop _ _ | with_reducible exact ixod _ _ | assumption); omega))
      refine loop3b (j + 1) (nR T - (j + 1)) (I := fun i v' h' => h' = h2 ∧ v' = dbO T j + dbI T j i) (by omega) hfu (nI_1 j) ⟨rfl, (Int32.add_zero _).symm⟩ ?_ ?_
      · intro v' h3 k3 hI3
        obtain ⟨rfl, rfl⟩ := hI3
        unfold bX10_doubles_21
        dsimp only
        repeat (first | with_reducible apply v_lt | ((with_reducible apply w_MR); exact hL1; rfl) | ((with_reducible apply w_lv); exact hL1; assumption) | ((with_reducible apply vMI); exact hL1) | ((with_reducible apply vMS); exact hL1) | ((with_reducible apply vMC); exact hL1) | ((with_reducible apply vMZ); exact hL1; (first | exact Or.inl rfl | exact Or.inr rfl | exact b2i_01 _ | assumption)) | ((first | with_reducible apply w_MA | with_reducible apply w_MW | with_reducible apply w_MY | with_reducible apply w_MB | with_reducible apply w_MJ | with_reducible apply w_MK); exact hL1; rfl; rfl; rfl; (first | with_reducible rfl | with_reducible exact ixo _ | with_reducible exact ixoc _ _ | with_reducible exact ixom _ _ _ | with_reducible exact ixop _ _ | with_reducible exact ixod _ _ | assumption); omega))
        rw [htx1.1]
        exact v_it (nI_le (by omega) (by omega)) (hk _ _ ⟨rfl, rfl⟩)
      · intro i v' h3 k3 hi hI3 hk3
        obtain ⟨rfl, rfl⟩ := hI3
        unfold bX10_doubles_21
        dsimp only
        repeat (first | with_reducible apply v_lt | ((with_reducible apply w_MR); exact hL1; rfl) | ((with_reducible apply w_lv); exact hL1; assumption) | ((with_reducible apply vMI); exact hL1) | ((with_reducible apply vMS); exact hL1) | ((with_reducible apply vMC); exact hL1) | ((with_reducible apply vMZ); exact hL1; (first | exact Or.inl rfl | exact Or.inr rfl | exact b2i_01 _ | assumption)) | ((first | with_reducible apply w_MA | with_reducible apply w_MW | with_reducible apply w_MY | with_reducible apply w_MB | with_reducible apply w_MJ | with_reducible apply w_MK); exact hL1; rfl; rfl; rfl; (first | with_reducible rfl | with_reducible exact ixo _ | with_reducible exact ixoc _ _ | with_reducible exact ixom _ _ _ | with_reducible exact ixop _ _ | with_reducible exact ixod _ _ | assumption); omega))
        rw [htx1.1]
        refine v_ie (nI_ge (by omega) (by omega)) ?_
        have hM' : ∀ o, o < nL9 T → ∀ r, r < nR T → fX10_isReally fu 299 (nI o) (nI r) h3 = some (b2i (reB T o r), h3) := by
          intro o ho r hr
          refine ok_eq ?_
          unfold fX10_isReally
          repeat (first | with_reducible apply v_lt | ((with_reducible apply w_MR); exact hL1; rfl) | ((with_reducible apply w_lv); exact hL1; assumption) | ((with_reducible apply vMI); exact hL1) | ((with_reducible apply vMS); exact hL1) | ((with_reducible apply vMC); exact hL1) | ((with_reducible apply vMZ); exact hL1; (first | exact Or.inl rfl | exact Or.inr rfl | exact b2i_01 _ | assumption)) | ((first | with_reducible apply w_MA | with_reducible apply w_MW | with_reducible apply w_MY | with_reducible apply w_MB | with_reducible apply w_MJ | with_reducible apply w_MK); exact hL1; rfl; rfl; rfl; (first | with_reducible rfl | with_reducible exact ixo _ | with_reducible exact ixoc _ _ | with_reducible exact ixom _ _ _ | with_reducible exact ixop _ _ | with_reducible exact ixod _ _ | assumption); omega))
          rw [(htx1.2.2.2.1 o ho).2]
          have hb := (hwT.2.2.2.1 o ho).2
          unfold reB
          cases hq : (re9 T o).testBit r
          · rw [if_neg (fun z => by rw [(tbM1 _ (by omega) r (by omega)).mp z] at hq; cases hq)]
            exact v_rZ (Or.inl rfl) ⟨rfl, rfl⟩
          · rw [if_pos ((tbM1 _ (by omega) r (by omega)).mpr hq)]
            exact v_rZ (Or.inr rfl) ⟨rfl, rfl⟩
        refine loop3 (I := fun o v4 h' => h' = h3 ∧ v4 = b2i (anyU (fun o => reB T o j && reB T o (j + 1 + i)) o)) (n := nL9 T) (by omega) hfu ⟨rfl, rfl⟩ ?_ ?_
        · intro v4 h4 k4 hI4
          obtain ⟨rfl, rfl⟩ := hI4
          unfold bX10_doubles_40
          dsimp only
          repeat (first | with_reducible apply v_lt | ((with_reducible apply w_MR); exact hL1; rfl) | ((with_reducible apply w_lv); exact hL1; assumption) | ((with_reducible apply vMI); exact hL1) | ((with_reducible apply vMS); exact hL1) | ((with_reducible apply vMC); exact hL1) | ((with_reducible apply vMZ); exact hL1; (first | exact Or.inl rfl | exact Or.inr rfl | exact b2i_01 _ | assumption)) | ((first | with_reducible apply w_MA | with_reducible apply w_MW | with_reducible apply w_MY | with_reducible apply w_MB | with_reducible apply w_MJ | with_reducible apply w_MK); exact hL1; rfl; rfl; rfl; (first | with_reducible rfl | with_reducible exact ixo _ | with_reducible exact ixoc _ _ | with_reducible exact ixom _ _ _ | with_reducible exact ixop _ _ | with_reducible exact ixod _ _ | assumption); omega))
          rw [htx1.2.1, dbB_any]
          refine v_it (nI_le (Nat.le_refl _) (by omega)) ?_
          refine v_b (fun e => hk3 _ _ ⟨rfl, ?_⟩) (fun e => hk3 _ _ ⟨rfl, ?_⟩)
          · show _ = dbO T j + (dbI T j i + b2i (dbB T j (j + 1 + i)))
            rw [← Int32.add_assoc, b2i_add, e]
            rfl
          · show _ = dbO T j + (dbI T j i + b2i (dbB T j (j + 1 + i)))
            rw [← Int32.add_assoc, b2i_add, e]
            rfl
        · intro o v4 h4 k4 ho hI4 hk4
          obtain ⟨rfl, rfl⟩ := hI4
          unfold bX10_doubles_40
          dsimp only
          repeat (first | with_reducible apply v_lt | ((with_reducible apply w_MR); exact hL1; rfl) | ((with_reducible apply w_lv); exact hL1; assumption) | ((with_reducible apply vMI); exact hL1) | ((with_reducible apply vMS); exact hL1) | ((with_reducible apply vMC); exact hL1) | ((with_reducible apply vMZ); exact hL1; (first | exact Or.inl rfl | exact Or.inr rfl | exact b2i_01 _ | assumption)) | ((first | with_reducible apply w_MA | with_reducible apply w_MW | with_reducible apply w_MY | with_reducible apply w_MB | with_reducible apply w_MJ | with_reducible apply w_MK); exact hL1; rfl; rfl; rfl; (first | with_reducible rfl | with_reducible exact ixo _ | with_reducible exact ixoc _ _ | with_reducible exact ixom _ _ _ | with_reducible exact ixop _ _ | with_reducible exact ixod _ _ | assumption); omega))
          rw [htx1.2.1]
          refine v_ie (nI_ge ho (by omega)) ?_
          repeat (first | with_reducible apply v_lt | ((with_reducible apply w_MR); exact hL1; rfl) | ((with_reducible apply w_lv); exact hL1; assumption) | ((with_reducible apply vMI); exact hL1) | ((with_reducible apply vMS); exact hL1) | ((with_reducible apply vMC); exact hL1) | ((with_reducible apply vMZ); exact hL1; (first | exact Or.inl rfl | exact Or.inr rfl | exact b2i_01 _ | assumption)) | ((first | with_reducible apply w_MA | with_reducible apply w_MW | with_reducible apply w_MY | with_reducible apply w_MB | with_reducible apply w_MJ | with_reducible apply w_MK); exact hL1; rfl; rfl; rfl; (first | with_reducible rfl | with_reducible exact ixo _ | with_reducible exact ixoc _ _ | with_reducible exact ixom _ _ _ | with_reducible exact ixop _ _ | with_reducible exact ixod _ _ | assumption); omega))
          refine v_eq (hM' o ho j hj) ?_
          refine v_b (fun e => hk4 _ _ ⟨rfl, ?_⟩) (fun e => ?_)
          · show _ = b2i (_ || (reB T o j && reB T o (j + 1 + i)))
            rw [e, Bool.false_and, Bool.or_false]
          repeat (first | with_reducible apply v_lt | ((with_reducible apply w_MR); exact hL1; rfl) | ((with_reducible apply w_lv); exact hL1; assumption) | ((with_reducible apply vMI); exact hL1) | ((with_reducible apply vMS); exact hL1) | ((with_reducible apply vMC); exact hL1) | ((with_reducible apply vMZ); exact hL1; (first | exact Or.inl rfl | exact Or.inr rfl | exact b2i_01 _ | assumption)) | ((first | with_reducible apply w_MA | with_reducible apply w_MW | with_reducible apply w_MY | with_reducible apply w_MB | with_reducible apply w_MJ | with_reducible apply w_MK); exact hL1; rfl; rfl; rfl; (first | with_reducible rfl | with_reducible exact ixo _ | with_reducible exact ixoc _ _ | with_reducible exact ixom _ _ _ | with_reducible exact ixop _ _ | with_reducible exact ixod _ _ | assumption); omega))
          refine v_eq (hM' o ho (j + 1 + i) (by omega)) ?_
          refine v_b (fun e2 => hk4 _ _ ⟨rfl, ?_⟩) (fun e2 => hk4 _ _ ⟨rfl, ?_⟩)
          · show _ = b2i (_ || (reB T o j && reB T o (j + 1 + i)))
            rw [e2, Bool.and_false, Bool.or_false]
          · show _ = b2i (_ || (reB T o j && reB T o (j + 1 + i)))
            rw [e, e2, Bool.and_true, Bool.or_true]
            rfl
/-! rumour -/
theorem pop_xor (a b : Nat) : ∀ n, pop (a ||| b) n + pop (a ||| b) n = pop (a ^^^ b) n + pop a n + pop b n
  | 0 => rfl
  | n + 1 => by
    have := pop_xor a b n
    show (pop (a ||| b) n + (if (a ||| b).testBit n then 1 else 0)) + (pop (a ||| b) n + (if (a ||| b).testBit n then 1 else 0)) = (pop (a ^^^ b) n + (if (a ^^^ b).testBit n then 1 else 0)) + (pop a n + (if a.testBit n then 1 else 0)) + (pop b n + (if b.testBit n then 1 else 0))
    rw [Nat.testBit_or, Nat.testBit_xor]
    cases a.testBit n <;> cases b.testBit n <;> simp <;> omega
def grV (N : AN) (a b : Nat) : Nat := pop (kn N a ^^^ kn N b) 8
theorem xor_lt {a b : Nat} (ha : a < 256) (hb : b < 256) : a ^^^ b < 256 := Nat.xor_lt_two_pow (n := 8) ha hb
theorem gainTC {t u fu a b : Nat} {T : AT} {N : AN} {h : mh} (hC : CC t u T 39 N h) (ha : a < 6) (hb : b < 6) : fX9_gainOfTalk fu 0 (nI a) (nI b) h = some (nI (grV N a b), h) := by
  obtain ⟨hy, htx, hng, hn, hwT, hwN⟩ := id hC
  have hT := LT_of hy
  refine ok_eq ?_
  unfold fX9_gainOfTalk
  repeat (first | with_reducible apply v_lt | ((with_reducible apply vXR4); exact hT) | ((with_reducible apply w_XR); exact (LM_T hT); rfl) | ((with_reducible apply w_TR); exact hT; rfl) | ((with_reducible apply w_UR); exact hT; rfl) | ((first | with_reducible apply vXI | with_reducible apply vXS | with_reducible apply vXC); exact (LM_T hT)) | ((first | with_reducible apply vT0I | with_reducible apply vT9I | with_reducible apply vT0C | with_reducible apply vT9C | with_reducible apply vT0S | with_reducible apply vT9S); exact hT) | ((first | with_reducible apply vNR0 | with_reducible apply vNR1 | with_reducible apply vNR2 | with_reducible apply vNR3 | with_reducible apply vNI | with_reducible apply vNS | with_reducible apply vNC); (first | assumption | exact m39 | exact m44); exact (LM_T hT)) | ((first | with_reducible apply w_NA | with_reducible apply w_NW); exact (LM_T hT); (first | assumption | exact m39 | exact m44); rfl; rfl; (first | with_reducible rfl | with_reducible exact ixo _ | with_reducible exact ixoc _ _ | with_reducible exact ixom _ _ _ | with_reducible exact ixop _ _ | with_reducible exact ixod _ _ | assumption); omega) | ((first | with_reducible apply w_TA | with_reducible apply w_TW | with_reducible apply w_TJ | with_reducible apply w_TK); exact hT; rfl; rfl; (first | with_reducible rfl | with_reducible exact ixo _ | with_reducible exact ixoc _ _ | with_reducible exact ixom _ _ _ | with_reducible exact ixop _ _ | with_reducible exact ixod _ _ | assumption); omega))
  rw [(hng.1 a ha).1, (hng.1 b hb).1, fa_xor]
  refine v_eq (bitC (xor_lt (hwN.1 a ha).1 (hwN.1 b hb).1)) ?_
  exact v_rI ⟨rfl, rfl⟩
theorem moreM {t u l fu a b : Nat} {T : AT} {N : AN} {h : mh} (hM : MN t u l T N h) (hfu : 1000 ≤ fu) (ha : a < 6) (hb : b < 6) : fX10_moreBy fu 299 (nI a) (nI b) h = some (nI (grV N a b), h) := by
  obtain ⟨hy, hl, hlv, htx, hng, hwT, hwN⟩ := id hM
  have hL := LM_of hy
  have h1 := (hwN.1 a ha).1
  have h2 := (hwN.1 b hb).1
  refine ok_eq ?_
  unfold fX10_moreBy
  repeat (first | with_reducible apply v_lt | ((with_reducible apply w_MR); exact hL; rfl) | ((with_reducible apply w_lv); exact hL; assumption) | ((with_reducible apply vMI); exact hL) | ((with_reducible apply vMS); exact hL) | ((with_reducible apply vMC); exact hL) | ((with_reducible apply vMZ); exact hL; (first | exact Or.inl rfl | exact Or.inr rfl | exact b2i_01 _ | assumption)) | ((first | with_reducible apply w_MA | with_reducible apply w_MW | with_reducible apply w_MY | with_reducible apply w_MB | with_reducible apply w_MJ | with_reducible apply w_MK); exact hL; rfl; rfl; rfl; (first | with_reducible rfl | with_reducible exact ixo _ | with_reducible exact ixoc _ _ | with_reducible exact ixom _ _ _ | with_reducible exact ixop _ _ | with_reducible exact ixod _ _ | assumption); omega))
  rw [(hng.1 a ha).2.2.1, (hng.1 b hb).2.2.1, fa_or]
  refine v_eq (bitM (by omega) (or_lt h1 h2)) ?_
  repeat (first | with_reducible apply v_lt | ((with_reducible apply w_MR); exact hL; rfl) | ((with_reducible apply w_lv); exact hL; assumption) | ((with_reducible apply vMI); exact hL) | ((with_reducible apply vMS); exact hL) | ((with_reducible apply vMC); exact hL) | ((with_reducible apply vMZ); exact hL; (first | exact Or.inl rfl | exact Or.inr rfl | exact b2i_01 _ | assumption)) | ((first | with_reducible apply w_MA | with_reducible apply w_MW | with_reducible apply w_MY | with_reducible apply w_MB | with_reducible apply w_MJ | with_reducible apply w_MK); exact hL; rfl; rfl; rfl; (first | with_reducible rfl | with_reducible exact ixo _ | with_reducible exact ixoc _ _ | with_reducible exact ixom _ _ _ | with_reducible exact ixop _ _ | with_reducible exact ixod _ _ | assumption); omega))
  rw [(hng.1 a ha).2.2.1]
  refine v_eq (bitM (by omega) h1) ?_
  repeat (first | with_reducible apply v_lt | ((with_reducible apply w_MR); exact hL; rfl) | ((with_reducible apply w_lv); exact hL; assumption) | ((with_reducible apply vMI); exact hL) | ((with_reducible apply vMS); exact hL) | ((with_reducible apply vMC); exact hL) | ((with_reducible apply vMZ); exact hL; (first | exact Or.inl rfl | exact Or.inr rfl | exact b2i_01 _ | assumption)) | ((first | with_reducible apply w_MA | with_reducible apply w_MW | with_reducible apply w_MY | with_reducible apply w_MB | with_reducible apply w_MJ | with_reducible apply w_MK); exact hL; rfl; rfl; rfl; (first | with_reducible rfl | with_reducible exact ixo _ | with_reducible exact ixoc _ _ | with_reducible exact ixom _ _ _ | with_reducible exact ixop _ _ | with_reducible exact ixod _ _ | assumption); omega))
  rw [(hng.1 b hb).2.2.1]
  refine v_eq (bitM (by omega) h2) ?_
  have e := pop_xor (kn N a) (kn N b) 8
  have e2 : (2 : Int32) * nI (pop (kn N a ||| kn N b) 8) - nI (pop (kn N a) 8) - nI (pop (kn N b) 8) = nI (grV N a b) := by
    rw [show (2 : Int32) = nI 2 from rfl, pk_mul, pk_sub (by omega), pk_sub (by omega)]
    unfold grV
    congr 1
    omega
  rw [e2]
  exact v_rI ⟨rfl, rfl⟩
def ruS (g : Nat → Nat → Nat) (l o : Nat) (s : Int32 × Nat) : Int32 × Nat := if s.2 < g l o then (nI (10 * l + o), g l o) else s
def ruI (g : Nat → Nat → Nat) (l : Nat) (s : Int32 × Nat) : Nat → Int32 × Nat
  | 0 => s
  | i + 1 => ruS g l (l + 1 + i) (ruI g l s i)
def ruO (g : Nat → Nat → Nat) (n : Nat) : Nat → Int32 × Nat
  | 0 => (-2, 0)
  | l + 1 => ruI g l (ruO g n l) (n - (l + 1))
def ruK (s : Int32 × Nat) : Prop := s.2 ≤ 8 ∧ ((s.1 = -2 ∧ s.2 = 0) ∨ (¬ s.1 < 0 ∧ 0 < s.2))
theorem ruS_ok {g : Nat → Nat → Nat} (hg : ∀ a b, g a b ≤ 8) {l o : Nat} (hl : l < 100) (ho : o < 100) {s : Int32 × Nat} (q : ruK s) : ruK (ruS g l o s) := by
  unfold ruS
  split
  · next z =>
    refine ⟨hg _ _, Or.inr ⟨?_, ?_⟩⟩
    · exact nI_pos (by omega)
    · show 0 < g l o
      omega
  · exact q
theorem ruI_ok {g : Nat → Nat → Nat} (hg : ∀ a b, g a b ≤ 8) {l : Nat} (hl : l < 6) {s : Int32 × Nat} (q : ruK s) : ∀ i, i ≤ 10 → ruK (ruI g l s i)
  | 0, _ => q
  | i + 1, hi => ruS_ok hg (by omega) (by omega) (ruI_ok hg hl q i (by omega))
theorem ruO_ok {g : Nat → Nat → Nat} (hg : ∀ a b, g a b ≤ 8) {n : Nat} (hn : n ≤ 6) : ∀ l, l ≤ n → ruK (ruO g n l)
  | 0, _ => ⟨by show (0 : Nat) ≤ 8; omega, Or.inl ⟨rfl, rfl⟩⟩
  | l + 1, hl => ruI_ok hg (by omega) (ruO_ok hg hn l (by omega)) _ (by omega)
theorem st_rumour {fu : Nat} (hfu : 1000 ≤ fu) (h : mh) (x0 : Int32) (hS : Sim h) : pr Sim (fX9_rumour fu 0 x0 h) (fun h1 => fX10_rumour fu 299 x0 h1) := by
  obtain ⟨t, u, l, T, N, D, hS⟩ := hS
  have hC := hS.1
  have hT := LT_of hC.1
  obtain ⟨hy, htx, hng, -, hwT, hwN⟩ := id hC
  have hr6 := hwT.1
  have ho6 := hwT.2.1
  by_cases q : ∃ w, w < 2 ∧ x0 = nI w
  · obtain ⟨w, hw, rfl⟩ := q
    obtain ⟨g, hg⟩ : ∃ g : Nat → Nat → Nat, ∀ a b, grV N a b = g a b := ⟨fun a b => grV N a b, fun _ _ => rfl⟩
    have hg8 : ∀ a b, g a b ≤ 8 := fun a b => by
      rw [← hg]
      exact pop_le _ 8
    have hK := fun l hl => ruO_ok hg8 (n := nL9 T) ho6 l hl
    have hKn := hK (nL9 T) (Nat.le_refl _)
    refine pr_q (if nI w = 0 then (ruO g (nL9 T) (nL9 T)).1 else if (ruO g (nL9 T) (nL9 T)).2 = 0 then -2 else nI (ruO g (nL9 T) (nL9 T)).2) hS ?_ (fun h1 hS1 => ?_)
    · unfold fX9_rumour
      refine v_in (n := 1) (by omega) (by decide) ?_
      refine loop4 (I := fun j v y h' => h' = h ∧ v = (ruO g (nL9 T) j).1 ∧ y = nI (ruO g (nL9 T) j).2) (n := nL9 T) (by omega) hfu ⟨rfl, rfl, rfl⟩ ?_ ?_
      · intro v y h2 k hI
        obtain ⟨rfl, rfl, rfl⟩ := hI
        unfold bX9_rumour_19
        dsimp only
        repeat (first | with_reducible apply v_lt | ((with_reducible apply vXR4); exact hT) | ((with_reducible apply w_XR); exact (LM_T hT); rfl) | ((with_reducible apply w_TR); exact hT; rfl) | ((with_reducible apply w_UR); exact hT; rfl) | ((first | with_reducible apply vXI | with_reducible apply vXS | with_reducible apply vXC); exact (LM_T hT)) | ((first | with_reducible apply vT0I | with_reducible apply vT9I | with_reducible apply vT0C | with_reducible apply vT9C | with_reducible apply vT0S | with_reducible apply vT9S); exact hT) | ((first | with_reducible apply vNR0 | with_reducible apply vNR1 | with_reducible apply vNR2 | with_reducible apply vNR3 | with_reducible apply vNI | with_reducible apply vNS | with_reducible apply vNC); (first | assumption | exact m39 | exact m44); exact (LM_T hT)) | ((first | with_reducible apply w_NA | with_reducible apply w_NW); exact (LM_T hT); (first | assumption | exact m39 | exact m44); rfl; rfl; (first | with_reducible rfl | with_reducible exact ixo _ | with_reducible exact ixoc _ _ | with_reducible exact ixom _ _ _ | with_reducible exact ixop _ _ | with_reducible exact ixod _ _ | assumption); omega) | ((first | with_reducible apply w_TA | with_reducible apply w_TW | with_reducible apply w_TJ | with_reducible apply w_TK); exact hT; rfl; rfl; (first | with_reducible rfl | with_reducible exact ixo _ | with_reducible exact ixoc _ _ | with_reducible exact ixom _ _ _ | with_reducible exact ixop _ _ | with_reducible exact ixod _ _ | assumption); omega))
        rw [htx.2.1]
        refine v_it (nI_le (Nat.le_refl _) (by omega)) ?_
        unfold fX9_rumour_89
        refine v_if (fun e => v_rI ⟨eo_rf, by rw [if_pos e]⟩) (fun e => ?_)
        rw [if_neg e]
        have := hKn.1
        refine v_ze (by omega) (fun e2 => v_rI ⟨eo_rf, ?_⟩) (fun e2 => v_rI ⟨eo_rf, ?_⟩)
        · rw [if_pos e2]
          rcases hKn.2 with z | z
          · exact z.1
          · omega
        · rw [if_neg (by omega)]
      · intro j v y h2 k hj hI hk
        obtain ⟨rfl, rfl, rfl⟩ := hI
        unfold bX9_rumour_19
        dsimp only
        repeat (first | with_reducible apply v_lt | ((with_reducible apply vXR4); exact hT) | ((with_reducible apply w_XR); exact (LM_T hT); rfl) | ((with_reducible apply w_TR); exact hT; rfl) | ((with_reducible apply w_UR); exact hT; rfl) | ((first | with_reducible apply vXI | with_reducible apply vXS | with_reducible apply vXC); exact (LM_T hT)) | ((first | with_reducible apply vT0I | with_reducible apply vT9I | with_reducible apply vT0C | with_reducible apply vT9C | with_reducible apply vT0S | with_reducible apply vT9S); exact hT) | ((first | with_reducible apply vNR0 | with_reducible apply vNR1 | with_reducible apply vNR2 | with_reducible apply vNR3 | with_reducible apply vNI | with_reducible apply vNS | with_reducible apply vNC); (first | assumption | exact m39 | exact m44); exact (LM_T hT)) | ((first | with_reducible apply w_NA | with_reducible apply w_NW); exact (LM_T hT); (first | assumption | exact m39 | exact m44); rfl; rfl; (first | with_reducible rfl | with_reducible exact ixo _ | with_reducible exact ixoc _ _ | with_reducible exact ixom _ _ _ | with_reducible exact ixop _ _ | with_reducible exact ixod _ _ | assumption); omega) | ((first | with_reducible apply w_TA | with_reducible apply w_TW | with_reducible apply w_TJ | with_reducible apply w_TK); exact hT; rfl; rfl; (first | with_reducible rfl | with_reducible exact ixo _ | with_reducible exact ixoc _ _ | with_reducible exact ixom _ _ _ | with_reducible exact ixop _ _ | with_reducible exact ixod _ _ | assumption); omega))
        rw [htx.2.1]
        refine v_ie (nI_ge hj (by omega)) ?_
        repeat (first | with_reducible apply v_lt | ((with_reducible apply vXR4); exact hT) | ((with_reducible apply w_XR); exact (LM_T hT); rfl) | ((with_reducible apply w_TR); exact hT; rfl) | ((with_reducible apply w_UR); exact hT; rfl) | ((first | with_reducible apply vXI | with_reducible apply vXS | with_reducible apply vXC); exact (LM_T hT)) | ((first | with_reducible apply vT0I | with_reducible apply vT9I | with_reducible apply vT0C | with_reducible apply vT9C | with_reducible apply vT0S | with_reducible apply vT9S); exact hT) | ((first | with_reducible apply vNR0 | with_reducible apply vNR1 | with_reducible apply vNR2 | with_reducible apply vNR3 | with_reducible apply vNI | with_reducible apply vNS | with_reducible apply vNC); (first | assumption | exact m39 | exact m44); exact (LM_T hT)) | ((first | with_reducible apply w_NA | with_reducible apply w_NW); exact (LM_T hT); (first | assumption | exact m39 | exact m44); rfl; rfl; (first | with_reducible rfl | with_reducible exact ixo _ | with_reducible exact ixoc _ _ | with_reducible exact ixom _ _ _ | with_reducible exact ixop _ _ | with_reducible exact ixod _ _ | assumption); omega) | ((first | with_reducible apply w_TA | with_reducible apply w_TW | with_reducible apply w_TJ | with_reducible apply w_TK); exact hT; rfl; rfl; (first | with_reducible rfl | with_reducible exact ixo _ | with_reducible exact ixoc _ _ | with_reducible exact ixom _ _ _ | with_reducible exact ixop _ _ | with_reducible exact ixod _ _ | assumption); omega))
        refine loop4b (j + 1) (nL9 T - (j + 1)) (I := fun i v' y' h' => h' = h2 ∧ v' = (ruI g j (ruO g (nL9 T) j) i).1 ∧ y' = nI (ruI g j (ruO g (nL9 T) j) i).2) (by omega) hfu (nI_1 j) ⟨rfl, rfl, rfl⟩ ?_ ?_
        · intro v' y' h3 k3 hI3
          obtain ⟨rfl, rfl, rfl⟩ := hI3
          unfold bX9_rumour_37
          dsimp only
          repeat (first | with_reducible apply v_lt | ((with_reducible apply vXR4); exact hT) | ((with_reducible apply w_XR); exact (LM_T hT); rfl) | ((with_reducible apply w_TR); exact hT; rfl) | ((with_reducible apply w_UR); exact hT; rfl) | ((first | with_reducible apply vXI | with_reducible apply vXS | with_reducible apply vXC); exact (LM_T hT)) | ((first | with_reducible apply vT0I | with_reducible apply vT9I | with_reducible apply vT0C | with_reducible apply vT9C | with_reducible apply vT0S | with_reducible apply vT9S); exact hT) | ((first | with_reducible apply vNR0 | with_reducible apply vNR1 | with_reducible apply vNR2 | with_reducible apply vNR3 | with_reducible apply vNI | with_reducible apply vNS | with_reducible apply vNC); (first | assumption | exact m39 | exact m44); exact (LM_T hT)) | ((first | with_reducible apply w_NA | with_reducible apply w_NW); exact (LM_T hT); (first | assumption | exact m39 | exact m44); rfl; rfl; (first | with_reducible rfl | with_reducible exact ixo _ | with_reducible exact ixoc _ _ | with_reducible exact ixom _ _ _ | with_reducible exact ixop _ _ | with_reducible exact ixod _ _ | assumption); omega) | ((first | with_reducible apply w_TA | with_reducible apply w_TW | with_reducible apply w_TJ | with_reducible apply w_TK); exact hT; rfl; rfl; (first | with_reducible rfl | with_reducible exact ixo _ | with_reducible exact ixoc _ _ | with_reducible exact ixom _ _ _ | with_reducible exact ixop _ _ | with_reducible exact ixod _ _ | assumption); omega))
          rw [htx.2.1]
          exact v_it (nI_le (by omega) (by omega)) (hk _ _ _ ⟨rfl, rfl, rfl⟩)
        · intro i v' y' h3 k3 hi hI3 hk3
          obtain ⟨rfl, rfl, rfl⟩ := hI3
          have hki := (ruI_ok hg8 (l := j) (by omega) (hK j (by omega)) i (by omega)).1
          have hgj := hg8 j (j + 1 + i)
          unfold bX9_rumour_37
          dsimp only
          repeat (first | with_reducible apply v_lt | ((with_reducible apply vXR4); exact hT) | ((with_reducible apply w_XR); exact (LM_T hT); rfl) | ((with_reducible apply w_TR); exact hT; rfl) | ((with_reducible apply w_UR); exact hT; rfl) | ((first | with_reducible apply vXI | with_reducible apply vXS | with_reducible apply vXC); exact (LM_T hT)) | ((first | with_reducible apply vT0I | with_reducible apply vT9I | with_reducible apply vT0C | with_reducible apply vT9C | with_reducible apply vT0S | with_reducible apply vT9S); exact hT) | ((first | with_reducible apply vNR0 | with_reducible apply vNR1 | with_reducible apply vNR2 | with_reducible apply vNR3 | with_reducible apply vNI | with_reducible apply vNS | with_reducible apply vNC); (first | assumption | exact m39 | exact m44); exact (LM_T hT)) | ((first | with_reducible apply w_NA | with_reducible apply w_NW); exact (LM_T hT); (first | assumption | exact m39 | exact m44); rfl; rfl; (first | with_reducible rfl | with_reducible exact ixo _ | with_reducible exact ixoc _ _ | with_reducible exact ixom _ _ _ | with_reducible exact ixop _ _ | with_reducible exact ixod _ _ | assumption); omega) | ((first | with_reducible apply w_TA | with_reducible apply w_TW | with_reducible apply w_TJ | with_reducible apply w_TK); exact hT; rfl; rfl; (first | with_reducible rfl | with_reducible exact ixo _ | with_reducible exact ixoc _ _ | with_reducible exact ixom _ _ _ | with_reducible exact ixop _ _ | with_reducible exact ixod _ _ | assumption); omega))
          rw [htx.2.1]
          refine v_ie (nI_ge (by omega) (by omega)) ?_
          repeat (first | with_reducible apply v_lt | ((with_reducible apply vXR4); exact hT) | ((with_reducible apply w_XR); exact (LM_T hT); rfl) | ((with_reducible apply w_TR); exact hT; rfl) | ((with_reducible apply w_UR); exact hT; rfl) | ((first | with_reducible apply vXI | with_reducible apply vXS | with_reducible apply vXC); exact (LM_T hT)) | ((first | with_reducible apply vT0I | with_reducible apply vT9I | with_reducible apply vT0C | with_reducible apply vT9C | with_reducible apply vT0S | with_reducible apply vT9S); exact hT) | ((first | with_reducible apply vNR0 | with_reducible apply vNR1 | with_reducible apply vNR2 | with_reducible apply vNR3 | with_reducible apply vNI | with_reducible apply vNS | with_reducible apply vNC); (first | assumption | exact m39 | exact m44); exact (LM_T hT)) | ((first | with_reducible apply w_NA | with_reducible apply w_NW); exact (LM_T hT); (first | assumption | exact m39 | exact m44); rfl; rfl; (first | with_reducible rfl | with_reducible exact ixo _ | with_reducible exact ixoc _ _ | with_reducible exact ixom _ _ _ | with_reducible exact ixop _ _ | with_reducible exact ixod _ _ | assumption); omega) | ((first | with_reducible apply w_TA | with_reducible apply w_TW | with_reducible apply w_TJ | with_reducible apply w_TK); exact hT; rfl; rfl; (first | with_reducible rfl | with_reducible exact ixo _ | with_reducible exact ixoc _ _ | with_reducible exact ixom _ _ _ | with_reducible exact ixop _ _ | with_reducible exact ixod _ _ | assumption); omega))
          refine v_eq (gainTC hC (by omega) (by omega)) ?_
          rw [hg]
          refine v_if (fun e => hk3 _ _ _ ⟨rfl, ?_, ?_⟩) (fun e => ?_)
          · rw [nI_leI (by omega) (by omega)] at e
            show _ = (ruS g j (j + 1 + i) _).1
            unfold ruS
            rw [if_neg (by omega)]
          · rw [nI_leI (by omega) (by omega)] at e
            show _ = nI (ruS g j (j + 1 + i) _).2
            unfold ruS
            rw [if_neg (by omega)]
          · rw [nI_leI (by omega) (by omega)] at e
            refine v_lt (hk3 _ _ _ ⟨rfl, ?_, ?_⟩)
            · show _ = (ruS g j (j + 1 + i) _).1
              unfold ruS
              rw [if_pos (by omega)]
              exact ixom 10 _ _
            · show _ = nI (ruS g j (j + 1 + i) _).2
              unfold ruS
              rw [if_pos (by omega)]
    · have hM1 := hS1.2.1
      obtain ⟨hy1, hl, hlv1, htx1, hng1, -, -⟩ := id hM1
      have hL1 := LM_of hy1
      unfold fX10_rumour
      refine v_eq (in_1 (b := 1) (by omega) (by decide)) ?_
      refine v_ie (by decide) ?_
      refine loop4 (I := fun j v y h' => h' = h1 ∧ v = (ruO g (nL9 T) j).1 ∧ y = nI (ruO g (nL9 T) j).2) (n := nL9 T) (by omega) hfu ⟨rfl, rfl, rfl⟩ ?_ ?_
      · intro v y h2 k hI
        obtain ⟨rfl, rfl, rfl⟩ := hI
        unfold bX10_rumour_19
        dsimp only
        repeat (first | with_reducible apply v_lt | ((with_reducible apply w_MR); exact hL1; rfl) | ((with_reducible apply w_lv); exact hL1; assumption) | ((with_reducible apply vMI); exact hL1) | ((with_reducible apply vMS); exact hL1) | ((with_reducible apply vMC); exact hL1) | ((with_reducible apply vMZ); exact hL1; (first | exact Or.inl rfl | exact Or.inr rfl | exact b2i_01 _ | assumption)) | ((first | with_reducible apply w_MA | with_reducible apply w_MW | with_reducible apply w_MY | with_reducible apply w_MB | with_reducible apply w_MJ | with_reducible apply w_MK); exact hL1; rfl; rfl; rfl; (first | with_reducible rfl | with_reducible exact ixo _ | with_reducible exact ixoc _ _ | with_reducible exact ixom _ _ _ | with_reducible exact ixop _ _ | with_reducible exact ixod _ _ | assumption); omega))
        rw [htx1.2.1]
        refine v_it (nI_le (Nat.le_refl _) (by omega)) ?_
        unfold fX10_rumour_98
        rcases hKn.2 with z | z
        · refine v_it (by rw [z.1]; decide) (v_rI ⟨eo_rf, ?_⟩)
          rw [z.1, if_pos z.2]
          split <;> rfl
        · refine v_ie z.1 ?_
          refine v_if (fun e => v_rI ⟨eo_rf, by rw [if_pos e]⟩) (fun e => v_rI ⟨eo_rf, ?_⟩)
          rw [if_neg e, if_neg (by omega)]
      · intro j v y h2 k hj hI hk
        obtain ⟨rfl, rfl, rfl⟩ := hI
        unfold bX10_rumour_19
        dsimp only
        repeat (first | with_reducible apply v_lt | ((with_reducible apply w_MR); exact hL1; rfl) | ((with_reducible apply w_lv); exact hL1; assumption) | ((with_reducible apply vMI); exact hL1) | ((with_reducible apply vMS); exact hL1) | ((with_reducible apply vMC); exact hL1) | ((with_reducible apply vMZ); exact hL1; (first | exact Or.inl rfl | exact Or.inr rfl | exact b2i_01 _ | assumption)) | ((first | with_reducible apply w_MA | with_reducible apply w_MW | with_reducible apply w_MY | with_reducible apply w_MB | with_reducible apply w_MJ | with_reducible apply w_MK); exact hL1; rfl; rfl; rfl; (first | with_reducible rfl | with_reducible exact ixo _ | with_reducible exact ixoc _ _ | with_reducible exact ixom _ _ _ | with_reducible exact ixop _ _ | with_reducible exact ixod _ _ | assumption); omega))
        rw [htx1.2.1]
        refine v_ie (nI_ge hj (by omega)) ?_
        repeat (first | with_reducible apply v_lt | ((with_reducible apply w_MR); exact hL1; rfl) | ((with_reducible apply w_lv); exact hL1; assumption) | ((with_reducible apply vMI); exact hL1) | ((with_reducible apply vMS); exact hL1) | ((with_reducible apply vMC); exact hL1) | ((with_reducible apply vMZ); exact hL1; (first | exact Or.inl rfl | exact Or.inr rfl | exact b2i_01 _ | assumption)) | ((first | with_reducible apply w_MA | with_reducible apply w_MW | with_reducible apply w_MY | with_reducible apply w_MB | with_reducible apply w_MJ | with_reducible apply w_MK); exact hL1; rfl; rfl; rfl; (first | with_reducible rfl | with_reducible exact ixo _ | with_reducible exact ixoc _ _ | with_reducible exact ixom _ _ _ | with_reducible exact ixop _ _ | with_reducible exact ixod _ _ | assumption); omega))
        refine loop4b (j + 1) (nL9 T - (j + 1)) (I := fun i v' y' h' => h' = h2 ∧ v' = (ruI g j (ruO g (nL9 T) j) i).1 ∧ y' = nI (ruI g j (ruO g (nL9 T) j) i).2) (by omega) hfu (nI_1 j) ⟨rfl, rfl, rfl⟩ ?_ ?_
        · intro v' y' h3 k3 hI3
          obtain ⟨rfl, rfl, rfl⟩ := hI3
          unfold bX10_rumour_39
          dsimp only
          repeat (first | with_reducible apply v_lt | ((with_reducible apply w_MR); exact hL1; rfl) | ((with_reducible apply w_lv); exact hL1; assumption) | ((with_reducible apply vMI); exact hL1) | ((with_reducible apply vMS); exact hL1) | ((with_reducible apply vMC); exact hL1) | ((with_reducible apply vMZ); exact hL1; (first | exact Or.inl rfl | exact Or.inr rfl | exact b2i_01 _ | assumption)) | ((first | with_reducible apply w_MA | with_reducible apply w_MW | with_reducible apply w_MY | with_reducible apply w_MB | with_reducible apply w_MJ | with_reducible apply w_MK); exact hL1; rfl; rfl; rfl; (first | with_reducible rfl | with_reducible exact ixo _ | with_reducible exact ixoc _ _ | with_reducible exact ixom _ _ _ | with_reducible exact ixop _ _ | with_reducible exact ixod _ _ | assumption); omega))
          rw [htx1.2.1]
          exact v_it (nI_le (by omega) (by omega)) (hk _ _ _ ⟨rfl, rfl, rfl⟩)
        · intro i v' y' h3 k3 hi hI3 hk3
          obtain ⟨rfl, rfl, rfl⟩ := hI3
          have hki := (ruI_ok hg8 (l := j) (by omega) (hK j (by omega)) i (by omega)).1
          have hgj := hg8 j (j + 1 + i)
          unfold bX10_rumour_39
          dsimp only
          repeat (first | with_reducible apply v_lt | ((with_reducible apply w_MR); exact hL1; rfl) | ((with_reducible apply w_lv); exact hL1; assumption) | ((with_reducible apply vMI); exact hL1) | ((with_reducible apply vMS); exact hL1) | ((with_reducible apply vMC); exact hL1) | ((with_reducible apply vMZ); exact hL1; (first | exact Or.inl rfl | exact Or.inr rfl | exact b2i_01 _ | assumption)) | ((first | with_reducible apply w_MA | with_reducible apply w_MW | with_reducible apply w_MY | with_reducible apply w_MB | with_reducible apply w_MJ | with_reducible apply w_MK); exact hL1; rfl; rfl; rfl; (first | with_reducible rfl | with_reducible exact ixo _ | with_reducible exact ixoc _ _ | with_reducible exact ixom _ _ _ | with_reducible exact ixop _ _ | with_reducible exact ixod _ _ | assumption); omega))
          rw [htx1.2.1]
          refine v_ie (nI_ge (by omega) (by omega)) ?_
          repeat (first | with_reducible apply v_lt | ((with_reducible apply w_MR); exact hL1; rfl) | ((with_reducible apply w_lv); exact hL1; assumption) | ((with_reducible apply vMI); exact hL1) | ((with_reducible apply vMS); exact hL1) | ((with_reducible apply vMC); exact hL1) | ((with_reducible apply vMZ); exact hL1; (first | exact Or.inl rfl | exact Or.inr rfl | exact b2i_01 _ | assumption)) | ((first | with_reducible apply w_MA | with_reducible apply w_MW | with_reducible apply w_MY | with_reducible apply w_MB | with_reducible apply w_MJ | with_reducible apply w_MK); exact hL1; rfl; rfl; rfl; (first | with_reducible rfl | with_reducible exact ixo _ | with_reducible exact ixoc _ _ | with_reducible exact ixom _ _ _ | with_reducible exact ixop _ _ | with_reducible exact ixod _ _ | assumption); omega))
          refine v_eq (moreM hM1 hfu (by omega) (by omega)) ?_
          rw [hg]
          refine v_if (fun e => ?_) (fun e => hk3 _ _ _ ⟨rfl, ?_, ?_⟩)
          · rw [nI_ltI (by omega) (by omega)] at e
            repeat (first | with_reducible apply v_lt | ((with_reducible apply w_MR); exact hL1; rfl) | ((with_reducible apply w_lv); exact hL1; assumption) | ((with_reducible apply vMI); exact hL1) | ((with_reducible apply vMS); exact hL1) | ((with_reducible apply vMC); exact hL1) | ((with_reducible apply vMZ); exact hL1; (first | exact Or.inl rfl | exact Or.inr rfl | exact b2i_01 _ | assumption)) | ((first | with_reducible apply w_MA | with_reducible apply w_MW | with_reducible apply w_MY | with_reducible apply w_MB | with_reducible apply w_MJ | with_reducible apply w_MK); exact hL1; rfl; rfl; rfl; (first | with_reducible rfl | with_reducible exact ixo _ | with_reducible exact ixoc _ _ | with_reducible exact ixom _ _ _ | with_reducible exact ixop _ _ | with_reducible exact ixod _ _ | assumption); omega))
            refine v_eq (moreM hM1 hfu (by omega) (by omega)) ?_
            refine hk3 _ _ _ ⟨rfl, ?_, ?_⟩
            · show _ = (ruS g j (j + 1 + i) _).1
              unfold ruS
              rw [if_pos (by omega)]
              exact ixom 10 _ _
            · show _ = nI (ruS g j (j + 1 + i) _).2
              unfold ruS
              rw [if_pos (by omega), hg]
          · rw [nI_ltI (by omega) (by omega)] at e
            show _ = (ruS g j (j + 1 + i) _).1
            unfold ruS
            rw [if_neg (by omega)]
          · rw [nI_ltI (by omega) (by omega)] at e
            show _ = nI (ruS g j (j + 1 + i) _).2
            unfold ruS
            rw [if_neg (by omega)]
  · refine pr_q (-1) hS ?_ (fun h1 hS1 => ?_)
    · unfold fX9_rumour
      exact v_out (n := 1) q (by decide) (v_rI ⟨eo_rf, rfl⟩) (v_rI ⟨eo_rf, rfl⟩)
    · unfold fX10_rumour
      exact v_eq (in_0 (b := 2) (by decide) (by decide) q) (v_it rfl (v_rI ⟨eo_rf, rfl⟩))
