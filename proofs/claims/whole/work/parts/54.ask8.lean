/-! QUESTIONS: apart, circle -/
/-- the first of the smallest sets that do -/
def apU (p : Nat → Bool) : Nat → Option Nat
  | 0 => none
  | i + 1 => match apU p i with
    | none => if p i then some i else none
    | some b => if p i && decide (pop i 8 < pop b 8) then some i else some b
def optI : Option Nat → Int32
  | none => -2
  | some b => nI b
def apW (c : Nat) (p : Nat → Bool) (i : Nat) : Nat := match apU p i with
  | none => c
  | some b => pop b 8
theorem apU_lt (p : Nat → Bool) : ∀ n b, apU p n = some b → b < n
  | 0, b, h => by cases h
  | n + 1, b, h => by
    have ih := apU_lt p n
    unfold apU at h
    cases e : apU p n with
    | none =>
      rw [e] at h
      dsimp only at h
      split at h
      · cases h
        omega
      · cases h
    | some b' =>
      rw [e] at h
      dsimp only at h
      have := ih b' e
      split at h
      · cases h
        omega
      · cases h
        omega
theorem apU_skip {c : Nat} {p : Nat → Bool} {i : Nat} (h : apW c p i ≤ pop i 8) (hp : p i = true → pop i 8 < c) : apU p (i + 1) = apU p i := by
  unfold apW at h
  show (match apU p i with | none => if p i then some i else none | some b => if p i && decide (pop i 8 < pop b 8) then some i else some b) = _
  cases e : apU p i with
  | none =>
    rw [e] at h
    dsimp only at h ⊢
    rw [if_neg (fun z => by have := hp z; omega)]
  | some b =>
    rw [e] at h
    dsimp only at h ⊢
    rw [decide_eq_false (by omega), Bool.and_false]
    rfl
theorem apU_no {p : Nat → Bool} {i : Nat} (h : p i = false) : apU p (i + 1) = apU p i := by
  show (match apU p i with | none => if p i then some i else none | some b => if p i && decide (pop i 8 < pop b 8) then some i else some b) = _
  cases e : apU p i with
  | none =>
    dsimp only
    rw [h]
    rfl
  | some b =>
    dsimp only
    rw [h, Bool.false_and]
    rfl
theorem apU_yes {c : Nat} {p : Nat → Bool} {i : Nat} (h : p i = true) (hw : pop i 8 < apW c p i) : apU p (i + 1) = some i := by
  unfold apW at hw
  show (match apU p i with | none => if p i then some i else none | some b => if p i && decide (pop i 8 < pop b 8) then some i else some b) = _
  cases e : apU p i with
  | none =>
    dsimp only
    rw [h]
    rfl
  | some b =>
    rw [e] at hw
    dsimp only at hw ⊢
    rw [h, Bool.true_and, decide_eq_true hw]
    rfl
theorem apW_le {c : Nat} {p : Nat → Bool} (hc : c ≤ 9) (n : Nat) : apW c p n ≤ 9 := by
  unfold apW
  split
  · exact hc
  · exact Nat.le_trans (pop_le _ 8) (by omega)
/-- the class's loop -/
theorem apC {B : (Int32 × Int32 × Int32 × mh → Option (Int32 × mh)) → Int32 × Int32 × Int32 × mh → Option (Int32 × mh)} {fu n c : Nat} {p : Nat → Bool} {Q : Int32 → mh → Prop} (hn : n ≤ 256) (hc : c ≤ 9) (hfu : 1000 ≤ fu) {h : mh} {y : Int32} (hy : y = nI c) (hp : ∀ i, i < n → p i = true → pop i 8 < c)
    (he : ∀ k, ok (B k (optI (apU p n), nI (apW c p n), nI n, h)) Q)
    (hs : ∀ (i w : Nat) (v : Int32) (k : Int32 × Int32 × Int32 × mh → Option (Int32 × mh)), i < n → w ≤ 9 → (w ≤ pop i 8 → ok (k (v, nI w, nI i + 1, h)) Q) → (p i = false → ok (k (v, nI w, nI i + 1, h)) Q) → (pop i 8 < w → p i = true → ok (k (nI i, nI (pop i 8), nI i + 1, h)) Q) → ok (B k (v, nI w, nI i, h)) Q) : ok (itr B fu (-2, y, 0, h)) Q := by
  refine loop4 (I := fun j v w h' => h' = h ∧ v = optI (apU p j) ∧ w = nI (apW c p j)) (n := n) (by omega) hfu ⟨rfl, rfl, hy⟩ ?_ ?_
  · intro v w h2 k hI
    obtain ⟨rfl, rfl, rfl⟩ := hI
    exact he k
  · intro j v w h2 k hj hI hk
    obtain ⟨rfl, rfl, rfl⟩ := hI
    refine hs j _ _ k hj (apW_le hc j) (fun e => hk _ _ _ ⟨rfl, ?_, ?_⟩) (fun e => hk _ _ _ ⟨rfl, ?_, ?_⟩) (fun e1 e2 => hk _ _ _ ⟨rfl, ?_, ?_⟩)
    · rw [apU_skip e (hp j hj)]
    · unfold apW
      rw [apU_skip e (hp j hj)]
    · rw [apU_no e]
    · unfold apW
      rw [apU_no e]
    · rw [apU_yes e2 e1]
      rfl
    · unfold apW
      rw [apU_yes e2 e1]
/-- the reference's loop -/
theorem apM {B : (Int32 × Int32 × mh → Option (Int32 × mh)) → Int32 × Int32 × mh → Option (Int32 × mh)} {fu n : Nat} {p : Nat → Bool} {Q : Int32 → mh → Prop} (hn : n ≤ 256) (hfu : 1000 ≤ fu) {h : mh}
    (he : ∀ k, ok (B k (optI (apU p n), nI n, h)) Q)
    (hs : ∀ (i : Nat) (a : Option Nat) (k : Int32 × Int32 × mh → Option (Int32 × mh)), i < n → (∀ b, a = some b → b < 256) → ((∃ b, a = some b ∧ pop b 8 ≤ pop i 8) → ok (k (optI a, nI i + 1, h)) Q) → (p i = false → ok (k (optI a, nI i + 1, h)) Q) → ((a = none ∨ ∃ b, a = some b ∧ pop i 8 < pop b 8) → p i = true → ok (k (nI i, nI i + 1, h)) Q) → ok (B k (optI a, nI i, h)) Q) : ok (itr B fu (-2, 0, h)) Q := by
  refine loop3 (I := fun j v h' => h' = h ∧ v = optI (apU p j)) (n := n) (by omega) hfu ⟨rfl, rfl⟩ ?_ ?_
  · intro v h2 k hI
    obtain ⟨rfl, rfl⟩ := hI
    exact he k
  · intro j v h2 k hj hI hk
    obtain ⟨rfl, rfl⟩ := hI
    refine hs j _ k hj (fun b e => by have := apU_lt p j b e; omega) (fun e => hk _ _ ⟨rfl, ?_⟩) (fun e => hk _ _ ⟨rfl, ?_⟩) (fun e1 e2 => hk _ _ ⟨rfl, ?_⟩)
    · obtain ⟨b, e, z⟩ := e
      rw [apU_skip (c := 10) (by unfold apW; rw [e]; exact z) (fun _ => by have := pop_le j 8; omega)]
    · rw [apU_no e]
    · rw [apU_yes (c := 10) e2 ?_]
      · rfl
      · unfold apW
        rcases e1 with e | ⟨b, e, z⟩
        · rw [e]
          have := pop_le j 8
          show pop j 8 < 10
          omega
        · rw [e]
          exact z
/-! whether facts tell all roles apart -/
def aptB (T : AT) (s : Nat) : Bool := decide (∀ r, r < nR T → ∀ i, i < nR T - (r + 1) → ¬ (kw T r ^^^ kw T (r + 1 + i)) &&& s = 0)
theorem xor_and0 (a b s : Nat) : (a ^^^ b) &&& s = 0 ↔ a &&& s = b &&& s := by
  constructor
  · intro h
    apply Nat.eq_of_testBit_eq
    intro i
    have := congrArg (fun x => x.testBit i) h
    simp only [Nat.testBit_and, Nat.testBit_xor, Nat.zero_testBit] at this
    rw [Nat.testBit_and, Nat.testBit_and]
    revert this
    cases a.testBit i <;> cases b.testBit i <;> cases s.testBit i <;> simp
  · intro h
    apply Nat.eq_of_testBit_eq
    intro i
    have := congrArg (fun x => x.testBit i) h
    simp only [Nat.testBit_and] at this
    rw [Nat.testBit_and, Nat.testBit_xor, Nat.zero_testBit]
    revert this
    cases a.testBit i <;> cases b.testBit i <;> cases s.testBit i <;> simp
theorem apartC {t u n fu s : Nat} {T : AT} {N : AN} {h : mh} (hC : CC t u T n N h) (hfu : 1000 ≤ fu) (hs : s < 256) : fX6_tellsRolesApart fu t (nI s) h = some (b2i (aptB T s), h) := by
  obtain ⟨hy, htx, hng, hn, hwT, hwN⟩ := id hC
  have hT := LT_of hy
  have h6 := hwT.1
  refine ok_eq ?_
  unfold fX6_tellsRolesApart
  refine loop2 (I := fun j h' => h' = h ∧ ∀ r, r < j → ∀ i, i < nR T - (r + 1) → ¬ (kw T r ^^^ kw T (r + 1 + i)) &&& s = 0) (n := nR T) (by omega) hfu ⟨rfl, fun r hr => by omega⟩ ?_ ?_
  · intro h2 k hI
    obtain ⟨rfl, q⟩ := hI
    unfold bX6_tellsRolesApart_2
    dsimp only
    repeat (first | with_reducible apply v_lt | ((with_reducible apply vXR4); exact hT) | ((with_reducible apply w_XR); exact (LM_T hT); rfl) | ((with_reducible apply w_TR); exact hT; rfl) | ((with_reducible apply w_UR); exact hT; rfl) | ((first | with_reducible apply vXI | with_reducible apply vXS | with_reducible apply vXC); exact (LM_T hT)) | ((first | with_reducible apply vT0I | with_reducible apply vT9I | with_reducible apply vT0C | with_reducible apply vT9C | with_reducible apply vT0S | with_reducible apply vT9S); exact hT) | ((first | with_reducible apply vNR0 | with_reducible apply vNR1 | with_reducible apply vNR2 | with_reducible apply vNR3 | with_reducible apply vNI | with_reducible apply vNS | with_reducible apply vNC); (first | assumption | exact m39 | exact m44); exact (LM_T hT)) | ((first | with_reducible apply w_NA | with_reducible apply w_NW); exact (LM_T hT); (first | assumption | exact m39 | exact m44); rfl; rfl; (first | with_reducible rfl | with_reducible exact ixo _ | with_reducible exact ixoc _ _ | with_reducible exact ixom _ _ _ | with_reducible exact ixop _ _ | with_reducible exact ixod _ _ | assumption); omega) | ((first | with_reducible apply w_TA | with_reducible apply w_TW | with_reducible apply w_TJ | with_reducible apply w_TK); exact hT; rfl; rfl; (first | with_reducible rfl | with_reducible exact ixo _ | with_reducible exact ixoc _ _ | with_reducible exact ixom _ _ _ | with_reducible exact ixop _ _ | with_reducible exact ixod _ _ | assumption); omega))
    rw [htx.1]
    refine v_it (nI_le (Nat.le_refl _) (by omega)) (v_rZ (Or.inr rfl) ⟨?_, rfl⟩)
    unfold aptB
    rw [decide_eq_true q]
    rfl
  · intro j h2 k hj hI hk
    obtain ⟨rfl, q⟩ := hI
    unfold bX6_tellsRolesApart_2
    dsimp only
    repeat (first | with_reducible apply v_lt | ((with_reducible apply vXR4); exact hT) | ((with_reducible apply w_XR); exact (LM_T hT); rfl) | ((with_reducible apply w_TR); exact hT; rfl) | ((with_reducible apply w_UR); exact hT; rfl) | ((first | with_reducible apply vXI | with_reducible apply vXS | with_reducible apply vXC); exact (LM_T hT)) | ((first | with_reducible apply vT0I | with_reducible apply vT9I | with_reducible apply vT0C | with_reducible apply vT9C | with_reducible apply vT0S | with_reducible apply vT9S); exact hT) | ((first | with_reducible apply vNR0 | with_reducible apply vNR1 | with_reducible apply vNR2 | with_reducible apply vNR3 | with_reducible apply vNI | with_reducible apply vNS | with_reducible apply vNC); (first | assumption | exact m39 | exact m44); exact (LM_T hT)) | ((first | with_reducible apply w_NA | with_reducible apply w_NW); exact (LM_T hT); (first | assumption | exact m39 | exact m44); rfl; rfl; (first | with_reducible rfl | with_reducible exact ixo _ | with_reducible exact ixoc _ _ | with_reducible exact ixom _ _ _ | with_reducible exact ixop _ _ | with_reducible exact ixod _ _ | assumption); omega) | ((first | with_reducible apply w_TA | with_reducible apply w_TW | with_reducible apply w_TJ | with_reducible apply w_TK); exact hT; rfl; rfl; (first | with_reducible rfl | with_reducible exact ixo _ | with_reducible exact ixoc _ _ | with_reducible exact ixom _ _ _ | with_reducible exact ixop _ _ | with_reducible exact ixod _ _ | assumption); omega))
    rw [htx.1]
    refine v_ie (nI_ge hj (by omega)) ?_
    repeat (first | with_reducible apply v_lt | ((with_reducible apply vXR4); exact hT) | ((with_reducible apply w_XR); exact (LM_T hT); rfl) | ((with_reducible apply w_TR); exact hT; rfl) | ((with_reducible apply w_UR); exact hT; rfl) | ((first | with_reducible apply vXI | with_reducible apply vXS | with_reducible apply vXC); exact (LM_T hT)) | ((first | with_reducible apply vT0I | with_reducible apply vT9I | with_reducible apply vT0C | with_reducible apply vT9C | with_reducible apply vT0S | with_reducible apply vT9S); exact hT) | ((first | with_reducible apply vNR0 | with_reducible apply vNR1 | with_reducible apply vNR2 | with_reducible apply vNR3 | with_reducible apply vNI | with_reducible apply vNS | with_reducible apply vNC); (first | assumption | exact m39 | exact m44); exact (LM_T hT)) | ((first | with_reducible apply w_NA | with_reducible apply w_NW); exact (LM_T hT); (first | assumption | exact m39 | exact m44); rfl; rfl; (first | with_reducible rfl | with_reducible exact ixo _ | with_reducible exact ixoc _ _ | with_reducible exact ixom _ _ _ | with_reducible exact ixop _ _ | with_reducible exact ixod _ _ | assumption); omega) | ((first | with_reducible apply w_TA | with_reducible apply w_TW | with_reducible apply w_TJ | with_reducible apply w_TK); exact hT; rfl; rfl; (first | with_reducible rfl | with_reducible exact ixo _ | with_reducible exact ixoc _ _ | with_reducible exact ixom _ _ _ | with_reducible exact ixop _ _ | with_reducible exact ixod _ _ | assumption); omega))
    refine loop2b (j + 1) (nR T - (j + 1)) (I := fun i h' => h' = h2 ∧ ∀ i', i' < i → ¬ (kw T j ^^^ kw T (j + 1 + i')) &&& s = 0) (by omega) hfu (nI_1 j) ⟨rfl, fun i hi => by omega⟩ ?_ ?_
    · intro h3 k3 hI3
      obtain ⟨rfl, q3⟩ := hI3
      unfold bX6_tellsRolesApart_14
      dsimp only
      repeat (first | with_reducible apply v_lt | ((with_reducible apply vXR4); exact hT) | ((with_reducible apply w_XR); exact (LM_T hT); rfl) | ((with_reducible apply w_TR); exact hT; rfl) | ((with_reducible apply w_UR); exact hT; rfl) | ((first | with_reducible apply vXI | with_reducible apply vXS | with_reducible apply vXC); exact (LM_T hT)) | ((first | with_reducible apply vT0I | with_reducible apply vT9I | with_reducible apply vT0C | with_reducible apply vT9C | with_reducible apply vT0S | with_reducible apply vT9S); exact hT) | ((first | with_reducible apply vNR0 | with_reducible apply vNR1 | with_reducible apply vNR2 | with_reducible apply vNR3 | with_reducible apply vNI | with_reducible apply vNS | with_reducible apply vNC); (first | assumption | exact m39 | exact m44); exact (LM_T hT)) | ((first | with_reducible apply w_NA | with_reducible apply w_NW); exact (LM_T hT); (first | assumption | exact m39 | exact m44); rfl; rfl; (first | with_reducible rfl | with_reducible exact ixo _ | with_reducible exact ixoc _ _ | with_reducible exact ixom _ _ _ | with_reducible exact ixop _ _ | with_reducible exact ixod _ _ | assumption); omega) | ((first | with_reducible apply w_TA | with_reducible apply w_TW | with_reducible apply w_TJ | with_reducible apply w_TK); exact hT; rfl; rfl; (first | with_reducible rfl | with_reducible exact ixo _ | with_reducible exact ixoc _ _ | with_reducible exact ixom _ _ _ | with_reducible exact ixop _ _ | with_reducible exact ixod _ _ | assumption); omega))
      rw [htx.1]
      refine v_it (nI_le (by omega) (by omega)) (hk _ ⟨rfl, fun r hr => ?_⟩)
      by_cases z : r = j
      · subst z
        exact q3
      · exact q r (by omega)
    · intro i h3 k3 hi hI3 hk3
      obtain ⟨rfl, q3⟩ := hI3
      unfold bX6_tellsRolesApart_14
      dsimp only
      repeat (first | with_reducible apply v_lt | ((with_reducible apply vXR4); exact hT) | ((with_reducible apply w_XR); exact (LM_T hT); rfl) | ((with_reducible apply w_TR); exact hT; rfl) | ((with_reducible apply w_UR); exact hT; rfl) | ((first | with_reducible apply vXI | with_reducible apply vXS | with_reducible apply vXC); exact (LM_T hT)) | ((first | with_reducible apply vT0I | with_reducible apply vT9I | with_reducible apply vT0C | with_reducible apply vT9C | with_reducible apply vT0S | with_reducible apply vT9S); exact hT) | ((first | with_reducible apply vNR0 | with_reducible apply vNR1 | with_reducible apply vNR2 | with_reducible apply vNR3 | with_reducible apply vNI | with_reducible apply vNS | with_reducible apply vNC); (first | assumption | exact m39 | exact m44); exact (LM_T hT)) | ((first | with_reducible apply w_NA | with_reducible apply w_NW); exact (LM_T hT); (first | assumption | exact m39 | exact m44); rfl; rfl; (first | with_reducible rfl | with_reducible exact ixo _ | with_reducible exact ixoc _ _ | with_reducible exact ixom _ _ _ | with_reducible exact ixop _ _ | with_reducible exact ixod _ _ | assumption); omega) | ((first | with_reducible apply w_TA | with_reducible apply w_TW | with_reducible apply w_TJ | with_reducible apply w_TK); exact hT; rfl; rfl; (first | with_reducible rfl | with_reducible exact ixo _ | with_reducible exact ixoc _ _ | with_reducible exact ixom _ _ _ | with_reducible exact ixop _ _ | with_reducible exact ixod _ _ | assumption); omega))
      rw [htx.1]
      refine v_ie (nI_ge (by omega) (by omega)) ?_
      repeat (first | with_reducible apply v_lt | ((with_reducible apply vXR4); exact hT) | ((with_reducible apply w_XR); exact (LM_T hT); rfl) | ((with_reducible apply w_TR); exact hT; rfl) | ((with_reducible apply w_UR); exact hT; rfl) | ((first | with_reducible apply vXI | with_reducible apply vXS | with_reducible apply vXC); exact (LM_T hT)) | ((first | with_reducible apply vT0I | with_reducible apply vT9I | with_reducible apply vT0C | with_reducible apply vT9C | with_reducible apply vT0S | with_reducible apply vT9S); exact hT) | ((first | with_reducible apply vNR0 | with_reducible apply vNR1 | with_reducible apply vNR2 | with_reducible apply vNR3 | with_reducible apply vNI | with_reducible apply vNS | with_reducible apply vNC); (first | assumption | exact m39 | exact m44); exact (LM_T hT)) | ((first | with_reducible apply w_NA | with_reducible apply w_NW); exact (LM_T hT); (first | assumption | exact m39 | exact m44); rfl; rfl; (first | with_reducible rfl | with_reducible exact ixo _ | with_reducible exact ixoc _ _ | with_reducible exact ixom _ _ _ | with_reducible exact ixop _ _ | with_reducible exact ixod _ _ | assumption); omega) | ((first | with_reducible apply w_TA | with_reducible apply w_TW | with_reducible apply w_TJ | with_reducible apply w_TK); exact hT; rfl; rfl; (first | with_reducible rfl | with_reducible exact ixo _ | with_reducible exact ixoc _ _ | with_reducible exact ixom _ _ _ | with_reducible exact ixop _ _ | with_reducible exact ixod _ _ | assumption); omega))
      rw [(htx.2.2.1 j hj).1, (htx.2.2.1 (j + 1 + i) (by omega)).1, fa_xor, fa_and]
      have := Nat.lt_of_le_of_lt (Nat.and_le_right (n := kw T j ^^^ kw T (j + 1 + i)) (m := s)) hs
      refine v_ze (by omega) (fun e => v_rZ (Or.inl rfl) ⟨?_, rfl⟩) (fun e => hk3 _ ⟨rfl, fun i' hi' => ?_⟩)
      · unfold aptB
        rw [decide_eq_false (fun z => z j hj i hi e)]
        rfl
      · by_cases z : i' = i
        · subst z
          omega
        · exact q3 i' (by omega)
theorem apartM {t u l fu s : Nat} {T : AT} {N : AN} {h : mh} (hM : MN t u l T N h) (hfu : 1000 ≤ fu) (hs : s < 256) : fX10_tellsApart fu 299 (nI s) h = some (b2i (aptB T s), h) := by
  obtain ⟨hy, hl, hlv, htx, hng, hwT, hwN⟩ := id hM
  have hL := LM_of hy
  have h6 := hwT.1
  refine ok_eq ?_
  unfold fX10_tellsApart
  refine loop2 (I := fun j h' => h' = h ∧ ∀ r, r < j → ∀ i, i < nR T - (r + 1) → ¬ (kw T r ^^^ kw T (r + 1 + i)) &&& s = 0) (n := nR T) (by omega) hfu ⟨rfl, fun r hr => by omega⟩ ?_ ?_
  · intro h2 k hI
    obtain ⟨rfl, q⟩ := hI
    unfold bX10_tellsApart_2
    dsimp only
    repeat (first | with_reducible apply v_lt | ((with_reducible apply w_MR); exact hL; rfl) | ((with_reducible apply w_lv); exact hL; assumption) | ((with_reducible apply vMI); exact hL) | ((with_reducible apply vMS); exact hL) | ((with_reducible apply vMC); exact hL) | ((with_reducible apply vMZ); exact hL; (first | exact Or.inl rfl | exact Or.inr rfl | exact b2i_01 _ | assumption)) | ((first | with_reducible apply w_MA | with_reducible apply w_MW | with_reducible apply w_MY | with_reducible apply w_MB | with_reducible apply w_MJ | with_reducible apply w_MK); exact hL; rfl; rfl; rfl; (first | with_reducible rfl | with_reducible exact ixo _ | with_reducible exact ixoc _ _ | with_reducible exact ixom _ _ _ | with_reducible exact ixop _ _ | with_reducible exact ixod _ _ | assumption); omega))
    rw [htx.1]
    refine v_it (nI_le (Nat.le_refl _) (by omega)) (v_rZ (Or.inr rfl) ⟨?_, rfl⟩)
    unfold aptB
    rw [decide_eq_true q]
    rfl
  · intro j h2 k hj hI hk
    obtain ⟨rfl, q⟩ := hI
    unfold bX10_tellsApart_2
    dsimp only
    repeat (first | with_reducible apply v_lt | ((with_reducible apply w_MR); exact hL; rfl) | ((with_reducible apply w_lv); exact hL; assumption) | ((with_reducible apply vMI); exact hL) | ((with_reducible apply vMS); exact hL) | ((with_reducible apply vMC); exact hL) | ((with_reducible apply vMZ); exact hL; (first | exact Or.inl rfl | exact Or.inr rfl | exact b2i_01 _ | assumption)) | ((first | with_reducible apply w_MA | with_reducible apply w_MW | with_reducible apply w_MY | with_reducible apply w_MB | with_reducible apply w_MJ | with_reducible apply w_MK); exact hL; rfl; rfl; rfl; (first | with_reducible rfl | with_reducible exact ixo _ | with_reducible exact ixoc _ _ | with_reducible exact ixom _ _ _ | with_reducible exact ixop _ _ | with_reducible exact ixod _ _ | assumption); omega))
    rw [htx.1]
    refine v_ie (nI_ge hj (by omega)) ?_
    repeat (first | with_reducible apply v_lt | ((with_reducible apply w_MR); exact hL; rfl) | ((with_reducible apply w_lv); exact hL; assumption) | ((with_reducible apply vMI); exact hL) | ((with_reducible apply vMS); exact hL) | ((with_reducible apply vMC); exact hL) | ((with_reducible apply vMZ); exact hL; (first | exact Or.inl rfl | exact Or.inr rfl | exact b2i_01 _ | assumption)) | ((first | with_reducible apply w_MA | with_reducible apply w_MW | with_reducible apply w_MY | with_reducible apply w_MB | with_reducible apply w_MJ | with_reducible apply w_MK); exact hL; rfl; rfl; rfl; (first | with_reducible rfl | with_reducible exact ixo _ | with_reducible exact ixoc _ _ | with_reducible exact ixom _ _ _ | with_reducible exact ixop _ _ | with_reducible exact ixod _ _ | assumption); omega))
    refine loop2b (j + 1) (nR T - (j + 1)) (I := fun i h' => h' = h2 ∧ ∀ i', i' < i → ¬ (kw T j ^^^ kw T (j + 1 + i')) &&& s = 0) (by omega) hfu (nI_1 j) ⟨rfl, fun i hi => by omega⟩ ?_ ?_
    · intro h3 k3 hI3
      obtain ⟨rfl, q3⟩ := hI3
      unfold bX10_tellsApart_19
      dsimp only
      repeat (first | with_reducible apply v_lt | ((with_reducible apply w_MR); exact hL; rfl) | ((with_reducible apply w_lv); exact hL; assumption) | ((with_reducible apply vMI); exact hL) | ((with_reducible apply vMS); exact hL) | ((with_reducible apply vMC); exact hL) | ((with_reducible apply vMZ); exact hL; (first | exact Or.inl rfl | exact Or.inr rfl | exact b2i_01 _ | assumption)) | ((first | with_reducible apply w_MA | with_reducible apply w_MW | with_reducible apply w_MY | with_reducible apply w_MB | with_reducible apply w_MJ | with_reducible apply w_MK); exact hL; rfl; rfl; rfl; (first | with_reducible rfl | with_reducible exact ixo _ | with_reducible exact ixoc _ _ | with_reducible exact ixom _ _ _ | with_reducible exact ixop _ _ | with_reducible exact ixod _ _ | assumption); omega))
      rw [htx.1]
      refine v_it (nI_le (by omega) (by omega)) (hk _ ⟨rfl, fun r hr => ?_⟩)
      by_cases z : r = j
      · subst z
        exact q3
      · exact q r (by omega)
    · intro i h3 k3 hi hI3 hk3
      obtain ⟨rfl, q3⟩ := hI3
      unfold bX10_tellsApart_19
      dsimp only
      repeat (first | with_reducible apply v_lt | ((with_reducible apply w_MR); exact hL; rfl) | ((with_reducible apply w_lv); exact hL; assumption) | ((with_reducible apply vMI); exact hL) | ((with_reducible apply vMS); exact hL) | ((with_reducible apply vMC); exact hL) | ((with_reducible apply vMZ); exact hL; (first | exact Or.inl rfl | exact Or.inr rfl | exact b2i_01 _ | assumption)) | ((first | with_reducible apply w_MA | with_reducible apply w_MW | with_reducible apply w_MY | with_reducible apply w_MB | with_reducible apply w_MJ | with_reducible apply w_MK); exact hL; rfl; rfl; rfl; (first | with_reducible rfl | with_reducible exact ixo _ | with_reducible exact ixoc _ _ | with_reducible exact ixom _ _ _ | with_reducible exact ixop _ _ | with_reducible exact ixod _ _ | assumption); omega))
      rw [htx.1]
      refine v_ie (nI_ge (by omega) (by omega)) ?_
      repeat (first | with_reducible apply v_lt | ((with_reducible apply w_MR); exact hL; rfl) | ((with_reducible apply w_lv); exact hL; assumption) | ((with_reducible apply vMI); exact hL) | ((with_reducible apply vMS); exact hL) | ((with_reducible apply vMC); exact hL) | ((with_reducible apply vMZ); exact hL; (first | exact Or.inl rfl | exact Or.inr rfl | exact b2i_01 _ | assumption)) | ((first | with_reducible apply w_MA | with_reducible apply w_MW | with_reducible apply w_MY | with_reducible apply w_MB | with_reducible apply w_MJ | with_reducible apply w_MK); exact hL; rfl; rfl; rfl; (first | with_reducible rfl | with_reducible exact ixo _ | with_reducible exact ixoc _ _ | with_reducible exact ixom _ _ _ | with_reducible exact ixop _ _ | with_reducible exact ixod _ _ | assumption); omega))
      rw [(htx.2.2.1 j hj).1, (htx.2.2.1 (j + 1 + i) (by omega)).1, fa_and, fa_and]
      have h1 := Nat.lt_of_le_of_lt (Nat.and_le_right (n := kw T j) (m := s)) hs
      have h2 := Nat.lt_of_le_of_lt (Nat.and_le_right (n := kw T (j + 1 + i)) (m := s)) hs
      refine v_if (fun e => v_rZ (Or.inl rfl) ⟨?_, rfl⟩) (fun e => hk3 _ ⟨rfl, fun i' hi' => ?_⟩)
      · rw [nI_eq (by omega) (by omega)] at e
        unfold aptB
        rw [decide_eq_false (fun z => z j hj i hi ((xor_and0 _ _ _).mpr e))]
        rfl
      · by_cases z : i' = i
        · subst z
          intro w
          exact e (congrArg nI ((xor_and0 _ _ _).mp w))
        · exact q3 i' (by omega)
theorem optI_neg {a : Option Nat} (ha : ∀ b, a = some b → b < 256) : (a = none ∧ optI a < 0 ∧ optI a = -2) ∨ (∃ b, a = some b ∧ b < 256 ∧ ¬ optI a < 0 ∧ ¬ optI a = -2 ∧ optI a = nI b) := by
  cases a with
  | none => exact Or.inl ⟨rfl, by decide, rfl⟩
  | some b =>
    have := ha b rfl
    have h0 : ¬ nI b < 0 := nI_pos (by omega)
    exact Or.inr ⟨b, rfl, this, h0, fun z => h0 (by show nI b < 0; rw [show nI b = -2 from z]; decide), rfl⟩
def apN (p : Nat → Bool) (n : Nat) : Int32 := match apU p n with
  | none => -2
  | some b => nI (pop b 8)
theorem st_apart {fu : Nat} (hfu : 1000 ≤ fu) (h : mh) (x0 : Int32) (hS : Sim h) : pr Sim (fX9_apart fu 0 x0 h) (fun h1 => fX10_apart fu 299 x0 h1) := by
  obtain ⟨t, u, l, T, N, D, hS⟩ := hS
  have hC := hS.1
  have hT := LT_of hC.1
  obtain ⟨hy, htx, hng, -, hwT, hwN⟩ := id hC
  have hr6 := hwT.1
  have ho6 := hwT.2.1
  by_cases q : ∃ w, w < 2 ∧ x0 = nI w
  · obtain ⟨w, hw, rfl⟩ := q
    have hlt := fun b e => apU_lt (aptB T) 256 b e
    refine pr_q (if nI w = 1 then optI (apU (aptB T) 256) else apN (aptB T) 256) hS ?_ (fun h1 hS1 => ?_)
    · unfold fX9_apart
      refine v_in (n := 1) (by omega) (by decide) ?_
      refine apC (n := 256) (c := 9) (p := aptB T) (by omega) (by omega) hfu rfl (fun i hi _ => by have := pop_le i 8; omega) ?_ ?_
      · intro k
        unfold bX9_apart_20
        dsimp only
        refine v_it (by decide) ?_
        unfold fX9_apart_65
        refine v_if (fun e => v_rI ⟨eo_rf, by rw [if_pos e]⟩) (fun e => ?_)
        rw [if_neg e]
        unfold apN apW
        rcases optI_neg hlt with ⟨z1, z2, z3⟩ | ⟨b, z1, z2, z3, z4, z5⟩
        · refine v_it z3 (v_rI ⟨eo_rf, ?_⟩)
          rw [z1]
          rfl
        · refine v_ie z4 (v_rI ⟨eo_rf, ?_⟩)
          rw [z1]
      · intro i y v k hi hy k0 k1 k2
        unfold bX9_apart_20
        dsimp only
        refine v_ie (nI_ge (b := 256) hi (by omega)) ?_
        refine v_eq (bitC hi) ?_
        have := pop_le i 8
        refine v_if (fun e => k0 ?_) (fun e => ?_)
        · rw [nI_leI (by omega) (by omega)] at e
          exact e
        · rw [nI_leI (by omega) (by omega)] at e
          repeat (first | with_reducible apply v_lt | ((with_reducible apply vXR4); exact hT) | ((with_reducible apply w_XR); exact (LM_T hT); rfl) | ((with_reducible apply w_TR); exact hT; rfl) | ((with_reducible apply w_UR); exact hT; rfl) | ((first | with_reducible apply vXI | with_reducible apply vXS | with_reducible apply vXC); exact (LM_T hT)) | ((first | with_reducible apply vT0I | with_reducible apply vT9I | with_reducible apply vT0C | with_reducible apply vT9C | with_reducible apply vT0S | with_reducible apply vT9S); exact hT) | ((first | with_reducible apply vNR0 | with_reducible apply vNR1 | with_reducible apply vNR2 | with_reducible apply vNR3 | with_reducible apply vNI | with_reducible apply vNS | with_reducible apply vNC); (first | assumption | exact m39 | exact m44); exact (LM_T hT)) | ((first | with_reducible apply w_NA | with_reducible apply w_NW); exact (LM_T hT); (first | assumption | exact m39 | exact m44); rfl; rfl; (first | with_reducible rfl | with_reducible exact ixo _ | with_reducible exact ixoc _ _ | with_reducible exact ixom _ _ _ | with_reducible exact ixop _ _ | with_reducible exact ixod _ _ | assumption); omega) | ((first | with_reducible apply w_TA | with_reducible apply w_TW | with_reducible apply w_TJ | with_reducible apply w_TK); exact hT; rfl; rfl; (first | with_reducible rfl | with_reducible exact ixo _ | with_reducible exact ixoc _ _ | with_reducible exact ixom _ _ _ | with_reducible exact ixop _ _ | with_reducible exact ixod _ _ | assumption); omega))
          refine v_eq (apartC hC hfu hi) ?_
          exact v_b (fun e2 => k1 e2) (fun e2 => k2 (by omega) e2)
    · have hM1 := hS1.2.1
      obtain ⟨hy1, hl, hlv1, htx1, hng1, -, -⟩ := id hM1
      have hL1 := LM_of hy1
      unfold fX10_apart
      refine v_eq (in_1 (b := 1) (by omega) (by decide)) ?_
      refine v_ie (by decide) ?_
      refine apM (n := 256) (p := aptB T) (by omega) hfu ?_ ?_
      · intro k
        unfold bX10_apart_16
        dsimp only
        refine v_it (by decide) ?_
        unfold fX10_apart_54 apN
        rcases optI_neg hlt with ⟨z1, z2, z3⟩ | ⟨b, z1, z2, z3, z4, z5⟩
        · refine v_it z2 (v_rI ⟨eo_rf, ?_⟩)
          rw [z1]
          split <;> rfl
        · refine v_ie z3 ?_
          refine v_if (fun e => v_rI ⟨eo_rf, by rw [if_pos e]⟩) (fun e => ?_)
          rw [if_neg e, z5]
          refine v_eq (bitM (by omega) z2) (v_rI ⟨eo_rf, ?_⟩)
          rw [z1]
      · intro i a k hi ha k0 k1 k2
        unfold bX10_apart_16
        dsimp only
        refine v_ie (nI_ge (b := 256) hi (by omega)) ?_
        have hi8 := pop_le i 8
        rcases optI_neg ha with ⟨z1, z2, z3⟩ | ⟨b, z1, z2, z3, z4, z5⟩
        · refine v_it z2 ?_
          unfold fX10_apart_38
          repeat (first | with_reducible apply v_lt | ((with_reducible apply w_MR); exact hL1; rfl) | ((with_reducible apply w_lv); exact hL1; assumption) | ((with_reducible apply vMI); exact hL1) | ((with_reducible apply vMS); exact hL1) | ((with_reducible apply vMC); exact hL1) | ((with_reducible apply vMZ); exact hL1; (first | exact Or.inl rfl | exact Or.inr rfl | exact b2i_01 _ | assumption)) | ((first | with_reducible apply w_MA | with_reducible apply w_MW | with_reducible apply w_MY | with_reducible apply w_MB | with_reducible apply w_MJ | with_reducible apply w_MK); exact hL1; rfl; rfl; rfl; (first | with_reducible rfl | with_reducible exact ixo _ | with_reducible exact ixoc _ _ | with_reducible exact ixom _ _ _ | with_reducible exact ixop _ _ | with_reducible exact ixod _ _ | assumption); omega))
          refine v_eq (apartM hM1 hfu hi) ?_
          exact v_b (fun e2 => k1 e2) (fun e2 => k2 (Or.inl z1) e2)
        · refine v_ie z3 ?_
          refine v_eq (bitM (by omega) hi) ?_
          rw [z5]
          refine v_eq (bitM (by omega) z2) ?_
          rw [← z5]
          have hb8 := pop_le b 8
          refine v_if (fun e => k0 ⟨b, z1, ?_⟩) (fun e => ?_)
          · rw [nI_leI (by omega) (by omega)] at e
            exact e
          · rw [nI_leI (by omega) (by omega)] at e
            unfold fX10_apart_38
            repeat (first | with_reducible apply v_lt | ((with_reducible apply w_MR); exact hL1; rfl) | ((with_reducible apply w_lv); exact hL1; assumption) | ((with_reducible apply vMI); exact hL1) | ((with_reducible apply vMS); exact hL1) | ((with_reducible apply vMC); exact hL1) | ((with_reducible apply vMZ); exact hL1; (first | exact Or.inl rfl | exact Or.inr rfl | exact b2i_01 _ | assumption)) | ((first | with_reducible apply w_MA | with_reducible apply w_MW | with_reducible apply w_MY | with_reducible apply w_MB | with_reducible apply w_MJ | with_reducible apply w_MK); exact hL1; rfl; rfl; rfl; (first | with_reducible rfl | with_reducible exact ixo _ | with_reducible exact ixoc _ _ | with_reducible exact ixom _ _ _ | with_reducible exact ixop _ _ | with_reducible exact ixod _ _ | assumption); omega))
            refine v_eq (apartM hM1 hfu hi) ?_
            exact v_b (fun e2 => k1 e2) (fun e2 => k2 (Or.inr ⟨b, z1, by omega⟩) e2)
  · refine pr_q (-1) hS ?_ (fun h1 hS1 => ?_)
    · unfold fX9_apart
      exact v_out (n := 1) q (by decide) (v_rI ⟨eo_rf, rfl⟩) (v_rI ⟨eo_rf, rfl⟩)
    · unfold fX10_apart
      exact v_eq (in_0 (b := 2) (by decide) (by decide) q) (v_it rfl (v_rI ⟨eo_rf, rfl⟩))
/-! circles -/
def knG (N : AN) (s j : Nat) : Nat := orU (fun l => if s.testBit l then kn N l else 0) j
def togB (T : AT) (N : AN) (o s : Nat) : Bool := decide (ndn (ne9 T o) (kn N o ||| knG N s (nL9 T)) = 0)
def cirB (T : AT) (N : AN) (o s : Nat) : Bool := !s.testBit o && togB T N o s
theorem or_0 (a : Nat) : a ||| 0 = a := by
  apply Nat.eq_of_testBit_eq
  intro i
  rw [Nat.testBit_or, Nat.zero_testBit, Bool.or_false]
theorem togC {t u fu o s : Nat} {T : AT} {N : AN} {h : mh} (hC : CC t u T 39 N h) (hfu : 1000 ≤ fu) (ho : o < nL9 T) (hs : s < 64) : fX9_together fu 0 (nI o) (nI s) h = some (b2i (togB T N o s), h) := by
  obtain ⟨hy, htx, hng, hn, hwT, hwN⟩ := id hC
  have hT := LT_of hy
  have h6 := hwT.2.1
  refine ok_eq ?_
  unfold fX9_together
  repeat (first | with_reducible apply v_lt | ((with_reducible apply vXR4); exact hT) | ((with_reducible apply w_XR); exact (LM_T hT); rfl) | ((with_reducible apply w_TR); exact hT; rfl) | ((with_reducible apply w_UR); exact hT; rfl) | ((first | with_reducible apply vXI | with_reducible apply vXS | with_reducible apply vXC); exact (LM_T hT)) | ((first | with_reducible apply vT0I | with_reducible apply vT9I | with_reducible apply vT0C | with_reducible apply vT9C | with_reducible apply vT0S | with_reducible apply vT9S); exact hT) | ((first | with_reducible apply vNR0 | with_reducible apply vNR1 | with_reducible apply vNR2 | with_reducible apply vNR3 | with_reducible apply vNI | with_reducible apply vNS | with_reducible apply vNC); (first | assumption | exact m39 | exact m44); exact (LM_T hT)) | ((first | with_reducible apply w_NA | with_reducible apply w_NW); exact (LM_T hT); (first | assumption | exact m39 | exact m44); rfl; rfl; (first | with_reducible rfl | with_reducible exact ixo _ | with_reducible exact ixoc _ _ | with_reducible exact ixom _ _ _ | with_reducible exact ixop _ _ | with_reducible exact ixod _ _ | assumption); omega) | ((first | with_reducible apply w_TA | with_reducible apply w_TW | with_reducible apply w_TJ | with_reducible apply w_TK); exact hT; rfl; rfl; (first | with_reducible rfl | with_reducible exact ixo _ | with_reducible exact ixoc _ _ | with_reducible exact ixom _ _ _ | with_reducible exact ixop _ _ | with_reducible exact ixod _ _ | assumption); omega))
  refine v_eq (lackC hC ho) ?_
  refine loop3 (I := fun j v h' => h' = h ∧ v = nI (ndn (ne9 T o) (kn N o ||| knG N s j))) (n := nL9 T) (by omega) hfu ⟨rfl, by show nI (lack T N o) = nI (ndn (ne9 T o) (kn N o ||| 0)); rw [or_0]; rfl⟩ ?_ ?_
  · intro v h2 k hI
    obtain ⟨rfl, rfl⟩ := hI
    unfold bX9_together_16
    dsimp only
    repeat (first | with_reducible apply v_lt | ((with_reducible apply vXR4); exact hT) | ((with_reducible apply w_XR); exact (LM_T hT); rfl) | ((with_reducible apply w_TR); exact hT; rfl) | ((with_reducible apply w_UR); exact hT; rfl) | ((first | with_reducible apply vXI | with_reducible apply vXS | with_reducible apply vXC); exact (LM_T hT)) | ((first | with_reducible apply vT0I | with_reducible apply vT9I | with_reducible apply vT0C | with_reducible apply vT9C | with_reducible apply vT0S | with_reducible apply vT9S); exact hT) | ((first | with_reducible apply vNR0 | with_reducible apply vNR1 | with_reducible apply vNR2 | with_reducible apply vNR3 | with_reducible apply vNI | with_reducible apply vNS | with_reducible apply vNC); (first | assumption | exact m39 | exact m44); exact (LM_T hT)) | ((first | with_reducible apply w_NA | with_reducible apply w_NW); exact (LM_T hT); (first | assumption | exact m39 | exact m44); rfl; rfl; (first | with_reducible rfl | with_reducible exact ixo _ | with_reducible exact ixoc _ _ | with_reducible exact ixom _ _ _ | with_reducible exact ixop _ _ | with_reducible exact ixod _ _ | assumption); omega) | ((first | with_reducible apply w_TA | with_reducible apply w_TW | with_reducible apply w_TJ | with_reducible apply w_TK); exact hT; rfl; rfl; (first | with_reducible rfl | with_reducible exact ixo _ | with_reducible exact ixoc _ _ | with_reducible exact ixom _ _ _ | with_reducible exact ixop _ _ | with_reducible exact ixod _ _ | assumption); omega))
    rw [htx.2.1]
    refine v_it (nI_le (Nat.le_refl _) (by omega)) ?_
    unfold fX9_together_58 togB
    have := ndn_lt (n := 8) (b := kn N o ||| knG N s (nL9 T)) (hwT.2.2.2.1 o ho).1
    refine v_ze (by omega) (fun e => v_rZ (Or.inr rfl) ⟨?_, rfl⟩) (fun e => v_rZ (Or.inl rfl) ⟨?_, rfl⟩)
    · rw [decide_eq_true e]
      rfl
    · rw [decide_eq_false (by omega)]
      rfl
  · intro j v h2 k hj hI hk
    obtain ⟨rfl, rfl⟩ := hI
    unfold bX9_together_16
    dsimp only
    repeat (first | with_reducible apply v_lt | ((with_reducible apply vXR4); exact hT) | ((with_reducible apply w_XR); exact (LM_T hT); rfl) | ((with_reducible apply w_TR); exact hT; rfl) | ((with_reducible apply w_UR); exact hT; rfl) | ((first | with_reducible apply vXI | with_reducible apply vXS | with_reducible apply vXC); exact (LM_T hT)) | ((first | with_reducible apply vT0I | with_reducible apply vT9I | with_reducible apply vT0C | with_reducible apply vT9C | with_reducible apply vT0S | with_reducible apply vT9S); exact hT) | ((first | with_reducible apply vNR0 | with_reducible apply vNR1 | with_reducible apply vNR2 | with_reducible apply vNR3 | with_reducible apply vNI | with_reducible apply vNS | with_reducible apply vNC); (first | assumption | exact m39 | exact m44); exact (LM_T hT)) | ((first | with_reducible apply w_NA | with_reducible apply w_NW); exact (LM_T hT); (first | assumption | exact m39 | exact m44); rfl; rfl; (first | with_reducible rfl | with_reducible exact ixo _ | with_reducible exact ixoc _ _ | with_reducible exact ixom _ _ _ | with_reducible exact ixop _ _ | with_reducible exact ixod _ _ | assumption); omega) | ((first | with_reducible apply w_TA | with_reducible apply w_TW | with_reducible apply w_TJ | with_reducible apply w_TK); exact hT; rfl; rfl; (first | with_reducible rfl | with_reducible exact ixo _ | with_reducible exact ixoc _ _ | with_reducible exact ixom _ _ _ | with_reducible exact ixop _ _ | with_reducible exact ixod _ _ | assumption); omega))
    rw [htx.2.1]
    refine v_ie (nI_ge hj (by omega)) ?_
    refine v_eq (holdsC (by omega) (by omega)) ?_
    refine v_b (b := s.testBit j) (fun e => hk _ _ ⟨rfl, ?_⟩) (fun e => ?_)
    · show _ = nI (ndn (ne9 T o) (kn N o ||| (knG N s j ||| if s.testBit j then kn N j else 0)))
      rw [e, if_neg (by decide), or_0]
    · repeat (first | with_reducible apply v_lt | ((with_reducible apply vXR4); exact hT) | ((with_reducible apply w_XR); exact (LM_T hT); rfl) | ((with_reducible apply w_TR); exact hT; rfl) | ((with_reducible apply w_UR); exact hT; rfl) | ((first | with_reducible apply vXI | with_reducible apply vXS | with_reducible apply vXC); exact (LM_T hT)) | ((first | with_reducible apply vT0I | with_reducible apply vT9I | with_reducible apply vT0C | with_reducible apply vT9C | with_reducible apply vT0S | with_reducible apply vT9S); exact hT) | ((first | with_reducible apply vNR0 | with_reducible apply vNR1 | with_reducible apply vNR2 | with_reducible apply vNR3 | with_reducible apply vNI | with_reducible apply vNS | with_reducible apply vNC); (first | assumption | exact m39 | exact m44); exact (LM_T hT)) | ((first | with_reducible apply w_NA | with_reducible apply w_NW); exact (LM_T hT); (first | assumption | exact m39 | exact m44); rfl; rfl; (first | with_reducible rfl | with_reducible exact ixo _ | with_reducible exact ixoc _ _ | with_reducible exact ixom _ _ _ | with_reducible exact ixop _ _ | with_reducible exact ixod _ _ | assumption); omega) | ((first | with_reducible apply w_TA | with_reducible apply w_TW | with_reducible apply w_TJ | with_reducible apply w_TK); exact hT; rfl; rfl; (first | with_reducible rfl | with_reducible exact ixo _ | with_reducible exact ixoc _ _ | with_reducible exact ixom _ _ _ | with_reducible exact ixop _ _ | with_reducible exact ixod _ _ | assumption); omega))
      rw [(hng.1 j (by omega)).1, fa_andn]
      refine hk _ _ ⟨rfl, ?_⟩
      show _ = nI (ndn (ne9 T o) (kn N o ||| (knG N s j ||| if s.testBit j then kn N j else 0)))
      rw [e, if_pos rfl, ← Nat.or_assoc]
      exact congrArg nI (ndn_or (ne9 T o) (kn N o ||| knG N s j) (kn N j))
theorem full63 : ∀ i, i < 64 → 6 ≤ pop i 8 → ∀ o, o < 6 → i.testBit o = true := by decide +kernel
theorem pw6 {n : Nat} (h : n ≤ 6) : 2 ^ n ≤ 64 := Nat.pow_le_pow_right (n := 2) (by decide) h
/-- the fewest who do -/
def ciV (T : AT) (N : AN) (o : Nat) : Option Nat := apU (cirB T N o) (2 ^ nL9 T)
theorem circleC {t u fu o : Nat} {T : AT} {N : AN} {h : mh} (hC : CC t u T 39 N h) (hfu : 1000 ≤ fu) (ho : o < nL9 T) : fX9_circleOf fu 0 (nI o) h = some (optI (ciV T N o), h) := by
  obtain ⟨hy, htx, hng, hn, hwT, hwN⟩ := id hC
  have hT := LT_of hy
  have h6 := hwT.2.1
  have h64 := pw6 h6
  refine ok_eq ?_
  unfold fX9_circleOf
  refine apC (n := 2 ^ nL9 T) (c := 6) (p := cirB T N o) (by omega) (by omega) hfu rfl (fun i hi hp => Nat.lt_of_not_le (fun z => ?_)) ?_ ?_
  · unfold cirB at hp
    rw [full63 i (by omega) z o (by omega)] at hp
    cases hp
  · intro k
    unfold bX9_circleOf_9
    dsimp only
    repeat (first | with_reducible apply v_lt | ((with_reducible apply vXR4); exact hT) | ((with_reducible apply w_XR); exact (LM_T hT); rfl) | ((with_reducible apply w_TR); exact hT; rfl) | ((with_reducible apply w_UR); exact hT; rfl) | ((first | with_reducible apply vXI | with_reducible apply vXS | with_reducible apply vXC); exact (LM_T hT)) | ((first | with_reducible apply vT0I | with_reducible apply vT9I | with_reducible apply vT0C | with_reducible apply vT9C | with_reducible apply vT0S | with_reducible apply vT9S); exact hT) | ((first | with_reducible apply vNR0 | with_reducible apply vNR1 | with_reducible apply vNR2 | with_reducible apply vNR3 | with_reducible apply vNI | with_reducible apply vNS | with_reducible apply vNC); (first | assumption | exact m39 | exact m44); exact (LM_T hT)) | ((first | with_reducible apply w_NA | with_reducible apply w_NW); exact (LM_T hT); (first | assumption | exact m39 | exact m44); rfl; rfl; (first | with_reducible rfl | with_reducible exact ixo _ | with_reducible exact ixoc _ _ | with_reducible exact ixom _ _ _ | with_reducible exact ixop _ _ | with_reducible exact ixod _ _ | assumption); omega) | ((first | with_reducible apply w_TA | with_reducible apply w_TW | with_reducible apply w_TJ | with_reducible apply w_TK); exact hT; rfl; rfl; (first | with_reducible rfl | with_reducible exact ixo _ | with_reducible exact ixoc _ _ | with_reducible exact ixom _ _ _ | with_reducible exact ixop _ _ | with_reducible exact ixod _ _ | assumption); omega))
    rw [htx.2.1, shl1 _ (by omega)]
    exact v_it (nI_le (Nat.le_refl _) (by omega)) (v_rI ⟨rfl, rfl⟩)
  · intro i y v k hi hy k0 k1 k2
    unfold bX9_circleOf_9
    dsimp only
    repeat (first | with_reducible apply v_lt | ((with_reducible apply vXR4); exact hT) | ((with_reducible apply w_XR); exact (LM_T hT); rfl) | ((with_reducible apply w_TR); exact hT; rfl) | ((with_reducible apply w_UR); exact hT; rfl) | ((first | with_reducible apply vXI | with_reducible apply vXS | with_reducible apply vXC); exact (LM_T hT)) | ((first | with_reducible apply vT0I | with_reducible apply vT9I | with_reducible apply vT0C | with_reducible apply vT9C | with_reducible apply vT0S | with_reducible apply vT9S); exact hT) | ((first | with_reducible apply vNR0 | with_reducible apply vNR1 | with_reducible apply vNR2 | with_reducible apply vNR3 | with_reducible apply vNI | with_reducible apply vNS | with_reducible apply vNC); (first | assumption | exact m39 | exact m44); exact (LM_T hT)) | ((first | with_reducible apply w_NA | with_reducible apply w_NW); exact (LM_T hT); (first | assumption | exact m39 | exact m44); rfl; rfl; (first | with_reducible rfl | with_reducible exact ixo _ | with_reducible exact ixoc _ _ | with_reducible exact ixom _ _ _ | with_reducible exact ixop _ _ | with_reducible exact ixod _ _ | assumption); omega) | ((first | with_reducible apply w_TA | with_reducible apply w_TW | with_reducible apply w_TJ | with_reducible apply w_TK); exact hT; rfl; rfl; (first | with_reducible rfl | with_reducible exact ixo _ | with_reducible exact ixoc _ _ | with_reducible exact ixom _ _ _ | with_reducible exact ixop _ _ | with_reducible exact ixod _ _ | assumption); omega))
    rw [htx.2.1, shl1 _ (by omega)]
    refine v_ie (nI_ge hi (by omega)) ?_
    refine v_eq (bitC (by omega)) ?_
    have := pop_le i 8
    refine v_if (fun e => k0 ?_) (fun e => ?_)
    · rw [nI_leI (by omega) (by omega)] at e
      exact e
    · rw [nI_leI (by omega) (by omega)] at e
      refine v_eq (holdsC (by omega) (by omega)) ?_
      refine v_b (b := i.testBit o) (fun e2 => ?_) (fun e2 => k1 ?_)
      · repeat (first | with_reducible apply v_lt | ((with_reducible apply vXR4); exact hT) | ((with_reducible apply w_XR); exact (LM_T hT); rfl) | ((with_reducible apply w_TR); exact hT; rfl) | ((with_reducible apply w_UR); exact hT; rfl) | ((first | with_reducible apply vXI | with_reducible apply vXS | with_reducible apply vXC); exact (LM_T hT)) | ((first | with_reducible apply vT0I | with_reducible apply vT9I | with_reducible apply vT0C | with_reducible apply vT9C | with_reducible apply vT0S | with_reducible apply vT9S); exact hT) | ((first | with_reducible apply vNR0 | with_reducible apply vNR1 | with_reducible apply vNR2 | with_reducible apply vNR3 | with_reducible apply vNI | with_reducible apply vNS | with_reducible apply vNC); (first | assumption | exact m39 | exact m44); exact (LM_T hT)) | ((first | with_reducible apply w_NA | with_reducible apply w_NW); exact (LM_T hT); (first | assumption | exact m39 | exact m44); rfl; rfl; (first | with_reducible rfl | with_reducible exact ixo _ | with_reducible exact ixoc _ _ | with_reducible exact ixom _ _ _ | with_reducible exact ixop _ _ | with_reducible exact ixod _ _ | assumption); omega) | ((first | with_reducible apply w_TA | with_reducible apply w_TW | with_reducible apply w_TJ | with_reducible apply w_TK); exact hT; rfl; rfl; (first | with_reducible rfl | with_reducible exact ixo _ | with_reducible exact ixoc _ _ | with_reducible exact ixom _ _ _ | with_reducible exact ixop _ _ | with_reducible exact ixod _ _ | assumption); omega))
        refine v_eq (togC hC hfu ho (by omega)) ?_
        refine v_b (fun e3 => k1 ?_) (fun e3 => k2 (by omega) ?_)
        · unfold cirB
          rw [e3, Bool.and_false]
        · unfold cirB
          rw [e2, e3]
          rfl
      · unfold cirB
        rw [e2]
        rfl
theorem st_circle {fu : Nat} (hfu : 1000 ≤ fu) (h : mh) (x0 x1 : Int32) (hS : Sim h) : pr Sim (fX9_circle fu 0 x0 x1 h) (fun h1 => fX10_circle fu 299 x0 x1 h1) := by
  obtain ⟨t, u, l, T, N, D, hS⟩ := hS
  have hC := hS.1
  have hT := LT_of hC.1
  obtain ⟨hy, htx, hng, -, hwT, hwN⟩ := id hC
  have hr6 := hwT.1
  have ho6 := hwT.2.1
  have h64 := pw6 ho6
  by_cases q : ∃ r, r < nL9 T ∧ x0 = nI r
  · obtain ⟨o, ho, rfl⟩ := q
    by_cases q : ∃ w, w < 2 ∧ x1 = nI w
    · obtain ⟨w, hw, rfl⟩ := q
      have hlt : ∀ b, ciV T N o = some b → b < 256 := fun b e => by
        have := apU_lt _ _ b e
        omega
      refine pr_q (if nI w = 1 then optI (ciV T N o) else apN (cirB T N o) (2 ^ nL9 T)) hS ?_ (fun h1 hS1 => ?_)
      · unfold fX9_circle
        repeat (first | with_reducible apply v_lt | ((with_reducible apply vXR4); exact hT) | ((with_reducible apply w_XR); exact (LM_T hT); rfl) | ((with_reducible apply w_TR); exact hT; rfl) | ((with_reducible apply w_UR); exact hT; rfl) | ((first | with_reducible apply vXI | with_reducible apply vXS | with_reducible apply vXC); exact (LM_T hT)) | ((first | with_reducible apply vT0I | with_reducible apply vT9I | with_reducible apply vT0C | with_reducible apply vT9C | with_reducible apply vT0S | with_reducible apply vT9S); exact hT) | ((first | with_reducible apply vNR0 | with_reducible apply vNR1 | with_reducible apply vNR2 | with_reducible apply vNR3 | with_reducible apply vNI | with_reducible apply vNS | with_reducible apply vNC); (first | assumption | exact m39 | exact m44); exact (LM_T hT)) | ((first | with_reducible apply w_NA | with_reducible apply w_NW); exact (LM_T hT); (first | assumption | exact m39 | exact m44); rfl; rfl; (first | with_reducible rfl | with_reducible exact ixo _ | with_reducible exact ixoc _ _ | with_reducible exact ixom _ _ _ | with_reducible exact ixop _ _ | with_reducible exact ixod _ _ | assumption); omega) | ((first | with_reducible apply w_TA | with_reducible apply w_TW | with_reducible apply w_TJ | with_reducible apply w_TK); exact hT; rfl; rfl; (first | with_reducible rfl | with_reducible exact ixo _ | with_reducible exact ixoc _ _ | with_reducible exact ixom _ _ _ | with_reducible exact ixop _ _ | with_reducible exact ixod _ _ | assumption); omega))
        refine v_eq (listC1 hC ho) ?_
        refine v_ie (by decide) ?_
        refine v_in (n := 1) (by omega) (by decide) ?_
        repeat (first | with_reducible apply v_lt | ((with_reducible apply vXR4); exact hT) | ((with_reducible apply w_XR); exact (LM_T hT); rfl) | ((with_reducible apply w_TR); exact hT; rfl) | ((with_reducible apply w_UR); exact hT; rfl) | ((first | with_reducible apply vXI | with_reducible apply vXS | with_reducible apply vXC); exact (LM_T hT)) | ((first | with_reducible apply vT0I | with_reducible apply vT9I | with_reducible apply vT0C | with_reducible apply vT9C | with_reducible apply vT0S | with_reducible apply vT9S); exact hT) | ((first | with_reducible apply vNR0 | with_reducible apply vNR1 | with_reducible apply vNR2 | with_reducible apply vNR3 | with_reducible apply vNI | with_reducible apply vNS | with_reducible apply vNC); (first | assumption | exact m39 | exact m44); exact (LM_T hT)) | ((first | with_reducible apply w_NA | with_reducible apply w_NW); exact (LM_T hT); (first | assumption | exact m39 | exact m44); rfl; rfl; (first | with_reducible rfl | with_reducible exact ixo _ | with_reducible exact ixoc _ _ | with_reducible exact ixom _ _ _ | with_reducible exact ixop _ _ | with_reducible exact ixod _ _ | assumption); omega) | ((first | with_reducible apply w_TA | with_reducible apply w_TW | with_reducible apply w_TJ | with_reducible apply w_TK); exact hT; rfl; rfl; (first | with_reducible rfl | with_reducible exact ixo _ | with_reducible exact ixoc _ _ | with_reducible exact ixom _ _ _ | with_reducible exact ixop _ _ | with_reducible exact ixod _ _ | assumption); omega))
        refine v_eq (circleC hC hfu ho) ?_
        refine v_if (fun e => v_rI ⟨eo_rf, by rw [if_pos e]⟩) (fun e => ?_)
        rw [if_neg e]
        unfold apN
        rcases optI_neg hlt with ⟨z1, z2, z3⟩ | ⟨b, z1, z2, z3, z4, z5⟩
        · refine v_it z3 (v_rI ⟨eo_rf, ?_⟩)
          unfold ciV at z1 ⊢
          rw [z1]
          rfl
        · refine v_ie z4 ?_
          rw [z5]
          refine v_eq (bitC z2) (v_rI ⟨eo_rf, ?_⟩)
          unfold ciV at z1
          rw [z1]
      · have hM1 := hS1.2.1
        obtain ⟨hy1, hl, hlv1, htx1, hng1, -, -⟩ := id hM1
        have hL1 := LM_of hy1
        unfold fX10_circle
        repeat (first | with_reducible apply v_lt | ((with_reducible apply w_MR); exact hL1; rfl) | ((with_reducible apply w_lv); exact hL1; assumption) | ((with_reducible apply vMI); exact hL1) | ((with_reducible apply vMS); exact hL1) | ((with_reducible apply vMC); exact hL1) | ((with_reducible apply vMZ); exact hL1; (first | exact Or.inl rfl | exact Or.inr rfl | exact b2i_01 _ | assumption)) | ((first | with_reducible apply w_MA | with_reducible apply w_MW | with_reducible apply w_MY | with_reducible apply w_MB | with_reducible apply w_MJ | with_reducible apply w_MK); exact hL1; rfl; rfl; rfl; (first | with_reducible rfl | with_reducible exact ixo _ | with_reducible exact ixoc _ _ | with_reducible exact ixom _ _ _ | with_reducible exact ixop _ _ | with_reducible exact ixod _ _ | assumption); omega))
        refine v_eq (listM1 hM1 ho) ?_
        refine v_ie (by decide) ?_
        refine v_eq (in_1 (b := 1) (by omega) (by decide)) ?_
        refine v_ie (by decide) ?_
        refine apM (n := 2 ^ nL9 T) (p := cirB T N o) (by omega) hfu ?_ ?_
        · intro k
          unfold bX10_circle_25
          dsimp only
          repeat (first | with_reducible apply v_lt | ((with_reducible apply w_MR); exact hL1; rfl) | ((with_reducible apply w_lv); exact hL1; assumption) | ((with_reducible apply vMI); exact hL1) | ((with_reducible apply vMS); exact hL1) | ((with_reducible apply vMC); exact hL1) | ((with_reducible apply vMZ); exact hL1; (first | exact Or.inl rfl | exact Or.inr rfl | exact b2i_01 _ | assumption)) | ((first | with_reducible apply w_MA | with_reducible apply w_MW | with_reducible apply w_MY | with_reducible apply w_MB | with_reducible apply w_MJ | with_reducible apply w_MK); exact hL1; rfl; rfl; rfl; (first | with_reducible rfl | with_reducible exact ixo _ | with_reducible exact ixoc _ _ | with_reducible exact ixom _ _ _ | with_reducible exact ixop _ _ | with_reducible exact ixod _ _ | assumption); omega))
          rw [htx1.2.1, shl1 _ (by omega)]
          refine v_it (nI_le (Nat.le_refl _) (by omega)) ?_
          unfold fX10_circle_161 apN
          rcases optI_neg hlt with ⟨z1, z2, z3⟩ | ⟨b, z1, z2, z3, z4, z5⟩
          · refine v_it z2 (v_rI ⟨eo_rf, ?_⟩)
            unfold ciV at z1 ⊢
            rw [z1]
            split <;> rfl
          · refine v_ie z3 ?_
            refine v_if (fun e => v_rI ⟨eo_rf, by rw [if_pos e]; rfl⟩) (fun e => ?_)
            unfold ciV at z1 z5
            rw [if_neg e, z5]
            refine v_eq (bitM (by omega) z2) (v_rI ⟨eo_rf, ?_⟩)
            rw [z1]
        · intro i a k hi ha k0 k1 k2
          unfold bX10_circle_25
          dsimp only
          repeat (first | with_reducible apply v_lt | ((with_reducible apply w_MR); exact hL1; rfl) | ((with_reducible apply w_lv); exact hL1; assumption) | ((with_reducible apply vMI); exact hL1) | ((with_reducible apply vMS); exact hL1) | ((with_reducible apply vMC); exact hL1) | ((with_reducible apply vMZ); exact hL1; (first | exact Or.inl rfl | exact Or.inr rfl | exact b2i_01 _ | assumption)) | ((first | with_reducible apply w_MA | with_reducible apply w_MW | with_reducible apply w_MY | with_reducible apply w_MB | with_reducible apply w_MJ | with_reducible apply w_MK); exact hL1; rfl; rfl; rfl; (first | with_reducible rfl | with_reducible exact ixo _ | with_reducible exact ixoc _ _ | with_reducible exact ixom _ _ _ | with_reducible exact ixop _ _ | with_reducible exact ixod _ _ | assumption); omega))
          rw [htx1.2.1, shl1 _ (by omega)]
          refine v_ie (nI_ge hi (by omega)) ?_
          have hi8 := pop_le i 8
          -- together
          have tog : (a = none ∨ ∃ b, a = some b ∧ pop i 8 < pop b 8) → i.testBit o = false → ok (fX10_circle_70 fu k 299 (nI o) (nI w) (optI a) (nI i) h1) (fun x h' => eo sR h1 h' ∧ x = (if nI w = 1 then optI (ciV T N o) else apN (cirB T N o) (2 ^ nL9 T))) := by
            intro ea eb
            unfold fX10_circle_70
            repeat (first | with_reducible apply v_lt | ((with_reducible apply w_MR); exact hL1; rfl) | ((with_reducible apply w_lv); exact hL1; assumption) | ((with_reducible apply vMI); exact hL1) | ((with_reducible apply vMS); exact hL1) | ((with_reducible apply vMC); exact hL1) | ((with_reducible apply vMZ); exact hL1; (first | exact Or.inl rfl | exact Or.inr rfl | exact b2i_01 _ | assumption)) | ((first | with_reducible apply w_MA | with_reducible apply w_MW | with_reducible apply w_MY | with_reducible apply w_MB | with_reducible apply w_MJ | with_reducible apply w_MK); exact hL1; rfl; rfl; rfl; (first | with_reducible rfl | with_reducible exact ixo _ | with_reducible exact ixoc _ _ | with_reducible exact ixom _ _ _ | with_reducible exact ixop _ _ | with_reducible exact ixod _ _ | assumption); omega))
            rw [(hng1.1 o (by omega)).2.2.1]
            refine loop3 (I := fun j v h' => h' = h1 ∧ v = nI (kn N o ||| knG N i j)) (n := nL9 T) (by omega) hfu ⟨rfl, by show _ = nI (kn N o ||| 0); rw [or_0]⟩ ?_ ?_
            · intro v h2 k2' hI
              obtain ⟨rfl, rfl⟩ := hI
              unfold bX10_circle_84
              dsimp only
              repeat (first | with_reducible apply v_lt | ((with_reducible apply w_MR); exact hL1; rfl) | ((with_reducible apply w_lv); exact hL1; assumption) | ((with_reducible apply vMI); exact hL1) | ((with_reducible apply vMS); exact hL1) | ((with_reducible apply vMC); exact hL1) | ((with_reducible apply vMZ); exact hL1; (first | exact Or.inl rfl | exact Or.inr rfl | exact b2i_01 _ | assumption)) | ((first | with_reducible apply w_MA | with_reducible apply w_MW | with_reducible apply w_MY | with_reducible apply w_MB | with_reducible apply w_MJ | with_reducible apply w_MK); exact hL1; rfl; rfl; rfl; (first | with_reducible rfl | with_reducible exact ixo _ | with_reducible exact ixoc _ _ | with_reducible exact ixom _ _ _ | with_reducible exact ixop _ _ | with_reducible exact ixod _ _ | assumption); omega))
              rw [htx1.2.1]
              refine v_it (nI_le (Nat.le_refl _) (by omega)) ?_
              unfold fX10_circle_130
              repeat (first | with_reducible apply v_lt | ((with_reducible apply w_MR); exact hL1; rfl) | ((with_reducible apply w_lv); exact hL1; assumption) | ((with_reducible apply vMI); exact hL1) | ((with_reducible apply vMS); exact hL1) | ((with_reducible apply vMC); exact hL1) | ((with_reducible apply vMZ); exact hL1; (first | exact Or.inl rfl | exact Or.inr rfl | exact b2i_01 _ | assumption)) | ((first | with_reducible apply w_MA | with_reducible apply w_MW | with_reducible apply w_MY | with_reducible apply w_MB | with_reducible apply w_MJ | with_reducible apply w_MK); exact hL1; rfl; rfl; rfl; (first | with_reducible rfl | with_reducible exact ixo _ | with_reducible exact ixoc _ _ | with_reducible exact ixom _ _ _ | with_reducible exact ixop _ _ | with_reducible exact ixod _ _ | assumption); omega))
              rw [(htx1.2.2.2.1 o ho).1, fa_andn]
              have := ndn_lt (n := 8) (b := kn N o ||| knG N i (nL9 T)) (hwT.2.2.2.1 o ho).1
              refine v_ze (q := ndn (ne9 T o) (kn N o ||| knG N i (nL9 T))) (by omega) (fun e => k2 ea ?_) (fun e => k1 ?_)
              · unfold cirB togB
                rw [eb, decide_eq_true e]
                rfl
              · unfold cirB togB
                rw [decide_eq_false (by omega), Bool.and_false]
            · intro j v h2 k2' hj hI hk
              obtain ⟨rfl, rfl⟩ := hI
              unfold bX10_circle_84
              dsimp only
              repeat (first | with_reducible apply v_lt | ((with_reducible apply w_MR); exact hL1; rfl) | ((with_reducible apply w_lv); exact hL1; assumption) | ((with_reducible apply vMI); exact hL1) | ((with_reducible apply vMS); exact hL1) | ((with_reducible apply vMC); exact hL1) | ((with_reducible apply vMZ); exact hL1; (first | exact Or.inl rfl | exact Or.inr rfl | exact b2i_01 _ | assumption)) | ((first | with_reducible apply w_MA | with_reducible apply w_MW | with_reducible apply w_MY | with_reducible apply w_MB | with_reducible apply w_MJ | with_reducible apply w_MK); exact hL1; rfl; rfl; rfl; (first | with_reducible rfl | with_reducible exact ixo _ | with_reducible exact ixoc _ _ | with_reducible exact ixom _ _ _ | with_reducible exact ixop _ _ | with_reducible exact ixod _ _ | assumption); omega))
              rw [htx1.2.1]
              refine v_ie (nI_ge hj (by omega)) ?_
              refine v_if (fun e => ?_) (fun e => hk _ _ ⟨rfl, ?_⟩)
              · rw [tbM1 _ (by omega) j (by omega)] at e
                repeat (first | with_reducible apply v_lt | ((with_reducible apply w_MR); exact hL1; rfl) | ((with_reducible apply w_lv); exact hL1; assumption) | ((with_reducible apply vMI); exact hL1) | ((with_reducible apply vMS); exact hL1) | ((with_reducible apply vMC); exact hL1) | ((with_reducible apply vMZ); exact hL1; (first | exact Or.inl rfl | exact Or.inr rfl | exact b2i_01 _ | assumption)) | ((first | with_reducible apply w_MA | with_reducible apply w_MW | with_reducible apply w_MY | with_reducible apply w_MB | with_reducible apply w_MJ | with_reducible apply w_MK); exact hL1; rfl; rfl; rfl; (first | with_reducible rfl | with_reducible exact ixo _ | with_reducible exact ixoc _ _ | with_reducible exact ixom _ _ _ | with_reducible exact ixop _ _ | with_reducible exact ixod _ _ | assumption); omega))
                rw [(hng1.1 j (by omega)).2.2.1, fa_or]
                refine hk _ _ ⟨rfl, ?_⟩
                show _ = nI (kn N o ||| (knG N i j ||| if i.testBit j then kn N j else 0))
                rw [e, if_pos rfl, Nat.or_assoc]
              · rw [tbM1 _ (by omega) j (by omega), Bool.not_eq_true] at e
                show _ = nI (kn N o ||| (knG N i j ||| if i.testBit j then kn N j else 0))
                rw [e, if_neg (by decide), or_0]
          refine v_if (fun e => k1 ?_) (fun e => ?_)
          · rw [tbM1 _ (by omega) o (by omega)] at e
            unfold cirB
            rw [e]
            rfl
          rw [tbM1 _ (by omega) o (by omega), Bool.not_eq_true] at e
          rcases optI_neg ha with ⟨z1, z2, z3⟩ | ⟨b, z1, z2, z3, z4, z5⟩
          · exact v_it z2 (tog (Or.inl z1) e)
          · refine v_ie z3 ?_
            refine v_eq (bitM (by omega) (by omega)) ?_
            rw [z5]
            refine v_eq (bitM (by omega) z2) ?_
            rw [← z5]
            have hb8 := pop_le b 8
            refine v_if (fun e3 => tog (Or.inr ⟨b, z1, ?_⟩) e) (fun e3 => k0 ⟨b, z1, ?_⟩)
            · rw [nI_ltI (by omega) (by omega)] at e3
              exact e3
            · rw [nI_ltI (by omega) (by omega)] at e3
              omega
    · refine pr_q (-1) hS ?_ (fun h1 hS1 => ?_)
      · unfold fX9_circle
        repeat (first | with_reducible apply v_lt | ((with_reducible apply vXR4); exact hT) | ((with_reducible apply w_XR); exact (LM_T hT); rfl) | ((with_reducible apply w_TR); exact hT; rfl) | ((with_reducible apply w_UR); exact hT; rfl) | ((first | with_reducible apply vXI | with_reducible apply vXS | with_reducible apply vXC); exact (LM_T hT)) | ((first | with_reducible apply vT0I | with_reducible apply vT9I | with_reducible apply vT0C | with_reducible apply vT9C | with_reducible apply vT0S | with_reducible apply vT9S); exact hT) | ((first | with_reducible apply vNR0 | with_reducible apply vNR1 | with_reducible apply vNR2 | with_reducible apply vNR3 | with_reducible apply vNI | with_reducible apply vNS | with_reducible apply vNC); (first | assumption | exact m39 | exact m44); exact (LM_T hT)) | ((first | with_reducible apply w_NA | with_reducible apply w_NW); exact (LM_T hT); (first | assumption | exact m39 | exact m44); rfl; rfl; (first | with_reducible rfl | with_reducible exact ixo _ | with_reducible exact ixoc _ _ | with_reducible exact ixom _ _ _ | with_reducible exact ixop _ _ | with_reducible exact ixod _ _ | assumption); omega) | ((first | with_reducible apply w_TA | with_reducible apply w_TW | with_reducible apply w_TJ | with_reducible apply w_TK); exact hT; rfl; rfl; (first | with_reducible rfl | with_reducible exact ixo _ | with_reducible exact ixoc _ _ | with_reducible exact ixom _ _ _ | with_reducible exact ixop _ _ | with_reducible exact ixod _ _ | assumption); omega))
        refine v_eq (listC1 hC ho) ?_
        refine v_ie (by decide) ?_
        exact v_out (n := 1) q (by decide) (v_rI ⟨eo_rf, rfl⟩) (v_rI ⟨eo_rf, rfl⟩)
      · have hM1 := hS1.2.1
        obtain ⟨hy1, hl, hlv1, htx1, hng1, -, -⟩ := id hM1
        have hL1 := LM_of hy1
        unfold fX10_circle
        repeat (first | with_reducible apply v_lt | ((with_reducible apply w_MR); exact hL1; rfl) | ((with_reducible apply w_lv); exact hL1; assumption) | ((with_reducible apply vMI); exact hL1) | ((with_reducible apply vMS); exact hL1) | ((with_reducible apply vMC); exact hL1) | ((with_reducible apply vMZ); exact hL1; (first | exact Or.inl rfl | exact Or.inr rfl | exact b2i_01 _ | assumption)) | ((first | with_reducible apply w_MA | with_reducible apply w_MW | with_reducible apply w_MY | with_reducible apply w_MB | with_reducible apply w_MJ | with_reducible apply w_MK); exact hL1; rfl; rfl; rfl; (first | with_reducible rfl | with_reducible exact ixo _ | with_reducible exact ixoc _ _ | with_reducible exact ixom _ _ _ | with_reducible exact ixop _ _ | with_reducible exact ixod _ _ | assumption); omega))
        refine v_eq (listM1 hM1 ho) ?_
        refine v_ie (by decide) ?_
        exact v_eq (in_0 (b := 2) (by decide) (by decide) q) (v_it rfl (v_rI ⟨eo_rf, rfl⟩))
  · refine pr_q (-1) hS ?_ (fun h1 hS1 => ?_)
    · unfold fX9_circle
      repeat (first | with_reducible apply v_lt | ((with_reducible apply vXR4); exact hT) | ((with_reducible apply w_XR); exact (LM_T hT); rfl) | ((with_reducible apply w_TR); exact hT; rfl) | ((with_reducible apply w_UR); exact hT; rfl) | ((first | with_reducible apply vXI | with_reducible apply vXS | with_reducible apply vXC); exact (LM_T hT)) | ((first | with_reducible apply vT0I | with_reducible apply vT9I | with_reducible apply vT0C | with_reducible apply vT9C | with_reducible apply vT0S | with_reducible apply vT9S); exact hT) | ((first | with_reducible apply vNR0 | with_reducible apply vNR1 | with_reducible apply vNR2 | with_reducible apply vNR3 | with_reducible apply vNI | with_reducible apply vNS | with_reducible apply vNC); (first | assumption | exact m39 | exact m44); exact (LM_T hT)) | ((first | with_reducible apply w_NA | with_reducible apply w_NW); exact (LM_T hT); (first | assumption | exact m39 | exact m44); rfl; rfl; (first | with_reducible rfl | with_reducible exact ixo _ | with_reducible exact ixoc _ _ | with_reducible exact ixom _ _ _ | with_reducible exact ixop _ _ | with_reducible exact ixod _ _ | assumption); omega) | ((first | with_reducible apply w_TA | with_reducible apply w_TW | with_reducible apply w_TJ | with_reducible apply w_TK); exact hT; rfl; rfl; (first | with_reducible rfl | with_reducible exact ixo _ | with_reducible exact ixoc _ _ | with_reducible exact ixom _ _ _ | with_reducible exact ixop _ _ | with_reducible exact ixod _ _ | assumption); omega))
      exact v_eq (listC0 hC q) (v_it rfl (v_rI ⟨eo_rf, rfl⟩))
    · have hM1 := hS1.2.1
      obtain ⟨hy1, hl, hlv1, htx1, hng1, -, -⟩ := id hM1
      have hL1 := LM_of hy1
      unfold fX10_circle
      repeat (first | with_reducible apply v_lt | ((with_reducible apply w_MR); exact hL1; rfl) | ((with_reducible apply w_lv); exact hL1; assumption) | ((with_reducible apply vMI); exact hL1) | ((with_reducible apply vMS); exact hL1) | ((with_reducible apply vMC); exact hL1) | ((with_reducible apply vMZ); exact hL1; (first | exact Or.inl rfl | exact Or.inr rfl | exact b2i_01 _ | assumption)) | ((first | with_reducible apply w_MA | with_reducible apply w_MW | with_reducible apply w_MY | with_reducible apply w_MB | with_reducible apply w_MJ | with_reducible apply w_MK); exact hL1; rfl; rfl; rfl; (first | with_reducible rfl | with_reducible exact ixo _ | with_reducible exact ixoc _ _ | with_reducible exact ixom _ _ _ | with_reducible exact ixop _ _ | with_reducible exact ixod _ _ | assumption); omega))
      exact v_eq (listM0 hM1 q) (v_it rfl (v_rI ⟨eo_rf, rfl⟩))
