/-! ROWS COPIED, SUMS AND SETS, in both -/
theorem ok_eq2 {β : Type} {R : Option (β × mh)} {v : β} {h : mh} (q : ok R (fun x h' => h' = h ∧ x = v)) : R = some (v, h) := by
  obtain ⟨x, h1, e, rfl, rfl⟩ := q
  exact e
theorem sumL {B : (Int32 × Int32 × mh → Option (Int32 × mh)) → Int32 × Int32 × mh → Option (Int32 × mh)} {fu : Nat} {f : Nat → Int32} {V : mh → Prop} (b n : Nat) (hn : n ≤ 99) (hfu : 1000 ≤ fu) {h : mh} (hV : V h)
    (he : ∀ (a : Int32) (h : mh) (k : Int32 × Int32 × mh → Option (Int32 × mh)), V h → ok (B k (a, nI (b + n), h)) (fun x h' => V h' ∧ x = a))
    (hs : ∀ (i : Nat) (a : Int32) (h : mh) (k : Int32 × Int32 × mh → Option (Int32 × mh)) (Q : Int32 → mh → Prop), i < n → V h → (∀ h', V h' → ok (k (a + f i, nI (b + i) + 1, h')) Q) → ok (B k (a, nI (b + i), h)) Q) :
    ok (itr B fu (0, nI b, h)) (fun x h' => V h' ∧ x = sumU f n) := by
  refine sum_loop b hn hfu (fun i a h k Q hi hV hk => ?_) he hV
  refine hs i a h k Q hi hV (fun h' hV' => ?_)
  rw [nI_1]
  exact hk h' hV'
theorem sumL0 {B : (Int32 × Int32 × mh → Option (Int32 × mh)) → Int32 × Int32 × mh → Option (Int32 × mh)} {fu : Nat} {f : Nat → Int32} {V : mh → Prop} (n : Nat) (hn : n ≤ 99) (hfu : 1000 ≤ fu) {h : mh} (hV : V h)
    (he : ∀ (a : Int32) (h : mh) (k : Int32 × Int32 × mh → Option (Int32 × mh)), V h → ok (B k (a, nI n, h)) (fun x h' => V h' ∧ x = a))
    (hs : ∀ (i : Nat) (a : Int32) (h : mh) (k : Int32 × Int32 × mh → Option (Int32 × mh)) (Q : Int32 → mh → Prop), i < n → V h → (∀ h', V h' → ok (k (a + f i, nI i + 1, h')) Q) → ok (B k (a, nI i, h)) Q) :
    ok (itr B fu (0, 0, h)) (fun x h' => V h' ∧ x = sumU f n) := by
  refine sumL 0 n hn hfu hV (fun a h k hV => ?_) (fun i a h k Q hi hV hk => ?_)
  · rw [Nat.zero_add]
    exact he a h k hV
  · rw [Nat.zero_add] at hk ⊢
    exact hs i a h k Q hi hV hk
def knV (N : AN) : Int32 := sumU (fun i => nI (pop (kn N i) 8)) 6
def beV (N : AN) : Int32 := sumU (fun i => nI (be N i)) 6
def heV (N : AN) : Int32 := sumU (fun i => nI (he N i)) 6
def dnV (T : AT) (N : AN) : Nat := bitsU (doneB T N) (nL9 T)
def quV (T : AT) (N : AN) : Nat := bitsU (fun r => decide (0 < qu N r)) (nR T)
def nhV (T : AT) (N : AN) : Nat := bitsU (fun r => decide (nI (he N r) = 0)) (nR T)
def rsV (T : AT) : Nat := bitsU (fun l => !decide (nI (re9 T l) = 0)) (nL9 T)
def riV (T : AT) (r : Nat) : Nat := bitsU (fun l => reB T l r) (nL9 T)
def orU (f : Nat → Nat) : Nat → Nat
  | 0 => 0
  | i + 1 => orU f i ||| f i
theorem orU_lt {f : Nat → Nat} : ∀ {n : Nat}, (∀ i, i < n → f i < 256) → orU f n < 256
  | 0, _ => by show (0 : Nat) < 256; decide
  | n + 1, h => or_lt (orU_lt (fun i hi => h i (by omega))) (h n (by omega))
theorem orU_tb {f : Nat → Nat} (b : Nat) : ∀ {n : Nat}, (orU f n).testBit b = true ↔ ∃ i, i < n ∧ (f i).testBit b = true
  | 0 => by
    show (0 : Nat).testBit b = true ↔ _
    rw [Nat.zero_testBit]
    exact ⟨(fun h => by cases h), (fun ⟨i, h, _⟩ => by omega)⟩
  | n + 1 => by
    show (orU f n ||| f n).testBit b = true ↔ _
    rw [Nat.testBit_or, Bool.or_eq_true, orU_tb b]
    constructor
    · rintro (⟨i, h, e⟩ | e)
      · exact ⟨i, by omega, e⟩
      · exact ⟨n, by omega, e⟩
    · rintro ⟨i, h, e⟩
      by_cases z : i = n
      · exact Or.inr (z ▸ e)
      · exact Or.inl ⟨i, by omega, e⟩
theorem v_ne {β : Type} {c : Prop} [Decidable c] {A B : Option (β × mh)} {Q : β → mh → Prop} (p1 : decide c = true → ok A Q) (p0 : decide c = false → ok B Q) : ok (if c then A else B) Q := v_if (fun e => p1 (decide_eq_true e)) (fun e => p0 (decide_eq_false e))
theorem v_nn {β : Type} {c : Prop} [Decidable c] {A B : Option (β × mh)} {Q : β → mh → Prop} (p1 : (!decide c) = false → ok A Q) (p0 : (!decide c) = true → ok B Q) : ok (if c then A else B) Q := v_if (fun e => p1 (by rw [decide_eq_true e]; rfl)) (fun e => p0 (by rw [decide_eq_false e]; rfl))
theorem v_zd {β : Type} {q : Nat} {A B : Option (β × mh)} {Q : β → mh → Prop} (hq : q < 2 ^ 31) (p0 : decide (0 < q) = false → ok A Q) (p1 : decide (0 < q) = true → ok B Q) : ok (if nI q ≤ 0 then A else B) Q := v_z hq (fun e => p0 (decide_eq_false (by omega))) (fun e => p1 (decide_eq_true e))
theorem factsC {t u n fu : Nat} {T : AT} {N : AN} {h : mh} (hC : CC t u T n N h) (hfu : 1000 ≤ fu) : fX3_factsKnown fu n h = some (knV N, h) := by
  obtain ⟨hy, htx, hng, hn, hwT, hwN⟩ := id hC
  have hT := LT_of hy
  refine ok_eq2 (sumL0 (V := fun h' => h' = h) 6 (by omega) hfu rfl ?_ ?_)
  · intro a h1 k hV
    unfold bX3_factsKnown_4
    dsimp only
    exact v_it (by decide) (v_rI ⟨hV, rfl⟩)
  · intro i a h1 k Q hi hV hk
    subst hV
    unfold bX3_factsKnown_4
    dsimp only
    refine v_ie (nI_ge (b := 6) hi (by omega)) ?_
    repeat (first | with_reducible apply v_lt | ((with_reducible apply vXR4); exact hT) | ((with_reducible apply w_XR); exact (LM_T hT); rfl) | ((with_reducible apply w_TR); exact hT; rfl) | ((with_reducible apply w_UR); exact hT; rfl) | ((first | with_reducible apply vXI | with_reducible apply vXS | with_reducible apply vXC); exact (LM_T hT)) | ((first | with_reducible apply vT0I | with_reducible apply vT9I | with_reducible apply vT0C | with_reducible apply vT9C | with_reducible apply vT0S | with_reducible apply vT9S); exact hT) | ((first | with_reducible apply vNR0 | with_reducible apply vNR1 | with_reducible apply vNR2 | with_reducible apply vNR3 | with_reducible apply vNI | with_reducible apply vNS | with_reducible apply vNC); (first | assumption | exact m39 | exact m44); exact (LM_T hT)) | ((first | with_reducible apply w_NA | with_reducible apply w_NW); exact (LM_T hT); (first | assumption | exact m39 | exact m44); rfl; rfl; (first | with_reducible rfl | with_reducible exact ixo _ | with_reducible exact ixoc _ _ | with_reducible exact ixom _ _ _ | with_reducible exact ixop _ _ | with_reducible exact ixod _ _ | assumption); omega) | ((first | with_reducible apply w_TA | with_reducible apply w_TW | with_reducible apply w_TJ | with_reducible apply w_TK); exact hT; rfl; rfl; (first | with_reducible rfl | with_reducible exact ixo _ | with_reducible exact ixoc _ _ | with_reducible exact ixom _ _ _ | with_reducible exact ixop _ _ | with_reducible exact ixod _ _ | assumption); omega))
    rw [(hng.1 i hi).1]
    refine v_eq (bitC (hwN.1 i hi).1) ?_
    exact hk _ rfl
theorem beliefC {t u n fu : Nat} {T : AT} {N : AN} {h : mh} (hC : CC t u T n N h) (hfu : 1000 ≤ fu) : fX3_beliefOfAll fu n h = some (beV N, h) := by
  obtain ⟨hy, htx, hng, hn, hwT, hwN⟩ := id hC
  have hT := LT_of hy
  refine ok_eq2 (sumL0 (V := fun h' => h' = h) 6 (by omega) hfu rfl ?_ ?_)
  · intro a h1 k hV
    unfold bX3_beliefOfAll_4
    dsimp only
    exact v_it (by decide) (v_rI ⟨hV, rfl⟩)
  · intro i a h1 k Q hi hV hk
    subst hV
    unfold bX3_beliefOfAll_4
    dsimp only
    refine v_ie (nI_ge (b := 6) hi (by omega)) ?_
    repeat (first | with_reducible apply v_lt | ((with_reducible apply vXR4); exact hT) | ((with_reducible apply w_XR); exact (LM_T hT); rfl) | ((with_reducible apply w_TR); exact hT; rfl) | ((with_reducible apply w_UR); exact hT; rfl) | ((first | with_reducible apply vXI | with_reducible apply vXS | with_reducible apply vXC); exact (LM_T hT)) | ((first | with_reducible apply vT0I | with_reducible apply vT9I | with_reducible apply vT0C | with_reducible apply vT9C | with_reducible apply vT0S | with_reducible apply vT9S); exact hT) | ((first | with_reducible apply vNR0 | with_reducible apply vNR1 | with_reducible apply vNR2 | with_reducible apply vNR3 | with_reducible apply vNI | with_reducible apply vNS | with_reducible apply vNC); (first | assumption | exact m39 | exact m44); exact (LM_T hT)) | ((first | with_reducible apply w_NA | with_reducible apply w_NW); exact (LM_T hT); (first | assumption | exact m39 | exact m44); rfl; rfl; (first | with_reducible rfl | with_reducible exact ixo _ | with_reducible exact ixoc _ _ | with_reducible exact ixom _ _ _ | with_reducible exact ixop _ _ | with_reducible exact ixod _ _ | assumption); omega) | ((first | with_reducible apply w_TA | with_reducible apply w_TW | with_reducible apply w_TJ | with_reducible apply w_TK); exact hT; rfl; rfl; (first | with_reducible rfl | with_reducible exact ixo _ | with_reducible exact ixoc _ _ | with_reducible exact ixom _ _ _ | with_reducible exact ixop _ _ | with_reducible exact ixod _ _ | assumption); omega))
    rw [(hng.1 i hi).2.1]
    exact hk _ rfl
theorem timesC {t u n fu : Nat} {T : AT} {N : AN} {h : mh} (hC : CC t u T n N h) (hfu : 1000 ≤ fu) : fX3_timesHeard fu n h = some (heV N, h) := by
  obtain ⟨hy, htx, hng, hn, hwT, hwN⟩ := id hC
  have hT := LT_of hy
  refine ok_eq2 (sumL0 (V := fun h' => h' = h) 6 (by omega) hfu rfl ?_ ?_)
  · intro a h1 k hV
    unfold bX3_timesHeard_4
    dsimp only
    exact v_it (by decide) (v_rI ⟨hV, rfl⟩)
  · intro i a h1 k Q hi hV hk
    subst hV
    unfold bX3_timesHeard_4
    dsimp only
    refine v_ie (nI_ge (b := 6) hi (by omega)) ?_
    repeat (first | with_reducible apply v_lt | ((with_reducible apply vXR4); exact hT) | ((with_reducible apply w_XR); exact (LM_T hT); rfl) | ((with_reducible apply w_TR); exact hT; rfl) | ((with_reducible apply w_UR); exact hT; rfl) | ((first | with_reducible apply vXI | with_reducible apply vXS | with_reducible apply vXC); exact (LM_T hT)) | ((first | with_reducible apply vT0I | with_reducible apply vT9I | with_reducible apply vT0C | with_reducible apply vT9C | with_reducible apply vT0S | with_reducible apply vT9S); exact hT) | ((first | with_reducible apply vNR0 | with_reducible apply vNR1 | with_reducible apply vNR2 | with_reducible apply vNR3 | with_reducible apply vNI | with_reducible apply vNS | with_reducible apply vNC); (first | assumption | exact m39 | exact m44); exact (LM_T hT)) | ((first | with_reducible apply w_NA | with_reducible apply w_NW); exact (LM_T hT); (first | assumption | exact m39 | exact m44); rfl; rfl; (first | with_reducible rfl | with_reducible exact ixo _ | with_reducible exact ixoc _ _ | with_reducible exact ixom _ _ _ | with_reducible exact ixop _ _ | with_reducible exact ixod _ _ | assumption); omega) | ((first | with_reducible apply w_TA | with_reducible apply w_TW | with_reducible apply w_TJ | with_reducible apply w_TK); exact hT; rfl; rfl; (first | with_reducible rfl | with_reducible exact ixo _ | with_reducible exact ixoc _ _ | with_reducible exact ixom _ _ _ | with_reducible exact ixop _ _ | with_reducible exact ixod _ _ | assumption); omega))
    rw [(hng.1 i hi).2.2.1]
    exact hk _ rfl
theorem doneByC {t u n fu : Nat} {T : AT} {N : AN} {h : mh} (hC : CC t u T n N h) (hfu : 1000 ≤ fu) : fX6_doneBy fu t n h = some (nI (dnV T N), h) := by
  obtain ⟨hy, htx, hng, hn, hwT, hwN⟩ := id hC
  have hT := LT_of hy
  have h6 := hwT.2.1
  refine ok_eq2 (bitsL (V := fun h' => h' = h) (by omega) hfu rfl ?_ ?_)
  · intro a h1 k hV
    subst hV
    unfold bX6_doneBy_4
    dsimp only
    repeat (first | with_reducible apply v_lt | ((with_reducible apply vXR4); exact hT) | ((with_reducible apply w_XR); exact (LM_T hT); rfl) | ((with_reducible apply w_TR); exact hT; rfl) | ((with_reducible apply w_UR); exact hT; rfl) | ((first | with_reducible apply vXI | with_reducible apply vXS | with_reducible apply vXC); exact (LM_T hT)) | ((first | with_reducible apply vT0I | with_reducible apply vT9I | with_reducible apply vT0C | with_reducible apply vT9C | with_reducible apply vT0S | with_reducible apply vT9S); exact hT) | ((first | with_reducible apply vNR0 | with_reducible apply vNR1 | with_reducible apply vNR2 | with_reducible apply vNR3 | with_reducible apply vNI | with_reducible apply vNS | with_reducible apply vNC); (first | assumption | exact m39 | exact m44); exact (LM_T hT)) | ((first | with_reducible apply w_NA | with_reducible apply w_NW); exact (LM_T hT); (first | assumption | exact m39 | exact m44); rfl; rfl; (first | with_reducible rfl | with_reducible exact ixo _ | with_reducible exact ixoc _ _ | with_reducible exact ixom _ _ _ | with_reducible exact ixop _ _ | with_reducible exact ixod _ _ | assumption); omega) | ((first | with_reducible apply w_TA | with_reducible apply w_TW | with_reducible apply w_TJ | with_reducible apply w_TK); exact hT; rfl; rfl; (first | with_reducible rfl | with_reducible exact ixo _ | with_reducible exact ixoc _ _ | with_reducible exact ixom _ _ _ | with_reducible exact ixop _ _ | with_reducible exact ixod _ _ | assumption); omega))
    rw [htx.2.1]
    exact v_it (nI_le (Nat.le_refl _) (by omega)) (v_rI ⟨rfl, rfl⟩)
  · intro i a h1 k Q hi hV h0 h1
    subst hV
    unfold bX6_doneBy_4
    dsimp only
    repeat (first | with_reducible apply v_lt | ((with_reducible apply vXR4); exact hT) | ((with_reducible apply w_XR); exact (LM_T hT); rfl) | ((with_reducible apply w_TR); exact hT; rfl) | ((with_reducible apply w_UR); exact hT; rfl) | ((first | with_reducible apply vXI | with_reducible apply vXS | with_reducible apply vXC); exact (LM_T hT)) | ((first | with_reducible apply vT0I | with_reducible apply vT9I | with_reducible apply vT0C | with_reducible apply vT9C | with_reducible apply vT0S | with_reducible apply vT9S); exact hT) | ((first | with_reducible apply vNR0 | with_reducible apply vNR1 | with_reducible apply vNR2 | with_reducible apply vNR3 | with_reducible apply vNI | with_reducible apply vNS | with_reducible apply vNC); (first | assumption | exact m39 | exact m44); exact (LM_T hT)) | ((first | with_reducible apply w_NA | with_reducible apply w_NW); exact (LM_T hT); (first | assumption | exact m39 | exact m44); rfl; rfl; (first | with_reducible rfl | with_reducible exact ixo _ | with_reducible exact ixoc _ _ | with_reducible exact ixom _ _ _ | with_reducible exact ixop _ _ | with_reducible exact ixod _ _ | assumption); omega) | ((first | with_reducible apply w_TA | with_reducible apply w_TW | with_reducible apply w_TJ | with_reducible apply w_TK); exact hT; rfl; rfl; (first | with_reducible rfl | with_reducible exact ixo _ | with_reducible exact ixoc _ _ | with_reducible exact ixom _ _ _ | with_reducible exact ixop _ _ | with_reducible exact ixod _ _ | assumption); omega))
    rw [htx.2.1]
    refine v_ie (nI_ge hi (by omega)) ?_
    repeat (first | with_reducible apply v_lt | ((with_reducible apply vXR4); exact hT) | ((with_reducible apply w_XR); exact (LM_T hT); rfl) | ((with_reducible apply w_TR); exact hT; rfl) | ((with_reducible apply w_UR); exact hT; rfl) | ((first | with_reducible apply vXI | with_reducible apply vXS | with_reducible apply vXC); exact (LM_T hT)) | ((first | with_reducible apply vT0I | with_reducible apply vT9I | with_reducible apply vT0C | with_reducible apply vT9C | with_reducible apply vT0S | with_reducible apply vT9S); exact hT) | ((first | with_reducible apply vNR0 | with_reducible apply vNR1 | with_reducible apply vNR2 | with_reducible apply vNR3 | with_reducible apply vNI | with_reducible apply vNS | with_reducible apply vNC); (first | assumption | exact m39 | exact m44); exact (LM_T hT)) | ((first | with_reducible apply w_NA | with_reducible apply w_NW); exact (LM_T hT); (first | assumption | exact m39 | exact m44); rfl; rfl; (first | with_reducible rfl | with_reducible exact ixo _ | with_reducible exact ixoc _ _ | with_reducible exact ixom _ _ _ | with_reducible exact ixop _ _ | with_reducible exact ixod _ _ | assumption); omega) | ((first | with_reducible apply w_TA | with_reducible apply w_TW | with_reducible apply w_TJ | with_reducible apply w_TK); exact hT; rfl; rfl; (first | with_reducible rfl | with_reducible exact ixo _ | with_reducible exact ixoc _ _ | with_reducible exact ixom _ _ _ | with_reducible exact ixop _ _ | with_reducible exact ixod _ _ | assumption); omega))
    refine v_eq (hasDoneC hC hi) ?_
    exact v_b (h0 _ rfl) (h1 _ rfl)
theorem quietC {t u n fu : Nat} {T : AT} {N : AN} {h : mh} (hC : CC t u T n N h) (hfu : 1000 ≤ fu) : fX6_quietRoles fu t n h = some (nI (quV T N), h) := by
  obtain ⟨hy, htx, hng, hn, hwT, hwN⟩ := id hC
  have hT := LT_of hy
  have h6 := hwT.1
  refine ok_eq2 (bitsL (V := fun h' => h' = h) (by omega) hfu rfl ?_ ?_)
  · intro a h1 k hV
    subst hV
    unfold bX6_quietRoles_4
    dsimp only
    repeat (first | with_reducible apply v_lt | ((with_reducible apply vXR4); exact hT) | ((with_reducible apply w_XR); exact (LM_T hT); rfl) | ((with_reducible apply w_TR); exact hT; rfl) | ((with_reducible apply w_UR); exact hT; rfl) | ((first | with_reducible apply vXI | with_reducible apply vXS | with_reducible apply vXC); exact (LM_T hT)) | ((first | with_reducible apply vT0I | with_reducible apply vT9I | with_reducible apply vT0C | with_reducible apply vT9C | with_reducible apply vT0S | with_reducible apply vT9S); exact hT) | ((first | with_reducible apply vNR0 | with_reducible apply vNR1 | with_reducible apply vNR2 | with_reducible apply vNR3 | with_reducible apply vNI | with_reducible apply vNS | with_reducible apply vNC); (first | assumption | exact m39 | exact m44); exact (LM_T hT)) | ((first | with_reducible apply w_NA | with_reducible apply w_NW); exact (LM_T hT); (first | assumption | exact m39 | exact m44); rfl; rfl; (first | with_reducible rfl | with_reducible exact ixo _ | with_reducible exact ixoc _ _ | with_reducible exact ixom _ _ _ | with_reducible exact ixop _ _ | with_reducible exact ixod _ _ | assumption); omega) | ((first | with_reducible apply w_TA | with_reducible apply w_TW | with_reducible apply w_TJ | with_reducible apply w_TK); exact hT; rfl; rfl; (first | with_reducible rfl | with_reducible exact ixo _ | with_reducible exact ixoc _ _ | with_reducible exact ixom _ _ _ | with_reducible exact ixop _ _ | with_reducible exact ixod _ _ | assumption); omega))
    rw [htx.1]
    exact v_it (nI_le (Nat.le_refl _) (by omega)) (v_rI ⟨rfl, rfl⟩)
  · intro i a h1 k Q hi hV h0 h1
    subst hV
    unfold bX6_quietRoles_4
    dsimp only
    repeat (first | with_reducible apply v_lt | ((with_reducible apply vXR4); exact hT) | ((with_reducible apply w_XR); exact (LM_T hT); rfl) | ((with_reducible apply w_TR); exact hT; rfl) | ((with_reducible apply w_UR); exact hT; rfl) | ((first | with_reducible apply vXI | with_reducible apply vXS | with_reducible apply vXC); exact (LM_T hT)) | ((first | with_reducible apply vT0I | with_reducible apply vT9I | with_reducible apply vT0C | with_reducible apply vT9C | with_reducible apply vT0S | with_reducible apply vT9S); exact hT) | ((first | with_reducible apply vNR0 | with_reducible apply vNR1 | with_reducible apply vNR2 | with_reducible apply vNR3 | with_reducible apply vNI | with_reducible apply vNS | with_reducible apply vNC); (first | assumption | exact m39 | exact m44); exact (LM_T hT)) | ((first | with_reducible apply w_NA | with_reducible apply w_NW); exact (LM_T hT); (first | assumption | exact m39 | exact m44); rfl; rfl; (first | with_reducible rfl | with_reducible exact ixo _ | with_reducible exact ixoc _ _ | with_reducible exact ixom _ _ _ | with_reducible exact ixop _ _ | with_reducible exact ixod _ _ | assumption); omega) | ((first | with_reducible apply w_TA | with_reducible apply w_TW | with_reducible apply w_TJ | with_reducible apply w_TK); exact hT; rfl; rfl; (first | with_reducible rfl | with_reducible exact ixo _ | with_reducible exact ixoc _ _ | with_reducible exact ixom _ _ _ | with_reducible exact ixop _ _ | with_reducible exact ixod _ _ | assumption); omega))
    rw [htx.1]
    refine v_ie (nI_ge hi (by omega)) ?_
    repeat (first | with_reducible apply v_lt | ((with_reducible apply vXR4); exact hT) | ((with_reducible apply w_XR); exact (LM_T hT); rfl) | ((with_reducible apply w_TR); exact hT; rfl) | ((with_reducible apply w_UR); exact hT; rfl) | ((first | with_reducible apply vXI | with_reducible apply vXS | with_reducible apply vXC); exact (LM_T hT)) | ((first | with_reducible apply vT0I | with_reducible apply vT9I | with_reducible apply vT0C | with_reducible apply vT9C | with_reducible apply vT0S | with_reducible apply vT9S); exact hT) | ((first | with_reducible apply vNR0 | with_reducible apply vNR1 | with_reducible apply vNR2 | with_reducible apply vNR3 | with_reducible apply vNI | with_reducible apply vNS | with_reducible apply vNC); (first | assumption | exact m39 | exact m44); exact (LM_T hT)) | ((first | with_reducible apply w_NA | with_reducible apply w_NW); exact (LM_T hT); (first | assumption | exact m39 | exact m44); rfl; rfl; (first | with_reducible rfl | with_reducible exact ixo _ | with_reducible exact ixoc _ _ | with_reducible exact ixom _ _ _ | with_reducible exact ixop _ _ | with_reducible exact ixod _ _ | assumption); omega) | ((first | with_reducible apply w_TA | with_reducible apply w_TW | with_reducible apply w_TJ | with_reducible apply w_TK); exact hT; rfl; rfl; (first | with_reducible rfl | with_reducible exact ixo _ | with_reducible exact ixoc _ _ | with_reducible exact ixom _ _ _ | with_reducible exact ixop _ _ | with_reducible exact ixod _ _ | assumption); omega))
    have hq := (hwN.1 i (by omega)).2.2
    rw [(hng.1 i (by omega)).2.2.2]
    exact v_zd (by omega) (h0 _ rfl) (h1 _ rfl)
theorem neverHC {t u n fu : Nat} {T : AT} {N : AN} {h : mh} (hC : CC t u T n N h) (hfu : 1000 ≤ fu) : fX6_neverHeard fu t n h = some (nI (nhV T N), h) := by
  obtain ⟨hy, htx, hng, hn, hwT, hwN⟩ := id hC
  have hT := LT_of hy
  have h6 := hwT.1
  refine ok_eq2 (bitsL (V := fun h' => h' = h) (by omega) hfu rfl ?_ ?_)
  · intro a h1 k hV
    subst hV
    unfold bX6_neverHeard_4
    dsimp only
    repeat (first | with_reducible apply v_lt | ((with_reducible apply vXR4); exact hT) | ((with_reducible apply w_XR); exact (LM_T hT); rfl) | ((with_reducible apply w_TR); exact hT; rfl) | ((with_reducible apply w_UR); exact hT; rfl) | ((first | with_reducible apply vXI | with_reducible apply vXS | with_reducible apply vXC); exact (LM_T hT)) | ((first | with_reducible apply vT0I | with_reducible apply vT9I | with_reducible apply vT0C | with_reducible apply vT9C | with_reducible apply vT0S | with_reducible apply vT9S); exact hT) | ((first | with_reducible apply vNR0 | with_reducible apply vNR1 | with_reducible apply vNR2 | with_reducible apply vNR3 | with_reducible apply vNI | with_reducible apply vNS | with_reducible apply vNC); (first | assumption | exact m39 | exact m44); exact (LM_T hT)) | ((first | with_reducible apply w_NA | with_reducible apply w_NW); exact (LM_T hT); (first | assumption | exact m39 | exact m44); rfl; rfl; (first | with_reducible rfl | with_reducible exact ixo _ | with_reducible exact ixoc _ _ | with_reducible exact ixom _ _ _ | with_reducible exact ixop _ _ | with_reducible exact ixod _ _ | assumption); omega) | ((first | with_reducible apply w_TA | with_reducible apply w_TW | with_reducible apply w_TJ | with_reducible apply w_TK); exact hT; rfl; rfl; (first | with_reducible rfl | with_reducible exact ixo _ | with_reducible exact ixoc _ _ | with_reducible exact ixom _ _ _ | with_reducible exact ixop _ _ | with_reducible exact ixod _ _ | assumption); omega))
    rw [htx.1]
    exact v_it (nI_le (Nat.le_refl _) (by omega)) (v_rI ⟨rfl, rfl⟩)
  · intro i a h1 k Q hi hV h0 h1
    subst hV
    unfold bX6_neverHeard_4
    dsimp only
    repeat (first | with_reducible apply v_lt | ((with_reducible apply vXR4); exact hT) | ((with_reducible apply w_XR); exact (LM_T hT); rfl) | ((with_reducible apply w_TR); exact hT; rfl) | ((with_reducible apply w_UR); exact hT; rfl) | ((first | with_reducible apply vXI | with_reducible apply vXS | with_reducible apply vXC); exact (LM_T hT)) | ((first | with_reducible apply vT0I | with_reducible apply vT9I | with_reducible apply vT0C | with_reducible apply vT9C | with_reducible apply vT0S | with_reducible apply vT9S); exact hT) | ((first | with_reducible apply vNR0 | with_reducible apply vNR1 | with_reducible apply vNR2 | with_reducible apply vNR3 | with_reducible apply vNI | with_reducible apply vNS | with_reducible apply vNC); (first | assumption | exact m39 | exact m44); exact (LM_T hT)) | ((first | with_reducible apply w_NA | with_reducible apply w_NW); exact (LM_T hT); (first | assumption | exact m39 | exact m44); rfl; rfl; (first | with_reducible rfl | with_reducible exact ixo _ | with_reducible exact ixoc _ _ | with_reducible exact ixom _ _ _ | with_reducible exact ixop _ _ | with_reducible exact ixod _ _ | assumption); omega) | ((first | with_reducible apply w_TA | with_reducible apply w_TW | with_reducible apply w_TJ | with_reducible apply w_TK); exact hT; rfl; rfl; (first | with_reducible rfl | with_reducible exact ixo _ | with_reducible exact ixoc _ _ | with_reducible exact ixom _ _ _ | with_reducible exact ixop _ _ | with_reducible exact ixod _ _ | assumption); omega))
    rw [htx.1]
    refine v_ie (nI_ge hi (by omega)) ?_
    repeat (first | with_reducible apply v_lt | ((with_reducible apply vXR4); exact hT) | ((with_reducible apply w_XR); exact (LM_T hT); rfl) | ((with_reducible apply w_TR); exact hT; rfl) | ((with_reducible apply w_UR); exact hT; rfl) | ((first | with_reducible apply vXI | with_reducible apply vXS | with_reducible apply vXC); exact (LM_T hT)) | ((first | with_reducible apply vT0I | with_reducible apply vT9I | with_reducible apply vT0C | with_reducible apply vT9C | with_reducible apply vT0S | with_reducible apply vT9S); exact hT) | ((first | with_reducible apply vNR0 | with_reducible apply vNR1 | with_reducible apply vNR2 | with_reducible apply vNR3 | with_reducible apply vNI | with_reducible apply vNS | with_reducible apply vNC); (first | assumption | exact m39 | exact m44); exact (LM_T hT)) | ((first | with_reducible apply w_NA | with_reducible apply w_NW); exact (LM_T hT); (first | assumption | exact m39 | exact m44); rfl; rfl; (first | with_reducible rfl | with_reducible exact ixo _ | with_reducible exact ixoc _ _ | with_reducible exact ixom _ _ _ | with_reducible exact ixop _ _ | with_reducible exact ixod _ _ | assumption); omega) | ((first | with_reducible apply w_TA | with_reducible apply w_TW | with_reducible apply w_TJ | with_reducible apply w_TK); exact hT; rfl; rfl; (first | with_reducible rfl | with_reducible exact ixo _ | with_reducible exact ixoc _ _ | with_reducible exact ixom _ _ _ | with_reducible exact ixop _ _ | with_reducible exact ixod _ _ | assumption); omega))
    rw [(hng.1 i (by omega)).2.2.1]
    exact v_ne (h1 _ rfl) (h0 _ rfl)
theorem reallySomeC {t u n fu : Nat} {T : AT} {N : AN} {h : mh} (hC : CC t u T n N h) (hfu : 1000 ≤ fu) : fX6_reallySome fu t h = some (nI (rsV T), h) := by
  obtain ⟨hy, htx, hng, hn, hwT, hwN⟩ := id hC
  have hT := LT_of hy
  have h6 := hwT.2.1
  refine ok_eq2 (bitsL (V := fun h' => h' = h) (by omega) hfu rfl ?_ ?_)
  · intro a h1 k hV
    subst hV
    unfold bX6_reallySome_4
    dsimp only
    repeat (first | with_reducible apply v_lt | ((with_reducible apply vXR4); exact hT) | ((with_reducible apply w_XR); exact (LM_T hT); rfl) | ((with_reducible apply w_TR); exact hT; rfl) | ((with_reducible apply w_UR); exact hT; rfl) | ((first | with_reducible apply vXI | with_reducible apply vXS | with_reducible apply vXC); exact (LM_T hT)) | ((first | with_reducible apply vT0I | with_reducible apply vT9I | with_reducible apply vT0C | with_reducible apply vT9C | with_reducible apply vT0S | with_reducible apply vT9S); exact hT) | ((first | with_reducible apply vNR0 | with_reducible apply vNR1 | with_reducible apply vNR2 | with_reducible apply vNR3 | with_reducible apply vNI | with_reducible apply vNS | with_reducible apply vNC); (first | assumption | exact m39 | exact m44); exact (LM_T hT)) | ((first | with_reducible apply w_NA | with_reducible apply w_NW); exact (LM_T hT); (first | assumption | exact m39 | exact m44); rfl; rfl; (first | with_reducible rfl | with_reducible exact ixo _ | with_reducible exact ixoc _ _ | with_reducible exact ixom _ _ _ | with_reducible exact ixop _ _ | with_reducible exact ixod _ _ | assumption); omega) | ((first | with_reducible apply w_TA | with_reducible apply w_TW | with_reducible apply w_TJ | with_reducible apply w_TK); exact hT; rfl; rfl; (first | with_reducible rfl | with_reducible exact ixo _ | with_reducible exact ixoc _ _ | with_reducible exact ixom _ _ _ | with_reducible exact ixop _ _ | with_reducible exact ixod _ _ | assumption); omega))
    rw [htx.2.1]
    exact v_it (nI_le (Nat.le_refl _) (by omega)) (v_rI ⟨rfl, rfl⟩)
  · intro i a h1 k Q hi hV h0 h1
    subst hV
    unfold bX6_reallySome_4
    dsimp only
    repeat (first | with_reducible apply v_lt | ((with_reducible apply vXR4); exact hT) | ((with_reducible apply w_XR); exact (LM_T hT); rfl) | ((with_reducible apply w_TR); exact hT; rfl) | ((with_reducible apply w_UR); exact hT; rfl) | ((first | with_reducible apply vXI | with_reducible apply vXS | with_reducible apply vXC); exact (LM_T hT)) | ((first | with_reducible apply vT0I | with_reducible apply vT9I | with_reducible apply vT0C | with_reducible apply vT9C | with_reducible apply vT0S | with_reducible apply vT9S); exact hT) | ((first | with_reducible apply vNR0 | with_reducible apply vNR1 | with_reducible apply vNR2 | with_reducible apply vNR3 | with_reducible apply vNI | with_reducible apply vNS | with_reducible apply vNC); (first | assumption | exact m39 | exact m44); exact (LM_T hT)) | ((first | with_reducible apply w_NA | with_reducible apply w_NW); exact (LM_T hT); (first | assumption | exact m39 | exact m44); rfl; rfl; (first | with_reducible rfl | with_reducible exact ixo _ | with_reducible exact ixoc _ _ | with_reducible exact ixom _ _ _ | with_reducible exact ixop _ _ | with_reducible exact ixod _ _ | assumption); omega) | ((first | with_reducible apply w_TA | with_reducible apply w_TW | with_reducible apply w_TJ | with_reducible apply w_TK); exact hT; rfl; rfl; (first | with_reducible rfl | with_reducible exact ixo _ | with_reducible exact ixoc _ _ | with_reducible exact ixom _ _ _ | with_reducible exact ixop _ _ | with_reducible exact ixod _ _ | assumption); omega))
    rw [htx.2.1]
    refine v_ie (nI_ge hi (by omega)) ?_
    repeat (first | with_reducible apply v_lt | ((with_reducible apply vXR4); exact hT) | ((with_reducible apply w_XR); exact (LM_T hT); rfl) | ((with_reducible apply w_TR); exact hT; rfl) | ((with_reducible apply w_UR); exact hT; rfl) | ((first | with_reducible apply vXI | with_reducible apply vXS | with_reducible apply vXC); exact (LM_T hT)) | ((first | with_reducible apply vT0I | with_reducible apply vT9I | with_reducible apply vT0C | with_reducible apply vT9C | with_reducible apply vT0S | with_reducible apply vT9S); exact hT) | ((first | with_reducible apply vNR0 | with_reducible apply vNR1 | with_reducible apply vNR2 | with_reducible apply vNR3 | with_reducible apply vNI | with_reducible apply vNS | with_reducible apply vNC); (first | assumption | exact m39 | exact m44); exact (LM_T hT)) | ((first | with_reducible apply w_NA | with_reducible apply w_NW); exact (LM_T hT); (first | assumption | exact m39 | exact m44); rfl; rfl; (first | with_reducible rfl | with_reducible exact ixo _ | with_reducible exact ixoc _ _ | with_reducible exact ixom _ _ _ | with_reducible exact ixop _ _ | with_reducible exact ixod _ _ | assumption); omega) | ((first | with_reducible apply w_TA | with_reducible apply w_TW | with_reducible apply w_TJ | with_reducible apply w_TK); exact hT; rfl; rfl; (first | with_reducible rfl | with_reducible exact ixo _ | with_reducible exact ixoc _ _ | with_reducible exact ixom _ _ _ | with_reducible exact ixop _ _ | with_reducible exact ixod _ _ | assumption); omega))
    rw [(htx.2.2.2.1 i hi).2]
    exact v_nn (h0 _ rfl) (h1 _ rfl)
theorem reallyItC {t u n fu r : Nat} {T : AT} {N : AN} {h : mh} (hC : CC t u T n N h) (hfu : 1000 ≤ fu) (hr : r < nR T) : fX6_reallyIt fu t (nI r) h = some (nI (riV T r), h) := by
  obtain ⟨hy, htx, hng, hn, hwT, hwN⟩ := id hC
  have hT := LT_of hy
  have h6 := hwT.2.1
  refine ok_eq2 (bitsL (V := fun h' => h' = h) (by omega) hfu rfl ?_ ?_)
  · intro a h1 k hV
    subst hV
    unfold bX6_reallyIt_4
    dsimp only
    repeat (first | with_reducible apply v_lt | ((with_reducible apply vXR4); exact hT) | ((with_reducible apply w_XR); exact (LM_T hT); rfl) | ((with_reducible apply w_TR); exact hT; rfl) | ((with_reducible apply w_UR); exact hT; rfl) | ((first | with_reducible apply vXI | with_reducible apply vXS | with_reducible apply vXC); exact (LM_T hT)) | ((first | with_reducible apply vT0I | with_reducible apply vT9I | with_reducible apply vT0C | with_reducible apply vT9C | with_reducible apply vT0S | with_reducible apply vT9S); exact hT) | ((first | with_reducible apply vNR0 | with_reducible apply vNR1 | with_reducible apply vNR2 | with_reducible apply vNR3 | with_reducible apply vNI | with_reducible apply vNS | with_reducible apply vNC); (first | assumption | exact m39 | exact m44); exact (LM_T hT)) | ((first | with_reducible apply w_NA | with_reducible apply w_NW); exact (LM_T hT); (first | assumption | exact m39 | exact m44); rfl; rfl; (first | with_reducible rfl | with_reducible exact ixo _ | with_reducible exact ixoc _ _ | with_reducible exact ixom _ _ _ | with_reducible exact ixop _ _ | with_reducible exact ixod _ _ | assumption); omega) | ((first | with_reducible apply w_TA | with_reducible apply w_TW | with_reducible apply w_TJ | with_reducible apply w_TK); exact hT; rfl; rfl; (first | with_reducible rfl | with_reducible exact ixo _ | with_reducible exact ixoc _ _ | with_reducible exact ixom _ _ _ | with_reducible exact ixop _ _ | with_reducible exact ixod _ _ | assumption); omega))
    rw [htx.2.1]
    exact v_it (nI_le (Nat.le_refl _) (by omega)) (v_rI ⟨rfl, rfl⟩)
  · intro i a h1 k Q hi hV h0 h1
    subst hV
    unfold bX6_reallyIt_4
    dsimp only
    repeat (first | with_reducible apply v_lt | ((with_reducible apply vXR4); exact hT) | ((with_reducible apply w_XR); exact (LM_T hT); rfl) | ((with_reducible apply w_TR); exact hT; rfl) | ((with_reducible apply w_UR); exact hT; rfl) | ((first | with_reducible apply vXI | with_reducible apply vXS | with_reducible apply vXC); exact (LM_T hT)) | ((first | with_reducible apply vT0I | with_reducible apply vT9I | with_reducible apply vT0C | with_reducible apply vT9C | with_reducible apply vT0S | with_reducible apply vT9S); exact hT) | ((first | with_reducible apply vNR0 | with_reducible apply vNR1 | with_reducible apply vNR2 | with_reducible apply vNR3 | with_reducible apply vNI | with_reducible apply vNS | with_reducible apply vNC); (first | assumption | exact m39 | exact m44); exact (LM_T hT)) | ((first | with_reducible apply w_NA | with_reducible apply w_NW); exact (LM_T hT); (first | assumption | exact m39 | exact m44); rfl; rfl; (first | with_reducible rfl | with_reducible exact ixo _ | with_reducible exact ixoc _ _ | with_reducible exact ixom _ _ _ | with_reducible exact ixop _ _ | with_reducible exact ixod _ _ | assumption); omega) | ((first | with_reducible apply w_TA | with_reducible apply w_TW | with_reducible apply w_TJ | with_reducible apply w_TK); exact hT; rfl; rfl; (first | with_reducible rfl | with_reducible exact ixo _ | with_reducible exact ixoc _ _ | with_reducible exact ixom _ _ _ | with_reducible exact ixop _ _ | with_reducible exact ixod _ _ | assumption); omega))
    rw [htx.2.1]
    refine v_ie (nI_ge hi (by omega)) ?_
    repeat (first | with_reducible apply v_lt | ((with_reducible apply vXR4); exact hT) | ((with_reducible apply w_XR); exact (LM_T hT); rfl) | ((with_reducible apply w_TR); exact hT; rfl) | ((with_reducible apply w_UR); exact hT; rfl) | ((first | with_reducible apply vXI | with_reducible apply vXS | with_reducible apply vXC); exact (LM_T hT)) | ((first | with_reducible apply vT0I | with_reducible apply vT9I | with_reducible apply vT0C | with_reducible apply vT9C | with_reducible apply vT0S | with_reducible apply vT9S); exact hT) | ((first | with_reducible apply vNR0 | with_reducible apply vNR1 | with_reducible apply vNR2 | with_reducible apply vNR3 | with_reducible apply vNI | with_reducible apply vNS | with_reducible apply vNC); (first | assumption | exact m39 | exact m44); exact (LM_T hT)) | ((first | with_reducible apply w_NA | with_reducible apply w_NW); exact (LM_T hT); (first | assumption | exact m39 | exact m44); rfl; rfl; (first | with_reducible rfl | with_reducible exact ixo _ | with_reducible exact ixoc _ _ | with_reducible exact ixom _ _ _ | with_reducible exact ixop _ _ | with_reducible exact ixod _ _ | assumption); omega) | ((first | with_reducible apply w_TA | with_reducible apply w_TW | with_reducible apply w_TJ | with_reducible apply w_TK); exact hT; rfl; rfl; (first | with_reducible rfl | with_reducible exact ixo _ | with_reducible exact ixoc _ _ | with_reducible exact ixom _ _ _ | with_reducible exact ixop _ _ | with_reducible exact ixod _ _ | assumption); omega))
    refine v_eq (isReallyC hC hr hi) ?_
    exact v_b (h0 _ rfl) (h1 _ rfl)
theorem knownByC {t u n fu : Nat} {T : AT} {N : AN} {h : mh} (hC : CC t u T n N h) (hfu : 1000 ≤ fu) : fX6_knownByRoles fu t h = some (nI (orU (kw T) (nR T)), h) := by
  obtain ⟨hy, htx, hng, hn, hwT, hwN⟩ := id hC
  have hT := LT_of hy
  have h6 := hwT.1
  unfold fX6_knownByRoles
  refine itr_up (I := fun j s => s = (nI (orU (kw T) j), nI j, h)) (P := fun R => R = some (nI (orU (kw T) (nR T)), h)) (n := nR T) ?_ ?_ fu 0 _ (by omega) (by omega) rfl
  · intro j s k hj hI hk
    subst hI
    have := hk _ rfl
    refine Eq.trans (ok_eq (h := h) (v := nI (orU (kw T) (nR T))) ?_) rfl
    unfold bX6_knownByRoles_4
    dsimp only
    repeat (first | with_reducible apply v_lt | ((with_reducible apply vXR4); exact hT) | ((with_reducible apply w_XR); exact (LM_T hT); rfl) | ((with_reducible apply w_TR); exact hT; rfl) | ((with_reducible apply w_UR); exact hT; rfl) | ((first | with_reducible apply vXI | with_reducible apply vXS | with_reducible apply vXC); exact (LM_T hT)) | ((first | with_reducible apply vT0I | with_reducible apply vT9I | with_reducible apply vT0C | with_reducible apply vT9C | with_reducible apply vT0S | with_reducible apply vT9S); exact hT) | ((first | with_reducible apply vNR0 | with_reducible apply vNR1 | with_reducible apply vNR2 | with_reducible apply vNR3 | with_reducible apply vNI | with_reducible apply vNS | with_reducible apply vNC); (first | assumption | exact m39 | exact m44); exact (LM_T hT)) | ((first | with_reducible apply w_NA | with_reducible apply w_NW); exact (LM_T hT); (first | assumption | exact m39 | exact m44); rfl; rfl; (first | with_reducible rfl | with_reducible exact ixo _ | with_reducible exact ixoc _ _ | with_reducible exact ixom _ _ _ | with_reducible exact ixop _ _ | with_reducible exact ixod _ _ | assumption); omega) | ((first | with_reducible apply w_TA | with_reducible apply w_TW | with_reducible apply w_TJ | with_reducible apply w_TK); exact hT; rfl; rfl; (first | with_reducible rfl | with_reducible exact ixo _ | with_reducible exact ixoc _ _ | with_reducible exact ixom _ _ _ | with_reducible exact ixop _ _ | with_reducible exact ixod _ _ | assumption); omega))
    rw [htx.1]
    refine v_ie (nI_ge hj (by omega)) ?_
    repeat (first | with_reducible apply v_lt | ((with_reducible apply vXR4); exact hT) | ((with_reducible apply w_XR); exact (LM_T hT); rfl) | ((with_reducible apply w_TR); exact hT; rfl) | ((with_reducible apply w_UR); exact hT; rfl) | ((first | with_reducible apply vXI | with_reducible apply vXS | with_reducible apply vXC); exact (LM_T hT)) | ((first | with_reducible apply vT0I | with_reducible apply vT9I | with_reducible apply vT0C | with_reducible apply vT9C | with_reducible apply vT0S | with_reducible apply vT9S); exact hT) | ((first | with_reducible apply vNR0 | with_reducible apply vNR1 | with_reducible apply vNR2 | with_reducible apply vNR3 | with_reducible apply vNI | with_reducible apply vNS | with_reducible apply vNC); (first | assumption | exact m39 | exact m44); exact (LM_T hT)) | ((first | with_reducible apply w_NA | with_reducible apply w_NW); exact (LM_T hT); (first | assumption | exact m39 | exact m44); rfl; rfl; (first | with_reducible rfl | with_reducible exact ixo _ | with_reducible exact ixoc _ _ | with_reducible exact ixom _ _ _ | with_reducible exact ixop _ _ | with_reducible exact ixod _ _ | assumption); omega) | ((first | with_reducible apply w_TA | with_reducible apply w_TW | with_reducible apply w_TJ | with_reducible apply w_TK); exact hT; rfl; rfl; (first | with_reducible rfl | with_reducible exact ixo _ | with_reducible exact ixoc _ _ | with_reducible exact ixom _ _ _ | with_reducible exact ixop _ _ | with_reducible exact ixod _ _ | assumption); omega))
    rw [(htx.2.2.1 j hj).1, fa_or, nI_1]
    exact ⟨_, _, this, rfl, rfl⟩
  · intro s k hI
    subst hI
    refine ok_eq ?_
    unfold bX6_knownByRoles_4
    dsimp only
    repeat (first | with_reducible apply v_lt | ((with_reducible apply vXR4); exact hT) | ((with_reducible apply w_XR); exact (LM_T hT); rfl) | ((with_reducible apply w_TR); exact hT; rfl) | ((with_reducible apply w_UR); exact hT; rfl) | ((first | with_reducible apply vXI | with_reducible apply vXS | with_reducible apply vXC); exact (LM_T hT)) | ((first | with_reducible apply vT0I | with_reducible apply vT9I | with_reducible apply vT0C | with_reducible apply vT9C | with_reducible apply vT0S | with_reducible apply vT9S); exact hT) | ((first | with_reducible apply vNR0 | with_reducible apply vNR1 | with_reducible apply vNR2 | with_reducible apply vNR3 | with_reducible apply vNI | with_reducible apply vNS | with_reducible apply vNC); (first | assumption | exact m39 | exact m44); exact (LM_T hT)) | ((first | with_reducible apply w_NA | with_reducible apply w_NW); exact (LM_T hT); (first | assumption | exact m39 | exact m44); rfl; rfl; (first | with_reducible rfl | with_reducible exact ixo _ | with_reducible exact ixoc _ _ | with_reducible exact ixom _ _ _ | with_reducible exact ixop _ _ | with_reducible exact ixod _ _ | assumption); omega) | ((first | with_reducible apply w_TA | with_reducible apply w_TW | with_reducible apply w_TJ | with_reducible apply w_TK); exact hT; rfl; rfl; (first | with_reducible rfl | with_reducible exact ixo _ | with_reducible exact ixoc _ _ | with_reducible exact ixom _ _ _ | with_reducible exact ixop _ _ | with_reducible exact ixod _ _ | assumption); omega))
    rw [htx.1]
    exact v_it (nI_le (Nat.le_refl _) (by omega)) (v_rI ⟨rfl, rfl⟩)
/-! the same in the reference -/
theorem doneM {t u l fu : Nat} {T : AT} {N : AN} {h : mh} (hM : MC t u l T N h) (hfu : 1000 ≤ fu) : fX10_doneBits fu 299 h = some (nI (dnV T N), h) := by
  obtain ⟨hy, hl, hlv, htx, hng, hwT, hwN⟩ := id hM
  have hL := LM_of hy
  have h6 := hwT.2.1
  refine ok_eq2 (bitsL (V := fun h' => h' = h) (by omega) hfu rfl ?_ ?_)
  · intro a h1 k hV
    subst hV
    unfold bX10_doneBits_4
    dsimp only
    repeat (first | with_reducible apply v_lt | ((with_reducible apply w_MR); exact hL; rfl) | ((with_reducible apply w_lv); exact hL; assumption) | ((with_reducible apply vMI); exact hL) | ((with_reducible apply vMS); exact hL) | ((with_reducible apply vMC); exact hL) | ((with_reducible apply vMZ); exact hL; (first | exact Or.inl rfl | exact Or.inr rfl | exact b2i_01 _ | assumption)) | ((first | with_reducible apply w_MA | with_reducible apply w_MW | with_reducible apply w_MY | with_reducible apply w_MB | with_reducible apply w_MJ | with_reducible apply w_MK); exact hL; rfl; rfl; rfl; (first | with_reducible rfl | with_reducible exact ixo _ | with_reducible exact ixoc _ _ | with_reducible exact ixom _ _ _ | with_reducible exact ixop _ _ | with_reducible exact ixod _ _ | assumption); omega))
    rw [htx.2.1]
    exact v_it (nI_le (Nat.le_refl _) (by omega)) (v_rI ⟨rfl, rfl⟩)
  · intro i a h1 k Q hi hV h0 h1
    subst hV
    unfold bX10_doneBits_4
    dsimp only
    repeat (first | with_reducible apply v_lt | ((with_reducible apply w_MR); exact hL; rfl) | ((with_reducible apply w_lv); exact hL; assumption) | ((with_reducible apply vMI); exact hL) | ((with_reducible apply vMS); exact hL) | ((with_reducible apply vMC); exact hL) | ((with_reducible apply vMZ); exact hL; (first | exact Or.inl rfl | exact Or.inr rfl | exact b2i_01 _ | assumption)) | ((first | with_reducible apply w_MA | with_reducible apply w_MW | with_reducible apply w_MY | with_reducible apply w_MB | with_reducible apply w_MJ | with_reducible apply w_MK); exact hL; rfl; rfl; rfl; (first | with_reducible rfl | with_reducible exact ixo _ | with_reducible exact ixoc _ _ | with_reducible exact ixom _ _ _ | with_reducible exact ixop _ _ | with_reducible exact ixod _ _ | assumption); omega))
    rw [htx.2.1]
    refine v_ie (nI_ge hi (by omega)) ?_
    repeat (first | with_reducible apply v_lt | ((with_reducible apply w_MR); exact hL; rfl) | ((with_reducible apply w_lv); exact hL; assumption) | ((with_reducible apply vMI); exact hL) | ((with_reducible apply vMS); exact hL) | ((with_reducible apply vMC); exact hL) | ((with_reducible apply vMZ); exact hL; (first | exact Or.inl rfl | exact Or.inr rfl | exact b2i_01 _ | assumption)) | ((first | with_reducible apply w_MA | with_reducible apply w_MW | with_reducible apply w_MY | with_reducible apply w_MB | with_reducible apply w_MJ | with_reducible apply w_MK); exact hL; rfl; rfl; rfl; (first | with_reducible rfl | with_reducible exact ixo _ | with_reducible exact ixoc _ _ | with_reducible exact ixom _ _ _ | with_reducible exact ixop _ _ | with_reducible exact ixod _ _ | assumption); omega))
    refine v_eq (hasDoneM hM hi) ?_
    exact v_b (h0 _ rfl) (h1 _ rfl)
theorem sumOfM {t u l fu b : Nat} {T : AT} {N : AN} {h : mh} (hM : MC t u l T N h) (hfu : 1000 ≤ fu) (hb : b ≤ 27) : fX10_sumOf fu 299 (nI b) h = some (sumU (fun i => gI h 334 (b + i)) 6, h) := by
  obtain ⟨hy, hl, hlv, htx, hng, hwT, hwN⟩ := id hM
  have hL := LM_of hy
  have e6 : nI b + 6 = nI (b + 6) := ixd b 6
  refine ok_eq2 (sumL (V := fun h' => h' = h) b 6 (by omega) hfu rfl ?_ ?_)
  · intro a h1 k hV
    unfold bX10_sumOf_4
    dsimp only
    rw [e6]
    exact v_it (nI_le (Nat.le_refl _) (by omega)) (v_rI ⟨hV, rfl⟩)
  · intro i a h1 k Q hi hV hk
    subst hV
    unfold bX10_sumOf_4
    dsimp only
    rw [e6]
    refine v_ie (nI_ge (by omega) (by omega)) ?_
    repeat (first | with_reducible apply v_lt | ((with_reducible apply w_MR); exact hL; rfl) | ((with_reducible apply w_lv); exact hL; assumption) | ((with_reducible apply vMI); exact hL) | ((with_reducible apply vMS); exact hL) | ((with_reducible apply vMC); exact hL) | ((with_reducible apply vMZ); exact hL; (first | exact Or.inl rfl | exact Or.inr rfl | exact b2i_01 _ | assumption)) | ((first | with_reducible apply w_MA | with_reducible apply w_MW | with_reducible apply w_MY | with_reducible apply w_MB | with_reducible apply w_MJ | with_reducible apply w_MK); exact hL; rfl; rfl; rfl; (first | with_reducible rfl | with_reducible exact ixo _ | with_reducible exact ixoc _ _ | with_reducible exact ixom _ _ _ | with_reducible exact ixop _ _ | with_reducible exact ixod _ _ | assumption); omega))
    exact hk _ rfl
theorem sum18M {t u l fu : Nat} {T : AT} {N : AN} {h : mh} (hM : MC t u l T N h) (hfu : 1000 ≤ fu) : fX10_sumOf fu 299 18 h = some (beV N, h) := by
  have := sumOfM (b := 18) hM hfu (by omega)
  rw [sumU_cg (g := fun i => nI (be N i)) (fun i hi => (hM.2.2.2.2.1.1 i hi).2.2.2.1)] at this
  exact this
theorem sum0M {t u l fu : Nat} {T : AT} {N : AN} {h : mh} (hM : MC t u l T N h) (hfu : 1000 ≤ fu) : fX10_sumOf fu 299 0 h = some (heV N, h) := by
  have := sumOfM (b := 0) hM hfu (by omega)
  rw [sumU_cg (g := fun i => nI (he N i)) (fun i hi => by rw [Nat.zero_add]; exact (hM.2.2.2.2.1.1 i hi).1)] at this
  exact this
theorem knV_n {T : AT} {N : AN} (hT : wfT T) (hN : wfN T N) : knV N = sumU (fun i => nI (pop (kn N i) 8)) (nL9 T) := by
  have h6 := hT.2.1
  unfold knV
  have e : 6 = nL9 T + (6 - nL9 T) := by omega
  rw [e]
  refine sumU_more (fun i h1 h2 => ?_)
  rw [(hN.2.2.2.1 i (by omega) h1).1]
  rfl
theorem knownM {t u l fu : Nat} {T : AT} {N : AN} {h : mh} (hM : MC t u l T N h) (hfu : 1000 ≤ fu) : fX10_knownMany fu 299 h = some (knV N, h) := by
  obtain ⟨hy, hl, hlv, htx, hng, hwT, hwN⟩ := id hM
  have hL := LM_of hy
  have h6 := hwT.2.1
  rw [knV_n hwT hwN]
  refine ok_eq2 (sumL0 (V := fun h' => h' = h) (nL9 T) (by omega) hfu rfl ?_ ?_)
  · intro a h1 k hV
    subst hV
    unfold bX10_knownMany_4
    dsimp only
    repeat (first | with_reducible apply v_lt | ((with_reducible apply w_MR); exact hL; rfl) | ((with_reducible apply w_lv); exact hL; assumption) | ((with_reducible apply vMI); exact hL) | ((with_reducible apply vMS); exact hL) | ((with_reducible apply vMC); exact hL) | ((with_reducible apply vMZ); exact hL; (first | exact Or.inl rfl | exact Or.inr rfl | exact b2i_01 _ | assumption)) | ((first | with_reducible apply w_MA | with_reducible apply w_MW | with_reducible apply w_MY | with_reducible apply w_MB | with_reducible apply w_MJ | with_reducible apply w_MK); exact hL; rfl; rfl; rfl; (first | with_reducible rfl | with_reducible exact ixo _ | with_reducible exact ixoc _ _ | with_reducible exact ixom _ _ _ | with_reducible exact ixop _ _ | with_reducible exact ixod _ _ | assumption); omega))
    rw [htx.2.1]
    exact v_it (nI_le (Nat.le_refl _) (by omega)) (v_rI ⟨rfl, rfl⟩)
  · intro i a h1 k Q hi hV hk
    subst hV
    unfold bX10_knownMany_4
    dsimp only
    repeat (first | with_reducible apply v_lt | ((with_reducible apply w_MR); exact hL; rfl) | ((with_reducible apply w_lv); exact hL; assumption) | ((with_reducible apply vMI); exact hL) | ((with_reducible apply vMS); exact hL) | ((with_reducible apply vMC); exact hL) | ((with_reducible apply vMZ); exact hL; (first | exact Or.inl rfl | exact Or.inr rfl | exact b2i_01 _ | assumption)) | ((first | with_reducible apply w_MA | with_reducible apply w_MW | with_reducible apply w_MY | with_reducible apply w_MB | with_reducible apply w_MJ | with_reducible apply w_MK); exact hL; rfl; rfl; rfl; (first | with_reducible rfl | with_reducible exact ixo _ | with_reducible exact ixoc _ _ | with_reducible exact ixom _ _ _ | with_reducible exact ixop _ _ | with_reducible exact ixod _ _ | assumption); omega))
    rw [htx.2.1]
    refine v_ie (nI_ge hi (by omega)) ?_
    repeat (first | with_reducible apply v_lt | ((with_reducible apply w_MR); exact hL; rfl) | ((with_reducible apply w_lv); exact hL; assumption) | ((with_reducible apply vMI); exact hL) | ((with_reducible apply vMS); exact hL) | ((with_reducible apply vMC); exact hL) | ((with_reducible apply vMZ); exact hL; (first | exact Or.inl rfl | exact Or.inr rfl | exact b2i_01 _ | assumption)) | ((first | with_reducible apply w_MA | with_reducible apply w_MW | with_reducible apply w_MY | with_reducible apply w_MB | with_reducible apply w_MJ | with_reducible apply w_MK); exact hL; rfl; rfl; rfl; (first | with_reducible rfl | with_reducible exact ixo _ | with_reducible exact ixoc _ _ | with_reducible exact ixom _ _ _ | with_reducible exact ixop _ _ | with_reducible exact ixod _ _ | assumption); omega))
    rw [(hng.1 i (by omega)).2.2.1]
    refine v_eq (bitM (by omega) (hwN.1 i (by omega)).1) ?_
    exact hk _ rfl
/-- cells of the row that are 0, or aren't -/
theorem someM {t u l fu b n : Nat} {T : AT} {N : AN} {h : mh} (c : Bool) (hM : MC t u l T N h) (hfu : 1000 ≤ fu) (hb : b ≤ 24) (hn : n ≤ 6) : fX10_someBits fu 299 (nI b) (nI n) (b2i c) h = some (nI (bitsU (fun i => decide (gI h 334 (b + i) = 0) == c) n), h) := by
  obtain ⟨hy, hl, hlv, htx, hng, hwT, hwN⟩ := id hM
  have hL := LM_of hy
  refine ok_eq2 (bitsL (V := fun h' => h' = h) (by omega) hfu rfl ?_ ?_)
  · intro a h1 k hV
    exact v_it (nI_le (Nat.le_refl _) (by omega)) (v_rI ⟨hV, rfl⟩)
  · intro i a h1 k Q hi hV h0 h1
    subst hV
    unfold bX10_someBits_6
    dsimp only
    refine v_ie (nI_ge hi (by omega)) ?_
    repeat (first | with_reducible apply v_lt | ((with_reducible apply w_MR); exact hL; rfl) | ((with_reducible apply w_lv); exact hL; assumption) | ((with_reducible apply vMI); exact hL) | ((with_reducible apply vMS); exact hL) | ((with_reducible apply vMC); exact hL) | ((with_reducible apply vMZ); exact hL; (first | exact Or.inl rfl | exact Or.inr rfl | exact b2i_01 _ | assumption)) | ((first | with_reducible apply w_MA | with_reducible apply w_MW | with_reducible apply w_MY | with_reducible apply w_MB | with_reducible apply w_MJ | with_reducible apply w_MK); exact hL; rfl; rfl; rfl; (first | with_reducible rfl | with_reducible exact ixo _ | with_reducible exact ixoc _ _ | with_reducible exact ixom _ _ _ | with_reducible exact ixop _ _ | with_reducible exact ixod _ _ | assumption); omega))
    refine v_if (fun e => ?_) (fun e => ?_)
    · rw [decide_eq_true e] at h0 h1
      unfold fX10_someBits_29
      cases c
      · exact v_ie (by decide) (h0 _ rfl rfl)
      · exact v_it (by decide) (h1 _ rfl rfl)
    · rw [decide_eq_false e] at h0 h1
      unfold fX10_someBits_29
      cases c
      · exact v_it (by decide) (h1 _ rfl rfl)
      · exact v_ie (by decide) (h0 _ rfl rfl)
/-! rows copied -/
def MN (t u l : Nat) (T : AT) (N : AN) (h : mh) : Prop := Ly t u h ∧ l < 2 ∧ gI h 299 18 = nI l ∧ txM h l T ∧ ngM h 333 N ∧ wfT T ∧ wfN T N
/-- what the reference's questions write -/
def sR (a k : Nat) : Prop := a = 331 ∨ a = 332 ∨ a = 334 ∨ a = 335 ∨ a = 336 ∨ a = 338 ∨ (a = 299 ∧ (k = 50 ∨ k = 53 ∨ k = 54 ∨ k = 57 ∨ k = 60 ∨ k = 61))
theorem MN_eo {S : Nat → Nat → Prop} {t u l : Nat} {T : AT} {N : AN} {h h1 : mh} (o : eo S h h1) (hs : ∀ a k, S a k → sR a k) (q : MN t u l T N h) : MN t u l T N h1 := by
  obtain ⟨q1, q2, q3, q4, q5, q6, q7⟩ := q
  exact ⟨Ly_eo q1 o, q2, by rw [o.2 _ _ (fun z => by have := hs _ _ z; unfold sR at this; omega)]; exact q3, txM_eo o (fun a h1 h2 k z => by have := hs _ _ z; unfold sR at this; omega) q4, ngM_eo o (fun k z => by have := hs _ _ z; unfold sR at this; omega) q5, q6, q7⟩
theorem sMe_R {a k : Nat} (q : sMe a k) : sR a k := by unfold sMe sV at q; unfold sR; omega
theorem sV_R {a k : Nat} (q : sV a k) : sR a k := by unfold sV at q; unfold sR; omega
theorem ngM_cp {h h' : mh} {a b : Nat} {N : AN} (e : ∀ i, i < 33 → gI h' b i = gI h a i) (q : ngM h a N) : ngM h' b N := by
  obtain ⟨q1, q3, q4, q5⟩ := q
  refine ⟨fun i hi => ?_, by rw [e _ (by omega)]; exact q3, by rw [e _ (by omega)]; exact q4, by rw [e _ (by omega)]; exact q5⟩
  rw [e _ (by omega), e _ (by omega), e _ (by omega), e _ (by omega), e _ (by omega)]
  exact q1 i hi
theorem copyM {t u l fu : Nat} {T : AT} {N : AN} {h : mh} (hM : MN t u l T N h) (hfu : 1000 ≤ fu) : ok (fX10_copies fu 299 h) (fun _ h' => eo sR h h' ∧ MC t u l T N h' ∧ gI h' 299 53 = nI (sd9 T) ∧ gI h' 299 54 = b2i false) := by
  obtain ⟨hy, hl, hlv, htx, hng, hwT, hwN⟩ := id hM
  have hL := LM_of hy
  unfold fX10_copies
  refine itr_up (I := fun j s => s.1 = nI j ∧ eo (fun a _ => a = 334) h s.2 ∧ ∀ i, i < j → gI s.2 334 i = gI h 333 i) (P := fun R => ok R _) (n := 33) ?_ ?_ fu 0 _ (by omega) (by omega) ⟨rfl, eo_rf, fun i hi => by omega⟩
  · intro j s k hj hI hk
    obtain ⟨w, h1⟩ := s
    obtain ⟨e1, o1, hz⟩ := hI
    dsimp only at e1 o1 hz
    subst e1
    have hL1 := LM_eo o1 hL
    unfold bX10_copies_2
    dsimp only
    refine v_ie (nI_ge (b := 33) hj (by omega)) ?_
    repeat (first | with_reducible apply v_lt | ((with_reducible apply w_MR); exact hL1; rfl) | ((with_reducible apply w_lv); exact hL1; assumption) | ((with_reducible apply vMI); exact hL1) | ((with_reducible apply vMS); exact hL1) | ((with_reducible apply vMC); exact hL1) | ((with_reducible apply vMZ); exact hL1; (first | exact Or.inl rfl | exact Or.inr rfl | exact b2i_01 _ | assumption)) | ((first | with_reducible apply w_MA | with_reducible apply w_MW | with_reducible apply w_MY | with_reducible apply w_MB | with_reducible apply w_MJ | with_reducible apply w_MK); exact hL1; rfl; rfl; rfl; (first | with_reducible rfl | with_reducible exact ixo _ | with_reducible exact ixoc _ _ | with_reducible exact ixom _ _ _ | with_reducible exact ixop _ _ | with_reducible exact ixod _ _ | assumption); omega))
    refine hk _ ⟨nI_1 _, eo_uI o1 rfl, fun i hi => ?_⟩
    dsimp only
    by_cases e : i = j
    · rw [gI_eq' ⟨rfl, e⟩, o1.2 _ _ (show ¬ (333 : Nat) = 334 by decide), e]
    · rw [gI_ne (fun z => e z.2)]
      exact hz i (by omega)
  · intro s k hI
    obtain ⟨w, h1⟩ := s
    obtain ⟨e1, o1, hz⟩ := hI
    dsimp only at e1 o1 hz
    subst e1
    have hL1 := LM_eo o1 hL
    have hlv1 : gI h1 299 18 = nI l := by
      rw [o1.2 _ _ (by decide)]
      exact hlv
    have hs1 : gI h1 320 l = nI (sd9 T) := by
      rw [o1.2 _ _ (show ¬ (320 : Nat) = 334 by decide)]
      exact htx.2.2.2.2.2.2.1
    unfold bX10_copies_2
    dsimp only
    refine v_it (by decide) ?_
    unfold fX10_copies_26
    repeat (first | with_reducible apply v_lt | ((with_reducible apply w_MR); exact hL1; rfl) | ((with_reducible apply w_lv); exact hL1; assumption) | ((with_reducible apply vMI); exact hL1) | ((with_reducible apply vMS); exact hL1) | ((with_reducible apply vMC); exact hL1) | ((with_reducible apply vMZ); exact hL1; (first | exact Or.inl rfl | exact Or.inr rfl | exact b2i_01 _ | assumption)) | ((first | with_reducible apply w_MA | with_reducible apply w_MW | with_reducible apply w_MY | with_reducible apply w_MB | with_reducible apply w_MJ | with_reducible apply w_MK); exact hL1; rfl; rfl; rfl; (first | with_reducible rfl | with_reducible exact ixo _ | with_reducible exact ixoc _ _ | with_reducible exact ixom _ _ _ | with_reducible exact ixop _ _ | with_reducible exact ixod _ _ | assumption); omega))
    rw [hs1]
    have o2 : eo sR h (uI (uI h1 299 53 (nI (sd9 T))) 299 54 0) := eo_uI (eo_uI (eo_mono o1 (fun a k q => by unfold sR; omega)) (by unfold sR; omega)) (by unfold sR; omega)
    have hN2 := MN_eo o2 (fun a k q => q) hM
    refine v_rV ⟨o2, ⟨hN2.1, hN2.2.1, hN2.2.2.1, hN2.2.2.2.1, ?_, hwT, hwN⟩, ?_, gI_eq⟩
    · refine ngM_cp (fun i hi => ?_) hng
      rw [gI_ne (by omega), gI_ne (by omega)]
      exact hz i hi
    · rw [gI_ne (by omega), gI_eq]
theorem MC_54 {t u l : Nat} {T : AT} {N : AN} {h : mh} {x : Int32} (hM : MC t u l T N h) : MC t u l T N (uI h 299 54 x) := MC_eo (S := fun a k => a = 299 ∧ k = 54) (eo_uI eo_rf ⟨rfl, rfl⟩) (fun a k q => by omega) hM
theorem copySM {t u l fu : Nat} {T : AT} {N : AN} {h : mh} (hM : MN t u l T N h) (hfu : 1000 ≤ fu) : ok (fX10_copiesStill fu 299 h) (fun _ h' => eo sR h h' ∧ MC t u l T N h' ∧ gI h' 299 53 = nI (sd9 T) ∧ gI h' 299 54 = b2i true) := by
  have hL := LM_of hM.1
  unfold fX10_copiesStill
  repeat (first | with_reducible apply v_lt | ((with_reducible apply w_MR); exact hL; rfl) | ((with_reducible apply w_lv); exact hL; assumption) | ((with_reducible apply vMI); exact hL) | ((with_reducible apply vMS); exact hL) | ((with_reducible apply vMC); exact hL) | ((with_reducible apply vMZ); exact hL; (first | exact Or.inl rfl | exact Or.inr rfl | exact b2i_01 _ | assumption)) | ((first | with_reducible apply w_MA | with_reducible apply w_MW | with_reducible apply w_MY | with_reducible apply w_MB | with_reducible apply w_MJ | with_reducible apply w_MK); exact hL; rfl; rfl; rfl; (first | with_reducible rfl | with_reducible exact ixo _ | with_reducible exact ixoc _ _ | with_reducible exact ixom _ _ _ | with_reducible exact ixop _ _ | with_reducible exact ixod _ _ | assumption); omega))
  refine v_bd (copyM hM hfu) (fun _ h1 hq => ?_)
  obtain ⟨o1, hM1, e1, e2⟩ := hq
  have hL1 := LM_of hM1.1
  repeat (first | with_reducible apply v_lt | ((with_reducible apply w_MR); exact hL1; rfl) | ((with_reducible apply w_lv); exact hL1; assumption) | ((with_reducible apply vMI); exact hL1) | ((with_reducible apply vMS); exact hL1) | ((with_reducible apply vMC); exact hL1) | ((with_reducible apply vMZ); exact hL1; (first | exact Or.inl rfl | exact Or.inr rfl | exact b2i_01 _ | assumption)) | ((first | with_reducible apply w_MA | with_reducible apply w_MW | with_reducible apply w_MY | with_reducible apply w_MB | with_reducible apply w_MJ | with_reducible apply w_MK); exact hL1; rfl; rfl; rfl; (first | with_reducible rfl | with_reducible exact ixo _ | with_reducible exact ixoc _ _ | with_reducible exact ixom _ _ _ | with_reducible exact ixop _ _ | with_reducible exact ixod _ _ | assumption); omega))
  exact v_rV ⟨eo_uI o1 (by unfold sR; omega), MC_54 hM1, by rw [gI_ne (by omega)]; exact e1, gI_eq⟩
theorem tonM {t u l fu r : Nat} {T : AT} {N : AN} {h : mh} (hM : MN t u l T N h) (hfu : 1000 ≤ fu) (hr : r < nR T) : ok (fX10_isTonight fu 299 (nI r) h) (fun x h' => eo sR h h' ∧ MC t u l T (pass T N (some r) false) h' ∧ x = knV (pass T N (some r) false) - knV N) := by
  have hL := LM_of hM.1
  unfold fX10_isTonight
  repeat (first | with_reducible apply v_lt | ((with_reducible apply w_MR); exact hL; rfl) | ((with_reducible apply w_lv); exact hL; assumption) | ((with_reducible apply vMI); exact hL) | ((with_reducible apply vMS); exact hL) | ((with_reducible apply vMC); exact hL) | ((with_reducible apply vMZ); exact hL; (first | exact Or.inl rfl | exact Or.inr rfl | exact b2i_01 _ | assumption)) | ((first | with_reducible apply w_MA | with_reducible apply w_MW | with_reducible apply w_MY | with_reducible apply w_MB | with_reducible apply w_MJ | with_reducible apply w_MK); exact hL; rfl; rfl; rfl; (first | with_reducible rfl | with_reducible exact ixo _ | with_reducible exact ixoc _ _ | with_reducible exact ixom _ _ _ | with_reducible exact ixop _ _ | with_reducible exact ixod _ _ | assumption); omega))
  refine v_bd (copySM hM hfu) (fun _ h1 hq => ?_)
  obtain ⟨o1, hM1, e1, e2⟩ := hq
  have hL1 := LM_of hM1.1
  repeat (first | with_reducible apply v_lt | ((with_reducible apply w_MR); exact hL1; rfl) | ((with_reducible apply w_lv); exact hL1; assumption) | ((with_reducible apply vMI); exact hL1) | ((with_reducible apply vMS); exact hL1) | ((with_reducible apply vMC); exact hL1) | ((with_reducible apply vMZ); exact hL1; (first | exact Or.inl rfl | exact Or.inr rfl | exact b2i_01 _ | assumption)) | ((first | with_reducible apply w_MA | with_reducible apply w_MW | with_reducible apply w_MY | with_reducible apply w_MB | with_reducible apply w_MJ | with_reducible apply w_MK); exact hL1; rfl; rfl; rfl; (first | with_reducible rfl | with_reducible exact ixo _ | with_reducible exact ixoc _ _ | with_reducible exact ixom _ _ _ | with_reducible exact ixop _ _ | with_reducible exact ixod _ _ | assumption); omega))
  refine v_eq (knownM hM1 hfu) ?_
  repeat (first | with_reducible apply v_lt | ((with_reducible apply w_MR); exact hL1; rfl) | ((with_reducible apply w_lv); exact hL1; assumption) | ((with_reducible apply vMI); exact hL1) | ((with_reducible apply vMS); exact hL1) | ((with_reducible apply vMC); exact hL1) | ((with_reducible apply vMZ); exact hL1; (first | exact Or.inl rfl | exact Or.inr rfl | exact b2i_01 _ | assumption)) | ((first | with_reducible apply w_MA | with_reducible apply w_MW | with_reducible apply w_MY | with_reducible apply w_MB | with_reducible apply w_MJ | with_reducible apply w_MK); exact hL1; rfl; rfl; rfl; (first | with_reducible rfl | with_reducible exact ixo _ | with_reducible exact ixoc _ _ | with_reducible exact ixom _ _ _ | with_reducible exact ixop _ _ | with_reducible exact ixod _ _ | assumption); omega))
  have ha : ∀ r', some r = some r' → r' < nR T := fun r' z => by cases z; exact hr
  have o2 : eo sMe h1 (uI h1 334 31 (nI r)) := eo_uI eo_rf (Or.inr (Or.inl rfl))
  have hM2 : MC t u l T (setAn N (some r)) (uI h1 334 31 (nI r)) := MC_eE o2 hM1 (ngM_An (v := some r) hM1.2.2.2.2.1) (wf_setAn ha hM1.2.2.2.2.2.2)
  refine v_bd (goesM hM2 hfu (s := nI (sd9 T)) (st := true) (by rw [gI_ne (by omega)]; exact e1) (by rw [gI_ne (by omega)]; exact e2)) (fun _ h3 hq => ?_)
  obtain ⟨o3, hM3⟩ := hq
  rw [pass_An, Bool.not_true, Bool.false_and] at hM3
  have hM3 : MC t u l T (pass T N (some r) false) h3 := hM3
  have hL3 := LM_of hM3.1
  repeat (first | with_reducible apply v_lt | ((with_reducible apply w_MR); exact hL3; rfl) | ((with_reducible apply w_lv); exact hL3; assumption) | ((with_reducible apply vMI); exact hL3) | ((with_reducible apply vMS); exact hL3) | ((with_reducible apply vMC); exact hL3) | ((with_reducible apply vMZ); exact hL3; (first | exact Or.inl rfl | exact Or.inr rfl | exact b2i_01 _ | assumption)) | ((first | with_reducible apply w_MA | with_reducible apply w_MW | with_reducible apply w_MY | with_reducible apply w_MB | with_reducible apply w_MJ | with_reducible apply w_MK); exact hL3; rfl; rfl; rfl; (first | with_reducible rfl | with_reducible exact ixo _ | with_reducible exact ixoc _ _ | with_reducible exact ixom _ _ _ | with_reducible exact ixop _ _ | with_reducible exact ixod _ _ | assumption); omega))
  refine v_eq (knownM hM3 hfu) ?_
  exact v_rI ⟨eo_tr o1 (eo_mono (eo_tr o2 o3) (fun a k q => sMe_R q)), hM3, rfl⟩
