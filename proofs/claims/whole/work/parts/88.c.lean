/-! THE REFERENCE READS: a name told ahead; a name's end -/
theorem atM_eL {S SL : Nat → Nat → Prop} {τ : Nat → Tk} {i : Nat} {h h1 : mh} (o : eL S SL h h1) (hs : ∀ a k, S a k → ¬ ((a = 299 ∧ (k = 11 ∨ k = 13)) ∨ (302 ≤ a ∧ a ≤ 305))) (hl : ∀ k, ¬ SL 305 k) (q : atM τ i h) : atM τ i h1 := by
  obtain ⟨q1, q2, q3, q4, q5⟩ := q
  have f : ∀ a k, ((a = 299 ∧ (k = 11 ∨ k = 13)) ∨ (302 ≤ a ∧ a ≤ 305)) → gI h1 a k = gI h a k := fun a k z => o.2.1 _ _ (fun w => hs a k w z)
  refine ⟨by rw [f _ _ (by omega)]; exact q1, by rw [f _ _ (by omega)]; exact q2, q3, q4, fun j hj hn => ?_⟩
  obtain ⟨w1, w2, w3, w4⟩ := q5 j hj hn
  exact ⟨by rw [f _ _ (by omega)]; exact w1, by rw [f _ _ (by omega)]; exact w2, fun z => by rw [f _ _ (by omega)]; exact w3 z, fun z => by rw [o.2.2 _ _ (hl j)]; exact w4 z⟩
/-- the one of a kind that a name tells -/
def kN9 (A : RT) (b : Bool) (l : List Nat) : Option Nat := if b then lN9 A l else rN9 A l
def knF (A : RT) (b : Bool) (F : Nat × Nat) (l : List Nat) (p : Nat) : Nat × Nat := if kN9 A b l = none then nF F 4 p else F
/-- the first in the row of names is the first by its number -/
theorem kn_some {A : RT} {no : Nat → Nat} {b : Bool} {l : List Nat} {h : mh} {k : Nat} (w : wA A) (q : nmM A no h) (hk : k < tX A 0 0 + tX A 0 1) (e : nmo A (no k) = l) (hb : 10 ≤ no k ↔ b = true) (hI : ∀ i, i < k → ¬ (nmo A (no i) = l ∧ (10 ≤ no i ↔ b = true))) : kN9 A b l = some (no k - (if b then 10 else 0)) := by
  obtain ⟨-, q2, q3, q4, q5⟩ := q
  have w0 := w.1.1
  unfold kN9
  cases b with
  | true =>
    have h10 := hb.mpr rfl
    rw [if_pos rfl, if_pos rfl]
    have hk2 : no k - 10 < tX A 0 1 := by
      rcases (q2 k hk).2.2 with z | z
      · omega
      · exact z.2
    unfold lN9
    unfold nmo at e
    rw [if_neg (by omega)] at e
    refine fnd_s (decide_eq_true e) (fun x hx => decide_eq_false (fun y => ?_)) hk2
    obtain ⟨k2, hk3, e2⟩ := q4 x (by omega)
    have lt : k2 < k := by
      rcases Nat.lt_trichotomy k2 k with z | z | z
      · exact z
      · rw [z] at e2
        omega
      · have := q5 k k2 z hk3 (by omega)
        omega
    refine hI k2 lt ⟨?_, ⟨fun _ => rfl, fun _ => by omega⟩⟩
    unfold nmo
    rw [e2, if_neg (by omega), show 10 + x - 10 = x from by omega]
    exact y
  | false =>
    have h10 : ¬ 10 ≤ no k := fun z => by cases hb.mp z
    rw [if_neg (by decide), if_neg (by decide), Nat.sub_zero]
    have hk2 : no k < tX A 0 0 := by
      rcases (q2 k hk).2.2 with z | z
      · exact z
      · omega
    unfold rN9
    unfold nmo at e
    rw [if_pos (by omega)] at e
    refine fnd_s (decide_eq_true e) (fun x hx => decide_eq_false (fun y => ?_)) hk2
    obtain ⟨k2, hk3, e2⟩ := q3 x (by omega)
    have lt : k2 < k := by
      rcases Nat.lt_trichotomy k2 k with z | z | z
      · exact z
      · rw [z] at e2
        omega
      · have := q5 k k2 z hk3 (by omega)
        omega
    refine hI k2 lt ⟨?_, ⟨fun z => by omega, fun z => by cases z⟩⟩
    unfold nmo
    rw [e2, if_pos (by omega)]
    exact y
theorem kn_none {A : RT} {no : Nat → Nat} {b : Bool} {l : List Nat} {h : mh} (w : wA A) (q : nmM A no h) (hI : ∀ i, i < tX A 0 0 + tX A 0 1 → ¬ (nmo A (no i) = l ∧ (10 ≤ no i ↔ b = true))) : kN9 A b l = none := by
  obtain ⟨-, q2, q3, q4, q5⟩ := q
  have w0 := w.1.1
  unfold kN9
  cases b with
  | true =>
    rw [if_pos rfl]
    refine fnd_n (fun x hx => decide_eq_false (fun y => ?_))
    obtain ⟨k2, hk3, e2⟩ := q4 x hx
    refine hI k2 hk3 ⟨?_, ⟨fun _ => rfl, fun _ => by omega⟩⟩
    unfold nmo
    rw [e2, if_neg (by omega), show 10 + x - 10 = x from by omega]
    exact y
  | false =>
    rw [if_neg (by decide)]
    refine fnd_n (fun x hx => decide_eq_false (fun y => ?_))
    obtain ⟨k2, hk3, e2⟩ := q3 x hx
    refine hI k2 hk3 ⟨?_, ⟨fun z => by omega, fun z => by cases z⟩⟩
    unfold nmo
    rw [e2, if_pos (by omega)]
    exact y
set_option maxHeartbeats 1000000 in
theorem knownW {fu j st : Nat} {τ : Nat → Tk} {A B : RT} {rl : Option Nat} {no : Nat → Nat} {b : Bool} {F : Nat × Nat} {x : Int32} {h : mh} (hfu : 1000 ≤ fu) (hL : LM h.2) (hT : tkOk τ) (hx : x = nI (if b then 10 else 0)) (hst : st ≤ 1) (w : wA A) (q : nmM A no h) (a : atM τ j h) (f : flM F h) (hF : F.1 ≠ 0 → F.2 < tkP (τ j)) : ok (fX10_knownName fu 299 x h) (fun v h' => eo sBo h h' ∧ ((tkK (τ j) = 22 ∧ j < 400 ∧ atM τ (j + 1) h' ∧ v = opC (kN9 A b (tkN (τ j))) ∧ flM (knF A b F (tkN (τ j)) (tkP (τ j))) h') ∨ (v = -1 ∧ ddR (run τ (B, 2, st, rl, none) j) h'))) := by
  have hj := a.2.2.1
  have hno := a.2.2.2.1
  have w0 := w.1.1
  have w1 := w.1.2.1
  have hf : fm 2 st = 22 := by
    rcases (show st = 0 ∨ st = 1 by omega) with rfl | rfl <;> rfl
  subst hx
  unfold fX10_knownName
  repeat (first | with_reducible apply v_lt | ((with_reducible apply w_MR); exact hL; rfl) | ((with_reducible apply w_lv); exact hL; assumption) | ((with_reducible apply vMI); exact hL) | ((with_reducible apply vMS); exact hL) | ((with_reducible apply vMC); exact hL) | ((with_reducible apply vMZ); exact hL; (first | exact Or.inl rfl | exact Or.inr rfl | exact b2i_01 _ | assumption)) | ((first | with_reducible apply w_MA | with_reducible apply w_MW | with_reducible apply w_MY | with_reducible apply w_MB | with_reducible apply w_MJ | with_reducible apply w_MK); exact hL; rfl; rfl; rfl; (first | with_reducible rfl | with_reducible exact ixo _ | with_reducible exact ixoc _ _ | with_reducible exact ixom _ _ _ | with_reducible exact ixop _ _ | with_reducible exact ixod _ _ | assumption); omega))
  rw [a.1]
  refine v_bd (mustW (A := B) (rl := rl) (tl := 2) (st := st) hL hT.1 (by rw [hf]; rfl) (by omega) (by omega) a) (fun _ h2 hq => ?_)
  obtain ⟨o2, hq⟩ := hq
  have hL2 : LM h2.2 := by rw [o2.1]; exact hL
  have q2 := nmM_eL (SL := fun _ _ => False) (eL_eo o2) (fun a k z => by unfold sGo at z; omega) (fun k z => z) q
  have ob : eo sBo h h2 := eo_mono o2 (fun a k z => by unfold sGo at z; unfold sBo; omega)
  repeat (first | with_reducible apply v_lt | ((with_reducible apply w_MR); exact hL2; rfl) | ((with_reducible apply w_lv); exact hL2; assumption) | ((with_reducible apply vMI); exact hL2) | ((with_reducible apply vMS); exact hL2) | ((with_reducible apply vMC); exact hL2) | ((with_reducible apply vMZ); exact hL2; (first | exact Or.inl rfl | exact Or.inr rfl | exact b2i_01 _ | assumption)) | ((first | with_reducible apply w_MA | with_reducible apply w_MW | with_reducible apply w_MY | with_reducible apply w_MB | with_reducible apply w_MJ | with_reducible apply w_MK); exact hL2; rfl; rfl; rfl; (first | with_reducible rfl | with_reducible exact ixo _ | with_reducible exact ixoc _ _ | with_reducible exact ixom _ _ _ | with_reducible exact ixop _ _ | with_reducible exact ixod _ _ | assumption); omega))
  rw [hf] at hq
  rcases hq with ⟨z22, j4, a2⟩ | d
  · have f2 := flM_eo o2 (fun a k z => by unfold sGo at z; omega) f
    have nj : gL h2 305 j = lN (cod 27 (tkN (τ j))) := (a2.2.2.2.2 j hj hno).2.2.2 z22
    have okj := hT.2.1 j z22
    have pj := hT.2.2.2 j
    obtain ⟨n, hn⟩ : ∃ n, n = tX A 0 0 + tX A 0 1 := ⟨_, rfl⟩
    rw [a2.2.1]
    refine v_it (by decide) ?_
    refine loop2 (n := n) (I := fun k h' => h' = h2 ∧ ∀ i, i < k → ¬ (nmo A (no i) = tkN (τ j) ∧ (10 ≤ no i ↔ b = true))) (by omega) hfu ⟨rfl, fun i hi => absurd hi (Nat.not_lt_zero i)⟩ ?_ ?_
    · intro h' kk hI
      obtain ⟨rfl, hI⟩ := hI
      unfold bX10_knownName_21
      dsimp only
      repeat (first | with_reducible apply v_lt | ((with_reducible apply w_MR); exact hL2; rfl) | ((with_reducible apply w_lv); exact hL2; assumption) | ((with_reducible apply vMI); exact hL2) | ((with_reducible apply vMS); exact hL2) | ((with_reducible apply vMC); exact hL2) | ((with_reducible apply vMZ); exact hL2; (first | exact Or.inl rfl | exact Or.inr rfl | exact b2i_01 _ | assumption)) | ((first | with_reducible apply w_MA | with_reducible apply w_MW | with_reducible apply w_MY | with_reducible apply w_MB | with_reducible apply w_MJ | with_reducible apply w_MK); exact hL2; rfl; rfl; rfl; (first | with_reducible rfl | with_reducible exact ixo _ | with_reducible exact ixoc _ _ | with_reducible exact ixom _ _ _ | with_reducible exact ixop _ _ | with_reducible exact ixod _ _ | assumption); omega))
      rw [q2.1, ← hn]
      refine v_it (nI_le (Nat.le_refl _) (by omega)) ?_
      unfold fX10_knownName_83
      repeat (first | with_reducible apply v_lt | ((with_reducible apply w_MR); exact hL2; rfl) | ((with_reducible apply w_lv); exact hL2; assumption) | ((with_reducible apply vMI); exact hL2) | ((with_reducible apply vMS); exact hL2) | ((with_reducible apply vMC); exact hL2) | ((with_reducible apply vMZ); exact hL2; (first | exact Or.inl rfl | exact Or.inr rfl | exact b2i_01 _ | assumption)) | ((first | with_reducible apply w_MA | with_reducible apply w_MW | with_reducible apply w_MY | with_reducible apply w_MB | with_reducible apply w_MJ | with_reducible apply w_MK); exact hL2; rfl; rfl; rfl; (first | with_reducible rfl | with_reducible exact ixo _ | with_reducible exact ixoc _ _ | with_reducible exact ixom _ _ _ | with_reducible exact ixop _ _ | with_reducible exact ixod _ _ | assumption); omega))
      refine v_bd (wrongM (c := 4) hL2 (by omega) hj hno pj a2 f2 (fun y => Or.inl (hF y))) (fun _ h4 hq4 => ?_)
      obtain ⟨o4, f4⟩ := hq4
      have kn := kn_none (b := b) (l := tkN (τ j)) w q2 (by rw [← hn]; exact hI)
      refine v_rI ⟨eo_tr ob (eo_mono o4 (fun a k z => by unfold sWr at z; unfold sBo; omega)), Or.inl ⟨z22, j4, atM_eo o4 (fun a k z => by unfold sWr at z; omega) a2, ?_, ?_⟩⟩
      · rw [kn]
        rfl
      · unfold knF
        rw [if_pos kn]
        exact f4
    · intro k h' kk hk hI hkk
      obtain ⟨rfl, hI⟩ := hI
      obtain ⟨l8, l7, ln⟩ := q2.2.1 k (by omega)
      unfold bX10_knownName_21
      dsimp only
      repeat (first | with_reducible apply v_lt | ((with_reducible apply w_MR); exact hL2; rfl) | ((with_reducible apply w_lv); exact hL2; assumption) | ((with_reducible apply vMI); exact hL2) | ((with_reducible apply vMS); exact hL2) | ((with_reducible apply vMC); exact hL2) | ((with_reducible apply vMZ); exact hL2; (first | exact Or.inl rfl | exact Or.inr rfl | exact b2i_01 _ | assumption)) | ((first | with_reducible apply w_MA | with_reducible apply w_MW | with_reducible apply w_MY | with_reducible apply w_MB | with_reducible apply w_MJ | with_reducible apply w_MK); exact hL2; rfl; rfl; rfl; (first | with_reducible rfl | with_reducible exact ixo _ | with_reducible exact ixoc _ _ | with_reducible exact ixom _ _ _ | with_reducible exact ixop _ _ | with_reducible exact ixod _ _ | assumption); omega))
      rw [q2.1, ← hn]
      refine v_ie (nI_ge hk (by omega)) ?_
      repeat (first | with_reducible apply v_lt | ((with_reducible apply w_MR); exact hL2; rfl) | ((with_reducible apply w_lv); exact hL2; assumption) | ((with_reducible apply vMI); exact hL2) | ((with_reducible apply vMS); exact hL2) | ((with_reducible apply vMC); exact hL2) | ((with_reducible apply vMZ); exact hL2; (first | exact Or.inl rfl | exact Or.inr rfl | exact b2i_01 _ | assumption)) | ((first | with_reducible apply w_MA | with_reducible apply w_MW | with_reducible apply w_MY | with_reducible apply w_MB | with_reducible apply w_MJ | with_reducible apply w_MK); exact hL2; rfl; rfl; rfl; (first | with_reducible rfl | with_reducible exact ixo _ | with_reducible exact ixoc _ _ | with_reducible exact ixom _ _ _ | with_reducible exact ixop _ _ | with_reducible exact ixod _ _ | assumption); omega))
      rw [l7, nj]
      have ne := nm_eq (R := 27) (Or.inr rfl) (nmo_ok w q2 (k := k) (by omega)) okj
      have no16 : no k < 16 := by omega
      by_cases e : nmo A (no k) = tkN (τ j)
      · refine v_it (ne.mpr e) ?_
        repeat (first | with_reducible apply v_lt | ((with_reducible apply w_MR); exact hL2; rfl) | ((with_reducible apply w_lv); exact hL2; assumption) | ((with_reducible apply vMI); exact hL2) | ((with_reducible apply vMS); exact hL2) | ((with_reducible apply vMC); exact hL2) | ((with_reducible apply vMZ); exact hL2; (first | exact Or.inl rfl | exact Or.inr rfl | exact b2i_01 _ | assumption)) | ((first | with_reducible apply w_MA | with_reducible apply w_MW | with_reducible apply w_MY | with_reducible apply w_MB | with_reducible apply w_MJ | with_reducible apply w_MK); exact hL2; rfl; rfl; rfl; (first | with_reducible rfl | with_reducible exact ixo _ | with_reducible exact ixoc _ _ | with_reducible exact ixom _ _ _ | with_reducible exact ixop _ _ | with_reducible exact ixod _ _ | assumption); omega))
        rw [l8]
        have next : ¬ (10 ≤ no k ↔ b = true) → ok (fX10_knownName_77 fu kk 299 (nI (if b then 10 else 0)) (nI j) (nI k) h') (fun v h'' => eo sBo h h'' ∧ ((tkK (τ j) = 22 ∧ j < 400 ∧ atM τ (j + 1) h'' ∧ v = opC (kN9 A b (tkN (τ j))) ∧ flM (knF A b F (tkN (τ j)) (tkP (τ j))) h'') ∨ (v = -1 ∧ ddR (run τ (B, 2, st, rl, none) j) h''))) := by
          intro y
          unfold fX10_knownName_77
          refine hkk _ ⟨rfl, fun i hi => ?_⟩
          by_cases ei : i = k
          · rw [ei]
            exact fun z => y z.2
          · exact hI i (by omega)
        have found : (10 ≤ no k ↔ b = true) → ok (fX10_knownName_68 fu 299 (nI (if b then 10 else 0)) (nI j) (nI k) h') (fun v h'' => eo sBo h h'' ∧ ((tkK (τ j) = 22 ∧ j < 400 ∧ atM τ (j + 1) h'' ∧ v = opC (kN9 A b (tkN (τ j))) ∧ flM (knF A b F (tkN (τ j)) (tkP (τ j))) h'') ∨ (v = -1 ∧ ddR (run τ (B, 2, st, rl, none) j) h''))) := by
          intro y
          have kn := kn_some (b := b) (l := tkN (τ j)) w q2 (k := k) (by omega) e y hI
          unfold fX10_knownName_68
          repeat (first | with_reducible apply v_lt | ((with_reducible apply w_MR); exact hL2; rfl) | ((with_reducible apply w_lv); exact hL2; assumption) | ((with_reducible apply vMI); exact hL2) | ((with_reducible apply vMS); exact hL2) | ((with_reducible apply vMC); exact hL2) | ((with_reducible apply vMZ); exact hL2; (first | exact Or.inl rfl | exact Or.inr rfl | exact b2i_01 _ | assumption)) | ((first | with_reducible apply w_MA | with_reducible apply w_MW | with_reducible apply w_MY | with_reducible apply w_MB | with_reducible apply w_MJ | with_reducible apply w_MK); exact hL2; rfl; rfl; rfl; (first | with_reducible rfl | with_reducible exact ixo _ | with_reducible exact ixoc _ _ | with_reducible exact ixom _ _ _ | with_reducible exact ixop _ _ | with_reducible exact ixod _ _ | assumption); omega))
          rw [l8]
          refine v_rI ⟨ob, Or.inl ⟨z22, j4, a2, ?_, ?_⟩⟩
          · rw [kn]
            refine pk_sub ?_
            cases b with
            | true => exact y.mpr rfl
            | false => exact Nat.zero_le _
          · unfold knF
            rw [kn, if_neg (by simp)]
            exact f2
        cases b with
        | true =>
          by_cases z : no k < 10
          · exact v_it (show nI (no k) < nI 10 from nI_lt z (by omega)) (next (fun y => by have := y.mpr rfl; omega))
          · refine v_ie (show ¬ nI (no k) < nI 10 from nI_nlt (by omega) (by omega)) ?_
            repeat (first | with_reducible apply v_lt | ((with_reducible apply w_MR); exact hL2; rfl) | ((with_reducible apply w_lv); exact hL2; assumption) | ((with_reducible apply vMI); exact hL2) | ((with_reducible apply vMS); exact hL2) | ((with_reducible apply vMC); exact hL2) | ((with_reducible apply vMZ); exact hL2; (first | exact Or.inl rfl | exact Or.inr rfl | exact b2i_01 _ | assumption)) | ((first | with_reducible apply w_MA | with_reducible apply w_MW | with_reducible apply w_MY | with_reducible apply w_MB | with_reducible apply w_MJ | with_reducible apply w_MK); exact hL2; rfl; rfl; rfl; (first | with_reducible rfl | with_reducible exact ixo _ | with_reducible exact ixoc _ _ | with_reducible exact ixom _ _ _ | with_reducible exact ixop _ _ | with_reducible exact ixod _ _ | assumption); omega))
            rw [l8]
            refine v_ie (show ¬ nI 20 ≤ nI (no k) from nI_ge (by omega) (by omega)) (found ⟨fun _ => rfl, fun _ => by omega⟩)
        | false =>
          refine v_ie (show ¬ nI (no k) < nI 0 from nI_nlt (by omega) (by omega)) ?_
          repeat (first | with_reducible apply v_lt | ((with_reducible apply w_MR); exact hL2; rfl) | ((with_reducible apply w_lv); exact hL2; assumption) | ((with_reducible apply vMI); exact hL2) | ((with_reducible apply vMS); exact hL2) | ((with_reducible apply vMC); exact hL2) | ((with_reducible apply vMZ); exact hL2; (first | exact Or.inl rfl | exact Or.inr rfl | exact b2i_01 _ | assumption)) | ((first | with_reducible apply w_MA | with_reducible apply w_MW | with_reducible apply w_MY | with_reducible apply w_MB | with_reducible apply w_MJ | with_reducible apply w_MK); exact hL2; rfl; rfl; rfl; (first | with_reducible rfl | with_reducible exact ixo _ | with_reducible exact ixoc _ _ | with_reducible exact ixom _ _ _ | with_reducible exact ixop _ _ | with_reducible exact ixod _ _ | assumption); omega))
          rw [l8]
          by_cases z : no k < 10
          · exact v_ie (show ¬ nI 10 ≤ nI (no k) from nI_ge z (by omega)) (found ⟨fun y => by omega, fun y => by cases y⟩)
          · exact v_it (show nI 10 ≤ nI (no k) from nI_le (by omega) (by omega)) (next (fun y => by have := y.mp (by omega); cases this))
      · refine v_ie (fun z => e (ne.mp z)) ?_
        unfold fX10_knownName_77
        refine hkk _ ⟨rfl, fun i hi => ?_⟩
        by_cases ei : i = k
        · rw [ei]
          exact fun z => e z.1
        · exact hI i (by omega)
  · exact v_ie (x13 d).1 (v_rI ⟨ob, Or.inr ⟨rfl, d⟩⟩)
/-- dead: no name -/
theorem knownD {fu c p : Nat} {x : Int32} {h : mh} (hL : LM h.2) (d : ddM c p h) : fX10_knownName fu 299 x h = some (-1, h) := by
  refine ok_eq ?_
  unfold fX10_knownName
  repeat (first | with_reducible apply v_lt | ((with_reducible apply w_MR); exact hL; rfl) | ((with_reducible apply w_lv); exact hL; assumption) | ((with_reducible apply vMI); exact hL) | ((with_reducible apply vMS); exact hL) | ((with_reducible apply vMC); exact hL) | ((with_reducible apply vMZ); exact hL; (first | exact Or.inl rfl | exact Or.inr rfl | exact b2i_01 _ | assumption)) | ((first | with_reducible apply w_MA | with_reducible apply w_MW | with_reducible apply w_MY | with_reducible apply w_MB | with_reducible apply w_MJ | with_reducible apply w_MK); exact hL; rfl; rfl; rfl; (first | with_reducible rfl | with_reducible exact ixo _ | with_reducible exact ixoc _ _ | with_reducible exact ixom _ _ _ | with_reducible exact ixop _ _ | with_reducible exact ixod _ _ | assumption); omega))
  refine v_eq (mustD hL d) ?_
  repeat (first | with_reducible apply v_lt | ((with_reducible apply w_MR); exact hL; rfl) | ((with_reducible apply w_lv); exact hL; assumption) | ((with_reducible apply vMI); exact hL) | ((with_reducible apply vMS); exact hL) | ((with_reducible apply vMC); exact hL) | ((with_reducible apply vMZ); exact hL; (first | exact Or.inl rfl | exact Or.inr rfl | exact b2i_01 _ | assumption)) | ((first | with_reducible apply w_MA | with_reducible apply w_MW | with_reducible apply w_MY | with_reducible apply w_MB | with_reducible apply w_MJ | with_reducible apply w_MK); exact hL; rfl; rfl; rfl; (first | with_reducible rfl | with_reducible exact ixo _ | with_reducible exact ixoc _ _ | with_reducible exact ixom _ _ _ | with_reducible exact ixop _ _ | with_reducible exact ixod _ _ | assumption); omega))
  exact v_ie (x13 d).1 (v_rI ⟨rfl, rfl⟩)
theorem endsD {fu c p : Nat} {x y : Int32} {h : mh} (hL : LM h.2) (d : ddM c p h) : fX10_endsName fu 299 x y h = some ((), h) := by
  refine ok_eq ?_
  unfold fX10_endsName
  repeat (first | with_reducible apply v_lt | ((with_reducible apply w_MR); exact hL; rfl) | ((with_reducible apply w_lv); exact hL; assumption) | ((with_reducible apply vMI); exact hL) | ((with_reducible apply vMS); exact hL) | ((with_reducible apply vMC); exact hL) | ((with_reducible apply vMZ); exact hL; (first | exact Or.inl rfl | exact Or.inr rfl | exact b2i_01 _ | assumption)) | ((first | with_reducible apply w_MA | with_reducible apply w_MW | with_reducible apply w_MY | with_reducible apply w_MB | with_reducible apply w_MJ | with_reducible apply w_MK); exact hL; rfl; rfl; rfl; (first | with_reducible rfl | with_reducible exact ixo _ | with_reducible exact ixoc _ _ | with_reducible exact ixom _ _ _ | with_reducible exact ixop _ _ | with_reducible exact ixod _ _ | assumption); omega))
  refine v_eq (mustD hL d) ?_
  repeat (first | with_reducible apply v_lt | ((with_reducible apply w_MR); exact hL; rfl) | ((with_reducible apply w_lv); exact hL; assumption) | ((with_reducible apply vMI); exact hL) | ((with_reducible apply vMS); exact hL) | ((with_reducible apply vMC); exact hL) | ((with_reducible apply vMZ); exact hL; (first | exact Or.inl rfl | exact Or.inr rfl | exact b2i_01 _ | assumption)) | ((first | with_reducible apply w_MA | with_reducible apply w_MW | with_reducible apply w_MY | with_reducible apply w_MB | with_reducible apply w_MJ | with_reducible apply w_MK); exact hL; rfl; rfl; rfl; (first | with_reducible rfl | with_reducible exact ixo _ | with_reducible exact ixoc _ _ | with_reducible exact ixom _ _ _ | with_reducible exact ixop _ _ | with_reducible exact ixod _ _ | assumption); omega))
  exact v_ie (x13 d).1 (v_rV ⟨rfl, rfl⟩)
def sEn (a k : Nat) : Prop := (a = 299 ∧ (k = 11 ∨ k = 13 ∨ k = 14 ∨ k = 20)) ∨ a = 308
def lEn (a _k : Nat) : Prop := a = 307
theorem endsW {fu j j0 n tl st : Nat} {τ : Nat → Tk} {A : RT} {y : Int32} {h : mh} (hL : LM h.2) (hT : okT τ) (hf : fm tl st = 59) (h1 : tl ≠ 10) (h2 : ¬ (3 ≤ tl ∧ tl < 7)) (hj0 : j0 ≤ 400) (hn : n < 12) (n20 : gI h 299 20 = nI n) (a : atM τ j h) : ok (fX10_endsName fu 299 (nI j0) y h) (fun _ h' => eL sEn lEn h h' ∧ ((tkK (τ j) = 59 ∧ j < 400 ∧ atM τ (j + 1) h' ∧ gI h' 299 20 = nI (n + 1) ∧ gL h' 307 n = gL h 305 j0 ∧ gI h' 308 n = y ∧ ∀ k, k ≠ n → gL h' 307 k = gL h 307 k ∧ gI h' 308 k = gI h 308 k) ∨ ddR (run τ (A, tl, st, none, none) j) h')) := by
  unfold fX10_endsName
  repeat (first | with_reducible apply v_lt | ((with_reducible apply w_MR); exact hL; rfl) | ((with_reducible apply w_lv); exact hL; assumption) | ((with_reducible apply vMI); exact hL) | ((with_reducible apply vMS); exact hL) | ((with_reducible apply vMC); exact hL) | ((with_reducible apply vMZ); exact hL; (first | exact Or.inl rfl | exact Or.inr rfl | exact b2i_01 _ | assumption)) | ((first | with_reducible apply w_MA | with_reducible apply w_MW | with_reducible apply w_MY | with_reducible apply w_MB | with_reducible apply w_MJ | with_reducible apply w_MK); exact hL; rfl; rfl; rfl; (first | with_reducible rfl | with_reducible exact ixo _ | with_reducible exact ixoc _ _ | with_reducible exact ixom _ _ _ | with_reducible exact ixop _ _ | with_reducible exact ixod _ _ | assumption); omega))
  refine v_bd (mustW (A := A) (rl := none) (tl := tl) (st := st) hL hT (by rw [hf]; rfl) h1 h2 a) (fun _ h3 hq => ?_)
  obtain ⟨o3, hq⟩ := hq
  have hL3 : LM h3.2 := by rw [o3.1]; exact hL
  have oe : eL sEn lEn h h3 := eL_mono (eL_eo (SL := lEn) o3) (fun a k z => by unfold sGo at z; unfold sEn; omega) (fun a k z => z)
  have n3 : gI h3 299 20 = nI n := by rw [o3.2 _ _ (fun z => by unfold sGo at z; omega)]; exact n20
  have g9 : ∀ a k, gL h3 a k = gL h a k := fun a k => by unfold gL; rw [o3.1]
  repeat (first | with_reducible apply v_lt | ((with_reducible apply w_MR); exact hL3; rfl) | ((with_reducible apply w_lv); exact hL3; assumption) | ((with_reducible apply vMI); exact hL3) | ((with_reducible apply vMS); exact hL3) | ((with_reducible apply vMC); exact hL3) | ((with_reducible apply vMZ); exact hL3; (first | exact Or.inl rfl | exact Or.inr rfl | exact b2i_01 _ | assumption)) | ((first | with_reducible apply w_MA | with_reducible apply w_MW | with_reducible apply w_MY | with_reducible apply w_MB | with_reducible apply w_MJ | with_reducible apply w_MK); exact hL3; rfl; rfl; rfl; (first | with_reducible rfl | with_reducible exact ixo _ | with_reducible exact ixoc _ _ | with_reducible exact ixom _ _ _ | with_reducible exact ixop _ _ | with_reducible exact ixod _ _ | assumption); omega))
  rw [hf] at hq
  rcases hq with ⟨z59, j4, a3⟩ | d
  · rw [a3.2.1]
    refine v_it (by decide) ?_
    have n4 : gI (uL h3 307 n (gL h3 305 j0)) 299 20 = nI n := n3
    repeat (first | with_reducible apply v_lt | ((with_reducible apply w_MR); exact hL3; rfl) | ((with_reducible apply w_lv); exact hL3; assumption) | ((with_reducible apply vMI); exact hL3) | ((with_reducible apply vMS); exact hL3) | ((with_reducible apply vMC); exact hL3) | ((with_reducible apply vMZ); exact hL3; (first | exact Or.inl rfl | exact Or.inr rfl | exact b2i_01 _ | assumption)) | ((first | with_reducible apply w_MA | with_reducible apply w_MW | with_reducible apply w_MY | with_reducible apply w_MB | with_reducible apply w_MJ | with_reducible apply w_MK); exact hL3; rfl; rfl; rfl; (first | with_reducible rfl | with_reducible exact ixo _ | with_reducible exact ixoc _ _ | with_reducible exact ixom _ _ _ | with_reducible exact ixop _ _ | with_reducible exact ixod _ _ | assumption); omega))
    have hL4 : LM (uL h3 307 n (gL h3 305 j0)).2 := LM_uL hL3
    repeat (first | with_reducible apply v_lt | ((with_reducible apply w_MR); exact hL4; rfl) | ((with_reducible apply w_lv); exact hL4; assumption) | ((with_reducible apply vMI); exact hL4) | ((with_reducible apply vMS); exact hL4) | ((with_reducible apply vMC); exact hL4) | ((with_reducible apply vMZ); exact hL4; (first | exact Or.inl rfl | exact Or.inr rfl | exact b2i_01 _ | assumption)) | ((first | with_reducible apply w_MA | with_reducible apply w_MW | with_reducible apply w_MY | with_reducible apply w_MB | with_reducible apply w_MJ | with_reducible apply w_MK); exact hL4; rfl; rfl; rfl; (first | with_reducible rfl | with_reducible exact ixo _ | with_reducible exact ixoc _ _ | with_reducible exact ixom _ _ _ | with_reducible exact ixop _ _ | with_reducible exact ixod _ _ | assumption); omega))
    rw [gI_ne (by omega), n4, nI_1]
    have oL : eL (fun a k => (a = 299 ∧ k = 20) ∨ a = 308) lEn h3 (uI (uI (uL h3 307 n (gL h3 305 j0)) 308 n y) 299 20 (nI (n + 1))) := eL_uI (eL_uI (eL_uL eL_rf rfl) (Or.inr rfl)) (Or.inl ⟨rfl, rfl⟩)
    refine v_rV ⟨eL_tr oe (eL_mono oL (fun a k z => by unfold sEn; omega) (fun a k z => z)), Or.inl ⟨z59, j4, atM_eL oL (fun a k z => by omega) (fun k z => by unfold lEn at z; omega) a3, gI_eq, ?_, ?_, fun k hk => ⟨?_, ?_⟩⟩⟩
    · rw [gL_uI, gL_uI, gL_eq, g9]
    · rw [gI_ne (by omega), gI_eq]
    · rw [gL_uI, gL_uI, gL_ne (by omega), g9]
    · rw [gI_ne (by omega), gI_ne (by omega)]
      show gI h3 308 k = _
      rw [o3.2 _ _ (fun z => by unfold sGo at z; omega)]
  · exact v_ie (x13 d).1 (v_rV ⟨oe, Or.inr d⟩)
