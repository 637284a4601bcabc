/-! THE REFERENCE READS: names -/
def nmo (A : RT) (a : Nat) : List Nat := if a < 10 then tN A 0 a else tN A 1 (a - 10)
/-- the names told, in their order -/
def nmM (A : RT) (no : Nat → Nat) (h : mh) : Prop := gI h 299 20 = nI (tX A 0 0 + tX A 0 1) ∧ (∀ k, k < tX A 0 0 + tX A 0 1 → gI h 308 k = nI (no k) ∧ gL h 307 k = lN (cod 27 (nmo A (no k))) ∧ (no k < tX A 0 0 ∨ (10 ≤ no k ∧ no k - 10 < tX A 0 1))) ∧ (∀ r, r < tX A 0 0 → ∃ k, k < tX A 0 0 + tX A 0 1 ∧ no k = r) ∧ (∀ l, l < tX A 0 1 → ∃ k, k < tX A 0 0 + tX A 0 1 ∧ no k = 10 + l) ∧ (∀ k1 k2, k1 < k2 → k2 < tX A 0 0 + tX A 0 1 → (no k1 < 10 ↔ no k2 < 10) → no k1 < no k2)
theorem nmM_eL {S SL : Nat → Nat → Prop} {A : RT} {no : Nat → Nat} {h h1 : mh} (o : eL S SL h h1) (hs : ∀ a k, S a k → ¬ ((a = 299 ∧ k = 20) ∨ a = 308)) (hl : ∀ k, ¬ SL 307 k) (q : nmM A no h) : nmM A no h1 := by
  obtain ⟨q1, q2, q3, q4, q5⟩ := q
  refine ⟨by rw [o.2.1 _ _ (fun z => hs _ _ z (by omega))]; exact q1, fun k hk => ?_, q3, q4, q5⟩
  rw [o.2.1 _ _ (fun z => hs _ _ z (by omega)), o.2.2 _ _ (hl k)]
  exact q2 k hk
theorem nmo_ok {A : RT} {no : Nat → Nat} {h : mh} (w : wA A) (q : nmM A no h) {k : Nat} (hk : k < tX A 0 0 + tX A 0 1) : okn (nmo A (no k)) := by
  obtain ⟨-, q2, -⟩ := q
  have w0 := w.1.1
  unfold nmo
  rcases (q2 k hk).2.2 with z | z
  · rw [if_pos (by omega)]
    exact w.2.1.1 _ z
  · rw [if_neg (by omega)]
    exact w.2.1.2 _ z.2
/-- one of them -/
theorem nm_any {A : RT} {no : Nat → Nat} {l : List Nat} {h : mh} (w : wA A) (q : nmM A no h) : (∃ k, k < tX A 0 0 + tX A 0 1 ∧ nmo A (no k) = l) ↔ ¬ (rN9 A l = none ∧ lN9 A l = none) := by
  obtain ⟨-, q2, q3, q4, -⟩ := q
  have w0 := w.1.1
  have e1 : rN9 A l = none ↔ ∀ r, r < tX A 0 0 → tN A 0 r ≠ l := by
    unfold rN9
    rcases fnd_c (P := fun r => decide (tN A 0 r = l)) (tX A 0 0) with ⟨z, y⟩ | ⟨r, z, z1, z2, -⟩
    · rw [z]
      exact ⟨fun _ r hr => of_decide_eq_false (y r hr), fun _ => rfl⟩
    · rw [z]
      exact ⟨(fun y => by cases y), fun y => absurd (of_decide_eq_true z2) (y r z1)⟩
  have e2 : lN9 A l = none ↔ ∀ r, r < tX A 0 1 → tN A 1 r ≠ l := by
    unfold lN9
    rcases fnd_c (P := fun r => decide (tN A 1 r = l)) (tX A 0 1) with ⟨z, y⟩ | ⟨r, z, z1, z2, -⟩
    · rw [z]
      exact ⟨fun _ r hr => of_decide_eq_false (y r hr), fun _ => rfl⟩
    · rw [z]
      exact ⟨(fun y => by cases y), fun y => absurd (of_decide_eq_true z2) (y r z1)⟩
  rw [e1, e2]
  constructor
  · rintro ⟨k, hk, e⟩ ⟨y1, y2⟩
    unfold nmo at e
    rcases (q2 k hk).2.2 with z | z
    · rw [if_pos (by omega)] at e
      exact y1 _ z e
    · rw [if_neg (by omega)] at e
      exact y2 _ z.2 e
  · intro y
    by_cases y1 : ∀ r, r < tX A 0 0 → tN A 0 r ≠ l
    · by_cases y2 : ∀ r, r < tX A 0 1 → tN A 1 r ≠ l
      · exact absurd ⟨y1, y2⟩ y
      · rcases Classical.not_forall.mp y2 with ⟨r, y3⟩
        have y4 := Classical.not_imp.mp y3
        have y5 := Decidable.not_not.mp y4.2
        obtain ⟨k, hk, e⟩ := q4 r y4.1
        refine ⟨k, hk, ?_⟩
        unfold nmo
        rw [e, if_neg (by omega), show 10 + r - 10 = r from by omega]
        exact y5
    · rcases Classical.not_forall.mp y1 with ⟨r, y3⟩
      have y4 := Classical.not_imp.mp y3
      have y5 := Decidable.not_not.mp y4.2
      obtain ⟨k, hk, e⟩ := q3 r y4.1
      refine ⟨k, hk, ?_⟩
      unfold nmo
      rw [e, if_pos (by omega)]
      exact y5
theorem nF_2 {F : Nat × Nat} {c p : Nat} (hc : c ≠ 0) : nF (nF F c p) c p = nF F c p := by
  unfold nF
  by_cases z : F.1 = 0
  · rw [if_pos z, if_neg hc]
  · rw [if_neg z, if_neg z]
/-- a new name -/
def nwF (A : RT) (F : Nat × Nat) (l : List Nat) (p : Nat) : Nat × Nat := if rN9 A l = none ∧ lN9 A l = none then F else nF F 3 p
set_option maxHeartbeats 1000000 in
theorem namedW {fu j tl : Nat} {τ : Nat → Tk} {A : RT} {no : Nat → Nat} {F : Nat × Nat} {h : mh} (hfu : 1000 ≤ fu) (hL : LM h.2) (hT : tkOk τ) (ht : tl < 2) (w : wA A) (q : nmM A no h) (a : atM τ j h) (f : flM F h) (hF : F.1 ≠ 0 → F.2 < tkP (τ j)) : ok (fX10_named fu 299 h) (fun x h' => x = nI j ∧ eo sBo h h' ∧ ((tkK (τ j) = 22 ∧ j < 400 ∧ atM τ (j + 1) h' ∧ flM (nwF A F (tkN (τ j)) (tkP (τ j))) h') ∨ ddR (run τ (A, tl, 0, none, none) j) h')) := by
  have hj := a.2.2.1
  have hno := a.2.2.2.1
  have w0 := w.1.1
  have w1 := w.1.2.1
  have hf : fm tl 0 = 22 := by
    rcases (show tl = 0 ∨ tl = 1 by omega) with rfl | rfl <;> rfl
  unfold fX10_named
  repeat (first | with_reducible apply v_lt | ((with_reducible apply w_MR); exact hL; rfl) | ((with_reducible apply w_lv); exact hL; assumption) | ((with_reducible apply vMI); exact hL) | ((with_reducible apply vMS); exact hL) | ((with_reducible apply vMC); exact hL) | ((with_reducible apply vMZ); exact hL; (first | exact Or.inl rfl | exact Or.inr rfl | exact b2i_01 _ | assumption)) | ((first | with_reducible apply w_MA | with_reducible apply w_MW | with_reducible apply w_MY | with_reducible apply w_MB | with_reducible apply w_MJ | with_reducible apply w_MK); exact hL; rfl; rfl; rfl; (first | with_reducible rfl | with_reducible exact ixo _ | with_reducible exact ixoc _ _ | with_reducible exact ixom _ _ _ | with_reducible exact ixop _ _ | with_reducible exact ixod _ _ | assumption); omega))
  rw [a.1]
  refine v_bd (mustW (A := A) (rl := none) (tl := tl) (st := 0) hL hT.1 (by rw [hf]; rfl) (by omega) (by omega) a) (fun _ h2 hq => ?_)
  obtain ⟨o2, hq⟩ := hq
  have hL2 : LM h2.2 := by rw [o2.1]; exact hL
  have q2 := nmM_eL (SL := fun _ _ => False) (eL_eo o2) (fun a k z => by unfold sGo at z; omega) (fun k z => z) q
  have n20 := q2.1
  have ob : eo sBo h h2 := eo_mono o2 (fun a k z => by unfold sGo at z; unfold sBo; omega)
  rw [hf] at hq
  rcases hq with ⟨z22, j4, a2⟩ | d
  · have f2 := flM_eo o2 (fun a k z => by unfold sGo at z; omega) f
    have rj := a2.2.2.2.2 j hj hno
    have nj := rj.2.2.2 z22
    have okj := hT.2.1 j z22
    have pj := hT.2.2.2 j
    obtain ⟨P, hP⟩ : ∃ P : Nat → Bool, P = fun k => decide (nmo A (no k) = tkN (τ j)) := ⟨_, rfl⟩
    obtain ⟨n, hn⟩ : ∃ n, n = tX A 0 0 + tX A 0 1 := ⟨_, rfl⟩
    refine loop2 (n := n) (I := fun k h' => eo sWr h2 h' ∧ flM (if (fnd P k).isSome = true then nF F 3 (tkP (τ j)) else F) h') (by omega) hfu ⟨eo_rf, f2⟩ ?_ ?_
    · intro h' kk hI
      obtain ⟨o3, f3⟩ := hI
      have hL3 : LM h'.2 := by rw [o3.1]; exact hL2
      unfold bX10_named_12
      dsimp only
      repeat (first | with_reducible apply v_lt | ((with_reducible apply w_MR); exact hL3; rfl) | ((with_reducible apply w_lv); exact hL3; assumption) | ((with_reducible apply vMI); exact hL3) | ((with_reducible apply vMS); exact hL3) | ((with_reducible apply vMC); exact hL3) | ((with_reducible apply vMZ); exact hL3; (first | exact Or.inl rfl | exact Or.inr rfl | exact b2i_01 _ | assumption)) | ((first | with_reducible apply w_MA | with_reducible apply w_MW | with_reducible apply w_MY | with_reducible apply w_MB | with_reducible apply w_MJ | with_reducible apply w_MK); exact hL3; rfl; rfl; rfl; (first | with_reducible rfl | with_reducible exact ixo _ | with_reducible exact ixoc _ _ | with_reducible exact ixom _ _ _ | with_reducible exact ixop _ _ | with_reducible exact ixod _ _ | assumption); omega))
      rw [o3.2 _ _ (fun z => by unfold sWr at z; omega), n20, ← hn]
      refine v_it (nI_le (Nat.le_refl _) (by omega)) (v_rI ⟨rfl, eo_tr ob (eo_mono o3 (fun a k z => by unfold sWr at z; unfold sBo; omega)), Or.inl ⟨z22, j4, atM_eo o3 (fun a k z => by unfold sWr at z; omega) a2, ?_⟩⟩)
      have na := nm_any (l := tkN (τ j)) w q2
      unfold nwF
      rcases fnd_c (P := P) n with ⟨y, y1⟩ | ⟨r, y, y1, y2, -⟩
      · rw [y] at f3
        rw [if_pos (Decidable.not_not.mp (fun z => ?_))]
        · exact f3
        · obtain ⟨k, hk, e⟩ := na.mpr z
          have := y1 k (by omega)
          rw [hP] at this
          exact absurd e (of_decide_eq_false this)
      · rw [y] at f3
        rw [if_neg (na.mp ⟨r, by omega, ?_⟩)]
        · exact f3
        · rw [hP] at y2
          exact of_decide_eq_true y2
    · intro k h' kk hk hI hkk
      obtain ⟨o3, f3⟩ := hI
      have hL3 : LM h'.2 := by rw [o3.1]; exact hL2
      have a3 := atM_eo o3 (fun a k z => by unfold sWr at z; omega) a2
      have q3 := nmM_eL (SL := fun _ _ => False) (eL_eo o3) (fun a k z => by unfold sWr at z; omega) (fun k z => z) q2
      have l3 := (q3.2.1 k (by omega)).2.1
      have n3 : gL h' 305 j = lN (cod 27 (tkN (τ j))) := (a3.2.2.2.2 j hj hno).2.2.2 z22
      unfold bX10_named_12
      dsimp only
      repeat (first | with_reducible apply v_lt | ((with_reducible apply w_MR); exact hL3; rfl) | ((with_reducible apply w_lv); exact hL3; assumption) | ((with_reducible apply vMI); exact hL3) | ((with_reducible apply vMS); exact hL3) | ((with_reducible apply vMC); exact hL3) | ((with_reducible apply vMZ); exact hL3; (first | exact Or.inl rfl | exact Or.inr rfl | exact b2i_01 _ | assumption)) | ((first | with_reducible apply w_MA | with_reducible apply w_MW | with_reducible apply w_MY | with_reducible apply w_MB | with_reducible apply w_MJ | with_reducible apply w_MK); exact hL3; rfl; rfl; rfl; (first | with_reducible rfl | with_reducible exact ixo _ | with_reducible exact ixoc _ _ | with_reducible exact ixom _ _ _ | with_reducible exact ixop _ _ | with_reducible exact ixod _ _ | assumption); omega))
      rw [q3.1, ← hn]
      refine v_ie (nI_ge hk (by omega)) ?_
      repeat (first | with_reducible apply v_lt | ((with_reducible apply w_MR); exact hL3; rfl) | ((with_reducible apply w_lv); exact hL3; assumption) | ((with_reducible apply vMI); exact hL3) | ((with_reducible apply vMS); exact hL3) | ((with_reducible apply vMC); exact hL3) | ((with_reducible apply vMZ); exact hL3; (first | exact Or.inl rfl | exact Or.inr rfl | exact b2i_01 _ | assumption)) | ((first | with_reducible apply w_MA | with_reducible apply w_MW | with_reducible apply w_MY | with_reducible apply w_MB | with_reducible apply w_MJ | with_reducible apply w_MK); exact hL3; rfl; rfl; rfl; (first | with_reducible rfl | with_reducible exact ixo _ | with_reducible exact ixoc _ _ | with_reducible exact ixom _ _ _ | with_reducible exact ixop _ _ | with_reducible exact ixod _ _ | assumption); omega))
      rw [a3.2.1]
      refine v_it rfl ?_
      repeat (first | with_reducible apply v_lt | ((with_reducible apply w_MR); exact hL3; rfl) | ((with_reducible apply w_lv); exact hL3; assumption) | ((with_reducible apply vMI); exact hL3) | ((with_reducible apply vMS); exact hL3) | ((with_reducible apply vMC); exact hL3) | ((with_reducible apply vMZ); exact hL3; (first | exact Or.inl rfl | exact Or.inr rfl | exact b2i_01 _ | assumption)) | ((first | with_reducible apply w_MA | with_reducible apply w_MW | with_reducible apply w_MY | with_reducible apply w_MB | with_reducible apply w_MJ | with_reducible apply w_MK); exact hL3; rfl; rfl; rfl; (first | with_reducible rfl | with_reducible exact ixo _ | with_reducible exact ixoc _ _ | with_reducible exact ixom _ _ _ | with_reducible exact ixop _ _ | with_reducible exact ixod _ _ | assumption); omega))
      rw [l3, n3]
      have ne := nm_eq (R := 27) (Or.inr rfl) (nmo_ok w q3 (k := k) (by omega)) okj
      have fs : fnd P (k + 1) = match fnd P k with | some r => some r | none => if P k then some k else none := rfl
      by_cases e : nmo A (no k) = tkN (τ j)
      · refine v_it (ne.mpr e) ?_
        repeat (first | with_reducible apply v_lt | ((with_reducible apply w_MR); exact hL3; rfl) | ((with_reducible apply w_lv); exact hL3; assumption) | ((with_reducible apply vMI); exact hL3) | ((with_reducible apply vMS); exact hL3) | ((with_reducible apply vMC); exact hL3) | ((with_reducible apply vMZ); exact hL3; (first | exact Or.inl rfl | exact Or.inr rfl | exact b2i_01 _ | assumption)) | ((first | with_reducible apply w_MA | with_reducible apply w_MW | with_reducible apply w_MY | with_reducible apply w_MB | with_reducible apply w_MJ | with_reducible apply w_MK); exact hL3; rfl; rfl; rfl; (first | with_reducible rfl | with_reducible exact ixo _ | with_reducible exact ixoc _ _ | with_reducible exact ixom _ _ _ | with_reducible exact ixop _ _ | with_reducible exact ixod _ _ | assumption); omega))
        have s1 : (fnd P (k + 1)).isSome = true := by
          rw [fs]
          cases fnd P k with
          | some r => rfl
          | none =>
            have : P k = true := by rw [hP]; exact decide_eq_true e
            dsimp only
            rw [this]
            rfl
        refine v_bd (wrongM (c := 3) hL3 (by omega) hj hno pj a3 f3 ?_) (fun _ h4 hq4 => ?_)
        · intro y
          split at y
          · next z =>
            rw [if_pos z]
            unfold nF at y ⊢
            by_cases z0 : F.1 = 0
            · rw [if_pos z0]
              exact Or.inr ⟨rfl, Nat.le_refl _⟩
            · rw [if_neg z0]
              exact Or.inl (hF z0)
          · next z =>
            rw [if_neg z]
            exact Or.inl (hF y)
        · obtain ⟨o4, f4⟩ := hq4
          unfold fX10_named_49
          refine hkk _ ⟨eo_tr o3 o4, ?_⟩
          rw [if_pos s1]
          split at f4
          · rw [nF_2 (by omega)] at f4
            exact f4
          · exact f4
      · refine v_ie (fun z => e (ne.mp z)) ?_
        unfold fX10_named_49
        refine hkk _ ⟨o3, ?_⟩
        have s1 : (fnd P (k + 1)).isSome = (fnd P k).isSome := by
          rw [fs]
          cases fnd P k with
          | some r => rfl
          | none =>
            have : P k = false := by rw [hP]; exact decide_eq_false e
            dsimp only
            rw [this]
            rfl
        rw [s1]
        exact f3
  · obtain ⟨m, hm⟩ : ∃ m, fu = m + 1 := ⟨fu - 1, by omega⟩
    have st : ∀ kk, ok (bX10_named_12 fu 299 (nI j) kk (0, h2)) (fun x h' => x = nI j ∧ eo sBo h h' ∧ ((tkK (τ j) = 22 ∧ j < 400 ∧ atM τ (j + 1) h' ∧ flM (nwF A F (tkN (τ j)) (tkP (τ j))) h') ∨ ddR (run τ (A, tl, 0, none, none) j) h')) := by
      intro kk
      unfold bX10_named_12
      dsimp only
      repeat (first | with_reducible apply v_lt | ((with_reducible apply w_MR); exact hL2; rfl) | ((with_reducible apply w_lv); exact hL2; assumption) | ((with_reducible apply vMI); exact hL2) | ((with_reducible apply vMS); exact hL2) | ((with_reducible apply vMC); exact hL2) | ((with_reducible apply vMZ); exact hL2; (first | exact Or.inl rfl | exact Or.inr rfl | exact b2i_01 _ | assumption)) | ((first | with_reducible apply w_MA | with_reducible apply w_MW | with_reducible apply w_MY | with_reducible apply w_MB | with_reducible apply w_MJ | with_reducible apply w_MK); exact hL2; rfl; rfl; rfl; (first | with_reducible rfl | with_reducible exact ixo _ | with_reducible exact ixoc _ _ | with_reducible exact ixom _ _ _ | with_reducible exact ixop _ _ | with_reducible exact ixod _ _ | assumption); omega))
      refine v_if (fun _ => v_rI ⟨rfl, ob, Or.inr d⟩) (fun _ => ?_)
      repeat (first | with_reducible apply v_lt | ((with_reducible apply w_MR); exact hL2; rfl) | ((with_reducible apply w_lv); exact hL2; assumption) | ((with_reducible apply vMI); exact hL2) | ((with_reducible apply vMS); exact hL2) | ((with_reducible apply vMC); exact hL2) | ((with_reducible apply vMZ); exact hL2; (first | exact Or.inl rfl | exact Or.inr rfl | exact b2i_01 _ | assumption)) | ((first | with_reducible apply w_MA | with_reducible apply w_MW | with_reducible apply w_MY | with_reducible apply w_MB | with_reducible apply w_MJ | with_reducible apply w_MK); exact hL2; rfl; rfl; rfl; (first | with_reducible rfl | with_reducible exact ixo _ | with_reducible exact ixoc _ _ | with_reducible exact ixom _ _ _ | with_reducible exact ixop _ _ | with_reducible exact ixod _ _ | assumption); omega))
      exact v_ie (x13 d).2 (v_rI ⟨rfl, ob, Or.inr d⟩)
    rw [show itr (bX10_named_12 fu 299 (nI j)) fu (0, h2) = itr (bX10_named_12 fu 299 (nI j)) (m + 1) (0, h2) from by rw [← hm], itr_s]
    exact st _
