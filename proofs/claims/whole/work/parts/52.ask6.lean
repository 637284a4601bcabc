/-! QUESTIONS: sure, never, rarest, doubles, rumour -/
theorem loop2b {β : Type} {B : (Int32 × mh → Option (β × mh)) → Int32 × mh → Option (β × mh)} {fu : Nat} {I : Nat → mh → Prop} {Q : β → mh → Prop} (b n : Nat) (hn : n ≤ 990) (hfu : 1000 ≤ fu) {x : Int32} (hx : x = nI b) {h : mh} (h0 : I 0 h)
    (he : ∀ (h : mh) (k : Int32 × mh → Option (β × mh)), I n h → ok (B k (nI (b + n), h)) Q)
    (hs : ∀ (j : Nat) (h : mh) (k : Int32 × mh → Option (β × mh)), j < n → I j h → (∀ h', I (j + 1) h' → ok (k (nI (b + j) + 1, h')) Q) → ok (B k (nI (b + j), h)) Q) : ok (itr B fu (x, h)) Q := by
  refine itr_up (I := fun j s => s.1 = nI (b + j) ∧ I j s.2) (P := fun R => ok R Q) (n := n) ?_ ?_ fu 0 _ (by omega) (by omega) ⟨hx, h0⟩
  · intro j s k hj hI hk
    obtain ⟨w, h1⟩ := s
    obtain ⟨e1, q⟩ := hI
    dsimp only at e1 q
    subst e1
    exact hs j h1 k hj q (fun h' q' => hk _ ⟨nI_1 _, q'⟩)
  · intro s k hI
    obtain ⟨w, h1⟩ := s
    obtain ⟨e1, q⟩ := hI
    dsimp only at e1 q
    subst e1
    exact he h1 k q
theorem loop3b {β : Type} {B : (Int32 × Int32 × mh → Option (β × mh)) → Int32 × Int32 × mh → Option (β × mh)} {fu : Nat} {I : Nat → Int32 → mh → Prop} {Q : β → mh → Prop} (b n : Nat) (hn : n ≤ 990) (hfu : 1000 ≤ fu) {v x : Int32} (hx : x = nI b) {h : mh} (h0 : I 0 v h)
    (he : ∀ (v : Int32) (h : mh) (k : Int32 × Int32 × mh → Option (β × mh)), I n v h → ok (B k (v, nI (b + n), h)) Q)
    (hs : ∀ (j : Nat) (v : Int32) (h : mh) (k : Int32 × Int32 × mh → Option (β × mh)), j < n → I j v h → (∀ v' h', I (j + 1) v' h' → ok (k (v', nI (b + j) + 1, h')) Q) → ok (B k (v, nI (b + j), h)) Q) : ok (itr B fu (v, x, h)) Q := by
  refine itr_up (I := fun j s => s.2.1 = nI (b + j) ∧ I j s.1 s.2.2) (P := fun R => ok R Q) (n := n) ?_ ?_ fu 0 _ (by omega) (by omega) ⟨hx, h0⟩
  · intro j s k hj hI hk
    obtain ⟨w, w2, h1⟩ := s
    obtain ⟨e1, q⟩ := hI
    dsimp only at e1 q
    subst e1
    exact hs j w h1 k hj q (fun v' h' q' => hk _ ⟨nI_1 _, q'⟩)
  · intro s k hI
    obtain ⟨w, w2, h1⟩ := s
    obtain ⟨e1, q⟩ := hI
    dsimp only at e1 q
    subst e1
    exact he w h1 k q
theorem loop4b {β : Type} {B : (Int32 × Int32 × Int32 × mh → Option (β × mh)) → Int32 × Int32 × Int32 × mh → Option (β × mh)} {fu : Nat} {I : Nat → Int32 → Int32 → mh → Prop} {Q : β → mh → Prop} (b n : Nat) (hn : n ≤ 990) (hfu : 1000 ≤ fu) {v w x : Int32} (hx : x = nI b) {h : mh} (h0 : I 0 v w h)
    (he : ∀ (v w : Int32) (h : mh) (k : Int32 × Int32 × Int32 × mh → Option (β × mh)), I n v w h → ok (B k (v, w, nI (b + n), h)) Q)
    (hs : ∀ (j : Nat) (v w : Int32) (h : mh) (k : Int32 × Int32 × Int32 × mh → Option (β × mh)), j < n → I j v w h → (∀ v' w' h', I (j + 1) v' w' h' → ok (k (v', w', nI (b + j) + 1, h')) Q) → ok (B k (v, w, nI (b + j), h)) Q) : ok (itr B fu (v, w, x, h)) Q := by
  refine itr_up (I := fun j s => s.2.2.1 = nI (b + j) ∧ I j s.1 s.2.1 s.2.2.2) (P := fun R => ok R Q) (n := n) ?_ ?_ fu 0 _ (by omega) (by omega) ⟨hx, h0⟩
  · intro j s k hj hI hk
    obtain ⟨w, w2, w3, h1⟩ := s
    obtain ⟨e1, q⟩ := hI
    dsimp only at e1 q
    subst e1
    exact hs j w w2 h1 k hj q (fun v' w' h' q' => hk _ ⟨nI_1 _, q'⟩)
  · intro s k hI
    obtain ⟨w, w2, w3, h1⟩ := s
    obtain ⟨e1, q⟩ := hI
    dsimp only at e1 q
    subst e1
    exact he w w2 h1 k q
theorem in1_1 {fu w n : Nat} {h : mh} (h1 : 1 ≤ w) (h2 : w ≤ n) (hn : n < 2 ^ 31) : fX10_in fu (nI w) 1 (nI n) h = some (1, h) := by
  refine ok_eq ?_
  unfold fX10_in
  exact v_ie (nI_nlt (b := 1) h1 (by omega)) (v_ie (nI_nlt h2 hn) (v_rZ (Or.inr rfl) ⟨rfl, rfl⟩))
theorem out1 {x : Int32} {n : Nat} (q : ¬ ∃ w, (1 ≤ w ∧ w ≤ n) ∧ x = nI w) (e : ¬ x < 1) (hn : n < 2 ^ 31) : nI n < x := by
  have h0 : ¬ x < 0 := fun z => e (Int32.lt_trans z (by decide))
  obtain ⟨j, hj, e2⟩ := nI_of h0
  subst e2
  refine nI_lt (Nat.lt_of_not_le (fun z => q ⟨j, ⟨?_, z⟩, rfl⟩)) hj
  rcases Nat.eq_zero_or_pos j with z2 | z2
  · subst z2
    exact absurd (by decide) e
  · exact z2
theorem in1_0 {fu n : Nat} {x : Int32} {h : mh} (q : ¬ ∃ w, (1 ≤ w ∧ w ≤ n) ∧ x = nI w) (hn : n < 2 ^ 31) : fX10_in fu x 1 (nI n) h = some (0, h) := by
  refine ok_eq ?_
  unfold fX10_in
  exact v_if (fun e => v_rZ (Or.inl rfl) ⟨rfl, rfl⟩) (fun e => v_it (out1 q e hn) (v_rZ (Or.inl rfl) ⟨rfl, rfl⟩))
theorem b2i_add (v : Int32) (b : Bool) : v + b2i b = if b then v + 1 else v := by
  cases b
  · exact Int32.add_zero v
  · rfl
theorem st_sure {fu : Nat} (hfu : 1000 ≤ fu) (h : mh) (x0 x1 x2 x3 : Int32) (hS : Sim h) : pr Sim (fX9_sure fu 0 x0 x1 x2 x3 h) (fun h1 => fX10_sure fu 299 x0 x1 x2 x3 h1) := by
  obtain ⟨t, u, l, T, N, D, hS⟩ := hS
  have hC := hS.1
  have hT := LT_of hC.1
  obtain ⟨hy, htx, hng, -, hwT, hwN⟩ := id hC
  have hr6 := hwT.1
  have ho6 := hwT.2.1
  by_cases q : ∃ r, r < nL9 T ∧ x0 = nI r
  · obtain ⟨o, ho, rfl⟩ := q
    by_cases q : ∃ r, r < nR T ∧ x1 = nI r
    · obtain ⟨r, hr, rfl⟩ := q
      by_cases q : ∃ w, w < 31 ∧ x2 = nI w
      · obtain ⟨n, hn, rfl⟩ := q
        by_cases q : ∃ w, (1 ≤ w ∧ w ≤ 20) ∧ x3 = nI w
        · obtain ⟨s, hs, rfl⟩ := q
          refine pr_q (sumU (fun i => b2i (doneB T (runW T r (some (nI (sd9 T) + nI i)) N n) o)) s) hS ?_ (fun h1 hS1 => ?_)
          · unfold fX9_sure
            repeat (first | with_reducible apply v_lt | ((with_reducible apply vXR4); exact hT) | ((with_reducible apply w_XR); exact (LM_T hT); rfl) | ((with_reducible apply w_TR); exact hT; rfl) | ((with_reducible apply w_UR); exact hT; rfl) | ((first | with_reducible apply vXI | with_reducible apply vXS | with_reducible apply vXC); exact (LM_T hT)) | ((first | with_reducible apply vT0I | with_reducible apply vT9I | with_reducible apply vT0C | with_reducible apply vT9C | with_reducible apply vT0S | with_reducible apply vT9S); exact hT) | ((first | with_reducible apply vNR0 | with_reducible apply vNR1 | with_reducible apply vNR2 | with_reducible apply vNR3 | with_reducible apply vNI | with_reducible apply vNS | with_reducible apply vNC); (first | assumption | exact m39 | exact m44); exact (LM_T hT)) | ((first | with_reducible apply w_NA | with_reducible apply w_NW); exact (LM_T hT); (first | assumption | exact m39 | exact m44); rfl; rfl; (first | with_reducible rfl | with_reducible exact ixo _ | with_reducible exact ixoc _ _ | with_reducible exact ixom _ _ _ | with_reducible exact ixop _ _ | with_reducible exact ixod _ _ | assumption); omega) | ((first | with_reducible apply w_TA | with_reducible apply w_TW | with_reducible apply w_TJ | with_reducible apply w_TK); exact hT; rfl; rfl; (first | with_reducible rfl | with_reducible exact ixo _ | with_reducible exact ixoc _ _ | with_reducible exact ixom _ _ _ | with_reducible exact ixop _ _ | with_reducible exact ixod _ _ | assumption); omega))
            refine v_eq (listC1 hC ho) ?_
            refine v_ie (by decide) ?_
            repeat (first | with_reducible apply v_lt | ((with_reducible apply vXR4); exact hT) | ((with_reducible apply w_XR); exact (LM_T hT); rfl) | ((with_reducible apply w_TR); exact hT; rfl) | ((with_reducible apply w_UR); exact hT; rfl) | ((first | with_reducible apply vXI | with_reducible apply vXS | with_reducible apply vXC); exact (LM_T hT)) | ((first | with_reducible apply vT0I | with_reducible apply vT9I | with_reducible apply vT0C | with_reducible apply vT9C | with_reducible apply vT0S | with_reducible apply vT9S); exact hT) | ((first | with_reducible apply vNR0 | with_reducible apply vNR1 | with_reducible apply vNR2 | with_reducible apply vNR3 | with_reducible apply vNI | with_reducible apply vNS | with_reducible apply vNC); (first | assumption | exact m39 | exact m44); exact (LM_T hT)) | ((first | with_reducible apply w_NA | with_reducible apply w_NW); exact (LM_T hT); (first | assumption | exact m39 | exact m44); rfl; rfl; (first | with_reducible rfl | with_reducible exact ixo _ | with_reducible exact ixoc _ _ | with_reducible exact ixom _ _ _ | with_reducible exact ixop _ _ | with_reducible exact ixod _ _ | assumption); omega) | ((first | with_reducible apply w_TA | with_reducible apply w_TW | with_reducible apply w_TJ | with_reducible apply w_TK); exact hT; rfl; rfl; (first | with_reducible rfl | with_reducible exact ixo _ | with_reducible exact ixoc _ _ | with_reducible exact ixom _ _ _ | with_reducible exact ixop _ _ | with_reducible exact ixod _ _ | assumption); omega))
            refine v_eq (roleC1 hC hr) ?_
            refine v_ie (by decide) ?_
            refine v_eq (longC1 hn) ?_
            refine v_ie (by decide) ?_
            refine v_ie (nI_nlt (b := 1) hs.1 (by omega)) ?_
            refine v_it (nI_le (b := 20) hs.2 (by omega)) ?_
            refine loop3 (I := fun j v h' => eo (sQ t) h h' ∧ v = sumU (fun i => b2i (doneB T (runW T r (some (nI (sd9 T) + nI i)) N n) o)) j) (n := s) (by omega) hfu ⟨eo_rf, rfl⟩ ?_ ?_
            · intro v h2 k hI
              unfold bX9_sure_52
              dsimp only
              exact v_it (nI_le (Nat.le_refl _) (by omega)) (v_rI hI)
            · intro j v h2 k hj hI hk
              obtain ⟨o2, e2⟩ := hI
              have hC2 := CC_q o2 (fun a k q => q) hC
              have hT2 := LT_of hC2.1
              unfold bX9_sure_52
              dsimp only
              refine v_ie (nI_ge hj (by omega)) ?_
              repeat (first | with_reducible apply v_lt | ((with_reducible apply vXR4); exact hT2) | ((with_reducible apply w_XR); exact (LM_T hT2); rfl) | ((with_reducible apply w_TR); exact hT2; rfl) | ((with_reducible apply w_UR); exact hT2; rfl) | ((first | with_reducible apply vXI | with_reducible apply vXS | with_reducible apply vXC); exact (LM_T hT2)) | ((first | with_reducible apply vT0I | with_reducible apply vT9I | with_reducible apply vT0C | with_reducible apply vT9C | with_reducible apply vT0S | with_reducible apply vT9S); exact hT2) | ((first | with_reducible apply vNR0 | with_reducible apply vNR1 | with_reducible apply vNR2 | with_reducible apply vNR3 | with_reducible apply vNI | with_reducible apply vNS | with_reducible apply vNC); (first | assumption | exact m39 | exact m44); exact (LM_T hT2)) | ((first | with_reducible apply w_NA | with_reducible apply w_NW); exact (LM_T hT2); (first | assumption | exact m39 | exact m44); rfl; rfl; (first | with_reducible rfl | with_reducible exact ixo _ | with_reducible exact ixoc _ _ | with_reducible exact ixom _ _ _ | with_reducible exact ixop _ _ | with_reducible exact ixod _ _ | assumption); omega) | ((first | with_reducible apply w_TA | with_reducible apply w_TW | with_reducible apply w_TJ | with_reducible apply w_TK); exact hT2; rfl; rfl; (first | with_reducible rfl | with_reducible exact ixo _ | with_reducible exact ixoc _ _ | with_reducible exact ixom _ _ _ | with_reducible exact ixop _ _ | with_reducible exact ixod _ _ | assumption); omega))
              rw [hC2.2.1.2.2.2.2.2.2.1]
              refine v_bd (tryRowC hC2 hfu hr (by omega)) (fun _ h3 hq => ?_)
              obtain ⟨o3, hC3, hD3⟩ := hq
              have hT3 := LT_of hC3.1
              repeat (first | with_reducible apply v_lt | ((with_reducible apply vXR4); exact hT3) | ((with_reducible apply w_XR); exact (LM_T hT3); rfl) | ((with_reducible apply w_TR); exact hT3; rfl) | ((with_reducible apply w_UR); exact hT3; rfl) | ((first | with_reducible apply vXI | with_reducible apply vXS | with_reducible apply vXC); exact (LM_T hT3)) | ((first | with_reducible apply vT0I | with_reducible apply vT9I | with_reducible apply vT0C | with_reducible apply vT9C | with_reducible apply vT0S | with_reducible apply vT9S); exact hT3) | ((first | with_reducible apply vNR0 | with_reducible apply vNR1 | with_reducible apply vNR2 | with_reducible apply vNR3 | with_reducible apply vNI | with_reducible apply vNS | with_reducible apply vNC); (first | assumption | exact m39 | exact m44); exact (LM_T hT3)) | ((first | with_reducible apply w_NA | with_reducible apply w_NW); exact (LM_T hT3); (first | assumption | exact m39 | exact m44); rfl; rfl; (first | with_reducible rfl | with_reducible exact ixo _ | with_reducible exact ixoc _ _ | with_reducible exact ixom _ _ _ | with_reducible exact ixop _ _ | with_reducible exact ixod _ _ | assumption); omega) | ((first | with_reducible apply w_TA | with_reducible apply w_TW | with_reducible apply w_TJ | with_reducible apply w_TK); exact hT3; rfl; rfl; (first | with_reducible rfl | with_reducible exact ixo _ | with_reducible exact ixoc _ _ | with_reducible exact ixom _ _ _ | with_reducible exact ixop _ _ | with_reducible exact ixod _ _ | assumption); omega))
              refine v_eq (hasDoneC hD3 ho) ?_
              refine v_b (fun e => hk _ _ ⟨eo_tr o2 o3, ?_⟩) (fun e => hk _ _ ⟨eo_tr o2 o3, ?_⟩)
              · show v = sumU _ j + b2i (doneB T (runW T r (some (nI (sd9 T) + nI j)) N n) o)
                rw [e, b2i_add, e2]
                rfl
              · show v + 1 = sumU _ j + b2i (doneB T (runW T r (some (nI (sd9 T) + nI j)) N n) o)
                rw [e, b2i_add, e2]
                rfl
          · have hM1 := hS1.2.1
            obtain ⟨hy1, hl, hlv1, htx1, hng1, -, -⟩ := id hM1
            have hL1 := LM_of hy1
            unfold fX10_sure
            repeat (first | with_reducible apply v_lt | ((with_reducible apply w_MR); exact hL1; rfl) | ((with_reducible apply w_lv); exact hL1; assumption) | ((with_reducible apply vMI); exact hL1) | ((with_reducible apply vMS); exact hL1) | ((with_reducible apply vMC); exact hL1) | ((with_reducible apply vMZ); exact hL1; (first | exact Or.inl rfl | exact Or.inr rfl | exact b2i_01 _ | assumption)) | ((first | with_reducible apply w_MA | with_reducible apply w_MW | with_reducible apply w_MY | with_reducible apply w_MB | with_reducible apply w_MJ | with_reducible apply w_MK); exact hL1; rfl; rfl; rfl; (first | with_reducible rfl | with_reducible exact ixo _ | with_reducible exact ixoc _ _ | with_reducible exact ixom _ _ _ | with_reducible exact ixop _ _ | with_reducible exact ixod _ _ | assumption); omega))
            refine v_eq (listM1 hM1 ho) ?_
            refine v_ie (by decide) ?_
            repeat (first | with_reducible apply v_lt | ((with_reducible apply w_MR); exact hL1; rfl) | ((with_reducible apply w_lv); exact hL1; assumption) | ((with_reducible apply vMI); exact hL1) | ((with_reducible apply vMS); exact hL1) | ((with_reducible apply vMC); exact hL1) | ((with_reducible apply vMZ); exact hL1; (first | exact Or.inl rfl | exact Or.inr rfl | exact b2i_01 _ | assumption)) | ((first | with_reducible apply w_MA | with_reducible apply w_MW | with_reducible apply w_MY | with_reducible apply w_MB | with_reducible apply w_MJ | with_reducible apply w_MK); exact hL1; rfl; rfl; rfl; (first | with_reducible rfl | with_reducible exact ixo _ | with_reducible exact ixoc _ _ | with_reducible exact ixom _ _ _ | with_reducible exact ixop _ _ | with_reducible exact ixod _ _ | assumption); omega))
            refine v_eq (roleM1 hM1 hr) ?_
            refine v_ie (by decide) ?_
            refine v_eq (longM1 hn) ?_
            refine v_ie (by decide) ?_
            refine v_eq (in1_1 (n := 20) hs.1 hs.2 (by decide)) ?_
            refine v_ie (by decide) ?_
            refine loop3 (I := fun j v h' => eo sR h1 h' ∧ v = sumU (fun i => b2i (doneB T (runW T r (some (nI (sd9 T) + nI i)) N n) o)) j) (n := s) (by omega) hfu ⟨eo_rf, rfl⟩ ?_ ?_
            · intro v h2 k hI
              unfold bX10_sure_42
              dsimp only
              exact v_it (nI_le (Nat.le_refl _) (by omega)) (v_rI hI)
            · intro j v h2 k hj hI hk
              obtain ⟨o2, e2⟩ := hI
              have hM2 := MN_eo o2 (fun a k q => q) hM1
              have hL2 := LM_of hM2.1
              unfold bX10_sure_42
              dsimp only
              refine v_ie (nI_ge hj (by omega)) ?_
              repeat (first | with_reducible apply v_lt | ((with_reducible apply w_MR); exact hL2; rfl) | ((with_reducible apply w_lv); exact hL2; assumption) | ((with_reducible apply vMI); exact hL2) | ((with_reducible apply vMS); exact hL2) | ((with_reducible apply vMC); exact hL2) | ((with_reducible apply vMZ); exact hL2; (first | exact Or.inl rfl | exact Or.inr rfl | exact b2i_01 _ | assumption)) | ((first | with_reducible apply w_MA | with_reducible apply w_MW | with_reducible apply w_MY | with_reducible apply w_MB | with_reducible apply w_MJ | with_reducible apply w_MK); exact hL2; rfl; rfl; rfl; (first | with_reducible rfl | with_reducible exact ixo _ | with_reducible exact ixoc _ _ | with_reducible exact ixom _ _ _ | with_reducible exact ixop _ _ | with_reducible exact ixod _ _ | assumption); omega))
              refine v_bd (copyM hM2 hfu) (fun _ h3 hq => ?_)
              obtain ⟨o3, hM3, s3, b3⟩ := hq
              obtain ⟨hy3, -, hlv3, htx3, hng3, -, -⟩ := id hM3
              have hL3 := LM_of hy3
              repeat (first | with_reducible apply v_lt | ((with_reducible apply w_MR); exact hL3; rfl) | ((with_reducible apply w_lv); exact hL3; assumption) | ((with_reducible apply vMI); exact hL3) | ((with_reducible apply vMS); exact hL3) | ((with_reducible apply vMC); exact hL3) | ((with_reducible apply vMZ); exact hL3; (first | exact Or.inl rfl | exact Or.inr rfl | exact b2i_01 _ | assumption)) | ((first | with_reducible apply w_MA | with_reducible apply w_MW | with_reducible apply w_MY | with_reducible apply w_MB | with_reducible apply w_MJ | with_reducible apply w_MK); exact hL3; rfl; rfl; rfl; (first | with_reducible rfl | with_reducible exact ixo _ | with_reducible exact ixoc _ _ | with_reducible exact ixom _ _ _ | with_reducible exact ixop _ _ | with_reducible exact ixod _ _ | assumption); omega))
              rw [s3]
              have hM4 : MC t u l T (runW T r (some (nI (sd9 T) + nI j)) N 0) (uI h3 299 53 (nI (sd9 T) + nI j)) := MC_eo (S := fun a k => a = 299 ∧ k = 53) (eo_uI eo_rf ⟨rfl, rfl⟩) (fun a k q => by omega) hM3
              have o4 : eo sR h1 (uI h3 299 53 (nI (sd9 T) + nI j)) := eo_uI (eo_tr o2 o3) (by unfold sR; omega)
              have hb4 : gI (uI h3 299 53 (nI (sd9 T) + nI j)) 299 54 = b2i false := by
                rw [gI_ne (by omega)]
                exact b3
              refine loop2 (I := fun i h' => MW t u l r T N (nI (sd9 T) + nI j) false h1 i h') (n := n) (by omega) hfu ⟨o4, hM4, gI_eq, hb4⟩ ?_ ?_
              · intro h5 k5 hI5
                have hL5 := LM_of hI5.2.1.1
                unfold bX10_sure_67
                dsimp only
                refine v_it (nI_le (Nat.le_refl _) (by omega)) ?_
                unfold fX10_sure_84
                repeat (first | with_reducible apply v_lt | ((with_reducible apply w_MR); exact hL5; rfl) | ((with_reducible apply w_lv); exact hL5; assumption) | ((with_reducible apply vMI); exact hL5) | ((with_reducible apply vMS); exact hL5) | ((with_reducible apply vMC); exact hL5) | ((with_reducible apply vMZ); exact hL5; (first | exact Or.inl rfl | exact Or.inr rfl | exact b2i_01 _ | assumption)) | ((first | with_reducible apply w_MA | with_reducible apply w_MW | with_reducible apply w_MY | with_reducible apply w_MB | with_reducible apply w_MJ | with_reducible apply w_MK); exact hL5; rfl; rfl; rfl; (first | with_reducible rfl | with_reducible exact ixo _ | with_reducible exact ixoc _ _ | with_reducible exact ixom _ _ _ | with_reducible exact ixop _ _ | with_reducible exact ixod _ _ | assumption); omega))
                refine v_eq (hasDoneM (N := runW T r (some (nI (sd9 T) + nI j)) N n) hI5.2.1 ho) ?_
                refine v_b (fun e => hk _ _ ⟨hI5.1, ?_⟩) (fun e => hk _ _ ⟨hI5.1, ?_⟩)
                · show v = sumU _ j + b2i (doneB T (runW T r (some (nI (sd9 T) + nI j)) N n) o)
                  rw [e, b2i_add, e2]
                  rfl
                · show v + 1 = sumU _ j + b2i (doneB T (runW T r (some (nI (sd9 T) + nI j)) N n) o)
                  rw [e, b2i_add, e2]
                  rfl
              · intro i h5 k5 hi hI5 hk5
                have hL5 := LM_of hI5.2.1.1
                unfold bX10_sure_67
                dsimp only
                refine v_ie (nI_ge hi (by omega)) ?_
                repeat (first | with_reducible apply v_lt | ((with_reducible apply w_MR); exact hL5; rfl) | ((with_reducible apply w_lv); exact hL5; assumption) | ((with_reducible apply vMI); exact hL5) | ((with_reducible apply vMS); exact hL5) | ((with_reducible apply vMC); exact hL5) | ((with_reducible apply vMZ); exact hL5; (first | exact Or.inl rfl | exact Or.inr rfl | exact b2i_01 _ | assumption)) | ((first | with_reducible apply w_MA | with_reducible apply w_MW | with_reducible apply w_MY | with_reducible apply w_MB | with_reducible apply w_MJ | with_reducible apply w_MK); exact hL5; rfl; rfl; rfl; (first | with_reducible rfl | with_reducible exact ixo _ | with_reducible exact ixoc _ _ | with_reducible exact ixom _ _ _ | with_reducible exact ixop _ _ | with_reducible exact ixod _ _ | assumption); omega))
                exact v_bd (rowM hfu hr hI5) (fun _ h6 hq => hk5 _ hq)
        · refine pr_q (-1) hS ?_ (fun h1 hS1 => ?_)
          · unfold fX9_sure
            repeat (first | with_reducible apply v_lt | ((with_reducible apply vXR4); exact hT) | ((with_reducible apply w_XR); exact (LM_T hT); rfl) | ((with_reducible apply w_TR); exact hT; rfl) | ((with_reducible apply w_UR); exact hT; rfl) | ((first | with_reducible apply vXI | with_reducible apply vXS | with_reducible apply vXC); exact (LM_T hT)) | ((first | with_reducible apply vT0I | with_reducible apply vT9I | with_reducible apply vT0C | with_reducible apply vT9C | with_reducible apply vT0S | with_reducible apply vT9S); exact hT) | ((first | with_reducible apply vNR0 | with_reducible apply vNR1 | with_reducible apply vNR2 | with_reducible apply vNR3 | with_reducible apply vNI | with_reducible apply vNS | with_reducible apply vNC); (first | assumption | exact m39 | exact m44); exact (LM_T hT)) | ((first | with_reducible apply w_NA | with_reducible apply w_NW); exact (LM_T hT); (first | assumption | exact m39 | exact m44); rfl; rfl; (first | with_reducible rfl | with_reducible exact ixo _ | with_reducible exact ixoc _ _ | with_reducible exact ixom _ _ _ | with_reducible exact ixop _ _ | with_reducible exact ixod _ _ | assumption); omega) | ((first | with_reducible apply w_TA | with_reducible apply w_TW | with_reducible apply w_TJ | with_reducible apply w_TK); exact hT; rfl; rfl; (first | with_reducible rfl | with_reducible exact ixo _ | with_reducible exact ixoc _ _ | with_reducible exact ixom _ _ _ | with_reducible exact ixop _ _ | with_reducible exact ixod _ _ | assumption); omega))
            refine v_eq (listC1 hC ho) ?_
            refine v_ie (by decide) ?_
            repeat (first | with_reducible apply v_lt | ((with_reducible apply vXR4); exact hT) | ((with_reducible apply w_XR); exact (LM_T hT); rfl) | ((with_reducible apply w_TR); exact hT; rfl) | ((with_reducible apply w_UR); exact hT; rfl) | ((first | with_reducible apply vXI | with_reducible apply vXS | with_reducible apply vXC); exact (LM_T hT)) | ((first | with_reducible apply vT0I | with_reducible apply vT9I | with_reducible apply vT0C | with_reducible apply vT9C | with_reducible apply vT0S | with_reducible apply vT9S); exact hT) | ((first | with_reducible apply vNR0 | with_reducible apply vNR1 | with_reducible apply vNR2 | with_reducible apply vNR3 | with_reducible apply vNI | with_reducible apply vNS | with_reducible apply vNC); (first | assumption | exact m39 | exact m44); exact (LM_T hT)) | ((first | with_reducible apply w_NA | with_reducible apply w_NW); exact (LM_T hT); (first | assumption | exact m39 | exact m44); rfl; rfl; (first | with_reducible rfl | with_reducible exact ixo _ | with_reducible exact ixoc _ _ | with_reducible exact ixom _ _ _ | with_reducible exact ixop _ _ | with_reducible exact ixod _ _ | assumption); omega) | ((first | with_reducible apply w_TA | with_reducible apply w_TW | with_reducible apply w_TJ | with_reducible apply w_TK); exact hT; rfl; rfl; (first | with_reducible rfl | with_reducible exact ixo _ | with_reducible exact ixoc _ _ | with_reducible exact ixom _ _ _ | with_reducible exact ixop _ _ | with_reducible exact ixod _ _ | assumption); omega))
            refine v_eq (roleC1 hC hr) ?_
            refine v_ie (by decide) ?_
            refine v_eq (longC1 hn) ?_
            refine v_ie (by decide) ?_
            refine v_if (fun e => v_rI ⟨eo_rf, rfl⟩) (fun e => v_ie ?_ (v_rI ⟨eo_rf, rfl⟩))
            exact Int32.not_le.mpr (out1 (n := 20) q e (by decide))
          · have hM1 := hS1.2.1
            obtain ⟨hy1, hl, hlv1, htx1, hng1, -, -⟩ := id hM1
            have hL1 := LM_of hy1
            unfold fX10_sure
            repeat (first | with_reducible apply v_lt | ((with_reducible apply w_MR); exact hL1; rfl) | ((with_reducible apply w_lv); exact hL1; assumption) | ((with_reducible apply vMI); exact hL1) | ((with_reducible apply vMS); exact hL1) | ((with_reducible apply vMC); exact hL1) | ((with_reducible apply vMZ); exact hL1; (first | exact Or.inl rfl | exact Or.inr rfl | exact b2i_01 _ | assumption)) | ((first | with_reducible apply w_MA | with_reducible apply w_MW | with_reducible apply w_MY | with_reducible apply w_MB | with_reducible apply w_MJ | with_reducible apply w_MK); exact hL1; rfl; rfl; rfl; (first | with_reducible rfl | with_reducible exact ixo _ | with_reducible exact ixoc _ _ | with_reducible exact ixom _ _ _ | with_reducible exact ixop _ _ | with_reducible exact ixod _ _ | assumption); omega))
            refine v_eq (listM1 hM1 ho) ?_
            refine v_ie (by decide) ?_
            repeat (first | with_reducible apply v_lt | ((with_reducible apply w_MR); exact hL1; rfl) | ((with_reducible apply w_lv); exact hL1; assumption) | ((with_reducible apply vMI); exact hL1) | ((with_reducible apply vMS); exact hL1) | ((with_reducible apply vMC); exact hL1) | ((with_reducible apply vMZ); exact hL1; (first | exact Or.inl rfl | exact Or.inr rfl | exact b2i_01 _ | assumption)) | ((first | with_reducible apply w_MA | with_reducible apply w_MW | with_reducible apply w_MY | with_reducible apply w_MB | with_reducible apply w_MJ | with_reducible apply w_MK); exact hL1; rfl; rfl; rfl; (first | with_reducible rfl | with_reducible exact ixo _ | with_reducible exact ixoc _ _ | with_reducible exact ixom _ _ _ | with_reducible exact ixop _ _ | with_reducible exact ixod _ _ | assumption); omega))
            refine v_eq (roleM1 hM1 hr) ?_
            refine v_ie (by decide) ?_
            refine v_eq (longM1 hn) ?_
            refine v_ie (by decide) ?_
            exact v_eq (in1_0 (n := 20) q (by decide)) (v_it rfl (v_rI ⟨eo_rf, rfl⟩))
      · refine pr_q (-1) hS ?_ (fun h1 hS1 => ?_)
        · unfold fX9_sure
          repeat (first | with_reducible apply v_lt | ((with_reducible apply vXR4); exact hT) | ((with_reducible apply w_XR); exact (LM_T hT); rfl) | ((with_reducible apply w_TR); exact hT; rfl) | ((with_reducible apply w_UR); exact hT; rfl) | ((first | with_reducible apply vXI | with_reducible apply vXS | with_reducible apply vXC); exact (LM_T hT)) | ((first | with_reducible apply vT0I | with_reducible apply vT9I | with_reducible apply vT0C | with_reducible apply vT9C | with_reducible apply vT0S | with_reducible apply vT9S); exact hT) | ((first | with_reducible apply vNR0 | with_reducible apply vNR1 | with_reducible apply vNR2 | with_reducible apply vNR3 | with_reducible apply vNI | with_reducible apply vNS | with_reducible apply vNC); (first | assumption | exact m39 | exact m44); exact (LM_T hT)) | ((first | with_reducible apply w_NA | with_reducible apply w_NW); exact (LM_T hT); (first | assumption | exact m39 | exact m44); rfl; rfl; (first | with_reducible rfl | with_reducible exact ixo _ | with_reducible exact ixoc _ _ | with_reducible exact ixom _ _ _ | with_reducible exact ixop _ _ | with_reducible exact ixod _ _ | assumption); omega) | ((first | with_reducible apply w_TA | with_reducible apply w_TW | with_reducible apply w_TJ | with_reducible apply w_TK); exact hT; rfl; rfl; (first | with_reducible rfl | with_reducible exact ixo _ | with_reducible exact ixoc _ _ | with_reducible exact ixom _ _ _ | with_reducible exact ixop _ _ | with_reducible exact ixod _ _ | assumption); omega))
          refine v_eq (listC1 hC ho) ?_
          refine v_ie (by decide) ?_
          repeat (first | with_reducible apply v_lt | ((with_reducible apply vXR4); exact hT) | ((with_reducible apply w_XR); exact (LM_T hT); rfl) | ((with_reducible apply w_TR); exact hT; rfl) | ((with_reducible apply w_UR); exact hT; rfl) | ((first | with_reducible apply vXI | with_reducible apply vXS | with_reducible apply vXC); exact (LM_T hT)) | ((first | with_reducible apply vT0I | with_reducible apply vT9I | with_reducible apply vT0C | with_reducible apply vT9C | with_reducible apply vT0S | with_reducible apply vT9S); exact hT) | ((first | with_reducible apply vNR0 | with_reducible apply vNR1 | with_reducible apply vNR2 | with_reducible apply vNR3 | with_reducible apply vNI | with_reducible apply vNS | with_reducible apply vNC); (first | assumption | exact m39 | exact m44); exact (LM_T hT)) | ((first | with_reducible apply w_NA | with_reducible apply w_NW); exact (LM_T hT); (first | assumption | exact m39 | exact m44); rfl; rfl; (first | with_reducible rfl | with_reducible exact ixo _ | with_reducible exact ixoc _ _ | with_reducible exact ixom _ _ _ | with_reducible exact ixop _ _ | with_reducible exact ixod _ _ | assumption); omega) | ((first | with_reducible apply w_TA | with_reducible apply w_TW | with_reducible apply w_TJ | with_reducible apply w_TK); exact hT; rfl; rfl; (first | with_reducible rfl | with_reducible exact ixo _ | with_reducible exact ixoc _ _ | with_reducible exact ixom _ _ _ | with_reducible exact ixop _ _ | with_reducible exact ixod _ _ | assumption); omega))
          refine v_eq (roleC1 hC hr) ?_
          refine v_ie (by decide) ?_
          exact v_eq (longC0 q) (v_it rfl (v_rI ⟨eo_rf, rfl⟩))
        · have hM1 := hS1.2.1
          obtain ⟨hy1, hl, hlv1, htx1, hng1, -, -⟩ := id hM1
          have hL1 := LM_of hy1
          unfold fX10_sure
          repeat (first | with_reducible apply v_lt | ((with_reducible apply w_MR); exact hL1; rfl) | ((with_reducible apply w_lv); exact hL1; assumption) | ((with_reducible apply vMI); exact hL1) | ((with_reducible apply vMS); exact hL1) | ((with_reducible apply vMC); exact hL1) | ((with_reducible apply vMZ); exact hL1; (first | exact Or.inl rfl | exact Or.inr rfl | exact b2i_01 _ | assumption)) | ((first | with_reducible apply w_MA | with_reducible apply w_MW | with_reducible apply w_MY | with_reducible apply w_MB | with_reducible apply w_MJ | with_reducible apply w_MK); exact hL1; rfl; rfl; rfl; (first | with_reducible rfl | with_reducible exact ixo _ | with_reducible exact ixoc _ _ | with_reducible exact ixom _ _ _ | with_reducible exact ixop _ _ | with_reducible exact ixod _ _ | assumption); omega))
          refine v_eq (listM1 hM1 ho) ?_
          refine v_ie (by decide) ?_
          repeat (first | with_reducible apply v_lt | ((with_reducible apply w_MR); exact hL1; rfl) | ((with_reducible apply w_lv); exact hL1; assumption) | ((with_reducible apply vMI); exact hL1) | ((with_reducible apply vMS); exact hL1) | ((with_reducible apply vMC); exact hL1) | ((with_reducible apply vMZ); exact hL1; (first | exact Or.inl rfl | exact Or.inr rfl | exact b2i_01 _ | assumption)) | ((first | with_reducible apply w_MA | with_reducible apply w_MW | with_reducible apply w_MY | with_reducible apply w_MB | with_reducible apply w_MJ | with_reducible apply w_MK); exact hL1; rfl; rfl; rfl; (first | with_reducible rfl | with_reducible exact ixo _ | with_reducible exact ixoc _ _ | with_reducible exact ixom _ _ _ | with_reducible exact ixop _ _ | with_reducible exact ixod _ _ | assumption); omega))
          refine v_eq (roleM1 hM1 hr) ?_
          refine v_ie (by decide) ?_
          exact v_eq (longM0 q) (v_it rfl (v_rI ⟨eo_rf, rfl⟩))
    · refine pr_q (-1) hS ?_ (fun h1 hS1 => ?_)
      · unfold fX9_sure
        repeat (first | with_reducible apply v_lt | ((with_reducible apply vXR4); exact hT) | ((with_reducible apply w_XR); exact (LM_T hT); rfl) | ((with_reducible apply w_TR); exact hT; rfl) | ((with_reducible apply w_UR); exact hT; rfl) | ((first | with_reducible apply vXI | with_reducible apply vXS | with_reducible apply vXC); exact (LM_T hT)) | ((first | with_reducible apply vT0I | with_reducible apply vT9I | with_reducible apply vT0C | with_reducible apply vT9C | with_reducible apply vT0S | with_reducible apply vT9S); exact hT) | ((first | with_reducible apply vNR0 | with_reducible apply vNR1 | with_reducible apply vNR2 | with_reducible apply vNR3 | with_reducible apply vNI | with_reducible apply vNS | with_reducible apply vNC); (first | assumption | exact m39 | exact m44); exact (LM_T hT)) | ((first | with_reducible apply w_NA | with_reducible apply w_NW); exact (LM_T hT); (first | assumption | exact m39 | exact m44); rfl; rfl; (first | with_reducible rfl | with_reducible exact ixo _ | with_reducible exact ixoc _ _ | with_reducible exact ixom _ _ _ | with_reducible exact ixop _ _ | with_reducible exact ixod _ _ | assumption); omega) | ((first | with_reducible apply w_TA | with_reducible apply w_TW | with_reducible apply w_TJ | with_reducible apply w_TK); exact hT; rfl; rfl; (first | with_reducible rfl | with_reducible exact ixo _ | with_reducible exact ixoc _ _ | with_reducible exact ixom _ _ _ | with_reducible exact ixop _ _ | with_reducible exact ixod _ _ | assumption); omega))
        refine v_eq (listC1 hC ho) ?_
        refine v_ie (by decide) ?_
        repeat (first | with_reducible apply v_lt | ((with_reducible apply vXR4); exact hT) | ((with_reducible apply w_XR); exact (LM_T hT); rfl) | ((with_reducible apply w_TR); exact hT; rfl) | ((with_reducible apply w_UR); exact hT; rfl) | ((first | with_reducible apply vXI | with_reducible apply vXS | with_reducible apply vXC); exact (LM_T hT)) | ((first | with_reducible apply vT0I | with_reducible apply vT9I | with_reducible apply vT0C | with_reducible apply vT9C | with_reducible apply vT0S | with_reducible apply vT9S); exact hT) | ((first | with_reducible apply vNR0 | with_reducible apply vNR1 | with_reducible apply vNR2 | with_reducible apply vNR3 | with_reducible apply vNI | with_reducible apply vNS | with_reducible apply vNC); (first | assumption | exact m39 | exact m44); exact (LM_T hT)) | ((first | with_reducible apply w_NA | with_reducible apply w_NW); exact (LM_T hT); (first | assumption | exact m39 | exact m44); rfl; rfl; (first | with_reducible rfl | with_reducible exact ixo _ | with_reducible exact ixoc _ _ | with_reducible exact ixom _ _ _ | with_reducible exact ixop _ _ | with_reducible exact ixod _ _ | assumption); omega) | ((first | with_reducible apply w_TA | with_reducible apply w_TW | with_reducible apply w_TJ | with_reducible apply w_TK); exact hT; rfl; rfl; (first | with_reducible rfl | with_reducible exact ixo _ | with_reducible exact ixoc _ _ | with_reducible exact ixom _ _ _ | with_reducible exact ixop _ _ | with_reducible exact ixod _ _ | assumption); omega))
        exact v_eq (roleC0 hC q) (v_it rfl (v_rI ⟨eo_rf, rfl⟩))
      · have hM1 := hS1.2.1
        obtain ⟨hy1, hl, hlv1, htx1, hng1, -, -⟩ := id hM1
        have hL1 := LM_of hy1
        unfold fX10_sure
        repeat (first | with_reducible apply v_lt | ((with_reducible apply w_MR); exact hL1; rfl) | ((with_reducible apply w_lv); exact hL1; assumption) | ((with_reducible apply vMI); exact hL1) | ((with_reducible apply vMS); exact hL1) | ((with_reducible apply vMC); exact hL1) | ((with_reducible apply vMZ); exact hL1; (first | exact Or.inl rfl | exact Or.inr rfl | exact b2i_01 _ | assumption)) | ((first | with_reducible apply w_MA | with_reducible apply w_MW | with_reducible apply w_MY | with_reducible apply w_MB | with_reducible apply w_MJ | with_reducible apply w_MK); exact hL1; rfl; rfl; rfl; (first | with_reducible rfl | with_reducible exact ixo _ | with_reducible exact ixoc _ _ | with_reducible exact ixom _ _ _ | with_reducible exact ixop _ _ | with_reducible exact ixod _ _ | assumption); omega))
        refine v_eq (listM1 hM1 ho) ?_
        refine v_ie (by decide) ?_
        repeat (first | with_reducible apply v_lt | ((with_reducible apply w_MR); exact hL1; rfl) | ((with_reducible apply w_lv); exact hL1; assumption) | ((with_reducible apply vMI); exact hL1) | ((with_reducible apply vMS); exact hL1) | ((with_reducible apply vMC); exact hL1) | ((with_reducible apply vMZ); exact hL1; (first | exact Or.inl rfl | exact Or.inr rfl | exact b2i_01 _ | assumption)) | ((first | with_reducible apply w_MA | with_reducible apply w_MW | with_reducible apply w_MY | with_reducible apply w_MB | with_reducible apply w_MJ | with_reducible apply w_MK); exact hL1; rfl; rfl; rfl; (first | with_reducible rfl | with_reducible exact ixo _ | with_reducible exact ixoc _ _ | with_reducible exact ixom _ _ _ | with_reducible exact ixop _ _ | with_reducible exact ixod _ _ | assumption); omega))
        exact v_eq (roleM0 hM1 q) (v_it rfl (v_rI ⟨eo_rf, rfl⟩))
  · refine pr_q (-1) hS ?_ (fun h1 hS1 => ?_)
    · unfold fX9_sure
      repeat (first | with_reducible apply v_lt | ((with_reducible apply vXR4); exact hT) | ((with_reducible apply w_XR); exact (LM_T hT); rfl) | ((with_reducible apply w_TR); exact hT; rfl) | ((with_reducible apply w_UR); exact hT; rfl) | ((first | with_reducible apply vXI | with_reducible apply vXS | with_reducible apply vXC); exact (LM_T hT)) | ((first | with_reducible apply vT0I | with_reducible apply vT9I | with_reducible apply vT0C | with_reducible apply vT9C | with_reducible apply vT0S | with_reducible apply vT9S); exact hT) | ((first | with_reducible apply vNR0 | with_reducible apply vNR1 | with_reducible apply vNR2 | with_reducible apply vNR3 | with_reducible apply vNI | with_reducible apply vNS | with_reducible apply vNC); (first | assumption | exact m39 | exact m44); exact (LM_T hT)) | ((first | with_reducible apply w_NA | with_reducible apply w_NW); exact (LM_T hT); (first | assumption | exact m39 | exact m44); rfl; rfl; (first | with_reducible rfl | with_reducible exact ixo _ | with_reducible exact ixoc _ _ | with_reducible exact ixom _ _ _ | with_reducible exact ixop _ _ | with_reducible exact ixod _ _ | assumption); omega) | ((first | with_reducible apply w_TA | with_reducible apply w_TW | with_reducible apply w_TJ | with_reducible apply w_TK); exact hT; rfl; rfl; (first | with_reducible rfl | with_reducible exact ixo _ | with_reducible exact ixoc _ _ | with_reducible exact ixom _ _ _ | with_reducible exact ixop _ _ | with_reducible exact ixod _ _ | assumption); omega))
      exact v_eq (listC0 hC q) (v_it rfl (v_rI ⟨eo_rf, rfl⟩))
    · have hM1 := hS1.2.1
      obtain ⟨hy1, hl, hlv1, htx1, hng1, -, -⟩ := id hM1
      have hL1 := LM_of hy1
      unfold fX10_sure
      repeat (first | with_reducible apply v_lt | ((with_reducible apply w_MR); exact hL1; rfl) | ((with_reducible apply w_lv); exact hL1; assumption) | ((with_reducible apply vMI); exact hL1) | ((with_reducible apply vMS); exact hL1) | ((with_reducible apply vMC); exact hL1) | ((with_reducible apply vMZ); exact hL1; (first | exact Or.inl rfl | exact Or.inr rfl | exact b2i_01 _ | assumption)) | ((first | with_reducible apply w_MA | with_reducible apply w_MW | with_reducible apply w_MY | with_reducible apply w_MB | with_reducible apply w_MJ | with_reducible apply w_MK); exact hL1; rfl; rfl; rfl; (first | with_reducible rfl | with_reducible exact ixo _ | with_reducible exact ixoc _ _ | with_reducible exact ixom _ _ _ | with_reducible exact ixop _ _ | with_reducible exact ixod _ _ | assumption); omega))
      exact v_eq (listM0 hM1 q) (v_it rfl (v_rI ⟨eo_rf, rfl⟩))
theorem ndn_or (a b c : Nat) : ndn (ndn a b) c = ndn a (b ||| c) := by
  apply Nat.eq_of_testBit_eq
  intro i
  rw [ndn_tb, ndn_tb, ndn_tb, Nat.testBit_or]
  cases a.testBit i <;> cases b.testBit i <;> cases c.testBit i <;> rfl
theorem ndn_0 (a : Nat) : ndn a 0 = a := by
  apply Nat.eq_of_testBit_eq
  intro i
  rw [ndn_tb, Nat.zero_testBit]
  cases a.testBit i <;> rfl
theorem st_never {fu : Nat} (hfu : 1000 ≤ fu) (h : mh) (x0 : Int32) (hS : Sim h) : pr Sim (fX9_never fu 0 x0 h) (fun h1 => fX10_never fu 299 x0 h1) := by
  obtain ⟨t, u, l, T, N, D, hS⟩ := hS
  have hC := hS.1
  have hT := LT_of hC.1
  obtain ⟨hy, htx, hng, -, hwT, hwN⟩ := id hC
  have hr6 := hwT.1
  have ho6 := hwT.2.1
  by_cases q : ∃ r, r < nL9 T ∧ x0 = nI r
  · obtain ⟨o, ho, rfl⟩ := q
    refine pr_q (nI (ndn (lack T N o) (orU (kw T) (nR T)))) hS ?_ (fun h1 hS1 => ?_)
    · unfold fX9_never
      repeat (first | with_reducible apply v_lt | ((with_reducible apply vXR4); exact hT) | ((with_reducible apply w_XR); exact (LM_T hT); rfl) | ((with_reducible apply w_TR); exact hT; rfl) | ((with_reducible apply w_UR); exact hT; rfl) | ((first | with_reducible apply vXI | with_reducible apply vXS | with_reducible apply vXC); exact (LM_T hT)) | ((first | with_reducible apply vT0I | with_reducible apply vT9I | with_reducible apply vT0C | with_reducible apply vT9C | with_reducible apply vT0S | with_reducible apply vT9S); exact hT) | ((first | with_reducible apply vNR0 | with_reducible apply vNR1 | with_reducible apply vNR2 | with_reducible apply vNR3 | with_reducible apply vNI | with_reducible apply vNS | with_reducible apply vNC); (first | assumption | exact m39 | exact m44); exact (LM_T hT)) | ((first | with_reducible apply w_NA | with_reducible apply w_NW); exact (LM_T hT); (first | assumption | exact m39 | exact m44); rfl; rfl; (first | with_reducible rfl | with_reducible exact ixo _ | with_reducible exact ixoc _ _ | with_reducible exact ixom _ _ _ | with_reducible exact ixop _ _ | with_reducible exact ixod _ _ | assumption); omega) | ((first | with_reducible apply w_TA | with_reducible apply w_TW | with_reducible apply w_TJ | with_reducible apply w_TK); exact hT; rfl; rfl; (first | with_reducible rfl | with_reducible exact ixo _ | with_reducible exact ixoc _ _ | with_reducible exact ixom _ _ _ | with_reducible exact ixop _ _ | with_reducible exact ixod _ _ | assumption); omega))
      refine v_eq (listC1 hC ho) ?_
      refine v_ie (by decide) ?_
      repeat (first | with_reducible apply v_lt | ((with_reducible apply vXR4); exact hT) | ((with_reducible apply w_XR); exact (LM_T hT); rfl) | ((with_reducible apply w_TR); exact hT; rfl) | ((with_reducible apply w_UR); exact hT; rfl) | ((first | with_reducible apply vXI | with_reducible apply vXS | with_reducible apply vXC); exact (LM_T hT)) | ((first | with_reducible apply vT0I | with_reducible apply vT9I | with_reducible apply vT0C | with_reducible apply vT9C | with_reducible apply vT0S | with_reducible apply vT9S); exact hT) | ((first | with_reducible apply vNR0 | with_reducible apply vNR1 | with_reducible apply vNR2 | with_reducible apply vNR3 | with_reducible apply vNI | with_reducible apply vNS | with_reducible apply vNC); (first | assumption | exact m39 | exact m44); exact (LM_T hT)) | ((first | with_reducible apply w_NA | with_reducible apply w_NW); exact (LM_T hT); (first | assumption | exact m39 | exact m44); rfl; rfl; (first | with_reducible rfl | with_reducible exact ixo _ | with_reducible exact ixoc _ _ | with_reducible exact ixom _ _ _ | with_reducible exact ixop _ _ | with_reducible exact ixod _ _ | assumption); omega) | ((first | with_reducible apply w_TA | with_reducible apply w_TW | with_reducible apply w_TJ | with_reducible apply w_TK); exact hT; rfl; rfl; (first | with_reducible rfl | with_reducible exact ixo _ | with_reducible exact ixoc _ _ | with_reducible exact ixom _ _ _ | with_reducible exact ixop _ _ | with_reducible exact ixod _ _ | assumption); omega))
      refine v_eq (lackC hC ho) ?_
      repeat (first | with_reducible apply v_lt | ((with_reducible apply vXR4); exact hT) | ((with_reducible apply w_XR); exact (LM_T hT); rfl) | ((with_reducible apply w_TR); exact hT; rfl) | ((with_reducible apply w_UR); exact hT; rfl) | ((first | with_reducible apply vXI | with_reducible apply vXS | with_reducible apply vXC); exact (LM_T hT)) | ((first | with_reducible apply vT0I | with_reducible apply vT9I | with_reducible apply vT0C | with_reducible apply vT9C | with_reducible apply vT0S | with_reducible apply vT9S); exact hT) | ((first | with_reducible apply vNR0 | with_reducible apply vNR1 | with_reducible apply vNR2 | with_reducible apply vNR3 | with_reducible apply vNI | with_reducible apply vNS | with_reducible apply vNC); (first | assumption | exact m39 | exact m44); exact (LM_T hT)) | ((first | with_reducible apply w_NA | with_reducible apply w_NW); exact (LM_T hT); (first | assumption | exact m39 | exact m44); rfl; rfl; (first | with_reducible rfl | with_reducible exact ixo _ | with_reducible exact ixoc _ _ | with_reducible exact ixom _ _ _ | with_reducible exact ixop _ _ | with_reducible exact ixod _ _ | assumption); omega) | ((first | with_reducible apply w_TA | with_reducible apply w_TW | with_reducible apply w_TJ | with_reducible apply w_TK); exact hT; rfl; rfl; (first | with_reducible rfl | with_reducible exact ixo _ | with_reducible exact ixoc _ _ | with_reducible exact ixom _ _ _ | with_reducible exact ixop _ _ | with_reducible exact ixod _ _ | assumption); omega))
      refine v_eq (knownByC hC hfu) ?_
      rw [fa_andn]
      exact v_rI ⟨eo_rf, rfl⟩
    · have hM1 := hS1.2.1
      obtain ⟨hy1, hl, hlv1, htx1, hng1, -, -⟩ := id hM1
      have hL1 := LM_of hy1
      unfold fX10_never
      repeat (first | with_reducible apply v_lt | ((with_reducible apply w_MR); exact hL1; rfl) | ((with_reducible apply w_lv); exact hL1; assumption) | ((with_reducible apply vMI); exact hL1) | ((with_reducible apply vMS); exact hL1) | ((with_reducible apply vMC); exact hL1) | ((with_reducible apply vMZ); exact hL1; (first | exact Or.inl rfl | exact Or.inr rfl | exact b2i_01 _ | assumption)) | ((first | with_reducible apply w_MA | with_reducible apply w_MW | with_reducible apply w_MY | with_reducible apply w_MB | with_reducible apply w_MJ | with_reducible apply w_MK); exact hL1; rfl; rfl; rfl; (first | with_reducible rfl | with_reducible exact ixo _ | with_reducible exact ixoc _ _ | with_reducible exact ixom _ _ _ | with_reducible exact ixop _ _ | with_reducible exact ixod _ _ | assumption); omega))
      refine v_eq (listM1 hM1 ho) ?_
      refine v_ie (by decide) ?_
      repeat (first | with_reducible apply v_lt | ((with_reducible apply w_MR); exact hL1; rfl) | ((with_reducible apply w_lv); exact hL1; assumption) | ((with_reducible apply vMI); exact hL1) | ((with_reducible apply vMS); exact hL1) | ((with_reducible apply vMC); exact hL1) | ((with_reducible apply vMZ); exact hL1; (first | exact Or.inl rfl | exact Or.inr rfl | exact b2i_01 _ | assumption)) | ((first | with_reducible apply w_MA | with_reducible apply w_MW | with_reducible apply w_MY | with_reducible apply w_MB | with_reducible apply w_MJ | with_reducible apply w_MK); exact hL1; rfl; rfl; rfl; (first | with_reducible rfl | with_reducible exact ixo _ | with_reducible exact ixoc _ _ | with_reducible exact ixom _ _ _ | with_reducible exact ixop _ _ | with_reducible exact ixod _ _ | assumption); omega))
      rw [(htx1.2.2.2.1 o ho).1, (hng1.1 o (by omega)).2.2.1, fa_andn]
      refine loop3 (I := fun j v h' => h' = h1 ∧ v = nI (ndn (lack T N o) (orU (kw T) j))) (n := nR T) (by omega) hfu ⟨rfl, by show _ = nI (ndn (lack T N o) 0); rw [ndn_0]; rfl⟩ ?_ ?_
      · intro v h2 k hI
        obtain ⟨rfl, rfl⟩ := hI
        unfold bX10_never_39
        dsimp only
        repeat (first | with_reducible apply v_lt | ((with_reducible apply w_MR); exact hL1; rfl) | ((with_reducible apply w_lv); exact hL1; assumption) | ((with_reducible apply vMI); exact hL1) | ((with_reducible apply vMS); exact hL1) | ((with_reducible apply vMC); exact hL1) | ((with_reducible apply vMZ); exact hL1; (first | exact Or.inl rfl | exact Or.inr rfl | exact b2i_01 _ | assumption)) | ((first | with_reducible apply w_MA | with_reducible apply w_MW | with_reducible apply w_MY | with_reducible apply w_MB | with_reducible apply w_MJ | with_reducible apply w_MK); exact hL1; rfl; rfl; rfl; (first | with_reducible rfl | with_reducible exact ixo _ | with_reducible exact ixoc _ _ | with_reducible exact ixom _ _ _ | with_reducible exact ixop _ _ | with_reducible exact ixod _ _ | assumption); omega))
        rw [htx1.1]
        exact v_it (nI_le (Nat.le_refl _) (by omega)) (v_rI ⟨eo_rf, rfl⟩)
      · intro j v h2 k hj hI hk
        obtain ⟨rfl, rfl⟩ := hI
        unfold bX10_never_39
        dsimp only
        repeat (first | with_reducible apply v_lt | ((with_reducible apply w_MR); exact hL1; rfl) | ((with_reducible apply w_lv); exact hL1; assumption) | ((with_reducible apply vMI); exact hL1) | ((with_reducible apply vMS); exact hL1) | ((with_reducible apply vMC); exact hL1) | ((with_reducible apply vMZ); exact hL1; (first | exact Or.inl rfl | exact Or.inr rfl | exact b2i_01 _ | assumption)) | ((first | with_reducible apply w_MA | with_reducible apply w_MW | with_reducible apply w_MY | with_reducible apply w_MB | with_reducible apply w_MJ | with_reducible apply w_MK); exact hL1; rfl; rfl; rfl; (first | with_reducible rfl | with_reducible exact ixo _ | with_reducible exact ixoc _ _ | with_reducible exact ixom _ _ _ | with_reducible exact ixop _ _ | with_reducible exact ixod _ _ | assumption); omega))
        rw [htx1.1]
        refine v_ie (nI_ge hj (by omega)) ?_
        repeat (first | with_reducible apply v_lt | ((with_reducible apply w_MR); exact hL1; rfl) | ((with_reducible apply w_lv); exact hL1; assumption) | ((with_reducible apply vMI); exact hL1) | ((with_reducible apply vMS); exact hL1) | ((with_reducible apply vMC); exact hL1) | ((with_reducible apply vMZ); exact hL1; (first | exact Or.inl rfl | exact Or.inr rfl | exact b2i_01 _ | assumption)) | ((first | with_reducible apply w_MA | with_reducible apply w_MW | with_reducible apply w_MY | with_reducible apply w_MB | with_reducible apply w_MJ | with_reducible apply w_MK); exact hL1; rfl; rfl; rfl; (first | with_reducible rfl | with_reducible exact ixo _ | with_reducible exact ixoc _ _ | with_reducible exact ixom _ _ _ | with_reducible exact ixop _ _ | with_reducible exact ixod _ _ | assumption); omega))
        rw [(htx1.2.2.1 j hj).1, fa_andn]
        refine hk _ _ ⟨rfl, ?_⟩
        show nI (ndn _ _) = nI (ndn (lack T N o) (orU (kw T) j ||| kw T j))
        rw [ndn_or]
  · refine pr_q (-1) hS ?_ (fun h1 hS1 => ?_)
    · unfold fX9_never
      repeat (first | with_reducible apply v_lt | ((with_reducible apply vXR4); exact hT) | ((with_reducible apply w_XR); exact (LM_T hT); rfl) | ((with_reducible apply w_TR); exact hT; rfl) | ((with_reducible apply w_UR); exact hT; rfl) | ((first | with_reducible apply vXI | with_reducible apply vXS | with_reducible apply vXC); exact (LM_T hT)) | ((first | with_reducible apply vT0I | with_reducible apply vT9I | with_reducible apply vT0C | with_reducible apply vT9C | with_reducible apply vT0S | with_reducible apply vT9S); exact hT) | ((first | with_reducible apply vNR0 | with_reducible apply vNR1 | with_reducible apply vNR2 | with_reducible apply vNR3 | with_reducible apply vNI | with_reducible apply vNS | with_reducible apply vNC); (first | assumption | exact m39 | exact m44); exact (LM_T hT)) | ((first | with_reducible apply w_NA | with_reducible apply w_NW); exact (LM_T hT); (first | assumption | exact m39 | exact m44); rfl; rfl; (first | with_reducible rfl | with_reducible exact ixo _ | with_reducible exact ixoc _ _ | with_reducible exact ixom _ _ _ | with_reducible exact ixop _ _ | with_reducible exact ixod _ _ | assumption); omega) | ((first | with_reducible apply w_TA | with_reducible apply w_TW | with_reducible apply w_TJ | with_reducible apply w_TK); exact hT; rfl; rfl; (first | with_reducible rfl | with_reducible exact ixo _ | with_reducible exact ixoc _ _ | with_reducible exact ixom _ _ _ | with_reducible exact ixop _ _ | with_reducible exact ixod _ _ | assumption); omega))
      exact v_eq (listC0 hC q) (v_it rfl (v_rI ⟨eo_rf, rfl⟩))
    · have hM1 := hS1.2.1
      obtain ⟨hy1, hl, hlv1, htx1, hng1, -, -⟩ := id hM1
      have hL1 := LM_of hy1
      unfold fX10_never
      repeat (first | with_reducible apply v_lt | ((with_reducible apply w_MR); exact hL1; rfl) | ((with_reducible apply w_lv); exact hL1; assumption) | ((with_reducible apply vMI); exact hL1) | ((with_reducible apply vMS); exact hL1) | ((with_reducible apply vMC); exact hL1) | ((with_reducible apply vMZ); exact hL1; (first | exact Or.inl rfl | exact Or.inr rfl | exact b2i_01 _ | assumption)) | ((first | with_reducible apply w_MA | with_reducible apply w_MW | with_reducible apply w_MY | with_reducible apply w_MB | with_reducible apply w_MJ | with_reducible apply w_MK); exact hL1; rfl; rfl; rfl; (first | with_reducible rfl | with_reducible exact ixo _ | with_reducible exact ixoc _ _ | with_reducible exact ixom _ _ _ | with_reducible exact ixop _ _ | with_reducible exact ixod _ _ | assumption); omega))
      exact v_eq (listM0 hM1 q) (v_it rfl (v_rI ⟨eo_rf, rfl⟩))
/-- the first of the fewest -/
def minU (g : Nat → Nat) : Nat → Nat
  | 0 => 0
  | j + 1 => if g j < g (minU g j) then j else minU g j
theorem minU_lt (g : Nat → Nat) : ∀ j, 0 < j → minU g j < j
  | 0, h => by omega
  | 1, _ => by
    unfold minU
    split
    · omega
    · show (0 : Nat) < 1
      omega
  | j + 2, _ => by
    have := minU_lt g (j + 1) (by omega)
    unfold minU
    split <;> omega
theorem pop_le (j : Nat) : ∀ n, pop j n ≤ n
  | 0 => Nat.le_refl _
  | n + 1 => by
    have := pop_le j n
    unfold pop
    split <;> omega
theorem pop64 : ∀ j, j < 64 → pop j 8 ≤ 6 := by decide +kernel
theorem minU_1 (g : Nat → Nat) : minU g 1 = 0 := by
  unfold minU
  split
  · rfl
  · rfl
theorem minU_s (g : Nat → Nat) (j : Nat) : minU g (j + 1) = if g j < g (minU g j) then j else minU g j := rfl
theorem st_rarest {fu : Nat} (hfu : 1000 ≤ fu) (h : mh) (x0 : Int32) (hS : Sim h) : pr Sim (fX9_rarest fu 0 x0 h) (fun h1 => fX10_rarest fu 299 x0 h1) := by
  obtain ⟨t, u, l, T, N, D, hS⟩ := hS
  have hC := hS.1
  have hT := LT_of hC.1
  obtain ⟨hy, htx, hng, -, hwT, hwN⟩ := id hC
  have hr6 := hwT.1
  have ho6 := hwT.2.1
  by_cases q : ∃ w, w < 2 ∧ x0 = nI w
  · obtain ⟨w, hw, rfl⟩ := q
    have hb : ∀ f, hoV T N f < 256 := fun f => bitsU_256 _ (by omega)
    obtain ⟨g, hg⟩ : ∃ g : Nat → Nat, ∀ f, pop (hoV T N f) 8 = g f := ⟨fun f => pop (hoV T N f) 8, fun _ => rfl⟩
    have hp : ∀ f, g f ≤ 6 := fun f => by
      rw [← hg]
      exact pop64 _ (bitsU_64 _ (by omega))
    have m8 : minU g 8 < 8 := minU_lt _ 8 (by omega)
    refine pr_q (if nI w = 0 then nI (minU g 8) else nI (g (minU g 8))) hS ?_ (fun h1 hS1 => ?_)
    · unfold fX9_rarest
      refine v_in (n := 1) (by omega) (by decide) ?_
      refine loop4 (I := fun j v y h' => h' = h ∧ v = nI (minU g j) ∧ y = if j = 0 then 7 else nI (g (minU g j))) (n := 8) (by omega) hfu ⟨rfl, rfl, rfl⟩ ?_ ?_
      · intro v y h2 k hI
        obtain ⟨rfl, rfl, rfl⟩ := hI
        unfold bX9_rarest_19
        dsimp only
        refine v_it (by decide) ?_
        exact r_2 ⟨eo_rf, rfl⟩
      · intro j v y h2 k hj hI hk
        obtain ⟨rfl, rfl, rfl⟩ := hI
        unfold bX9_rarest_19
        dsimp only
        refine v_ie (nI_ge (b := 8) hj (by omega)) ?_
        repeat (first | with_reducible apply v_lt | ((with_reducible apply vXR4); exact hT) | ((with_reducible apply w_XR); exact (LM_T hT); rfl) | ((with_reducible apply w_TR); exact hT; rfl) | ((with_reducible apply w_UR); exact hT; rfl) | ((first | with_reducible apply vXI | with_reducible apply vXS | with_reducible apply vXC); exact (LM_T hT)) | ((first | with_reducible apply vT0I | with_reducible apply vT9I | with_reducible apply vT0C | with_reducible apply vT9C | with_reducible apply vT0S | with_reducible apply vT9S); exact hT) | ((first | with_reducible apply vNR0 | with_reducible apply vNR1 | with_reducible apply vNR2 | with_reducible apply vNR3 | with_reducible apply vNI | with_reducible apply vNS | with_reducible apply vNC); (first | assumption | exact m39 | exact m44); exact (LM_T hT)) | ((first | with_reducible apply w_NA | with_reducible apply w_NW); exact (LM_T hT); (first | assumption | exact m39 | exact m44); rfl; rfl; (first | with_reducible rfl | with_reducible exact ixo _ | with_reducible exact ixoc _ _ | with_reducible exact ixom _ _ _ | with_reducible exact ixop _ _ | with_reducible exact ixod _ _ | assumption); omega) | ((first | with_reducible apply w_TA | with_reducible apply w_TW | with_reducible apply w_TJ | with_reducible apply w_TK); exact hT; rfl; rfl; (first | with_reducible rfl | with_reducible exact ixo _ | with_reducible exact ixoc _ _ | with_reducible exact ixom _ _ _ | with_reducible exact ixop _ _ | with_reducible exact ixod _ _ | assumption); omega))
        refine v_eq (holdersC hC hfu hj) ?_
        refine v_eq (bitC (hb j)) ?_
        rw [hg]
        have h1' := hp j
        by_cases j0 : j = 0
        · subst j0
          refine v_ie (nI_ge (b := 7) (by omega) (by decide)) ?_
          refine hk _ _ _ ⟨rfl, ?_, ?_⟩
          · rw [minU_1]
          · rw [minU_1]
            rfl
        · rw [if_neg j0]
          have h2' := hp (minU g j)
          refine v_if (fun e => hk _ _ _ ⟨rfl, ?_, ?_⟩) (fun e => hk _ _ _ ⟨rfl, ?_, ?_⟩)
          · rw [nI_leI (by omega) (by omega)] at e
            rw [minU_s, if_neg (by omega)]
          · rw [nI_leI (by omega) (by omega)] at e
            rw [if_neg (by omega), minU_s, if_neg (by omega)]
          · rw [nI_leI (by omega) (by omega)] at e
            rw [minU_s, if_pos (by omega)]
          · rw [nI_leI (by omega) (by omega)] at e
            rw [if_neg (by omega), minU_s, if_pos (by omega)]
    · have hM1 := hS1.2.1
      obtain ⟨hy1, hl, hlv1, htx1, hng1, -, -⟩ := id hM1
      have hL1 := LM_of hy1
      unfold fX10_rarest
      refine v_eq (in_1 (b := 1) (by omega) (by decide)) ?_
      refine v_ie (by decide) ?_
      refine loop3b 1 7 (I := fun j v h' => h' = h1 ∧ v = nI (minU g (1 + j))) (by omega) hfu rfl ⟨rfl, by rw [minU_1]; rfl⟩ ?_ ?_
      · intro v h2 k hI
        obtain ⟨rfl, rfl⟩ := hI
        unfold bX10_rarest_15
        dsimp only
        refine v_it (by decide) ?_
        unfold fX10_rarest_48
        refine v_if (fun e => v_rI ⟨eo_rf, by rw [if_pos e]⟩) (fun e => ?_)
        rw [if_neg e]
        repeat (first | with_reducible apply v_lt | ((with_reducible apply w_MR); exact hL1; rfl) | ((with_reducible apply w_lv); exact hL1; assumption) | ((with_reducible apply vMI); exact hL1) | ((with_reducible apply vMS); exact hL1) | ((with_reducible apply vMC); exact hL1) | ((with_reducible apply vMZ); exact hL1; (first | exact Or.inl rfl | exact Or.inr rfl | exact b2i_01 _ | assumption)) | ((first | with_reducible apply w_MA | with_reducible apply w_MW | with_reducible apply w_MY | with_reducible apply w_MB | with_reducible apply w_MJ | with_reducible apply w_MK); exact hL1; rfl; rfl; rfl; (first | with_reducible rfl | with_reducible exact ixo _ | with_reducible exact ixoc _ _ | with_reducible exact ixom _ _ _ | with_reducible exact ixop _ _ | with_reducible exact ixod _ _ | assumption); omega))
        refine v_eq (holdersM hM1 hfu m8) ?_
        refine v_eq (bitM (by omega) (hb _)) (v_rI ⟨eo_rf, ?_⟩)
        rw [hg]
      · intro j v h2 k hj hI hk
        obtain ⟨rfl, rfl⟩ := hI
        have hm := minU_lt g (1 + j) (by omega)
        unfold bX10_rarest_15
        dsimp only
        refine v_ie (nI_ge (b := 8) (by omega) (by omega)) ?_
        repeat (first | with_reducible apply v_lt | ((with_reducible apply w_MR); exact hL1; rfl) | ((with_reducible apply w_lv); exact hL1; assumption) | ((with_reducible apply vMI); exact hL1) | ((with_reducible apply vMS); exact hL1) | ((with_reducible apply vMC); exact hL1) | ((with_reducible apply vMZ); exact hL1; (first | exact Or.inl rfl | exact Or.inr rfl | exact b2i_01 _ | assumption)) | ((first | with_reducible apply w_MA | with_reducible apply w_MW | with_reducible apply w_MY | with_reducible apply w_MB | with_reducible apply w_MJ | with_reducible apply w_MK); exact hL1; rfl; rfl; rfl; (first | with_reducible rfl | with_reducible exact ixo _ | with_reducible exact ixoc _ _ | with_reducible exact ixom _ _ _ | with_reducible exact ixop _ _ | with_reducible exact ixod _ _ | assumption); omega))
        refine v_eq (holdersM hM1 hfu (by omega)) ?_
        refine v_eq (bitM (by omega) (hb _)) ?_
        repeat (first | with_reducible apply v_lt | ((with_reducible apply w_MR); exact hL1; rfl) | ((with_reducible apply w_lv); exact hL1; assumption) | ((with_reducible apply vMI); exact hL1) | ((with_reducible apply vMS); exact hL1) | ((with_reducible apply vMC); exact hL1) | ((with_reducible apply vMZ); exact hL1; (first | exact Or.inl rfl | exact Or.inr rfl | exact b2i_01 _ | assumption)) | ((first | with_reducible apply w_MA | with_reducible apply w_MW | with_reducible apply w_MY | with_reducible apply w_MB | with_reducible apply w_MJ | with_reducible apply w_MK); exact hL1; rfl; rfl; rfl; (first | with_reducible rfl | with_reducible exact ixo _ | with_reducible exact ixoc _ _ | with_reducible exact ixom _ _ _ | with_reducible exact ixop _ _ | with_reducible exact ixod _ _ | assumption); omega))
        refine v_eq (holdersM hM1 hfu (by omega)) ?_
        refine v_eq (bitM (by omega) (hb _)) ?_
        rw [hg, hg]
        have h3 := hp (1 + j)
        have h4 := hp (minU g (1 + j))
        have em : minU g (1 + (j + 1)) = if g (1 + j) < g (minU g (1 + j)) then 1 + j else minU g (1 + j) := by
          rw [show 1 + (j + 1) = (1 + j) + 1 from by omega]
          rfl
        refine v_if (fun e => hk _ _ ⟨rfl, ?_⟩) (fun e => hk _ _ ⟨rfl, ?_⟩)
        · rw [nI_leI (by omega) (by omega)] at e
          rw [em, if_neg (by omega)]
        · rw [nI_leI (by omega) (by omega)] at e
          rw [em, if_pos (by omega)]
  · refine pr_q (-1) hS ?_ (fun h1 hS1 => ?_)
    · unfold fX9_rarest
      exact v_out (n := 1) q (by decide) (v_rI ⟨eo_rf, rfl⟩) (v_rI ⟨eo_rf, rfl⟩)
    · unfold fX10_rarest
      exact v_eq (in_0 (b := 2) (by decide) (by decide) q) (v_it rfl (v_rI ⟨eo_rf, rfl⟩))
