/-! THE REFERENCE READS: who really is whom, all of it -/
theorem opC_lt {o : Option Nat} {n : Nat} (hn : n < 2 ^ 31) (ho : ∀ r, o = some r → r < n) : (opC o < 0 ↔ o = none) := by
  cases o with
  | none => exact ⟨fun _ => rfl, fun _ => by decide⟩
  | some r =>
    have hr := ho r rfl
    exact ⟨fun z => absurd z (nI_pos (by omega)), fun z => by cases z⟩
theorem tF_re1 {A : RT} {l : List Nat} {p : Nat} : tF (re1 A l p) = knF A true (tF A) l p := by
  unfold re1 knF kN9
  rw [if_pos rfl]
  split
  · exact tF_nt
  · rfl
theorem re1_N {A : RT} {l : List Nat} {p : Nat} : tN (re1 A l p) = tN A := by
  unfold re1
  split
  · exact nt_N
  · rfl
theorem rN9_X {A B : RT} {l : List Nat} (eX : tX B = tX A) (eN : tN B = tN A) : rN9 B l = rN9 A l := by
  unfold rN9
  rw [eX, eN]
set_option maxHeartbeats 4000000 in
theorem reaT {fu s i : Nat} {τ : Nat → Tk} {A : RT} {h : mh} (hfu : 1000 ≤ fu) (hT : tkOk τ) (hs : s < 2) (hL : LM h.2) (r : relM τ s A i h) (hk : tkK (τ i) = 2) : ok (fX10_tellOne fu 299 h) (fun _ h' => tellQ τ s A i h h') := by
  obtain ⟨⟨a, g12, g19⟩, t, ⟨no, nm⟩, f, fp, lw, w⟩ := r
  obtain ⟨⟨t1, t2, t3, t4, t5, t6⟩, t7, t8, t9⟩ := id t
  have wa : wA A := w.1
  obtain ⟨w0, w1, w2⟩ := wa.1
  have hi := a.2.2.1
  have a1 := a.1
  have row := (a.2.2.2.2 i hi a.2.2.2.1).1
  obtain ⟨O1, O2, O3⟩ := openX hi w hk (by omega)
  rw [ful_2] at O1 O2 O3
  obtain ⟨R, hR⟩ : ∃ R, R = run τ (bd9 A) i := ⟨_, rfl⟩
  rw [← hR] at O1 O2 O3
  have tq : ∀ h', eL (sRm s) lEn h h' → ddR R h' → tellQ τ s A i h h' := fun h' z1 z2 => ⟨z1, Or.inr (by rw [← hR]; exact z2)⟩
  unfold fX10_tellOne
  repeat (first | with_reducible apply v_lt | ((with_reducible apply w_MR); exact hL; rfl) | ((with_reducible apply w_lv); exact hL; assumption) | ((with_reducible apply vMI); exact hL) | ((with_reducible apply vMS); exact hL) | ((with_reducible apply vMC); exact hL) | ((with_reducible apply vMZ); exact hL; (first | exact Or.inl rfl | exact Or.inr rfl | exact b2i_01 _ | assumption)) | ((first | with_reducible apply w_MA | with_reducible apply w_MW | with_reducible apply w_MY | with_reducible apply w_MB | with_reducible apply w_MJ | with_reducible apply w_MK); exact hL; rfl; rfl; rfl; (first | with_reducible rfl | with_reducible exact ixo _ | with_reducible exact ixoc _ _ | with_reducible exact ixom _ _ _ | with_reducible exact ixop _ _ | with_reducible exact ixod _ _ | assumption); omega))
  rw [row, hk]
  refine v_ie (by decide) (v_ie (by decide) (v_it rfl ?_))
  repeat (first | with_reducible apply v_lt | ((with_reducible apply w_MR); exact hL; rfl) | ((with_reducible apply w_lv); exact hL; assumption) | ((with_reducible apply vMI); exact hL) | ((with_reducible apply vMS); exact hL) | ((with_reducible apply vMC); exact hL) | ((with_reducible apply vMZ); exact hL; (first | exact Or.inl rfl | exact Or.inr rfl | exact b2i_01 _ | assumption)) | ((first | with_reducible apply w_MA | with_reducible apply w_MW | with_reducible apply w_MY | with_reducible apply w_MB | with_reducible apply w_MJ | with_reducible apply w_MK); exact hL; rfl; rfl; rfl; (first | with_reducible rfl | with_reducible exact ixo _ | with_reducible exact ixoc _ _ | with_reducible exact ixom _ _ _ | with_reducible exact ixop _ _ | with_reducible exact ixod _ _ | assumption); omega))
  rw [t3]
  refine v_bd (roomW hL w2 (by omega) a) (fun _ h8 q8 => ?_)
  obtain ⟨o8, q8⟩ := q8
  have hL8 : LM h8.2 := by rw [o8.1]; exact hL
  have e8 : eL (sRm s) lEn h h8 := eL_mono (eL_eo (SL := lEn) o8) (fun a k z => sGo_Rm z) (fun a k z => z)
  repeat (first | with_reducible apply v_lt | ((with_reducible apply w_MR); exact hL8; rfl) | ((with_reducible apply w_lv); exact hL8; assumption) | ((with_reducible apply vMI); exact hL8) | ((with_reducible apply vMS); exact hL8) | ((with_reducible apply vMC); exact hL8) | ((with_reducible apply vMZ); exact hL8; (first | exact Or.inl rfl | exact Or.inr rfl | exact b2i_01 _ | assumption)) | ((first | with_reducible apply w_MA | with_reducible apply w_MW | with_reducible apply w_MY | with_reducible apply w_MB | with_reducible apply w_MJ | with_reducible apply w_MK); exact hL8; rfl; rfl; rfl; (first | with_reducible rfl | with_reducible exact ixo _ | with_reducible exact ixoc _ _ | with_reducible exact ixom _ _ _ | with_reducible exact ixop _ _ | with_reducible exact ixod _ _ | assumption); omega))
  rcases q8 with ⟨n6, i4, a8⟩ | ⟨y, d8⟩
  · have n6' : (tX A 0 2 == 6) = false := by simp; omega
    obtain ⟨R1, W1⟩ := O3 n6' (by omega)
    have nm8 := nmM_eL (SL := fun _ _ => False) (eL_eo o8) (fun a k z => by unfold sGo at z; omega) (fun k z => z) nm
    rw [a8.2.1]
    refine v_it rfl ?_
    repeat (first | with_reducible apply v_lt | ((with_reducible apply w_MR); exact hL8; rfl) | ((with_reducible apply w_lv); exact hL8; assumption) | ((with_reducible apply vMI); exact hL8) | ((with_reducible apply vMS); exact hL8) | ((with_reducible apply vMC); exact hL8) | ((with_reducible apply vMZ); exact hL8; (first | exact Or.inl rfl | exact Or.inr rfl | exact b2i_01 _ | assumption)) | ((first | with_reducible apply w_MA | with_reducible apply w_MW | with_reducible apply w_MY | with_reducible apply w_MB | with_reducible apply w_MJ | with_reducible apply w_MK); exact hL8; rfl; rfl; rfl; (first | with_reducible rfl | with_reducible exact ixo _ | with_reducible exact ixoc _ _ | with_reducible exact ixom _ _ _ | with_reducible exact ixop _ _ | with_reducible exact ixod _ _ | assumption); omega))
    refine v_bd (P := fun _ h' => tellQ τ s A i h h') ?_ (fun _ h' q => v_rV q)
    unfold fX10_tellReally
    repeat (first | with_reducible apply v_lt | ((with_reducible apply w_MR); exact hL8; rfl) | ((with_reducible apply w_lv); exact hL8; assumption) | ((with_reducible apply vMI); exact hL8) | ((with_reducible apply vMS); exact hL8) | ((with_reducible apply vMC); exact hL8) | ((with_reducible apply vMZ); exact hL8; (first | exact Or.inl rfl | exact Or.inr rfl | exact b2i_01 _ | assumption)) | ((first | with_reducible apply w_MA | with_reducible apply w_MW | with_reducible apply w_MY | with_reducible apply w_MB | with_reducible apply w_MJ | with_reducible apply w_MK); exact hL8; rfl; rfl; rfl; (first | with_reducible rfl | with_reducible exact ixo _ | with_reducible exact ixoc _ _ | with_reducible exact ixom _ _ _ | with_reducible exact ixop _ _ | with_reducible exact ixod _ _ | assumption); omega))
    refine v_bd (knownW (A := A) (B := A) (b := true) (st := 0) (rl := none) hfu hL8 hT rfl (by omega) wa nm8 a8 (flM_eo o8 (fun a k z => by unfold sGo at z; omega) f) (fpl_nF (c := 3) hT (show tkK (τ i) ≠ 98 by omega) fp).1) (fun x2 h1 q1 => ?_)
    obtain ⟨o1, q1⟩ := q1
    have hL1 : LM h1.2 := by rw [o1.1]; exact hL8
    have e1 : eL (sRm s) lEn h h1 := eL_tr e8 (eL_mono (eL_eo (SL := lEn) o1) (fun a k z => sBo_Rm z) (fun a k z => z))
    repeat (first | with_reducible apply v_lt | ((with_reducible apply w_MR); exact hL1; rfl) | ((with_reducible apply w_lv); exact hL1; assumption) | ((with_reducible apply vMI); exact hL1) | ((with_reducible apply vMS); exact hL1) | ((with_reducible apply vMC); exact hL1) | ((with_reducible apply vMZ); exact hL1; (first | exact Or.inl rfl | exact Or.inr rfl | exact b2i_01 _ | assumption)) | ((first | with_reducible apply w_MA | with_reducible apply w_MW | with_reducible apply w_MY | with_reducible apply w_MB | with_reducible apply w_MJ | with_reducible apply w_MK); exact hL1; rfl; rfl; rfl; (first | with_reducible rfl | with_reducible exact ixo _ | with_reducible exact ixoc _ _ | with_reducible exact ixom _ _ _ | with_reducible exact ixop _ _ | with_reducible exact ixod _ _ | assumption); omega))
    rcases q1 with ⟨z22, j4, a1', ex2, f1⟩ | ⟨ex2, d1⟩
    · have h98 : tkK (τ (i + 1)) ≠ 98 := by omega
      obtain ⟨l1, hl1⟩ : ∃ l1, l1 = tkN (τ (i + 1)) := ⟨_, rfl⟩
      obtain ⟨p1, hp1⟩ : ∃ p1, p1 = tkP (τ (i + 1)) := ⟨_, rfl⟩
      rw [← hl1] at ex2
      rw [← hl1, ← hp1] at f1
      have ex2 : x2 = opC (lN9 A l1) := ex2
      have es1 := stp_f (A := A) (tl := 2) (st := 0) (rl := none) (lz := none) (q := τ (i + 1)) (by omega) (by omega)
      rw [if_neg (fun y => y (show _ = 22 by omega)), if_neg (by omega), if_neg (by omega), if_pos rfl, if_pos rfl, ← hl1, ← hp1] at es1
      obtain ⟨-, -, r1⟩ := run_m (A := A) (tl := 2) (rl := none) (st := 0) (τ := τ) (j := i + 1) (by omega) (by omega) (by omega)
      have r1 := r1 (show _ = 22 by omega) (by omega)
      rw [es1] at r1
      have W2 := wM_stp W1 (fun _ => rfl) (hT.1 (i + 1)).2 (hT.2.1 (i + 1)) es1
      have R2 : R = run τ (re1 A l1 p1, 2, 1, lN9 A l1, none) (i + 1 + 1) := R1.trans r1
      have f1 : flM (tF (re1 A l1 p1)) h1 := by rw [tF_re1]; exact f1
      have fp1 : fpl τ (tF (re1 A l1 p1)) (i + 1 + 1) := by
        rw [tF_re1]
        unfold knF
        have f9 := fpl_nF (c := 4) hT h98 (fpl_nF (c := 3) hT (show tkK (τ i) ≠ 98 by omega) fp).1
        rw [← hp1] at f9
        split
        · exact f9.2
        · exact f9.1
      obtain ⟨B, hB⟩ : ∃ B, B = re1 A l1 p1 := ⟨_, rfl⟩
      have BX : tX B = tX A := by rw [hB]; exact X_re1
      have BN : tN B = tN A := by rw [hB]; exact re1_N
      have BW : tW B = tW A := by rw [hB]; exact W_re1
      rw [← hB] at R2 W2 f1 fp1
      have o18 : eo (fun a k => sGo a k ∨ sBo a k) h h1 := eo_tr (eo_mono o8 (fun a k z => Or.inl z)) (eo_mono o1 (fun a k z => Or.inr z))
      have nm1 := nmM_eL (SL := fun _ _ => False) (eL_eo o1) (fun a k z => by unfold sBo at z; omega) (fun k z => z) nm8
      refine v_bd (knownW (A := A) (B := B) (b := false) (st := 1) (rl := lN9 A l1) hfu hL1 hT rfl (by omega) wa nm1 a1' f1 fp1) (fun x5 h4 q4 => ?_)
      obtain ⟨o4, q4⟩ := q4
      have hL4 : LM h4.2 := by rw [o4.1]; exact hL1
      have e4 : eL (sRm s) lEn h h4 := eL_tr e1 (eL_mono (eL_eo (SL := lEn) o4) (fun a k z => sBo_Rm z) (fun a k z => z))
      have lt1 : x2 < 0 ↔ lN9 A l1 = none := by rw [ex2]; exact opC_lt (n := 7) (by omega) (fun r e => by have := lsN_lt e; omega)
      rcases q4 with ⟨z22', j4', a4, ex5, f4⟩ | ⟨ex5, d4⟩
      · have h98' : tkK (τ (i + 1 + 1)) ≠ 98 := by omega
        obtain ⟨l2, hl2⟩ : ∃ l2, l2 = tkN (τ (i + 1 + 1)) := ⟨_, rfl⟩
        obtain ⟨p2, hp2⟩ : ∃ p2, p2 = tkP (τ (i + 1 + 1)) := ⟨_, rfl⟩
        rw [← hl2] at ex5
        rw [← hl2, ← hp2] at f4
        have ex5 : x5 = opC (rN9 A l2) := ex5
        have es2 := stp_f (A := B) (tl := 2) (st := 1) (rl := lN9 A l1) (lz := none) (q := τ (i + 1 + 1)) (by omega) (by omega)
        rw [if_neg (fun y => y (show _ = 22 by omega)), if_neg (by omega), if_neg (by omega), if_pos rfl, if_neg (by decide), ← hl2, ← hp2] at es2
        obtain ⟨-, -, r2⟩ := run_m (A := B) (tl := 2) (rl := lN9 A l1) (st := 1) (τ := τ) (j := i + 1 + 1) (by omega) (by omega) (by omega)
        have r2 := r2 (show _ = 22 by omega) (by omega)
        rw [es2] at r2
        have W3 := wM_stp W2 (fun _ => rfl) (hT.1 (i + 1 + 1)).2 (hT.2.1 (i + 1 + 1)) es2
        have R3 : R = run τ (re2 B (lN9 A l1) l2 p2, 2, 2, lN9 A l1, none) (i + 1 + 1 + 1) := R2.trans r2
        have lt2 : x5 < 0 ↔ rN9 A l2 = none := by rw [ex5]; exact opC_lt (n := 7) (by omega) (fun r e => by have := roN_lt e; omega)
        have o14 : eo (fun a k => sGo a k ∨ sBo a k) h h4 := eo_tr o18 (eo_mono o4 (fun a k z => Or.inr z))
        have k4 : ∀ a k, a ≠ 299 → gI h4 a k = gI h a k := fun a k z => o14.2 _ _ (fun y => by unfold sGo sBo at y; omega)
        have t4' : tcM s A h4 := by
          refine ⟨⟨by rw [k4 _ _ (by omega)]; exact t1, by rw [k4 _ _ (by omega)]; exact t2, by rw [k4 _ _ (by omega)]; exact t3, by rw [k4 _ _ (by omega)]; exact t4, by rw [k4 _ _ (by omega)]; exact t5, by rw [k4 _ _ (by omega)]; exact t6⟩, fun r hr => by rw [k4 _ _ (by omega), k4 _ _ (by omega)]; exact t7 r hr, fun r hr => by rw [k4 _ _ (by omega), k4 _ _ (by omega), k4 _ _ (by omega)]; exact t8 r hr, fun r hr => by rw [k4 _ _ (by omega)]; exact t9 r hr⟩
        have rB : rN9 B l2 = rN9 A l2 := rN9_X BX BN
        have pl2 := fpl_nF (c := 4) hT h98' fp1
        have pl3 := fpl_nF (c := 3) hT h98' fp1
        rw [← hp2] at pl2 pl3
        -- the last sign
        have fin : ∀ (o r : Option Nat) (v2 v4 : Int32) (h5 : mh), lN9 A l1 = o → rN9 A l2 = r → v4 = bt9 o r → eo sWr h4 h5 → flM (tF (re2 B o l2 p2)) h5 → fpl τ (tF (re2 B o l2 p2)) (i + 1 + 1 + 1) → tX (re2 B o l2 p2) = rX9 (tX A) o r → tN (re2 B o l2 p2) = tN A → ok (fX10_tellReally_66 fu 299 (opC o) v2 (opC r) v4 h5) (fun _ h' => tellQ τ s A i h h') := by
          intro o r v2 v4 h5 e1' e2' hv o5 ff fpp eX eN
          have hL5 : LM h5.2 := by rw [o5.1]; exact hL4
          have o15 : eo (fun a k => sGo a k ∨ sBo a k) h h5 := eo_tr o14 (eo_mono o5 (fun a k z => Or.inr (by unfold sWr at z; unfold sBo; omega)))
          have k5 : ∀ a k, a ≠ 299 → gI h5 a k = gI h4 a k := fun a k z => o5.2 _ _ (fun y => by unfold sWr at y; omega)
          obtain ⟨⟨y1, y2, y3, y4, y5, y6⟩, y7, y8, y9⟩ := t4'
          refine reEnd (no := no) (j := i + 1 + 1 + 1) hT hs hL5 (eL_tr e4 (eL_mono (eL_eo (SL := lEn) o5) (fun a k z => Or.inl ⟨z.1, by have := z.2; omega⟩) (fun a k z => z))) hR (by omega) wa (fun x e => ?_) (fun x e => ?_) hv eX eN (by rw [W_re2]; exact BW) ?_ ?_ ⟨⟨by rw [k5 _ _ (by omega)]; exact y1, by rw [k5 _ _ (by omega)]; exact y2, by rw [k5 _ _ (by omega)]; exact y3, by rw [k5 _ _ (by omega)]; exact y4, by rw [k5 _ _ (by omega)]; exact y5, by rw [k5 _ _ (by omega)]; exact y6⟩, fun r hr => by rw [k5 _ _ (by omega), k5 _ _ (by omega)]; exact y7 r hr, fun r hr => by rw [k5 _ _ (by omega), k5 _ _ (by omega), k5 _ _ (by omega)]; exact y8 r hr, fun r hr => by rw [k5 _ _ (by omega)]; exact y9 r hr⟩ (nmM_eL (SL := fun _ _ => False) (eL_eo o15) (fun a k z => by unfold sGo sBo at z; omega) (fun k z => z) nm) (lwM_eL (SL := fun _ _ => False) (eL_eo o15) (fun a k z => by unfold sGo sBo at z; omega) (Nat.le_refl _) rfl lw) ⟨?_, ?_, atM_eo o5 (fun a k z => by unfold sWr at z; omega) a4, ff, fpp⟩
          · rw [e] at e1'
            exact lsN_lt e1'
          · rw [e] at e2'
            exact roN_lt e2'
          · rw [o15.2 _ _ (fun y => by unfold sGo sBo at y; omega)]; exact g12
          · rw [o15.2 _ _ (fun y => by unfold sGo sBo at y; omega)]; exact g19
          · rw [← e1']; exact R3
          · rw [← e1']; exact W3
        -- three ways
        cases e2 : rN9 A l2 with
        | none =>
          rw [e2] at ex5 rB
          have f5 : flM (nF (tF B) 4 p2) h4 := by
            have : knF A false (tF B) l2 p2 = nF (tF B) 4 p2 := by
              unfold knF
              rw [show kN9 A false l2 = rN9 A l2 from rfl, if_pos e2]
            rw [← this]
            exact f4
          have tre : ∀ o, tF (re2 B o l2 p2) = nF (tF B) 4 p2 ∧ tX (re2 B o l2 p2) = up2 (tX A) 0 2 (tX A 0 2 + 1) ∧ tN (re2 B o l2 p2) = tN A := fun o => by
            unfold re2
            rw [rB]
            dsimp only
            refine ⟨tF_nt, ?_, ?_⟩
            · rw [X_sX, nt_X, BX]
            · show tN (nt B 4 p2) = _
              rw [nt_N, BN]
          have go : ok (fX10_tellReally_30 fu 299 x2 (gI h1 299 11) x5 h4) (fun _ h' => tellQ τ s A i h h') := by
            unfold fX10_tellReally_30 fX10_tellReally_31
            rw [if_pos rfl, ex2, ex5]
            refine fin (lN9 A l1) none _ 0 h4 rfl e2 ?_ eo_rf (by rw [(tre _).1]; exact f5) (by rw [(tre _).1]; exact pl2.2) (by rw [(tre _).2.1]; cases lN9 A l1 <;> rfl) (tre _).2.2
            cases lN9 A l1 <;> rfl
          refine v_if (fun _ => go) (fun _ => ?_)
          exact v_it (lt2.mpr e2) go
        | some y =>
          rw [e2] at ex5 rB
          have hy := roN_lt e2
          have f5 : flM (tF B) h4 := by
            have : knF A false (tF B) l2 p2 = tF B := by
              unfold knF
              rw [show kN9 A false l2 = rN9 A l2 from rfl, if_neg (by rw [e2]; simp)]
            rw [← this]
            exact f4
          cases e1'' : lN9 A l1 with
          | none =>
            rw [e1''] at ex2
            refine v_it (lt1.mpr e1'') ?_
            unfold fX10_tellReally_30 fX10_tellReally_31
            rw [if_pos rfl, ex2, ex5]
            have tre : tF (re2 B none l2 p2) = tF B ∧ tX (re2 B none l2 p2) = up2 (tX A) 0 2 (tX A 0 2 + 1) ∧ tN (re2 B none l2 p2) = tN A := by
              unfold re2
              rw [rB]
              dsimp only
              refine ⟨rfl, ?_, BN⟩
              rw [X_sX, BX]
            exact fin none (some y) _ 0 h4 e1'' e2 rfl eo_rf (by rw [tre.1]; exact f5) (by rw [tre.1]; exact pl2.1) tre.2.1 tre.2.2
          | some x =>
            rw [e1''] at ex2
            have hx := lsN_lt e1''
            refine v_ie (fun z => by rw [lt1.mp z] at e1''; cases e1'') (v_ie (fun z => by rw [lt2.mp z] at e2; cases e2) ?_)
            have x6 := wa.2.2.1 x
            have tre : tF (re2 B (some x) l2 p2) = (if (tX A 6 x).testBit y then nF (tF B) 3 p2 else tF B) ∧ tX (re2 B (some x) l2 p2) = rX9 (tX A) (some x) (some y) ∧ tN (re2 B (some x) l2 p2) = tN A := by
              unfold re2
              rw [rB]
              dsimp only
              rw [BX]
              refine ⟨?_, ?_, ?_⟩
              · show tF (if (tX A 6 x).testBit y = true then nt B 3 p2 else B) = _
                split
                · exact tF_nt
                · rfl
              · rw [X_sX, X_sX]
                split
                · rw [nt_X, BX]
                  rfl
                · rw [BX]
                  rfl
              · show tN (if (tX A 6 x).testBit y = true then nt B 3 p2 else B) = _
                split
                · rw [nt_N, BN]
                · exact BN
            unfold fX10_tellReally_31
            refine v_ie (by decide) ?_
            have g19_4 : gI h4 299 19 = nI s := by rw [o14.2 _ _ (fun y => by unfold sGo sBo at y; omega)]; exact g19
            have ix : 6 * gI h4 299 19 + x2 = nI (6 * s + x) := by
              rw [g19_4, ex2]
              exact ixom 6 s x
            repeat (first | with_reducible apply v_lt | ((with_reducible apply w_MR); exact hL4; rfl) | ((with_reducible apply w_lv); exact hL4; assumption) | ((with_reducible apply vMI); exact hL4) | ((with_reducible apply vMS); exact hL4) | ((with_reducible apply vMC); exact hL4) | ((with_reducible apply vMZ); exact hL4; (first | exact Or.inl rfl | exact Or.inr rfl | exact b2i_01 _ | assumption)) | ((first | with_reducible apply w_MA | with_reducible apply w_MW | with_reducible apply w_MY | with_reducible apply w_MB | with_reducible apply w_MJ | with_reducible apply w_MK); exact hL4; rfl; rfl; rfl; (first | with_reducible rfl | with_reducible exact ixo _ | with_reducible exact ixoc _ _ | with_reducible exact ixom _ _ _ | with_reducible exact ixop _ _ | with_reducible exact ixod _ _ | assumption); omega))
            rw [t4'.2.2.2 x (by omega), ex5]
            have tb := tbM1 (tX A 6 x) (by omega) y (by omega)
            cases hb : (tX A 6 x).testBit y with
            | true =>
              refine v_it (tb.mpr hb) ?_
              repeat (first | with_reducible apply v_lt | ((with_reducible apply w_MR); exact hL4; rfl) | ((with_reducible apply w_lv); exact hL4; assumption) | ((with_reducible apply vMI); exact hL4) | ((with_reducible apply vMS); exact hL4) | ((with_reducible apply vMC); exact hL4) | ((with_reducible apply vMZ); exact hL4; (first | exact Or.inl rfl | exact Or.inr rfl | exact b2i_01 _ | assumption)) | ((first | with_reducible apply w_MA | with_reducible apply w_MW | with_reducible apply w_MY | with_reducible apply w_MB | with_reducible apply w_MJ | with_reducible apply w_MK); exact hL4; rfl; rfl; rfl; (first | with_reducible rfl | with_reducible exact ixo _ | with_reducible exact ixoc _ _ | with_reducible exact ixom _ _ _ | with_reducible exact ixop _ _ | with_reducible exact ixod _ _ | assumption); omega))
              rw [show gI h1 299 11 = nI (i + 1 + 1) from a1'.1]
              rw [hb, if_pos rfl] at tre
              refine v_bd (wrongM (c := 3) (j := i + 1 + 1) hL4 (by omega) (by omega) a1'.2.2.2.1 (hT.2.2.2 _) a4 f5 (fun z => Or.inl (fp1 z))) (fun _ h5 q5 => ?_)
              obtain ⟨o5, f5'⟩ := q5
              rw [← hp2] at f5'
              rw [ex2]
              exact fin (some x) (some y) _ 1 h5 e1'' e2 rfl o5 (by rw [tre.1]; exact f5') (by rw [tre.1]; exact pl3.2) tre.2.1 tre.2.2
            | false =>
              refine v_ie (fun z => by rw [tb.mp z] at hb; cases hb) ?_
              rw [hb, if_neg (by decide)] at tre
              rw [ex2]
              exact fin (some x) (some y) _ 1 h4 e1'' e2 rfl eo_rf (by rw [tre.1]; exact f5) (by rw [tre.1]; exact pl2.1) tre.2.1 tre.2.2
      · have d : ddR R h4 := by rw [R2]; exact d4
        have go : ok (fX10_tellReally_30 fu 299 x2 (gI h1 299 11) x5 h4) (fun _ h' => tellQ τ s A i h h') := by
          rw [re30D hL4 d4]
          exact ⟨(), h4, rfl, tq h4 e4 d⟩
        refine v_if (fun _ => go) (fun _ => ?_)
        exact v_it (by rw [ex5]; decide) go
    · have d : ddR R h1 := by rw [R1]; exact d1
      have d0 : ddM R.1 R.2.1 h1 := d
      refine v_eq (knownD hL1 d0) ?_
      refine v_it (by rw [ex2]; decide) ?_
      rw [re30D hL1 d0]
      exact ⟨(), h1, rfl, tq h1 e1 d⟩
  · refine v_ie (x13 d8).2 (v_rV (tq h8 e8 ?_))
    have : R = (2, tkP (τ i), A) := by
      by_cases z : tX A 0 2 = 6
      · exact O1 (by simp [z])
      · exact O2 (by simp [z]) (by omega)
    rw [this]
    exact d8
