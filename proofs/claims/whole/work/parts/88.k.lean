/-! THE REFERENCE READS: a law; what is no tell; any tell -/
theorem tellLawD {fu c0 f0 q c p : Nat} {v : Int32} {h : mh} (hfu : 1000 ≤ fu) (hL : LM h.2) (hf : f0 ≤ 240) (g37 : gI h 299 37 = nI f0) (d : ddM c p h) : ok (fX10_tellLaw fu 299 v h) (fun _ h2 => eo (sTl c0 f0 q) h h2 ∧ ddM c p h2) := by
  unfold fX10_tellLaw
  repeat (first | with_reducible apply v_lt | ((with_reducible apply w_MR); exact hL; rfl) | ((with_reducible apply w_lv); exact hL; assumption) | ((with_reducible apply vMI); exact hL) | ((with_reducible apply vMS); exact hL) | ((with_reducible apply vMC); exact hL) | ((with_reducible apply vMZ); exact hL; (first | exact Or.inl rfl | exact Or.inr rfl | exact b2i_01 _ | assumption)) | ((first | with_reducible apply w_MA | with_reducible apply w_MW | with_reducible apply w_MY | with_reducible apply w_MB | with_reducible apply w_MJ | with_reducible apply w_MK); exact hL; rfl; rfl; rfl; (first | with_reducible rfl | with_reducible exact ixo _ | with_reducible exact ixoc _ _ | with_reducible exact ixom _ _ _ | with_reducible exact ixop _ _ | with_reducible exact ixod _ _ | assumption); omega))
  refine v_eq (mustD hL d) ?_
  repeat (first | with_reducible apply v_lt | ((with_reducible apply w_MR); exact hL; rfl) | ((with_reducible apply w_lv); exact hL; assumption) | ((with_reducible apply vMI); exact hL) | ((with_reducible apply vMS); exact hL) | ((with_reducible apply vMC); exact hL) | ((with_reducible apply vMZ); exact hL; (first | exact Or.inl rfl | exact Or.inr rfl | exact b2i_01 _ | assumption)) | ((first | with_reducible apply w_MA | with_reducible apply w_MW | with_reducible apply w_MY | with_reducible apply w_MB | with_reducible apply w_MJ | with_reducible apply w_MK); exact hL; rfl; rfl; rfl; (first | with_reducible rfl | with_reducible exact ixo _ | with_reducible exact ixoc _ _ | with_reducible exact ixom _ _ _ | with_reducible exact ixop _ _ | with_reducible exact ixod _ _ | assumption); omega))
  rw [g37]
  obtain ⟨f, hff⟩ : ∃ f, fu = f + 1 := ⟨fu - 1, by omega⟩
  have st : ∀ kk, ok (bX10_tellLaw_12 fu 299 v (nI f0) kk (0, h)) (fun _ h2 => eo (sTl c0 f0 q) h h2 ∧ ddM c p h2) := by
    intro kk
    unfold bX10_tellLaw_12
    dsimp only
    repeat (first | with_reducible apply v_lt | ((with_reducible apply w_MR); exact hL; rfl) | ((with_reducible apply w_lv); exact hL; assumption) | ((with_reducible apply vMI); exact hL) | ((with_reducible apply vMS); exact hL) | ((with_reducible apply vMC); exact hL) | ((with_reducible apply vMZ); exact hL; (first | exact Or.inl rfl | exact Or.inr rfl | exact b2i_01 _ | assumption)) | ((first | with_reducible apply w_MA | with_reducible apply w_MW | with_reducible apply w_MY | with_reducible apply w_MB | with_reducible apply w_MJ | with_reducible apply w_MK); exact hL; rfl; rfl; rfl; (first | with_reducible rfl | with_reducible exact ixo _ | with_reducible exact ixoc _ _ | with_reducible exact ixom _ _ _ | with_reducible exact ixop _ _ | with_reducible exact ixod _ _ | assumption); omega))
    refine v_ie (x13 d).2 ?_
    exact ok_mono (d129 (m := f0) hL hf (by omega) ⟨eo_rf, d, f0, by omega, by omega, g37⟩) (fun _ h2 q => ⟨q.1, q.2.1⟩)
  rw [show itr (bX10_tellLaw_12 fu 299 v (nI f0)) fu (0, h) = itr (bX10_tellLaw_12 fu 299 v (nI f0)) (f + 1) (0, h) from by rw [← hff], itr_s]
  exact st _
theorem sTl_Rm {s c0 cr nb k a j : Nat} (hs : s < 2) (hc0 : c0 = 420 * s + cr) (hcr : cr ≤ 400) (hnb : nb ≤ 100) (hk : k < 4) (z : sTl c0 (130 * s + nb) (4 * s + k) a j) : sRm s a j := by
  have hl : lb9 c0 = 420 * s := by
    unfold lb9
    rcases (show s = 0 ∨ s = 1 by omega) with rfl | rfl
    · rw [if_pos (by omega)]
    · rw [if_neg (by omega)]
  rcases z with (z | z | z) | z | z | z
  · exact Or.inl ⟨z.1, by have := z.2; omega⟩
  · exact Or.inr (Or.inr (Or.inr (Or.inr (Or.inr (Or.inr (Or.inl ⟨z.1, by omega, by omega⟩))))))
  · exact Or.inr (Or.inr (Or.inr (Or.inr (Or.inr (Or.inr (Or.inr z))))))
  · exact Or.inl ⟨z.1, by have := z.2; omega⟩
  · exact Or.inr (Or.inr (Or.inr (Or.inr (Or.inr (Or.inl ⟨z.1, z.2.1, by omega, by omega⟩)))))
  · exact Or.inr (Or.inr (Or.inr (Or.inr (Or.inl ⟨z.1, by omega, by omega⟩))))
/-- a law that is through holds by its own cells -/
theorem lawN_new {s k nb cr n9 c9 : Nat} {ts : List (Pf × Pf × Pf)} {e : Pf} {h : mh} (hs : s < 2) (hk : k < 4) (hnb : nb + ts.length + 1 ≤ n9) (hn9 : n9 ≤ 130) (hcr : cr + ln3 ts + e.length ≤ c9) (hc9 : c9 ≤ 420) (g1 : gI h 321 (4 * s + k) = nI (130 * s + nb)) (g2 : gI h 322 (4 * s + k) = nI (130 * s + nb + ts.length + 1)) (q : brsA h (130 * s + nb) (ts.length + 1) (420 * s + cr) (ln3 ts + e.length) ts e) : lawN h s k n9 c9 (some (ts, e)) := fun h1 f1 f2 f3 f4 => by
  refine ⟨130 * s + nb, by omega, f1.trans g1, f2.trans g2, fun h2 sd => q h2 (fun a j j1 j2 j3 j4 => ?_) (fun a j j1 j2 j3 j4 => ?_)⟩
  · rw [sd.1 a j j1 j2 (by omega) (by omega)]
    exact f3 a j j1 j2 (by omega) (by omega)
  · rw [sd.2 a j j1 j2 (by omega) (by omega)]
    exact f4 a j j1 j2 (by omega) (by omega)
set_option maxHeartbeats 2000000 in
theorem lawT {fu s i k : Nat} {τ : Nat → Tk} {A : RT} {h : mh} (hfu : 1000 ≤ fu) (hT : tkOk τ) (hs : s < 2) (hL : LM h.2) (r : relM τ s A i h) (hk : tkK (τ i) = k + 3) (h4 : k < 4) : ok (fX10_tellOne_424 fu 299 (nI k) h) (fun _ h' => tellQ τ s A i h h') := by
  obtain ⟨⟨a, g12, g19⟩, t, ⟨no, nm⟩, f, fp, lw, w⟩ := r
  obtain ⟨cr, nb, l1, l2, l3, l4, l5⟩ := lw
  have hi := a.2.2.1
  obtain ⟨-, O2, O3⟩ := openX hi w hk (by omega)
  have ff : fulB A (k + 3) = false := ful_9 (by omega)
  have O2 := O2 ff
  have O3 := O3 ff
  obtain ⟨c0, hc0⟩ : ∃ c0, c0 = 420 * s + cr := ⟨_, rfl⟩
  rw [← hc0] at l1
  have hl : lb9 c0 = 420 * s := by
    unfold lb9
    rcases (show s = 0 ∨ s = 1 by omega) with rfl | rfl
    · rw [if_pos (by omega)]
    · rw [if_neg (by omega)]
  unfold fX10_tellOne_424
  repeat (first | with_reducible apply v_lt | ((with_reducible apply w_MR); exact hL; rfl) | ((with_reducible apply w_lv); exact hL; assumption) | ((with_reducible apply vMI); exact hL) | ((with_reducible apply vMS); exact hL) | ((with_reducible apply vMC); exact hL) | ((with_reducible apply vMZ); exact hL; (first | exact Or.inl rfl | exact Or.inr rfl | exact b2i_01 _ | assumption)) | ((first | with_reducible apply w_MA | with_reducible apply w_MW | with_reducible apply w_MY | with_reducible apply w_MB | with_reducible apply w_MJ | with_reducible apply w_MK); exact hL; rfl; rfl; rfl; (first | with_reducible rfl | with_reducible exact ixo _ | with_reducible exact ixoc _ _ | with_reducible exact ixom _ _ _ | with_reducible exact ixop _ _ | with_reducible exact ixod _ _ | assumption); omega))
  rw [a.2.1]
  refine v_it (by decide) ?_
  repeat (first | with_reducible apply v_lt | ((with_reducible apply w_MR); exact hL; rfl) | ((with_reducible apply w_lv); exact hL; assumption) | ((with_reducible apply vMI); exact hL) | ((with_reducible apply vMS); exact hL) | ((with_reducible apply vMC); exact hL) | ((with_reducible apply vMZ); exact hL; (first | exact Or.inl rfl | exact Or.inr rfl | exact b2i_01 _ | assumption)) | ((first | with_reducible apply w_MA | with_reducible apply w_MW | with_reducible apply w_MY | with_reducible apply w_MB | with_reducible apply w_MJ | with_reducible apply w_MK); exact hL; rfl; rfl; rfl; (first | with_reducible rfl | with_reducible exact ixo _ | with_reducible exact ixoc _ _ | with_reducible exact ixom _ _ _ | with_reducible exact ixop _ _ | with_reducible exact ixod _ _ | assumption); omega))
  refine v_bd (goM hL (by omega) a) (fun _ h1 q1 => ?_)
  obtain ⟨o1, q1, q2⟩ := q1
  have hL1 : LM h1.2 := by rw [o1.1]; exact hL
  have e1 : eL (sRm s) lEn h h1 := eL_mono (eL_eo (SL := lEn) o1) (fun a k z => sGo_Rm z) (fun a k z => z)
  have k1 : ∀ a k, ¬ sGo a k → gI h1 a k = gI h a k := fun a k z => o1.2 _ _ z
  have m37 : gI h1 299 37 = nI (130 * s + nb) := by rw [k1 _ _ (fun z => by unfold sGo at z; omega)]; exact l3
  have m43 : gI h1 299 43 = nI c0 := by rw [k1 _ _ (fun z => by unfold sGo at z; omega)]; exact l1
  have m12 : gI h1 299 12 = 0 := by rw [k1 _ _ (fun z => by unfold sGo at z; omega)]; exact g12
  have m19 : gI h1 299 19 = nI s := by rw [k1 _ _ (fun z => by unfold sGo at z; omega)]; exact g19
  repeat (first | with_reducible apply v_lt | ((with_reducible apply w_MR); exact hL1; rfl) | ((with_reducible apply w_lv); exact hL1; assumption) | ((with_reducible apply vMI); exact hL1) | ((with_reducible apply vMS); exact hL1) | ((with_reducible apply vMC); exact hL1) | ((with_reducible apply vMZ); exact hL1; (first | exact Or.inl rfl | exact Or.inr rfl | exact b2i_01 _ | assumption)) | ((first | with_reducible apply w_MA | with_reducible apply w_MW | with_reducible apply w_MY | with_reducible apply w_MB | with_reducible apply w_MJ | with_reducible apply w_MK); exact hL1; rfl; rfl; rfl; (first | with_reducible rfl | with_reducible exact ixo _ | with_reducible exact ixoc _ _ | with_reducible exact ixom _ _ _ | with_reducible exact ixop _ _ | with_reducible exact ixod _ _ | assumption); omega))
  by_cases z4 : i = 400
  · refine v_bd (tellLawD (c0 := c0) (f0 := 130 * s + nb) (q := 4 * s + k) hfu hL1 (by omega) m37 (q1 z4)) (fun _ h2 q3 => ?_)
    refine v_rV ⟨eL_tr e1 (eL_mono (eL_eo (SL := lEn) q3.1) (fun a j z => sTl_Rm hs hc0 (by omega) (by omega) h4 z) (fun a k z => z)), Or.inr ?_⟩
    rw [O2 z4]
    exact q3.2
  · obtain ⟨R1, W1⟩ := O3 z4
    refine v_bd (tellLawM (c0 := c0) (f0 := 130 * s + nb) (k := k) hfu hL1 hT.1 (by omega) hs h4 m19 (q2 z4) m12 m43 m37 (by rw [hl]; omega)) (fun _ h2 q3 => ?_)
    obtain ⟨o2, q3⟩ := q3
    have e2 : eL (sRm s) lEn h h2 := eL_tr e1 (eL_mono (eL_eo (SL := lEn) o2) (fun a j z => sTl_Rm hs hc0 (by omega) (by omega) h4 z) (fun a k z => z))
    refine v_rV ⟨e2, ?_⟩
    obtain ⟨rl1, rl2⟩ := run_lawF (τ := τ) (A := A) (tl := k + 3) (j := i + 1) (by omega) (by omega) (by omega)
    rcases q3 with ⟨L', i', y1, y2, y3, y4, y5, y6, y7, y8, y9⟩ | d
    · have y1' : fate τ LZ0 (i + 1 + 1) = (0, 0, L', i') ∧ i + 1 < 400 := by
        have y := y1
        unfold lawF at y
        by_cases z1 : tkK (τ (i + 1)) ≠ 61
        · rw [if_pos z1] at y
          exact absurd (Prod.mk.inj y).1 Nat.one_ne_zero
        · rw [if_neg z1] at y
          by_cases z2 : i + 1 = 400
          · rw [if_pos z2] at y
            exact absurd (Prod.mk.inj y).1 (by decide)
          · rw [if_neg z2] at y
            exact ⟨y, by omega⟩
      obtain ⟨b1, b2, b3, b4⟩ := fate_b hT.1 (by omega) y1'.1
      obtain ⟨ts, hts⟩ : ∃ ts, ts = lTs L' := ⟨_, rfl⟩
      obtain ⟨e, he⟩ : ∃ e, e = lQu L' := ⟨_, rfl⟩
      have rl := rl2 L' i' y1
      rw [← hts, ← he] at rl
      rw [← hts, ← he] at y4 y8 b4
      rw [← hts] at y5 y7 y9 b3
      have oo : eo (fun a j => sGo a j ∨ sTl c0 (130 * s + nb) (4 * s + k) a j) h h2 := eo_tr (eo_mono o1 (fun a k z => Or.inl z)) (eo_mono o2 (fun a k z => Or.inr z))
      have kk : ∀ a j, 300 ≤ a → a ≤ 320 → gI h2 a j = gI h a j := fun a j z1 z2 => oo.2 _ _ (fun y => by unfold sGo sTl sEx at y; omega)
      obtain ⟨⟨t1, t2, t3, t4, t5, t6⟩, t7, t8, t9⟩ := id t
      refine Or.inl ⟨sWl A k (some (ts, e)), i', R1.trans rl, by omega, ⟨y2, y3, ?_⟩, ⟨⟨?_, ?_, ?_, ?_, ?_, ?_⟩, fun r hr => ?_, fun r hr => ?_, fun r hr => ?_⟩, ⟨no, ?_⟩, ?_, ?_, ⟨cr + ln3 ts + e.length, nb + ts.length + 1, ?_, by omega, ?_, by omega, fun k' hk' => ?_⟩, w⟩
      · rw [oo.2 _ _ (fun y => by unfold sGo sTl sEx at y; omega)]; exact g19
      · rw [kk _ _ (by omega) (by omega)]; exact t1
      · rw [kk _ _ (by omega) (by omega)]; exact t2
      · rw [kk _ _ (by omega) (by omega)]; exact t3
      · rw [kk _ _ (by omega) (by omega)]; exact t4
      · rw [kk _ _ (by omega) (by omega)]; exact t5
      · rw [kk _ _ (by omega) (by omega)]; exact t6
      · rw [kk _ _ (by omega) (by omega), kk _ _ (by omega) (by omega)]; exact t7 r hr
      · rw [kk _ _ (by omega) (by omega), kk _ _ (by omega) (by omega), kk _ _ (by omega) (by omega)]; exact t8 r hr
      · rw [kk _ _ (by omega) (by omega)]; exact t9 r hr
      · exact nmM_eL (A := A) (SL := fun _ _ => False) (eL_eo oo) (fun a k z => by unfold sGo sTl sEx at z; omega) (fun k z => z) nm
      · exact flM_eo oo (fun a k z => by unfold sGo sTl sEx at z; omega) f
      · intro z
        have p1 := fp z
        have mono : ∀ d, i + d ≤ i' → tkP (τ i) ≤ tkP (τ (i + d)) := by
          intro d
          induction d with
          | zero => exact fun _ => Nat.le_refl _
          | succ d ih =>
            intro hd
            have := ih (by omega)
            have := hT.2.2.1 (i + d) (y2.2.2.2.1 (i + d) (by omega))
            rw [show i + (d + 1) = i + d + 1 from rfl]
            omega
        have := mono (i' - i) (by omega)
        rw [show i + (i' - i) = i' from by omega] at this
        show (tF A).2 < _
        omega
      · rw [y4, hc0]
        congr 1
        omega
      · rw [y5]
        congr 1
        omega
      · show lawN h2 s k' _ _ (if k' = k then some (ts, e) else tW A k')
        by_cases ek : k' = k
        · rw [if_pos ek, ek]
          rw [hc0] at y8
          exact lawN_new hs h4 (by omega) (by omega) (by omega) (by omega) y6 y7 y8
        · rw [if_neg ek]
          refine lawN_fr (l5 k' hk') (by omega) (by omega) (oo.2 _ _ (fun y => ?_)) (oo.2 _ _ (fun y => ?_)) (fun a j j1 j2 j3 j4 => oo.2 _ _ (fun y => ?_)) (fun a j j1 j2 j3 j4 => oo.2 _ _ (fun y => ?_))
          · unfold sGo sTl sEx at y; omega
          · unfold sGo sTl sEx at y; omega
          · unfold sGo sTl sEx at y; omega
          · unfold sGo sTl sEx at y; omega
    · refine Or.inr ?_
      obtain ⟨B, hB⟩ := rl1 (fun z => by have := d.1; omega)
      rw [R1, hB]
      exact d
theorem sm_o : ∀ k, k < 100 → 10 ≤ k → (soM k - 23 < 0 ∨ ¬ soM k ≤ 26) ∧ (∀ j, j < 10 → ¬ soM k = nI (20 + j)) := by decide +kernel
theorem sm_l : ∀ k, k < 4 → soM (k + 3) - 23 = nI k ∧ soM (k + 3) ≤ 26 := by decide +kernel
theorem noT {fu s i : Nat} {τ : Nat → Tk} {A : RT} {v : Int32} {h : mh} (hL : LM h.2) (r : relM τ s A i h) (h10 : 9 < tkK (τ i)) (h98 : tkK (τ i) ≠ 98) : ok (fX10_tellOne_419 fu 299 v h) (fun _ h' => tellQ τ s A i h h') := by
  obtain ⟨⟨a, -, -⟩, -, -, -, -, -, -⟩ := r
  have hi := a.2.2.1
  unfold fX10_tellOne_419
  repeat (first | with_reducible apply v_lt | ((with_reducible apply w_MR); exact hL; rfl) | ((with_reducible apply w_lv); exact hL; assumption) | ((with_reducible apply vMI); exact hL) | ((with_reducible apply vMS); exact hL) | ((with_reducible apply vMC); exact hL) | ((with_reducible apply vMZ); exact hL; (first | exact Or.inl rfl | exact Or.inr rfl | exact b2i_01 _ | assumption)) | ((first | with_reducible apply w_MA | with_reducible apply w_MW | with_reducible apply w_MY | with_reducible apply w_MB | with_reducible apply w_MJ | with_reducible apply w_MK); exact hL; rfl; rfl; rfl; (first | with_reducible rfl | with_reducible exact ixo _ | with_reducible exact ixoc _ _ | with_reducible exact ixom _ _ _ | with_reducible exact ixop _ _ | with_reducible exact ixod _ _ | assumption); omega))
  refine v_bd (failM (c := 1) hL (by omega) a) (fun _ h1 q => ?_)
  obtain ⟨o1, d1⟩ := q
  have hL1 : LM h1.2 := by rw [o1.1]; exact hL
  unfold fX10_tellOne_424
  repeat (first | with_reducible apply v_lt | ((with_reducible apply w_MR); exact hL1; rfl) | ((with_reducible apply w_lv); exact hL1; assumption) | ((with_reducible apply vMI); exact hL1) | ((with_reducible apply vMS); exact hL1) | ((with_reducible apply vMC); exact hL1) | ((with_reducible apply vMZ); exact hL1; (first | exact Or.inl rfl | exact Or.inr rfl | exact b2i_01 _ | assumption)) | ((first | with_reducible apply w_MA | with_reducible apply w_MW | with_reducible apply w_MY | with_reducible apply w_MB | with_reducible apply w_MJ | with_reducible apply w_MK); exact hL1; rfl; rfl; rfl; (first | with_reducible rfl | with_reducible exact ixo _ | with_reducible exact ixoc _ _ | with_reducible exact ixom _ _ _ | with_reducible exact ixop _ _ | with_reducible exact ixod _ _ | assumption); omega))
  refine v_ie (x13 d1).1 (v_rV ⟨eL_mono (eL_eo (SL := lEn) o1) (fun a k z => Or.inl ⟨z.1, by have := z.2; omega⟩) (fun a k z => z), Or.inr ?_⟩)
  have es := stp_o (A := A) (st := 0) (rl := none) (lz := none) (q := τ i)
  rw [if_pos h10] at es
  rw [run_x (M := bd9 A) hi (fun z => h98 z.2) es Nat.one_ne_zero]
  exact d1
theorem tellT {fu s i : Nat} {τ : Nat → Tk} {A : RT} {h : mh} (hfu : 1000 ≤ fu) (hT : tkOk τ) (hs : s < 2) (hL : LM h.2) (r : relM τ s A i h) (h98 : tkK (τ i) ≠ 98) : ok (fX10_tellOne fu 299 h) (fun _ h' => tellQ τ s A i h h') := by
  by_cases z0 : tkK (τ i) = 0
  · exact roleT hfu hT hs hL r z0
  by_cases z1 : tkK (τ i) = 1
  · exact listT hfu hT hs hL r z1
  by_cases z2 : tkK (τ i) = 2
  · exact reaT hfu hT hs hL r z2
  by_cases z7 : 7 ≤ tkK (τ i) ∧ tkK (τ i) ≤ 9
  · exact intT hT hs hL r rfl z7.1 z7.2
  have kd := (hT.1 i).1
  have a := r.1.1
  have hi := a.2.2.1
  have a1 := a.1
  have row := (a.2.2.2.2 i hi a.2.2.2.1).1
  have go : ok (fX10_tellOne_388 fu 299 h) (fun _ h' => tellQ τ s A i h h') := by
    unfold fX10_tellOne_388
    repeat (first | with_reducible apply v_lt | ((with_reducible apply w_MR); exact hL; rfl) | ((with_reducible apply w_lv); exact hL; assumption) | ((with_reducible apply vMI); exact hL) | ((with_reducible apply vMS); exact hL) | ((with_reducible apply vMC); exact hL) | ((with_reducible apply vMZ); exact hL; (first | exact Or.inl rfl | exact Or.inr rfl | exact b2i_01 _ | assumption)) | ((first | with_reducible apply w_MA | with_reducible apply w_MW | with_reducible apply w_MY | with_reducible apply w_MB | with_reducible apply w_MJ | with_reducible apply w_MK); exact hL; rfl; rfl; rfl; (first | with_reducible rfl | with_reducible exact ixo _ | with_reducible exact ixoc _ _ | with_reducible exact ixom _ _ _ | with_reducible exact ixop _ _ | with_reducible exact ixod _ _ | assumption); omega))
    rw [row]
    by_cases zl : tkK (τ i) < 7
    · obtain ⟨k, hk⟩ : ∃ k, tkK (τ i) = k + 3 := ⟨tkK (τ i) - 3, by omega⟩
      obtain ⟨s1, s2⟩ := sm_l k (by omega)
      rw [hk, s1]
      refine v_ie (nI_pos (by omega)) ?_
      repeat (first | with_reducible apply v_lt | ((with_reducible apply w_MR); exact hL; rfl) | ((with_reducible apply w_lv); exact hL; assumption) | ((with_reducible apply vMI); exact hL) | ((with_reducible apply vMS); exact hL) | ((with_reducible apply vMC); exact hL) | ((with_reducible apply vMZ); exact hL; (first | exact Or.inl rfl | exact Or.inr rfl | exact b2i_01 _ | assumption)) | ((first | with_reducible apply w_MA | with_reducible apply w_MW | with_reducible apply w_MY | with_reducible apply w_MB | with_reducible apply w_MJ | with_reducible apply w_MK); exact hL; rfl; rfl; rfl; (first | with_reducible rfl | with_reducible exact ixo _ | with_reducible exact ixoc _ _ | with_reducible exact ixom _ _ _ | with_reducible exact ixop _ _ | with_reducible exact ixod _ _ | assumption); omega))
      rw [row, hk]
      exact v_it s2 (lawT hfu hT hs hL r hk (by omega))
    · obtain ⟨s1, -⟩ := sm_o _ kd (by omega)
      refine v_if (fun _ => noT hL r (by omega) h98) (fun y => ?_)
      repeat (first | with_reducible apply v_lt | ((with_reducible apply w_MR); exact hL; rfl) | ((with_reducible apply w_lv); exact hL; assumption) | ((with_reducible apply vMI); exact hL) | ((with_reducible apply vMS); exact hL) | ((with_reducible apply vMC); exact hL) | ((with_reducible apply vMZ); exact hL; (first | exact Or.inl rfl | exact Or.inr rfl | exact b2i_01 _ | assumption)) | ((first | with_reducible apply w_MA | with_reducible apply w_MW | with_reducible apply w_MY | with_reducible apply w_MB | with_reducible apply w_MJ | with_reducible apply w_MK); exact hL; rfl; rfl; rfl; (first | with_reducible rfl | with_reducible exact ixo _ | with_reducible exact ixoc _ _ | with_reducible exact ixom _ _ _ | with_reducible exact ixop _ _ | with_reducible exact ixod _ _ | assumption); omega))
      rw [row]
      refine v_ie (fun y2 => ?_) (noT hL r (by omega) h98)
      rcases s1 with s1 | s1
      · exact y s1
      · exact s1 y2
  unfold fX10_tellOne
  repeat (first | with_reducible apply v_lt | ((with_reducible apply w_MR); exact hL; rfl) | ((with_reducible apply w_lv); exact hL; assumption) | ((with_reducible apply vMI); exact hL) | ((with_reducible apply vMS); exact hL) | ((with_reducible apply vMC); exact hL) | ((with_reducible apply vMZ); exact hL; (first | exact Or.inl rfl | exact Or.inr rfl | exact b2i_01 _ | assumption)) | ((first | with_reducible apply w_MA | with_reducible apply w_MW | with_reducible apply w_MY | with_reducible apply w_MB | with_reducible apply w_MJ | with_reducible apply w_MK); exact hL; rfl; rfl; rfl; (first | with_reducible rfl | with_reducible exact ixo _ | with_reducible exact ixoc _ _ | with_reducible exact ixom _ _ _ | with_reducible exact ixop _ _ | with_reducible exact ixod _ _ | assumption); omega))
  rw [row]
  by_cases zl : tkK (τ i) < 7
  · rcases (show tkK (τ i) = 3 ∨ tkK (τ i) = 4 ∨ tkK (τ i) = 5 ∨ tkK (τ i) = 6 by omega) with e | e | e | e
    · rw [e]
      exact v_ie (by decide) (v_ie (by decide) (v_ie (by decide) (v_it rfl go)))
    · rw [e]
      exact v_ie (by decide) (v_ie (by decide) (v_ie (by decide) (v_ie (by decide) (v_it rfl go))))
    · rw [e]
      exact v_ie (by decide) (v_ie (by decide) (v_ie (by decide) (v_ie (by decide) (v_ie (by decide) (v_it rfl go)))))
    · rw [e]
      exact v_ie (by decide) (v_ie (by decide) (v_ie (by decide) (v_ie (by decide) (v_ie (by decide) (v_ie (by decide) (v_it rfl go))))))
  · obtain ⟨-, s2⟩ := sm_o _ kd (by omega)
    exact v_ie (s2 0 (by omega)) (v_ie (s2 1 (by omega)) (v_ie (s2 2 (by omega)) (v_ie (s2 3 (by omega)) (v_ie (s2 4 (by omega)) (v_ie (s2 5 (by omega)) (v_ie (s2 6 (by omega)) (v_ie (s2 7 (by omega)) (v_ie (s2 8 (by omega)) (v_ie (s2 9 (by omega)) go)))))))))
