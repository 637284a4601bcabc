/-! TALKS, in both -/
theorem v_dv {β : Type} {x y : Int32} {F : Int32 → Option (β × mh)} {Q : β → mh → Prop} (hy : ¬ y = 0) (g : ok (F (x / y)) Q) : ok (dvI x y F) Q := by
  unfold dvI
  rw [if_pos hy]
  exact g
theorem powM {fu v n : Nat} {h : mh} (hfu : 1000 ≤ fu) (hn : n ≤ 20) : fX10_power fu (nI v) (nI n) h = some (nI (v ^ n), h) := by
  refine ok_eq ?_
  unfold fX10_power
  refine loop3 (I := fun j x h' => h' = h ∧ x = nI (v ^ j)) (n := n) (by omega) hfu ⟨rfl, rfl⟩ ?_ ?_
  · intro x h1 k hI
    obtain ⟨rfl, rfl⟩ := hI
    exact v_it (nI_le (Nat.le_refl _) (by omega)) (v_rI ⟨rfl, rfl⟩)
  · intro j x h1 k hj hI hk
    obtain ⟨rfl, rfl⟩ := hI
    unfold bX10_power_4
    dsimp only
    refine v_ie (nI_ge hj (by omega)) ?_
    refine v_lt (hk _ _ ⟨rfl, ?_⟩)
    rw [pk_mul, Nat.pow_succ]
/-- a number that goes down -/
theorem nI_m1 {n : Nat} : nI (n + 1) - 1 = nI n ∧ nI n + (-1) = nI n - 1 := ⟨nI_pred n, (Int32.sub_eq_add_neg _ _).symm⟩
theorem pw36 {k : Nat} (hk : k ≤ 3) : 0 < 36 ^ k ∧ 36 ^ k ≤ 46656 := ⟨Nat.pow_pos (by decide), Nat.pow_le_pow_right (n := 36) (by decide) hk⟩
theorem doTM {t u l fu o way n : Nat} {T : AT} {N : AN} {h : mh} (hM : MN t u l T N h) (hfu : 1000 ≤ fu) (ho : o < nL9 T) (hn : n ≤ 3) (hw : way < 100000) : ok (fX10_doTalks fu 299 (nI o) (nI way) (nI n) h) (fun x h' => eo (fun a _ => a = 338) h h' ∧ x = b2i (doF (ne9 T o) (nL9 T) o way n (kn N))) := by
  obtain ⟨hy, hl, hlv, htx, hng, hwT, hwN⟩ := id hM
  have hL := LM_of hy
  have h6 := hwT.2.1
  have hne := (hwT.2.2.2.1 o ho).1
  unfold fX10_doTalks
  refine loop2 (I := fun j h' => eo (fun a _ => a = 338) h h' ∧ ∀ i, i < j → gI h' 338 i = nI (kn N i)) (n := 6) (by omega) hfu ⟨eo_rf, fun i hi => by omega⟩ ?_ ?_
  · intro h1 k hI
    obtain ⟨o1, q1⟩ := hI
    unfold bX10_doTalks_3
    dsimp only
    refine v_it (by decide) ?_
    unfold fX10_doTalks_33
    apply v_lt
    refine itr_up (I := fun j s => ∃ K : Nat → Nat, s.1 = nI (n - j) - 1 ∧ eo (fun a _ => a = 338) h s.2 ∧ (∀ i, i < 6 → gI s.2 338 i = nI (K i) ∧ K i < 256) ∧ doF (ne9 T o) (nL9 T) o way n (kn N) = doF (ne9 T o) (nL9 T) o way (n - j) K) (P := fun R => ok R _) (n := n) ?_ ?_ fu 0 _ (by omega) (by omega) ⟨kn N, rfl, o1, fun i hi => ⟨q1 i hi, (hwN.1 i hi).1⟩, rfl⟩
    · intro j s kk hj hI hk
      obtain ⟨w, h2⟩ := s
      obtain ⟨K, e1, o2, q2, q3⟩ := hI
      dsimp only at e1 o2 q2
      have hM2 : MN t u l T N h2 := MN_eo o2 (fun a k q => by unfold sR; omega) hM
      have hL2 := LM_of hM2.1
      obtain ⟨m, hm⟩ : ∃ m, n - j = m + 1 := ⟨n - j - 1, by omega⟩
      rw [hm, nI_m1.1] at e1
      subst e1
      rw [hm] at q3
      obtain ⟨p0, p1⟩ := pw36 (k := m) (by omega)
      have hd36 : way / 36 ^ m % 36 < 36 := Nat.mod_lt _ (by decide)
      have hdw : way / 36 ^ m ≤ way := Nat.div_le_self _ _
      have eF : doF (ne9 T o) (nL9 T) o way (m + 1) K = if dgt way m / 6 < dgt way m % 6 ∧ dgt way m % 6 < nL9 T then doF (ne9 T o) (nL9 T) o way m (tlkK K (dgt way m / 6) (dgt way m % 6)) else false := by
        unfold doF
        rw [show tkR (nL9 T) way (m + 1) K = if dgt way m / 6 < dgt way m % 6 ∧ dgt way m % 6 < nL9 T then tkR (nL9 T) way m (tlkK K (dgt way m / 6) (dgt way m % 6)) else none from rfl]
        by_cases z : dgt way m / 6 < dgt way m % 6 ∧ dgt way m % 6 < nL9 T
        · rw [if_pos z, if_pos z]
        · rw [if_neg z, if_neg z]
      unfold bX10_doTalks_38
      dsimp only
      refine v_ie (nI_pos (by omega)) ?_
      refine v_eq (powM (v := 36) (n := m) hfu (by omega)) ?_
      refine v_dv (nI_ne0 p0 (by omega)) ?_
      rw [pk_div (by omega) p0 (by omega)]
      refine v_rm (by decide) ?_
      rw [show nI (way / 36 ^ m) - nI (way / 36 ^ m) / 36 * 36 = nI (dgt way m) from pk_rem (d := 36) (by omega) (by decide) (by decide)]
      have hdg : dgt way m < 36 := hd36
      refine v_dv (by decide) ?_
      rw [show nI (dgt way m) / 6 = nI (dgt way m / 6) from pk_div (d := 6) (by omega) (by decide) (by decide)]
      refine v_rm (by decide) ?_
      rw [show nI (dgt way m) - nI (dgt way m) / 6 * 6 = nI (dgt way m % 6) from pk_rem (d := 6) (by omega) (by decide) (by decide)]
      have h5 : dgt way m % 6 < 6 := Nat.mod_lt _ (by decide)
      obtain ⟨a, ea⟩ : ∃ a, dgt way m / 6 = a := ⟨_, rfl⟩
      obtain ⟨c, ec⟩ : ∃ c, dgt way m % 6 = c := ⟨_, rfl⟩
      rw [ea, ec] at eF ⊢
      rw [ec] at h5
      have ha6 : a < 6 := by omega
      refine v_if (fun z => v_rZ (Or.inl rfl) ⟨o2, ?_⟩) (fun z => ?_)
      · rw [nI_leI (by omega) (by omega)] at z
        rw [q3, eF, if_neg (by omega)]
        rfl
      rw [nI_leI (by omega) (by omega)] at z
      repeat (first | with_reducible apply v_lt | ((with_reducible apply w_MR); exact hL2; rfl) | ((with_reducible apply w_lv); exact hL2; assumption) | ((with_reducible apply vMI); exact hL2) | ((with_reducible apply vMS); exact hL2) | ((with_reducible apply vMC); exact hL2) | ((with_reducible apply vMZ); exact hL2; (first | exact Or.inl rfl | exact Or.inr rfl | exact b2i_01 _ | assumption)) | ((first | with_reducible apply w_MA | with_reducible apply w_MW | with_reducible apply w_MY | with_reducible apply w_MB | with_reducible apply w_MJ | with_reducible apply w_MK); exact hL2; rfl; rfl; rfl; (first | with_reducible rfl | with_reducible exact ixo _ | with_reducible exact ixoc _ _ | with_reducible exact ixom _ _ _ | with_reducible exact ixop _ _ | with_reducible exact ixod _ _ | assumption); omega))
      by_cases hc : c < nL9 T
      · refine v_eq (listM1 hM2 hc) ?_
        refine v_ie (by decide) ?_
        repeat (first | with_reducible apply v_lt | ((with_reducible apply w_MR); exact hL2; rfl) | ((with_reducible apply w_lv); exact hL2; assumption) | ((with_reducible apply vMI); exact hL2) | ((with_reducible apply vMS); exact hL2) | ((with_reducible apply vMC); exact hL2) | ((with_reducible apply vMZ); exact hL2; (first | exact Or.inl rfl | exact Or.inr rfl | exact b2i_01 _ | assumption)) | ((first | with_reducible apply w_MA | with_reducible apply w_MW | with_reducible apply w_MY | with_reducible apply w_MB | with_reducible apply w_MJ | with_reducible apply w_MK); exact hL2; rfl; rfl; rfl; (first | with_reducible rfl | with_reducible exact ixo _ | with_reducible exact ixoc _ _ | with_reducible exact ixom _ _ _ | with_reducible exact ixop _ _ | with_reducible exact ixod _ _ | assumption); omega))
        rw [(q2 a ha6).1, (q2 c h5).1, fa_or, gI_eq, nI_m1.2]
        refine hk _ ⟨tlkK K a c, ?_, eo_uI (eo_uI o2 rfl) rfl, fun i hi => ?_, ?_⟩
        · dsimp only
          rw [show n - (j + 1) = m from by omega]
        · dsimp only
          unfold tlkK
          by_cases z1 : i = c
          · rw [gI_eq' ⟨rfl, z1⟩, if_pos (Or.inr z1)]
            exact ⟨rfl, or_lt (q2 a ha6).2 (q2 c h5).2⟩
          · rw [gI_ne (fun w => z1 w.2)]
            by_cases z2 : i = a
            · rw [gI_eq' ⟨rfl, z2⟩, if_pos (Or.inl z2)]
              exact ⟨rfl, or_lt (q2 a ha6).2 (q2 c h5).2⟩
            · rw [gI_ne (fun w => z2 w.2), if_neg (by omega)]
              exact q2 i hi
        · rw [q3, eF, if_pos ⟨by omega, hc⟩, show n - (j + 1) = m from by omega]
      · refine v_eq (listM0 hM2 (fun ⟨r, hr, e⟩ => hc ?_)) (v_it rfl (v_rZ (Or.inl rfl) ⟨o2, ?_⟩))
        · rw [nI_eq (by omega) (by omega)] at e
          omega
        · rw [q3, eF, if_neg (fun w => hc w.2)]
          rfl
    · intro s kk hI
      obtain ⟨w, h2⟩ := s
      obtain ⟨K, e1, o2, q2, q3⟩ := hI
      dsimp only at e1 o2 q2
      rw [Nat.sub_self] at e1 q3
      subst e1
      have hM2 : MN t u l T N h2 := MN_eo o2 (fun a k q => by unfold sR; omega) hM
      obtain ⟨hy2, -, hlv2, htx2, -⟩ := id hM2
      have hL2 := LM_of hy2
      unfold bX10_doTalks_38
      dsimp only
      refine v_it (by decide) ?_
      unfold fX10_doTalks_126
      repeat (first | with_reducible apply v_lt | ((with_reducible apply w_MR); exact hL2; rfl) | ((with_reducible apply w_lv); exact hL2; assumption) | ((with_reducible apply vMI); exact hL2) | ((with_reducible apply vMS); exact hL2) | ((with_reducible apply vMC); exact hL2) | ((with_reducible apply vMZ); exact hL2; (first | exact Or.inl rfl | exact Or.inr rfl | exact b2i_01 _ | assumption)) | ((first | with_reducible apply w_MA | with_reducible apply w_MW | with_reducible apply w_MY | with_reducible apply w_MB | with_reducible apply w_MJ | with_reducible apply w_MK); exact hL2; rfl; rfl; rfl; (first | with_reducible rfl | with_reducible exact ixo _ | with_reducible exact ixoc _ _ | with_reducible exact ixom _ _ _ | with_reducible exact ixop _ _ | with_reducible exact ixod _ _ | assumption); omega))
      rw [(htx2.2.2.2.1 o ho).1, (q2 o (by omega)).1, fa_andn, q3]
      have := ndn_lt (n := 8) (b := K o) hne
      refine v_ze (q := ndn (ne9 T o) (K o)) (by omega) (fun e => v_rZ (Or.inr rfl) ⟨o2, ?_⟩) (fun e => v_rZ (Or.inl rfl) ⟨o2, ?_⟩)
      · show (1 : Int32) = b2i (decide (ndn (ne9 T o) (K o) = 0))
        rw [decide_eq_true e]
        rfl
      · show (0 : Int32) = b2i (decide (ndn (ne9 T o) (K o) = 0))
        rw [decide_eq_false (by omega)]
        rfl
  · intro j h1 k hj hI hk
    obtain ⟨o1, q1⟩ := hI
    have hL1 := LM_eo o1 hL
    unfold bX10_doTalks_3
    dsimp only
    refine v_ie (nI_ge (b := 6) hj (by omega)) ?_
    repeat (first | with_reducible apply v_lt | ((with_reducible apply w_MR); exact hL1; rfl) | ((with_reducible apply w_lv); exact hL1; assumption) | ((with_reducible apply vMI); exact hL1) | ((with_reducible apply vMS); exact hL1) | ((with_reducible apply vMC); exact hL1) | ((with_reducible apply vMZ); exact hL1; (first | exact Or.inl rfl | exact Or.inr rfl | exact b2i_01 _ | assumption)) | ((first | with_reducible apply w_MA | with_reducible apply w_MW | with_reducible apply w_MY | with_reducible apply w_MB | with_reducible apply w_MJ | with_reducible apply w_MK); exact hL1; rfl; rfl; rfl; (first | with_reducible rfl | with_reducible exact ixo _ | with_reducible exact ixoc _ _ | with_reducible exact ixom _ _ _ | with_reducible exact ixop _ _ | with_reducible exact ixod _ _ | assumption); omega))
    rw [o1.2 _ _ (show ¬ (333 : Nat) = 338 by decide), (hng.1 j hj).2.2.1]
    refine hk _ ⟨eo_uI o1 rfl, fun i hi => ?_⟩
    by_cases z : i = j
    · rw [z, gI_eq]
    · rw [gI_ne (fun w => z w.2)]
      exact q1 i (by omega)
theorem st_talks {fu : Nat} (hfu : 50000 ≤ fu) (h : mh) (x0 : Int32) (hS : Sim h) : pr Sim (fX9_talks fu 0 x0 h) (fun h1 => fX10_talks fu 299 x0 h1) := by
  obtain ⟨t, u, l, T, N, D, hS⟩ := hS
  have hC := hS.1
  have hT := LT_of hC.1
  obtain ⟨hy, htx, hng, -, hwT, hwN⟩ := id hC
  have hr6 := hwT.1
  have ho6 := hwT.2.1
  have hfu1 : 1000 ≤ fu := by omega
  have h64 := pw6 ho6
  by_cases q : ∃ r, r < nL9 T ∧ x0 = nI r
  · obtain ⟨o, ho, rfl⟩ := q
    have hlt : ∀ b, ciV T N o = some b → b < 256 := fun b e => by
      have := apU_lt _ _ b e
      omega
    refine pr_q (tlV (ciV T N o)) hS ?_ (fun h1 hS1 => ?_)
    · unfold fX9_talks
      repeat (first | with_reducible apply v_lt | ((with_reducible apply vXR4); exact hT) | ((with_reducible apply w_XR); exact (LM_T hT); rfl) | ((with_reducible apply w_TR); exact hT; rfl) | ((with_reducible apply w_UR); exact hT; rfl) | ((first | with_reducible apply vXI | with_reducible apply vXS | with_reducible apply vXC); exact (LM_T hT)) | ((first | with_reducible apply vT0I | with_reducible apply vT9I | with_reducible apply vT0C | with_reducible apply vT9C | with_reducible apply vT0S | with_reducible apply vT9S); exact hT) | ((first | with_reducible apply vNR0 | with_reducible apply vNR1 | with_reducible apply vNR2 | with_reducible apply vNR3 | with_reducible apply vNI | with_reducible apply vNS | with_reducible apply vNC); (first | assumption | exact m39 | exact m44); exact (LM_T hT)) | ((first | with_reducible apply w_NA | with_reducible apply w_NW); exact (LM_T hT); (first | assumption | exact m39 | exact m44); rfl; rfl; (first | with_reducible rfl | with_reducible exact ixo _ | with_reducible exact ixoc _ _ | with_reducible exact ixom _ _ _ | with_reducible exact ixop _ _ | with_reducible exact ixod _ _ | assumption); omega) | ((first | with_reducible apply w_TA | with_reducible apply w_TW | with_reducible apply w_TJ | with_reducible apply w_TK); exact hT; rfl; rfl; (first | with_reducible rfl | with_reducible exact ixo _ | with_reducible exact ixoc _ _ | with_reducible exact ixom _ _ _ | with_reducible exact ixop _ _ | with_reducible exact ixod _ _ | assumption); omega))
      refine v_eq (listC1 hC ho) ?_
      refine v_ie (by decide) ?_
      repeat (first | with_reducible apply v_lt | ((with_reducible apply vXR4); exact hT) | ((with_reducible apply w_XR); exact (LM_T hT); rfl) | ((with_reducible apply w_TR); exact hT; rfl) | ((with_reducible apply w_UR); exact hT; rfl) | ((first | with_reducible apply vXI | with_reducible apply vXS | with_reducible apply vXC); exact (LM_T hT)) | ((first | with_reducible apply vT0I | with_reducible apply vT9I | with_reducible apply vT0C | with_reducible apply vT9C | with_reducible apply vT0S | with_reducible apply vT9S); exact hT) | ((first | with_reducible apply vNR0 | with_reducible apply vNR1 | with_reducible apply vNR2 | with_reducible apply vNR3 | with_reducible apply vNI | with_reducible apply vNS | with_reducible apply vNC); (first | assumption | exact m39 | exact m44); exact (LM_T hT)) | ((first | with_reducible apply w_NA | with_reducible apply w_NW); exact (LM_T hT); (first | assumption | exact m39 | exact m44); rfl; rfl; (first | with_reducible rfl | with_reducible exact ixo _ | with_reducible exact ixoc _ _ | with_reducible exact ixom _ _ _ | with_reducible exact ixop _ _ | with_reducible exact ixod _ _ | assumption); omega) | ((first | with_reducible apply w_TA | with_reducible apply w_TW | with_reducible apply w_TJ | with_reducible apply w_TK); exact hT; rfl; rfl; (first | with_reducible rfl | with_reducible exact ixo _ | with_reducible exact ixoc _ _ | with_reducible exact ixom _ _ _ | with_reducible exact ixop _ _ | with_reducible exact ixod _ _ | assumption); omega))
      refine v_eq (circleC hC hfu1 ho) ?_
      unfold tlV
      rcases optI_neg hlt with ⟨z1, z2, z3⟩ | ⟨b, z1, z2, z3, z4, z5⟩
      · refine v_it z3 (v_rI ⟨eo_rf, ?_⟩)
        rw [z1]
      · refine v_ie z4 ?_
        rw [z5]
        refine v_eq (bitC z2) ?_
        have hp8 := pop_le b 8
        rw [z1]
        dsimp only
        by_cases w : pop b 8 ≤ 3
        · refine v_it (nI_le (b := 3) w (by decide)) ?_
          refine v_eq (bitC z2) (v_rI ⟨eo_rf, ?_⟩)
          rw [if_pos w]
        · refine v_ie (nI_ge (a := 3) (by omega) (by omega)) (v_rI ⟨eo_rf, ?_⟩)
          rw [if_neg w]
    · have hM1 := hS1.2.1
      obtain ⟨hy1, hl, hlv1, htx1, hng1, -, -⟩ := id hM1
      have hL1 := LM_of hy1
      obtain ⟨ex, hex⟩ : ∃ ex : Nat → Bool, ∀ n, ex n = true ↔ ∃ way, way < 36 ^ n ∧ doF (ne9 T o) (nL9 T) o way n (kn N) = true := ⟨fun n => anyU (fun way => doF (ne9 T o) (nL9 T) o way n (kn N)) (36 ^ n), fun n => anyU_iff _ _⟩
      rw [← tl_eq hwT ho (fun n _ => hex n)]
      unfold fX10_talks
      repeat (first | with_reducible apply v_lt | ((with_reducible apply w_MR); exact hL1; rfl) | ((with_reducible apply w_lv); exact hL1; assumption) | ((with_reducible apply vMI); exact hL1) | ((with_reducible apply vMS); exact hL1) | ((with_reducible apply vMC); exact hL1) | ((with_reducible apply vMZ); exact hL1; (first | exact Or.inl rfl | exact Or.inr rfl | exact b2i_01 _ | assumption)) | ((first | with_reducible apply w_MA | with_reducible apply w_MW | with_reducible apply w_MY | with_reducible apply w_MB | with_reducible apply w_MJ | with_reducible apply w_MK); exact hL1; rfl; rfl; rfl; (first | with_reducible rfl | with_reducible exact ixo _ | with_reducible exact ixoc _ _ | with_reducible exact ixom _ _ _ | with_reducible exact ixop _ _ | with_reducible exact ixod _ _ | assumption); omega))
      refine v_eq (listM1 hM1 ho) ?_
      refine v_ie (by decide) ?_
      refine loop2 (I := fun j h' => eo (fun a _ => a = 338) h1 h' ∧ lgF ex (4 - j) j = lgF ex 4 0) (n := 4) (by omega) hfu1 ⟨eo_rf, rfl⟩ ?_ ?_
      · intro h2 k hI
        obtain ⟨o2, e2⟩ := hI
        unfold bX10_talks_12
        dsimp only
        rw [← e2]
        exact v_it (by decide) (v_rI ⟨eo_mono o2 (fun a k q => by unfold sR; omega), rfl⟩)
      · intro j h2 k hj hI hk
        obtain ⟨o2, e2⟩ := hI
        obtain ⟨p0, p1⟩ := pw36 (k := j) (by omega)
        have e3 : lgF ex (4 - j) j = if ex j then nI j else lgF ex (4 - (j + 1)) (j + 1) := by
          rw [show 4 - j = (4 - (j + 1)) + 1 from by omega]
          rfl
        unfold bX10_talks_12
        dsimp only
        refine v_ie (nI_nlt (a := 3) (by omega) (by decide)) ?_
        refine loop2L (I := fun w h' => eo (fun a _ => a = 338) h1 h' ∧ ∀ w', w' < w → doF (ne9 T o) (nL9 T) o w' j (kn N) = false) (n := 36 ^ j) (by omega) ⟨o2, fun w hw => by omega⟩ ?_ ?_
        · intro h3 k3 hI3
          obtain ⟨o3, q3⟩ := hI3
          unfold bX10_talks_19
          dsimp only
          refine v_eq (powM (v := 36) (n := j) hfu1 (by omega)) ?_
          refine v_it (nI_le (Nat.le_refl _) (by omega)) ?_
          refine hk _ ⟨o3, ?_⟩
          rw [← e2, e3, if_neg]
          intro z
          obtain ⟨w, hw, e⟩ := (hex j).mp z
          rw [q3 w hw] at e
          cases e
        · intro w h3 k3 hw hI3 hk3
          obtain ⟨o3, q3⟩ := hI3
          have hM3 : MN t u l T N h3 := MN_eo o3 (fun a k q => by unfold sR; omega) hM1
          have hL3 := LM_of hM3.1
          unfold bX10_talks_19
          dsimp only
          refine v_eq (powM (v := 36) (n := j) hfu1 (by omega)) ?_
          refine v_ie (nI_ge hw (by omega)) ?_
          repeat (first | with_reducible apply v_lt | ((with_reducible apply w_MR); exact hL3; rfl) | ((with_reducible apply w_lv); exact hL3; assumption) | ((with_reducible apply vMI); exact hL3) | ((with_reducible apply vMS); exact hL3) | ((with_reducible apply vMC); exact hL3) | ((with_reducible apply vMZ); exact hL3; (first | exact Or.inl rfl | exact Or.inr rfl | exact b2i_01 _ | assumption)) | ((first | with_reducible apply w_MA | with_reducible apply w_MW | with_reducible apply w_MY | with_reducible apply w_MB | with_reducible apply w_MJ | with_reducible apply w_MK); exact hL3; rfl; rfl; rfl; (first | with_reducible rfl | with_reducible exact ixo _ | with_reducible exact ixoc _ _ | with_reducible exact ixom _ _ _ | with_reducible exact ixop _ _ | with_reducible exact ixod _ _ | assumption); omega))
          refine v_bd (doTM hM3 hfu1 ho (by omega) (by omega)) (fun x h4 hq => ?_)
          obtain ⟨o4, rfl⟩ := hq
          refine v_b (fun e => hk3 _ ⟨eo_tr o3 o4, fun w' hw' => ?_⟩) (fun e => v_rI ⟨eo_mono (eo_tr o3 o4) (fun a k q => by unfold sR; omega), ?_⟩)
          · by_cases z : w' = w
            · rw [z]
              exact e
            · exact q3 w' (by omega)
          · rw [← e2, e3, if_pos ((hex j).mpr ⟨w, hw, e⟩)]
  · refine pr_q (-1) hS ?_ (fun h1 hS1 => ?_)
    · unfold fX9_talks
      repeat (first | with_reducible apply v_lt | ((with_reducible apply vXR4); exact hT) | ((with_reducible apply w_XR); exact (LM_T hT); rfl) | ((with_reducible apply w_TR); exact hT; rfl) | ((with_reducible apply w_UR); exact hT; rfl) | ((first | with_reducible apply vXI | with_reducible apply vXS | with_reducible apply vXC); exact (LM_T hT)) | ((first | with_reducible apply vT0I | with_reducible apply vT9I | with_reducible apply vT0C | with_reducible apply vT9C | with_reducible apply vT0S | with_reducible apply vT9S); exact hT) | ((first | with_reducible apply vNR0 | with_reducible apply vNR1 | with_reducible apply vNR2 | with_reducible apply vNR3 | with_reducible apply vNI | with_reducible apply vNS | with_reducible apply vNC); (first | assumption | exact m39 | exact m44); exact (LM_T hT)) | ((first | with_reducible apply w_NA | with_reducible apply w_NW); exact (LM_T hT); (first | assumption | exact m39 | exact m44); rfl; rfl; (first | with_reducible rfl | with_reducible exact ixo _ | with_reducible exact ixoc _ _ | with_reducible exact ixom _ _ _ | with_reducible exact ixop _ _ | with_reducible exact ixod _ _ | assumption); omega) | ((first | with_reducible apply w_TA | with_reducible apply w_TW | with_reducible apply w_TJ | with_reducible apply w_TK); exact hT; rfl; rfl; (first | with_reducible rfl | with_reducible exact ixo _ | with_reducible exact ixoc _ _ | with_reducible exact ixom _ _ _ | with_reducible exact ixop _ _ | with_reducible exact ixod _ _ | assumption); omega))
      exact v_eq (listC0 hC q) (v_it rfl (v_rI ⟨eo_rf, rfl⟩))
    · have hM1 := hS1.2.1
      obtain ⟨hy1, hl, hlv1, htx1, hng1, -, -⟩ := id hM1
      have hL1 := LM_of hy1
      unfold fX10_talks
      repeat (first | with_reducible apply v_lt | ((with_reducible apply w_MR); exact hL1; rfl) | ((with_reducible apply w_lv); exact hL1; assumption) | ((with_reducible apply vMI); exact hL1) | ((with_reducible apply vMS); exact hL1) | ((with_reducible apply vMC); exact hL1) | ((with_reducible apply vMZ); exact hL1; (first | exact Or.inl rfl | exact Or.inr rfl | exact b2i_01 _ | assumption)) | ((first | with_reducible apply w_MA | with_reducible apply w_MW | with_reducible apply w_MY | with_reducible apply w_MB | with_reducible apply w_MJ | with_reducible apply w_MK); exact hL1; rfl; rfl; rfl; (first | with_reducible rfl | with_reducible exact ixo _ | with_reducible exact ixoc _ _ | with_reducible exact ixom _ _ _ | with_reducible exact ixop _ _ | with_reducible exact ixod _ _ | assumption); omega))
      exact v_eq (listM0 hM1 q) (v_it rfl (v_rI ⟨eo_rf, rfl⟩))
