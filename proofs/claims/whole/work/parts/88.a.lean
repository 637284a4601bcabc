/-! THE REFERENCE READS: notes, numbers, what must come -/
/-- a flaw noted -/
def nF (F : Nat × Nat) (c p : Nat) : Nat × Nat := if F.1 = 0 then (c, p) else F
theorem tF_nt {A : RT} {c p : Nat} : tF (nt A c p) = nF (tF A) c p := nt_F
def flM (F : Nat × Nat) (h : mh) : Prop := gI h 299 15 = nI F.1 ∧ (F.1 ≠ 0 → gI h 299 16 = nI F.2) ∧ F.1 ≤ 5
theorem flM_eo {S : Nat → Nat → Prop} {F : Nat × Nat} {h h1 : mh} (o : eo S h h1) (hs : ∀ a k, S a k → ¬ (a = 299 ∧ (k = 15 ∨ k = 16))) (q : flM F h) : flM F h1 := ⟨by rw [o.2 _ _ (fun z => hs _ _ z (by omega))]; exact q.1, fun z => by rw [o.2 _ _ (fun z => hs _ _ z (by omega))]; exact q.2.1 z, q.2.2⟩
def sWr (a k : Nat) : Prop := a = 299 ∧ (k = 15 ∨ k = 16)
theorem wrongM {fu c j t : Nat} {τ : Nat → Tk} {F : Nat × Nat} {h : mh} (hL : LM h.2) (hc : 1 ≤ c ∧ c ≤ 5) (hj : j ≤ 400) (hno : ∀ k, k < j → tkK (τ k) ≠ 98) (hp : tkP (τ j) ≤ 2000) (a : atM τ t h) (f : flM F h) (hF : F.1 ≠ 0 → F.2 < tkP (τ j) ∨ (F.2 = tkP (τ j) ∧ F.1 ≤ c)) : ok (fX10_wrong fu 299 (nI c) (nI j) h) (fun _ h' => eo sWr h h' ∧ flM (nF F c (tkP (τ j))) h') := by
  have w2 := (a.2.2.2.2 j hj hno).2.1
  obtain ⟨f1, f2, f3⟩ := f
  have put : ok (fX10_wrong_46 fu 299 (nI c) (nI j) (nI (tkP (τ j))) h) (fun _ h' => eo sWr h h' ∧ flM (c, tkP (τ j)) h') := by
    unfold fX10_wrong_46
    repeat (first | with_reducible apply v_lt | ((with_reducible apply w_MR); exact hL; rfl) | ((with_reducible apply w_lv); exact hL; assumption) | ((with_reducible apply vMI); exact hL) | ((with_reducible apply vMS); exact hL) | ((with_reducible apply vMC); exact hL) | ((with_reducible apply vMZ); exact hL; (first | exact Or.inl rfl | exact Or.inr rfl | exact b2i_01 _ | assumption)) | ((first | with_reducible apply w_MA | with_reducible apply w_MW | with_reducible apply w_MY | with_reducible apply w_MB | with_reducible apply w_MJ | with_reducible apply w_MK); exact hL; rfl; rfl; rfl; (first | with_reducible rfl | with_reducible exact ixo _ | with_reducible exact ixoc _ _ | with_reducible exact ixom _ _ _ | with_reducible exact ixop _ _ | with_reducible exact ixod _ _ | assumption); omega))
    refine v_rV ⟨eo_uI (eo_uI eo_rf ⟨rfl, Or.inl rfl⟩) ⟨rfl, Or.inr rfl⟩, ?_, fun _ => gI_eq, hc.2⟩
    rw [gI_ne (by omega), gI_eq]
  unfold fX10_wrong
  repeat (first | with_reducible apply v_lt | ((with_reducible apply w_MR); exact hL; rfl) | ((with_reducible apply w_lv); exact hL; assumption) | ((with_reducible apply vMI); exact hL) | ((with_reducible apply vMS); exact hL) | ((with_reducible apply vMC); exact hL) | ((with_reducible apply vMZ); exact hL; (first | exact Or.inl rfl | exact Or.inr rfl | exact b2i_01 _ | assumption)) | ((first | with_reducible apply w_MA | with_reducible apply w_MW | with_reducible apply w_MY | with_reducible apply w_MB | with_reducible apply w_MJ | with_reducible apply w_MK); exact hL; rfl; rfl; rfl; (first | with_reducible rfl | with_reducible exact ixo _ | with_reducible exact ixoc _ _ | with_reducible exact ixom _ _ _ | with_reducible exact ixop _ _ | with_reducible exact ixod _ _ | assumption); omega))
  rw [w2, a.2.1]
  refine v_ie (by decide) ?_
  repeat (first | with_reducible apply v_lt | ((with_reducible apply w_MR); exact hL; rfl) | ((with_reducible apply w_lv); exact hL; assumption) | ((with_reducible apply vMI); exact hL) | ((with_reducible apply vMS); exact hL) | ((with_reducible apply vMC); exact hL) | ((with_reducible apply vMZ); exact hL; (first | exact Or.inl rfl | exact Or.inr rfl | exact b2i_01 _ | assumption)) | ((first | with_reducible apply w_MA | with_reducible apply w_MW | with_reducible apply w_MY | with_reducible apply w_MB | with_reducible apply w_MJ | with_reducible apply w_MK); exact hL; rfl; rfl; rfl; (first | with_reducible rfl | with_reducible exact ixo _ | with_reducible exact ixoc _ _ | with_reducible exact ixom _ _ _ | with_reducible exact ixop _ _ | with_reducible exact ixod _ _ | assumption); omega))
  rw [f1]
  unfold nF
  by_cases z : F.1 = 0
  · rw [if_pos z]
    exact v_it (by rw [z]; rfl) put
  · rw [if_neg z]
    have f2 := f2 z
    refine v_ie (fun y => z ((nI_z (by omega)).mp y)) ?_
    repeat (first | with_reducible apply v_lt | ((with_reducible apply w_MR); exact hL; rfl) | ((with_reducible apply w_lv); exact hL; assumption) | ((with_reducible apply vMI); exact hL) | ((with_reducible apply vMS); exact hL) | ((with_reducible apply vMC); exact hL) | ((with_reducible apply vMZ); exact hL; (first | exact Or.inl rfl | exact Or.inr rfl | exact b2i_01 _ | assumption)) | ((first | with_reducible apply w_MA | with_reducible apply w_MW | with_reducible apply w_MY | with_reducible apply w_MB | with_reducible apply w_MJ | with_reducible apply w_MK); exact hL; rfl; rfl; rfl; (first | with_reducible rfl | with_reducible exact ixo _ | with_reducible exact ixoc _ _ | with_reducible exact ixom _ _ _ | with_reducible exact ixop _ _ | with_reducible exact ixod _ _ | assumption); omega))
    rw [f2]
    rcases hF z with y | ⟨y1, y2⟩
    · exact v_it (nI_lt y (by omega)) (v_rV ⟨eo_rf, f1, fun _ => f2, f3⟩)
    · refine v_ie (nI_nlt (by omega) (by omega)) ?_
      repeat (first | with_reducible apply v_lt | ((with_reducible apply w_MR); exact hL; rfl) | ((with_reducible apply w_lv); exact hL; assumption) | ((with_reducible apply vMI); exact hL) | ((with_reducible apply vMS); exact hL) | ((with_reducible apply vMC); exact hL) | ((with_reducible apply vMZ); exact hL; (first | exact Or.inl rfl | exact Or.inr rfl | exact b2i_01 _ | assumption)) | ((first | with_reducible apply w_MA | with_reducible apply w_MW | with_reducible apply w_MY | with_reducible apply w_MB | with_reducible apply w_MJ | with_reducible apply w_MK); exact hL; rfl; rfl; rfl; (first | with_reducible rfl | with_reducible exact ixo _ | with_reducible exact ixoc _ _ | with_reducible exact ixom _ _ _ | with_reducible exact ixop _ _ | with_reducible exact ixod _ _ | assumption); omega))
      rw [f2]
      refine v_it (by rw [y1]) ?_
      repeat (first | with_reducible apply v_lt | ((with_reducible apply w_MR); exact hL; rfl) | ((with_reducible apply w_lv); exact hL; assumption) | ((with_reducible apply vMI); exact hL) | ((with_reducible apply vMS); exact hL) | ((with_reducible apply vMC); exact hL) | ((with_reducible apply vMZ); exact hL; (first | exact Or.inl rfl | exact Or.inr rfl | exact b2i_01 _ | assumption)) | ((first | with_reducible apply w_MA | with_reducible apply w_MW | with_reducible apply w_MY | with_reducible apply w_MB | with_reducible apply w_MJ | with_reducible apply w_MK); exact hL; rfl; rfl; rfl; (first | with_reducible rfl | with_reducible exact ixo _ | with_reducible exact ixoc _ _ | with_reducible exact ixom _ _ _ | with_reducible exact ixop _ _ | with_reducible exact ixod _ _ | assumption); omega))
      rw [f1]
      exact v_ie (nI_nlt (by omega) (by omega)) (v_rV ⟨eo_rf, f1, fun _ => f2, f3⟩)
/-- in a form: what the machine does -/
theorem run_m {τ : Nat → Tk} {A : RT} {tl st j : Nat} {rl : Option Nat} (hj : j ≤ 400) (h1 : tl ≠ 10) (h2 : ¬ (3 ≤ tl ∧ tl < 7)) : (tkK (τ j) ≠ fm tl st → run τ (A, tl, st, rl, none) j = (1, tkP (τ j), A)) ∧ (tkK (τ j) = fm tl st → j = 400 → run τ (A, tl, st, rl, none) j = (2, tkP (τ j), A)) ∧ (tkK (τ j) = fm tl st → j ≠ 400 → run τ (A, tl, st, rl, none) j = run τ (stp (A, tl, st, rl, none) (τ j)).2 (j + 1)) := by
  have es := stp_f (A := A) (st := st) (rl := rl) (lz := none) (q := τ j) h1 h2
  have hk : ¬ (((A, tl, st, rl, none) : MZ).2.1 = 10 ∧ tkK (τ j) = 98) := fun z => h1 z.1
  have z0 : tkK (τ j) = fm tl st → (stp (A, tl, st, rl, none) (τ j)).1 = 0 := fun z => by
    rw [es, if_neg (fun y => y z)]
    split
    · rfl
    · split
      · rfl
      · split
        · split <;> rfl
        · rfl
  refine ⟨fun z => ?_, fun z z4 => ?_, fun z z4 => ?_⟩
  · rw [if_pos z] at es
    exact run_x hj hk es Nat.one_ne_zero
  · exact run_r z4 hk (M' := (stp (A, tl, st, rl, none) (τ j)).2) (Prod.ext (z0 z) rfl)
  · exact run_s (by omega) hk (M' := (stp (A, tl, st, rl, none) (τ j)).2) (Prod.ext (z0 z) rfl)
theorem fm_k {tl st : Nat} : okk (fm tl st) := by
  rcases fm_c (tl := tl) (st := st) with e | e | e
  · rw [e]; exact ⟨by omega, Or.inl (by omega)⟩
  · rw [e]; exact ⟨by omega, Or.inl (by omega)⟩
  · rw [e]; exact ⟨by omega, Or.inr rfl⟩
/-- the machine at a token is dead -/
def ddR (R : Nat × Nat × RT) (h : mh) : Prop := ddM R.1 R.2.1 h
theorem mustW {fu j tl st : Nat} {τ : Nat → Tk} {A : RT} {rl : Option Nat} {x : Int32} {h : mh} (hL : LM h.2) (hT : okT τ) (hx : x = soM (fm tl st)) (h1 : tl ≠ 10) (h2 : ¬ (3 ≤ tl ∧ tl < 7)) (a : atM τ j h) : ok (fX10_must fu 299 x h) (fun _ h' => eo sGo h h' ∧ ((tkK (τ j) = fm tl st ∧ j < 400 ∧ atM τ (j + 1) h') ∨ ddR (run τ (A, tl, st, rl, none) j) h')) := by
  have hj := a.2.2.1
  obtain ⟨r1, r2, r3⟩ := run_m (A := A) (rl := rl) (st := st) hj h1 h2 (τ := τ)
  rw [hx]
  refine ok_mono (mustM hL fm_k (hT j).1 a) (fun _ h' q => ?_)
  obtain ⟨o, q1, q2⟩ := q
  refine ⟨o, ?_⟩
  by_cases z : tkK (τ j) = fm tl st
  · obtain ⟨q3, q4⟩ := q2 z
    by_cases z4 : j = 400
    · refine Or.inr ?_
      rw [r2 z z4]
      exact q3 z4
    · exact Or.inl ⟨z, by omega, q4 z4⟩
  · refine Or.inr ?_
    rw [r1 z]
    exact q1 z
theorem boundD {fu c p : Nat} {x y : Int32} {h : mh} (hL : LM h.2) (d : ddM c p h) : fX10_bounded fu 299 x y h = some (x, h) := by
  refine ok_eq ?_
  unfold fX10_bounded
  repeat (first | with_reducible apply v_lt | ((with_reducible apply w_MR); exact hL; rfl) | ((with_reducible apply w_lv); exact hL; assumption) | ((with_reducible apply vMI); exact hL) | ((with_reducible apply vMS); exact hL) | ((with_reducible apply vMC); exact hL) | ((with_reducible apply vMZ); exact hL; (first | exact Or.inl rfl | exact Or.inr rfl | exact b2i_01 _ | assumption)) | ((first | with_reducible apply w_MA | with_reducible apply w_MW | with_reducible apply w_MY | with_reducible apply w_MB | with_reducible apply w_MJ | with_reducible apply w_MK); exact hL; rfl; rfl; rfl; (first | with_reducible rfl | with_reducible exact ixo _ | with_reducible exact ixoc _ _ | with_reducible exact ixom _ _ _ | with_reducible exact ixop _ _ | with_reducible exact ixod _ _ | assumption); omega))
  have e : (0 : Int32) < gI h 299 13 := by
    rw [d.2.1]
    exact nI_lt (a := 0) (by have := d.1; omega) (by have := d.1; omega)
  refine v_it e ?_
  unfold fX10_bounded_15
  repeat (first | with_reducible apply v_lt | ((with_reducible apply w_MR); exact hL; rfl) | ((with_reducible apply w_lv); exact hL; assumption) | ((with_reducible apply vMI); exact hL) | ((with_reducible apply vMS); exact hL) | ((with_reducible apply vMC); exact hL) | ((with_reducible apply vMZ); exact hL; (first | exact Or.inl rfl | exact Or.inr rfl | exact b2i_01 _ | assumption)) | ((first | with_reducible apply w_MA | with_reducible apply w_MW | with_reducible apply w_MY | with_reducible apply w_MB | with_reducible apply w_MJ | with_reducible apply w_MK); exact hL; rfl; rfl; rfl; (first | with_reducible rfl | with_reducible exact ixo _ | with_reducible exact ixoc _ _ | with_reducible exact ixom _ _ _ | with_reducible exact ixop _ _ | with_reducible exact ixod _ _ | assumption); omega))
  exact v_eq (failD hL d) (v_rI ⟨rfl, rfl⟩)
def sBo (a k : Nat) : Prop := a = 299 ∧ (k = 11 ∨ k = 13 ∨ k = 14 ∨ k = 15 ∨ k = 16)
def boF (F : Nat × Nat) (lo hi v p : Nat) : Nat × Nat := if v < lo ∨ hi < v then nF F 5 p else F
theorem boundW {fu j tl st lo hi : Nat} {τ : Nat → Tk} {A : RT} {rl : Option Nat} {F : Nat × Nat} {x y : Int32} {h : mh} (hL : LM h.2) (hT : okT τ) (hx : x = nI lo) (hy : y = nI hi) (hlo : lo ≤ 10000) (hhi : hi ≤ 10000) (h1 : tl ≠ 10) (h2 : ¬ (3 ≤ tl ∧ tl < 7)) (hf : fm tl st = 23) (hp : tkP (τ j) ≤ 2000) (a : atM τ j h) (f : flM F h) (hF : F.1 ≠ 0 → F.2 < tkP (τ j)) : ok (fX10_bounded fu 299 x y h) (fun v h' => eo sBo h h' ∧ ((tkK (τ j) = 23 ∧ j < 400 ∧ v = nI (tkV (τ j)) ∧ atM τ (j + 1) h' ∧ flM (boF F lo hi (tkV (τ j)) (tkP (τ j))) h') ∨ ddR (run τ (A, tl, st, rl, none) j) h')) := by
  have hj := a.2.2.1
  have hno := a.2.2.2.1
  obtain ⟨r1, r2, r3⟩ := run_m (A := A) (rl := rl) (st := st) hj h1 h2 (τ := τ)
  rw [hf] at r1 r2
  subst hx
  subst hy
  unfold fX10_bounded
  repeat (first | with_reducible apply v_lt | ((with_reducible apply w_MR); exact hL; rfl) | ((with_reducible apply w_lv); exact hL; assumption) | ((with_reducible apply vMI); exact hL) | ((with_reducible apply vMS); exact hL) | ((with_reducible apply vMC); exact hL) | ((with_reducible apply vMZ); exact hL; (first | exact Or.inl rfl | exact Or.inr rfl | exact b2i_01 _ | assumption)) | ((first | with_reducible apply w_MA | with_reducible apply w_MW | with_reducible apply w_MY | with_reducible apply w_MB | with_reducible apply w_MJ | with_reducible apply w_MK); exact hL; rfl; rfl; rfl; (first | with_reducible rfl | with_reducible exact ixo _ | with_reducible exact ixoc _ _ | with_reducible exact ixom _ _ _ | with_reducible exact ixop _ _ | with_reducible exact ixod _ _ | assumption); omega))
  rw [a.2.1]
  refine v_ie (by decide) ?_
  repeat (first | with_reducible apply v_lt | ((with_reducible apply w_MR); exact hL; rfl) | ((with_reducible apply w_lv); exact hL; assumption) | ((with_reducible apply vMI); exact hL) | ((with_reducible apply vMS); exact hL) | ((with_reducible apply vMC); exact hL) | ((with_reducible apply vMZ); exact hL; (first | exact Or.inl rfl | exact Or.inr rfl | exact b2i_01 _ | assumption)) | ((first | with_reducible apply w_MA | with_reducible apply w_MW | with_reducible apply w_MY | with_reducible apply w_MB | with_reducible apply w_MJ | with_reducible apply w_MK); exact hL; rfl; rfl; rfl; (first | with_reducible rfl | with_reducible exact ixo _ | with_reducible exact ixoc _ _ | with_reducible exact ixom _ _ _ | with_reducible exact ixop _ _ | with_reducible exact ixod _ _ | assumption); omega))
  refine v_eq (isM (x := 23) hL ⟨by omega, Or.inl (by omega)⟩ (hT j).1 a) ?_
  by_cases z : tkK (τ j) = 23
  · rw [decide_eq_true z]
    refine v_ie (by decide) ?_
    have w3 := (a.2.2.2.2 j hj hno).2.2.1 z
    have hv := (hT j).2 z
    have go : ∀ h1, eo sWr h h1 → atM τ j h1 → flM (boF F lo hi (tkV (τ j)) (tkP (τ j))) h1 → ok (fX10_bounded_51 fu 299 (nI lo) (nI hi) (nI (tkV (τ j))) h1) (fun v h' => eo sBo h h' ∧ ((tkK (τ j) = 23 ∧ j < 400 ∧ v = nI (tkV (τ j)) ∧ atM τ (j + 1) h' ∧ flM (boF F lo hi (tkV (τ j)) (tkP (τ j))) h') ∨ ddR (run τ (A, tl, st, rl, none) j) h')) := by
      intro h1 o1 a1 f1
      have hL1 : LM h1.2 := by rw [o1.1]; exact hL
      unfold fX10_bounded_51
      repeat (first | with_reducible apply v_lt | ((with_reducible apply w_MR); exact hL1; rfl) | ((with_reducible apply w_lv); exact hL1; assumption) | ((with_reducible apply vMI); exact hL1) | ((with_reducible apply vMS); exact hL1) | ((with_reducible apply vMC); exact hL1) | ((with_reducible apply vMZ); exact hL1; (first | exact Or.inl rfl | exact Or.inr rfl | exact b2i_01 _ | assumption)) | ((first | with_reducible apply w_MA | with_reducible apply w_MW | with_reducible apply w_MY | with_reducible apply w_MB | with_reducible apply w_MJ | with_reducible apply w_MK); exact hL1; rfl; rfl; rfl; (first | with_reducible rfl | with_reducible exact ixo _ | with_reducible exact ixoc _ _ | with_reducible exact ixom _ _ _ | with_reducible exact ixop _ _ | with_reducible exact ixod _ _ | assumption); omega))
      refine v_bd (goM hL1 (by omega) a1) (fun _ h2 q => ?_)
      obtain ⟨o2, q1, q2⟩ := q
      refine v_rI ⟨eo_tr (eo_mono o1 (fun a k z => by unfold sWr at z; unfold sBo; omega)) (eo_mono o2 (fun a k z => by unfold sGo at z; unfold sBo; omega)), ?_⟩
      by_cases z4 : j = 400
      · refine Or.inr ?_
        rw [r2 z z4]
        exact q1 z4
      · exact Or.inl ⟨z, by omega, rfl, q2 z4, flM_eo o2 (fun a k z => by unfold sGo at z; omega) f1⟩
    have bad : (tkV (τ j) < lo ∨ hi < tkV (τ j)) → ok (fX10_bounded_42 fu 299 (nI lo) (nI hi) (nI (tkV (τ j))) h) (fun v h' => eo sBo h h' ∧ ((tkK (τ j) = 23 ∧ j < 400 ∧ v = nI (tkV (τ j)) ∧ atM τ (j + 1) h' ∧ flM (boF F lo hi (tkV (τ j)) (tkP (τ j))) h') ∨ ddR (run τ (A, tl, st, rl, none) j) h')) := by
      intro zb
      unfold fX10_bounded_42
      repeat (first | with_reducible apply v_lt | ((with_reducible apply w_MR); exact hL; rfl) | ((with_reducible apply w_lv); exact hL; assumption) | ((with_reducible apply vMI); exact hL) | ((with_reducible apply vMS); exact hL) | ((with_reducible apply vMC); exact hL) | ((with_reducible apply vMZ); exact hL; (first | exact Or.inl rfl | exact Or.inr rfl | exact b2i_01 _ | assumption)) | ((first | with_reducible apply w_MA | with_reducible apply w_MW | with_reducible apply w_MY | with_reducible apply w_MB | with_reducible apply w_MJ | with_reducible apply w_MK); exact hL; rfl; rfl; rfl; (first | with_reducible rfl | with_reducible exact ixo _ | with_reducible exact ixoc _ _ | with_reducible exact ixom _ _ _ | with_reducible exact ixop _ _ | with_reducible exact ixod _ _ | assumption); omega))
      rw [a.1]
      refine v_bd (wrongM (c := 5) hL (by omega) hj hno hp a f (fun y => Or.inl (hF y))) (fun _ h1 q => ?_)
      obtain ⟨o1, f1⟩ := q
      refine go h1 o1 (atM_eo o1 (fun a k z => by unfold sWr at z; omega) a) ?_
      unfold boF
      rw [if_pos zb]
      exact f1
    repeat (first | with_reducible apply v_lt | ((with_reducible apply w_MR); exact hL; rfl) | ((with_reducible apply w_lv); exact hL; assumption) | ((with_reducible apply vMI); exact hL) | ((with_reducible apply vMS); exact hL) | ((with_reducible apply vMC); exact hL) | ((with_reducible apply vMZ); exact hL; (first | exact Or.inl rfl | exact Or.inr rfl | exact b2i_01 _ | assumption)) | ((first | with_reducible apply w_MA | with_reducible apply w_MW | with_reducible apply w_MY | with_reducible apply w_MB | with_reducible apply w_MJ | with_reducible apply w_MK); exact hL; rfl; rfl; rfl; (first | with_reducible rfl | with_reducible exact ixo _ | with_reducible exact ixoc _ _ | with_reducible exact ixom _ _ _ | with_reducible exact ixop _ _ | with_reducible exact ixod _ _ | assumption); omega))
    rw [a.1]
    repeat (first | with_reducible apply v_lt | ((with_reducible apply w_MR); exact hL; rfl) | ((with_reducible apply w_lv); exact hL; assumption) | ((with_reducible apply vMI); exact hL) | ((with_reducible apply vMS); exact hL) | ((with_reducible apply vMC); exact hL) | ((with_reducible apply vMZ); exact hL; (first | exact Or.inl rfl | exact Or.inr rfl | exact b2i_01 _ | assumption)) | ((first | with_reducible apply w_MA | with_reducible apply w_MW | with_reducible apply w_MY | with_reducible apply w_MB | with_reducible apply w_MJ | with_reducible apply w_MK); exact hL; rfl; rfl; rfl; (first | with_reducible rfl | with_reducible exact ixo _ | with_reducible exact ixoc _ _ | with_reducible exact ixom _ _ _ | with_reducible exact ixop _ _ | with_reducible exact ixod _ _ | assumption); omega))
    rw [w3]
    by_cases zl : tkV (τ j) < lo
    · exact v_it (nI_lt zl (by omega)) (bad (Or.inl zl))
    · refine v_ie (nI_nlt (by omega) (by omega)) ?_
      by_cases zh : hi < tkV (τ j)
      · exact v_ie (nI_ge zh (by omega)) (bad (Or.inr zh))
      · refine v_it (nI_le (by omega) (by omega)) ?_
        refine go h eo_rf a ?_
        unfold boF
        rw [if_neg (by omega)]
        exact f
  · rw [decide_eq_false z]
    refine v_it rfl ?_
    unfold fX10_bounded_15
    repeat (first | with_reducible apply v_lt | ((with_reducible apply w_MR); exact hL; rfl) | ((with_reducible apply w_lv); exact hL; assumption) | ((with_reducible apply vMI); exact hL) | ((with_reducible apply vMS); exact hL) | ((with_reducible apply vMC); exact hL) | ((with_reducible apply vMZ); exact hL; (first | exact Or.inl rfl | exact Or.inr rfl | exact b2i_01 _ | assumption)) | ((first | with_reducible apply w_MA | with_reducible apply w_MW | with_reducible apply w_MY | with_reducible apply w_MB | with_reducible apply w_MJ | with_reducible apply w_MK); exact hL; rfl; rfl; rfl; (first | with_reducible rfl | with_reducible exact ixo _ | with_reducible exact ixoc _ _ | with_reducible exact ixom _ _ _ | with_reducible exact ixop _ _ | with_reducible exact ixod _ _ | assumption); omega))
    refine v_bd (failM (c := 1) hL (by omega) a) (fun _ h1 q => ?_)
    obtain ⟨o1, d1⟩ := q
    refine v_rI ⟨eo_mono o1 (fun a k z => by unfold sFl at z; unfold sBo; omega), Or.inr ?_⟩
    rw [r1 z]
    exact d1
