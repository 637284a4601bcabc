/-! THE REFERENCE READS: what it holds of a text so far -/
def sRm (s a k : Nat) : Prop := (a = 299 ∧ (k = 11 ∨ k = 12 ∨ k = 13 ∨ k = 14 ∨ k = 15 ∨ k = 16 ∨ k = 20 ∨ k = 37 ∨ k = 43 ∨ k = 47)) ∨ a = 308 ∨ ((a = 309 ∨ a = 312 ∨ (317 ≤ a ∧ a ≤ 320)) ∧ k = s) ∨ ((a = 310 ∨ a = 311 ∨ (313 ≤ a ∧ a ≤ 316)) ∧ 6 * s ≤ k ∧ k < 6 * s + 6) ∨ ((a = 321 ∨ a = 322) ∧ 4 * s ≤ k ∧ k < 4 * s + 4) ∨ (323 ≤ a ∧ a ≤ 327 ∧ 130 * s ≤ k ∧ k < 130 * s + 130) ∨ ((a = 328 ∨ a = 329) ∧ 420 * s ≤ k ∧ k < 420 * s + 420) ∨ a = 330
def tcM (s : Nat) (A : RT) (h : mh) : Prop := (gI h 309 s = nI (tX A 0 0) ∧ gI h 312 s = nI (tX A 0 1) ∧ gI h 317 s = nI (tX A 0 2) ∧ gI h 318 s = nI (tX A 0 3) ∧ gI h 319 s = nI (tX A 0 4) ∧ gI h 320 s = nI (tX A 0 5)) ∧ (∀ r, r < tX A 0 0 → gI h 310 (6 * s + r) = nI (tX A 1 r) ∧ gI h 311 (6 * s + r) = nI (tX A 2 r)) ∧ (∀ l, l < tX A 0 1 → gI h 313 (6 * s + l) = nI (tX A 3 l) ∧ gI h 314 (6 * s + l) = nI (tX A 4 l) ∧ gI h 315 (6 * s + l) = nI (tX A 5 l)) ∧ (∀ l, l < 6 → gI h 316 (6 * s + l) = nI (tX A 6 l))
/-- a law by its own cells alone -/
def lawN (h : mh) (s k nb cr : Nat) (A : Lw) : Prop := ∀ h1, gI h1 321 (4 * s + k) = gI h 321 (4 * s + k) → gI h1 322 (4 * s + k) = gI h 322 (4 * s + k) → (∀ a j, 323 ≤ a → a ≤ 327 → 130 * s ≤ j → j < 130 * s + nb → gI h1 a j = gI h a j) → (∀ a j, 328 ≤ a → a ≤ 329 → 420 * s ≤ j → j < 420 * s + cr → gI h1 a j = gI h a j) → lawM h1 s k A
theorem lawN_M {h : mh} {s k nb cr : Nat} {A : Lw} (q : lawN h s k nb cr A) : lawM h s k A := q h rfl rfl (fun _ _ _ _ _ _ => rfl) (fun _ _ _ _ _ _ => rfl)
theorem lawN_fr {h h1 : mh} {s k nb cr nb1 cr1 : Nat} {A : Lw} (q : lawN h s k nb cr A) (hb : nb ≤ nb1) (hc : cr ≤ cr1) (f1 : gI h1 321 (4 * s + k) = gI h 321 (4 * s + k)) (f2 : gI h1 322 (4 * s + k) = gI h 322 (4 * s + k)) (f3 : ∀ a j, 323 ≤ a → a ≤ 327 → 130 * s ≤ j → j < 130 * s + nb → gI h1 a j = gI h a j) (f4 : ∀ a j, 328 ≤ a → a ≤ 329 → 420 * s ≤ j → j < 420 * s + cr → gI h1 a j = gI h a j) : lawN h1 s k nb1 cr1 A := fun h2 g1 g2 g3 g4 => q h2 (g1.trans f1) (g2.trans f2) (fun a j j1 j2 j3 j4 => (g3 a j j1 j2 j3 (by omega)).trans (f3 a j j1 j2 j3 j4)) (fun a j j1 j2 j3 j4 => (g4 a j j1 j2 j3 (by omega)).trans (f4 a j j1 j2 j3 j4))
def lwM (s : Nat) (A : RT) (i : Nat) (h : mh) : Prop := ∃ cr nb, gI h 299 43 = nI (420 * s + cr) ∧ cr ≤ i ∧ gI h 299 37 = nI (130 * s + nb) ∧ 4 * nb ≤ i ∧ ∀ k, k < 4 → lawN h s k nb cr (tW A k)
theorem lwM_eL {S SL : Nat → Nat → Prop} {s i i1 : Nat} {A A1 : RT} {h h1 : mh} (o : eL S SL h h1) (hs : ∀ a k, S a k → ¬ ((a = 299 ∧ (k = 37 ∨ k = 43)) ∨ (321 ≤ a ∧ a ≤ 329))) (hi : i ≤ i1) (eW : tW A1 = tW A) (q : lwM s A i h) : lwM s A1 i1 h1 := by
  obtain ⟨cr, nb, q1, q2, q3, q4, q5⟩ := q
  have f : ∀ a k, ((a = 299 ∧ (k = 37 ∨ k = 43)) ∨ (321 ≤ a ∧ a ≤ 329)) → gI h1 a k = gI h a k := fun a k z => o.2.1 _ _ (fun y => hs a k y z)
  refine ⟨cr, nb, by rw [f _ _ (by omega)]; exact q1, by omega, by rw [f _ _ (by omega)]; exact q3, by omega, fun k hk => ?_⟩
  rw [eW]
  exact lawN_fr (q5 k hk) (Nat.le_refl _) (Nat.le_refl _) (f _ _ (by omega)) (f _ _ (by omega)) (fun a j _ _ _ _ => f _ _ (by omega)) (fun a j _ _ _ _ => f _ _ (by omega))
def fpl (τ : Nat → Tk) (F : Nat × Nat) (i : Nat) : Prop := F.1 ≠ 0 → F.2 < tkP (τ i)
def relM (τ : Nat → Tk) (s : Nat) (A : RT) (i : Nat) (h : mh) : Prop := (atM τ i h ∧ gI h 299 12 = 0 ∧ gI h 299 19 = nI s) ∧ tcM s A h ∧ (∃ no, nmM A no h) ∧ flM (tF A) h ∧ fpl τ (tF A) i ∧ lwM s A i h ∧ wM (bd9 A)
/-- what a tell comes to -/
def tellQ (τ : Nat → Tk) (s : Nat) (A : RT) (i : Nat) (h h' : mh) : Prop := eL (sRm s) lEn h h' ∧ ((∃ A' i', run τ (bd9 A) i = run τ (bd9 A') i' ∧ i < i' ∧ relM τ s A' i' h') ∨ ddR (run τ (bd9 A) i) h')
/-- in a form, no FAULT so far -/
def alvF (τ : Nat → Tk) (R : Nat × Nat × RT) (A : RT) (tl st : Nat) (rl : Option Nat) (j : Nat) (h : mh) : Prop := R = run τ (A, tl, st, rl, none) j ∧ wM (A, tl, st, rl, none) ∧ atM τ j h ∧ flM (tF A) h ∧ fpl τ (tF A) j
theorem alvF_eo {S : Nat → Nat → Prop} {τ : Nat → Tk} {R : Nat × Nat × RT} {A : RT} {tl st j : Nat} {rl : Option Nat} {h h1 : mh} (o : eo S h h1) (hs : ∀ a k, S a k → ¬ ((a = 299 ∧ (k = 11 ∨ k = 13 ∨ k = 14 ∨ k = 15 ∨ k = 16)) ∨ (302 ≤ a ∧ a ≤ 305))) (q : alvF τ R A tl st rl j h ∨ ddR R h) : alvF τ R A tl st rl j h1 ∨ ddR R h1 := by
  rcases q with ⟨q1, q2, q3, q4, q5⟩ | d
  · exact Or.inl ⟨q1, q2, atM_eo o (fun a k z => by have := hs a k z; omega) q3, flM_eo o (fun a k z => by have := hs a k z; omega) q4, q5⟩
  · exact Or.inr (ddM_eo o (fun a k z => by have := hs a k z; omega) d)
theorem fpl_nF {τ : Nat → Tk} {F : Nat × Nat} {j c : Nat} (hT : tkOk τ) (h9 : tkK (τ j) ≠ 98) (f : fpl τ F j) : fpl τ F (j + 1) ∧ fpl τ (nF F c (tkP (τ j))) (j + 1) := by
  have h1 := hT.2.2.1 j h9
  refine ⟨fun z => by have := f z; omega, ?_⟩
  unfold nF
  by_cases z : F.1 = 0
  · rw [if_pos z]
    exact fun _ => h1
  · rw [if_neg z]
    exact fun y => by have := f y; omega
theorem tF_num {A : RT} {tl st v p : Nat} : tF (num A tl st v p) = boF (tF A) (lo9 tl) (hi9 tl st) v p := by
  unfold num boF
  show tF (if v < lo9 tl ∨ hi9 tl st < v then nt A 5 p else A) = _
  split
  · exact tF_nt
  · rfl
theorem tF_nw {A : RT} {k p : Nat} {l : List Nat} : tF (nw9 A k l p) = nwF A (tF A) l p := by
  unfold nw9 nwF
  show tF (if rN9 A l = none ∧ lN9 A l = none then A else nt A 3 p) = _
  split
  · rfl
  · exact tF_nt
theorem lh9 {tl st : Nat} : lo9 tl ≤ 10000 ∧ hi9 tl st ≤ 10000 := by
  constructor
  · unfold lo9
    split <;> omega
  · unfold hi9
    repeat' split
    all_goals omega
/-- a number, alive or dead -/
theorem boundX {fu j tl st : Nat} {τ : Nat → Tk} {R : Nat × Nat × RT} {A : RT} {rl : Option Nat} {x y : Int32} {h : mh} (hL : LM h.2) (hT : tkOk τ) (hx : x = nI (lo9 tl)) (hy : y = nI (hi9 tl st)) (h1 : tl ≠ 10) (h2 : ¬ (3 ≤ tl ∧ tl < 7)) (hf : fm tl st = 23) (hq : alvF τ R A tl st rl j h ∨ ddR R h) : ok (fX10_bounded fu 299 x y h) (fun v h' => eo sBo h h' ∧ ((tkK (τ j) = 23 ∧ j < 400 ∧ v = nI (tkV (τ j)) ∧ alvF τ R (num A tl st (tkV (τ j)) (tkP (τ j))) tl (st + 1) rl (j + 1) h') ∨ ddR R h')) := by
  rcases hq with ⟨q1, q2, q3, q4, q5⟩ | d
  · refine ok_mono (boundW (A := A) (rl := rl) hL hT.1 hx hy (lh9 (st := st)).1 lh9.2 h1 h2 hf (hT.2.2.2 j) q3 q4 q5) (fun v h' q => ?_)
    obtain ⟨o, q⟩ := q
    refine ⟨o, ?_⟩
    rcases q with ⟨z1, z2, z3, z4, z5⟩ | d
    · have es := stp_f (A := A) (st := st) (rl := rl) (lz := none) (q := τ j) h1 h2
      rw [if_neg (fun y => y (by omega)), if_neg (by omega), if_pos z1] at es
      obtain ⟨-, -, r3⟩ := run_m (A := A) (rl := rl) (st := st) (τ := τ) (j := j) (by omega) h1 h2
      have r3 := r3 (by omega) (by omega)
      rw [es] at r3
      refine Or.inl ⟨z1, z2, z3, q1.trans r3, wM_stp q2 (fun _ => rfl) (hT.1 j).2 (hT.2.1 j) es, z4, by rw [tF_num]; exact z5, ?_⟩
      rw [tF_num]
      unfold boF
      have f9 := fpl_nF (c := 5) hT (show tkK (τ j) ≠ 98 by omega) q5
      split
      · exact f9.2
      · exact f9.1
    · refine Or.inr ?_
      rw [q1]
      exact d
  · have d0 : ddM R.1 R.2.1 h := d
    rw [boundD hL d0]
    exact ⟨x, h, rfl, eo_rf, Or.inr d⟩
theorem roomW {fu has i : Nat} {τ : Nat → Tk} {h : mh} (hL : LM h.2) (h6 : has ≤ 6) (h98 : tkK (τ i) ≠ 98) (a : atM τ i h) : ok (fX10_roomFor fu 299 (nI has) 6 h) (fun _ h' => eo sGo h h' ∧ ((has < 6 ∧ i < 400 ∧ atM τ (i + 1) h') ∨ ((has = 6 ∨ i = 400) ∧ ddM 2 (tkP (τ i)) h'))) := by
  unfold fX10_roomFor
  by_cases z : has = 6
  · refine v_it (by rw [z]; rfl) ?_
    repeat (first | with_reducible apply v_lt | ((with_reducible apply w_MR); exact hL; rfl) | ((with_reducible apply w_lv); exact hL; assumption) | ((with_reducible apply vMI); exact hL) | ((with_reducible apply vMS); exact hL) | ((with_reducible apply vMC); exact hL) | ((with_reducible apply vMZ); exact hL; (first | exact Or.inl rfl | exact Or.inr rfl | exact b2i_01 _ | assumption)) | ((first | with_reducible apply w_MA | with_reducible apply w_MW | with_reducible apply w_MY | with_reducible apply w_MB | with_reducible apply w_MJ | with_reducible apply w_MK); exact hL; rfl; rfl; rfl; (first | with_reducible rfl | with_reducible exact ixo _ | with_reducible exact ixoc _ _ | with_reducible exact ixom _ _ _ | with_reducible exact ixop _ _ | with_reducible exact ixod _ _ | assumption); omega))
    refine v_bd (failM (c := 2) hL (by omega) a) (fun _ h1 q => ?_)
    obtain ⟨o1, d1⟩ := q
    have hL1 : LM h1.2 := by rw [o1.1]; exact hL
    unfold fX10_roomFor_10
    repeat (first | with_reducible apply v_lt | ((with_reducible apply w_MR); exact hL1; rfl) | ((with_reducible apply w_lv); exact hL1; assumption) | ((with_reducible apply vMI); exact hL1) | ((with_reducible apply vMS); exact hL1) | ((with_reducible apply vMC); exact hL1) | ((with_reducible apply vMZ); exact hL1; (first | exact Or.inl rfl | exact Or.inr rfl | exact b2i_01 _ | assumption)) | ((first | with_reducible apply w_MA | with_reducible apply w_MW | with_reducible apply w_MY | with_reducible apply w_MB | with_reducible apply w_MJ | with_reducible apply w_MK); exact hL1; rfl; rfl; rfl; (first | with_reducible rfl | with_reducible exact ixo _ | with_reducible exact ixoc _ _ | with_reducible exact ixom _ _ _ | with_reducible exact ixop _ _ | with_reducible exact ixod _ _ | assumption); omega))
    exact v_ie (x13 d1).2 (v_rV ⟨eo_mono o1 (fun a k z => by unfold sFl at z; unfold sGo; omega), Or.inr ⟨Or.inl z, d1⟩⟩)
  · refine v_ie (nI2 (b := 6) (by omega) (by omega) z) ?_
    unfold fX10_roomFor_10
    repeat (first | with_reducible apply v_lt | ((with_reducible apply w_MR); exact hL; rfl) | ((with_reducible apply w_lv); exact hL; assumption) | ((with_reducible apply vMI); exact hL) | ((with_reducible apply vMS); exact hL) | ((with_reducible apply vMC); exact hL) | ((with_reducible apply vMZ); exact hL; (first | exact Or.inl rfl | exact Or.inr rfl | exact b2i_01 _ | assumption)) | ((first | with_reducible apply w_MA | with_reducible apply w_MW | with_reducible apply w_MY | with_reducible apply w_MB | with_reducible apply w_MJ | with_reducible apply w_MK); exact hL; rfl; rfl; rfl; (first | with_reducible rfl | with_reducible exact ixo _ | with_reducible exact ixoc _ _ | with_reducible exact ixom _ _ _ | with_reducible exact ixop _ _ | with_reducible exact ixod _ _ | assumption); omega))
    rw [a.2.1]
    refine v_it rfl ?_
    repeat (first | with_reducible apply v_lt | ((with_reducible apply w_MR); exact hL; rfl) | ((with_reducible apply w_lv); exact hL; assumption) | ((with_reducible apply vMI); exact hL) | ((with_reducible apply vMS); exact hL) | ((with_reducible apply vMC); exact hL) | ((with_reducible apply vMZ); exact hL; (first | exact Or.inl rfl | exact Or.inr rfl | exact b2i_01 _ | assumption)) | ((first | with_reducible apply w_MA | with_reducible apply w_MW | with_reducible apply w_MY | with_reducible apply w_MB | with_reducible apply w_MJ | with_reducible apply w_MK); exact hL; rfl; rfl; rfl; (first | with_reducible rfl | with_reducible exact ixo _ | with_reducible exact ixoc _ _ | with_reducible exact ixom _ _ _ | with_reducible exact ixop _ _ | with_reducible exact ixod _ _ | assumption); omega))
    refine v_bd (goM hL h98 a) (fun _ h1 q => ?_)
    obtain ⟨o1, q1, q2⟩ := q
    refine v_rV ⟨o1, ?_⟩
    by_cases z4 : i = 400
    · exact Or.inr ⟨Or.inr z4, q1 z4⟩
    · have := a.2.2.1
      exact Or.inl ⟨by omega, by omega, q2 z4⟩
/-- a tell's first token -/
theorem openX {τ : Nat → Tk} {A : RT} {k i : Nat} (hi : i ≤ 400) (w : wM (bd9 A)) (hk : tkK (τ i) = k) (h9 : k ≤ 9) : (fulB A k = true → run τ (bd9 A) i = (2, tkP (τ i), A)) ∧ (fulB A k = false → i = 400 → run τ (bd9 A) i = (2, tkP (τ i), A)) ∧ (fulB A k = false → i ≠ 400 → run τ (bd9 A) i = run τ (A, k, 0, none, none) (i + 1) ∧ wM (A, k, 0, none, none)) := by
  have es := stp_o (A := A) (st := 0) (rl := none) (lz := none) (q := τ i)
  rw [if_neg (by omega), hk] at es
  have hn : ¬ ((bd9 A).2.1 = 10 ∧ tkK (τ i) = 98) := by omega
  refine ⟨fun z => ?_, fun z z4 => ?_, fun z z4 => ?_⟩
  · rw [z, if_pos rfl] at es
    exact run_x hi hn es (by omega)
  · rw [z, if_neg (by decide)] at es
    exact run_r z4 hn es
  · rw [z, if_neg (by decide)] at es
    exact ⟨run_s (by omega) hn es, wM_stp w (fun _ => rfl) (fun y => by omega) (fun y => by omega) es⟩
