/-! THE REFERENCE READS: who really is whom -/
theorem semiX {fu j tl st : Nat} {τ : Nat → Tk} {R : Nat × Nat × RT} {A : RT} {rl : Option Nat} {h : mh} (hL : LM h.2) (hT : tkOk τ) (hf : fm tl st = 59) (h1 : tl ≠ 10) (h2 : ¬ (3 ≤ tl ∧ tl < 7)) (hq : alvF τ R A tl st rl j h) : ok (fX10_must fu 299 4 h) (fun _ h' => eo sGo h h' ∧ ((R = run τ (bd9 A) (j + 1) ∧ j < 400 ∧ wM (bd9 A) ∧ atM τ (j + 1) h' ∧ flM (tF A) h' ∧ fpl τ (tF A) (j + 1)) ∨ ddR R h')) := by
  obtain ⟨q1, q2, q3, q4, q5⟩ := hq
  refine ok_mono (mustW (A := A) (rl := rl) (tl := tl) (st := st) hL hT.1 (by rw [hf]; rfl) h1 h2 q3) (fun v h' q => ?_)
  obtain ⟨o, q⟩ := q
  refine ⟨o, ?_⟩
  rcases q with ⟨z1, z2, z3⟩ | d
  · have es := stp_f (A := A) (st := st) (rl := rl) (lz := none) (q := τ j) h1 h2
    rw [if_neg (fun y => y (by omega)), if_pos (by omega)] at es
    obtain ⟨-, -, r3⟩ := run_m (A := A) (rl := rl) (st := st) (τ := τ) (j := j) (by omega) h1 h2
    have r3 := r3 (by omega) (by omega)
    rw [es] at r3
    exact Or.inl ⟨q1.trans r3, z2, wM_stp q2 (fun _ => rfl) (hT.1 j).2 (hT.2.1 j) es, z3, flM_eo o (fun a k z => by unfold sGo at z; omega) q4, (fpl_nF (c := 5) hT (show tkK (τ j) ≠ 98 by omega) q5).1⟩
  · refine Or.inr ?_
    rw [q1]
    exact d
theorem re66D {fu c p : Nat} {v1 v2 v3 v4 : Int32} {h : mh} (hL : LM h.2) (d : ddM c p h) : fX10_tellReally_66 fu 299 v1 v2 v3 v4 h = some ((), h) := by
  refine ok_eq ?_
  unfold fX10_tellReally_66
  repeat (first | with_reducible apply v_lt | ((with_reducible apply w_MR); exact hL; rfl) | ((with_reducible apply w_lv); exact hL; assumption) | ((with_reducible apply vMI); exact hL) | ((with_reducible apply vMS); exact hL) | ((with_reducible apply vMC); exact hL) | ((with_reducible apply vMZ); exact hL; (first | exact Or.inl rfl | exact Or.inr rfl | exact b2i_01 _ | assumption)) | ((first | with_reducible apply w_MA | with_reducible apply w_MW | with_reducible apply w_MY | with_reducible apply w_MB | with_reducible apply w_MJ | with_reducible apply w_MK); exact hL; rfl; rfl; rfl; (first | with_reducible rfl | with_reducible exact ixo _ | with_reducible exact ixoc _ _ | with_reducible exact ixom _ _ _ | with_reducible exact ixop _ _ | with_reducible exact ixod _ _ | assumption); omega))
  refine v_eq (mustD hL d) ?_
  repeat (first | with_reducible apply v_lt | ((with_reducible apply w_MR); exact hL; rfl) | ((with_reducible apply w_lv); exact hL; assumption) | ((with_reducible apply vMI); exact hL) | ((with_reducible apply vMS); exact hL) | ((with_reducible apply vMC); exact hL) | ((with_reducible apply vMZ); exact hL; (first | exact Or.inl rfl | exact Or.inr rfl | exact b2i_01 _ | assumption)) | ((first | with_reducible apply w_MA | with_reducible apply w_MW | with_reducible apply w_MY | with_reducible apply w_MB | with_reducible apply w_MJ | with_reducible apply w_MK); exact hL; rfl; rfl; rfl; (first | with_reducible rfl | with_reducible exact ixo _ | with_reducible exact ixoc _ _ | with_reducible exact ixom _ _ _ | with_reducible exact ixop _ _ | with_reducible exact ixod _ _ | assumption); omega))
  exact v_ie (x13 d).1 (v_rV ⟨rfl, rfl⟩)
theorem re30D {fu c p : Nat} {v1 v2 v3 : Int32} {h : mh} (hL : LM h.2) (d : ddM c p h) : fX10_tellReally_30 fu 299 v1 v2 v3 h = some ((), h) := by
  unfold fX10_tellReally_30 fX10_tellReally_31
  rw [if_pos rfl]
  exact re66D hL d
def bt9 : Option Nat → Option Nat → Int32
  | none, _ => 0
  | some _, none => 0
  | some _, some _ => 1
def rX9 (X : Nat → Nat → Nat) : Option Nat → Option Nat → Nat → Nat → Nat
  | none, _ => up2 X 0 2 (X 0 2 + 1)
  | some _, none => up2 X 0 2 (X 0 2 + 1)
  | some x, some y => up2 (up2 X 0 2 (X 0 2 + 1)) 6 x (X 6 x ||| 2 ^ y)
/-- what the last sign of a really comes to -/
theorem reEnd {fu s i j : Nat} {τ : Nat → Tk} {R : Nat × Nat × RT} {A A3 : RT} {o r : Option Nat} {no : Nat → Nat} {v2 v4 : Int32} {h0 h : mh} (hT : tkOk τ) (hs : s < 2) (hL : LM h.2) (o0 : eL (sRm s) lEn h0 h) (hR : R = run τ (bd9 A) i) (hij : i ≤ j) (wa : wA A) (ho : ∀ x, o = some x → x < tX A 0 1) (hr : ∀ x, r = some x → x < tX A 0 0) (hv4 : v4 = bt9 o r) (eX : tX A3 = rX9 (tX A) o r) (eN : tN A3 = tN A) (eW : tW A3 = tW A) (g12 : gI h 299 12 = 0) (g19 : gI h 299 19 = nI s) (t : tcM s A h) (nm : nmM A no h) (lw : lwM s A i h) (hq : alvF τ R A3 2 2 o j h) : ok (fX10_tellReally_66 fu 299 (opC o) v2 (opC r) v4 h) (fun _ h' => tellQ τ s A i h0 h') := by
  obtain ⟨⟨t1, t2, t3, t4, t5, t6⟩, t7, t8, t9⟩ := id t
  have w0 := wa.1.1
  have w1 := wa.1.2.1
  unfold tellQ
  rw [← hR]
  unfold fX10_tellReally_66
  repeat (first | with_reducible apply v_lt | ((with_reducible apply w_MR); exact hL; rfl) | ((with_reducible apply w_lv); exact hL; assumption) | ((with_reducible apply vMI); exact hL) | ((with_reducible apply vMS); exact hL) | ((with_reducible apply vMC); exact hL) | ((with_reducible apply vMZ); exact hL; (first | exact Or.inl rfl | exact Or.inr rfl | exact b2i_01 _ | assumption)) | ((first | with_reducible apply w_MA | with_reducible apply w_MW | with_reducible apply w_MY | with_reducible apply w_MB | with_reducible apply w_MJ | with_reducible apply w_MK); exact hL; rfl; rfl; rfl; (first | with_reducible rfl | with_reducible exact ixo _ | with_reducible exact ixoc _ _ | with_reducible exact ixom _ _ _ | with_reducible exact ixop _ _ | with_reducible exact ixod _ _ | assumption); omega))
  refine v_bd (semiX (tl := 2) (st := 2) hL hT rfl (by omega) (by omega) hq) (fun _ h1 q1 => ?_)
  obtain ⟨o1, q1⟩ := q1
  have hL1 : LM h1.2 := by rw [o1.1]; exact hL
  have e1 : eL (sRm s) lEn h0 h1 := eL_tr o0 (eL_mono (eL_eo (SL := lEn) o1) (fun a k z => sGo_Rm z) (fun a k z => z))
  have f1 : ∀ a k, a ≠ 299 → gI h1 a k = gI h a k := fun a k z => o1.2 _ _ (fun y => by unfold sGo at y; omega)
  have g19_1 : gI h1 299 19 = nI s := by rw [o1.2 _ _ (fun z => by unfold sGo at z; omega)]; exact g19
  have t3_1 : gI h1 317 s = nI (tX A 0 2) := by rw [f1 _ _ (by omega)]; exact t3
  repeat (first | with_reducible apply v_lt | ((with_reducible apply w_MR); exact hL1; rfl) | ((with_reducible apply w_lv); exact hL1; assumption) | ((with_reducible apply vMI); exact hL1) | ((with_reducible apply vMS); exact hL1) | ((with_reducible apply vMC); exact hL1) | ((with_reducible apply vMZ); exact hL1; (first | exact Or.inl rfl | exact Or.inr rfl | exact b2i_01 _ | assumption)) | ((first | with_reducible apply w_MA | with_reducible apply w_MW | with_reducible apply w_MY | with_reducible apply w_MB | with_reducible apply w_MJ | with_reducible apply w_MK); exact hL1; rfl; rfl; rfl; (first | with_reducible rfl | with_reducible exact ixo _ | with_reducible exact ixoc _ _ | with_reducible exact ixom _ _ _ | with_reducible exact ixop _ _ | with_reducible exact ixod _ _ | assumption); omega))
  rcases q1 with ⟨R5, j4, W5, a5, f5, fp5⟩ | d
  · rw [a5.2.1]
    refine v_it (by decide) ?_
    repeat (first | with_reducible apply v_lt | ((with_reducible apply w_MR); exact hL1; rfl) | ((with_reducible apply w_lv); exact hL1; assumption) | ((with_reducible apply vMI); exact hL1) | ((with_reducible apply vMS); exact hL1) | ((with_reducible apply vMC); exact hL1) | ((with_reducible apply vMZ); exact hL1; (first | exact Or.inl rfl | exact Or.inr rfl | exact b2i_01 _ | assumption)) | ((first | with_reducible apply w_MA | with_reducible apply w_MW | with_reducible apply w_MY | with_reducible apply w_MB | with_reducible apply w_MJ | with_reducible apply w_MK); exact hL1; rfl; rfl; rfl; (first | with_reducible rfl | with_reducible exact ixo _ | with_reducible exact ixoc _ _ | with_reducible exact ixom _ _ _ | with_reducible exact ixop _ _ | with_reducible exact ixod _ _ | assumption); omega))
    rw [t3_1, nI_1]
    have o2 : eo (fun a k => a = 317 ∧ k = s) h1 (uI h1 317 s (nI (tX A 0 2 + 1))) := eo_uI eo_rf ⟨rfl, rfl⟩
    have fin : ∀ h2, eo (fun a k => a = 316 ∧ 6 * s ≤ k ∧ k < 6 * s + 6) (uI h1 317 s (nI (tX A 0 2 + 1))) h2 → (∀ l, l < 6 → gI h2 316 (6 * s + l) = nI (tX A3 6 l)) → eL (sRm s) lEn h0 h2 ∧ ((∃ A' i', R = run τ (bd9 A') i' ∧ i < i' ∧ relM τ s A' i' h2) ∨ ddR R h2) := by
      intro h2 o3 x6
      have xs : ∀ b j, b ≠ 6 → ¬ (b = 0 ∧ j = 2) → tX A3 b j = tX A b j := fun b j z1 z2 => by
        rw [eX]
        cases o with
        | none => exact up_ne z2
        | some x =>
          cases r with
          | none => exact up_ne z2
          | some y =>
            dsimp only [rX9]
            rw [up_ne (fun y => z1 y.1), up_ne z2]
      have x2 : tX A3 0 2 = tX A 0 2 + 1 := by
        rw [eX]
        cases o with
        | none => exact up_eq
        | some x =>
          cases r with
          | none => exact up_eq
          | some y =>
            dsimp only [rX9]
            rw [up_ne (by omega), up_eq]
      have oo : eo (fun a k => sGo a k ∨ (a = 317 ∧ k = s) ∨ (a = 316 ∧ 6 * s ≤ k ∧ k < 6 * s + 6)) h h2 := eo_tr (eo_mono o1 (fun a k z => Or.inl z)) (eo_tr (eo_mono o2 (fun a k z => Or.inr (Or.inl z))) (eo_mono o3 (fun a k z => Or.inr (Or.inr z))))
      have k2 : ∀ a k, a ≠ 299 → a ≠ 316 → ¬ (a = 317 ∧ k = s) → gI h2 a k = gI h a k := fun a k z1 z2 z3 => oo.2 _ _ (fun y => by unfold sGo at y; omega)
      have o23 : eo (fun a k => (a = 317 ∧ k = s) ∨ a = 316) h1 h2 := eo_tr (eo_mono o2 (fun a k z => Or.inl z)) (eo_mono o3 (fun a k z => Or.inr z.1))
      refine ⟨eL_tr o0 (eL_mono (eL_eo (SL := lEn) oo) (fun a k z => ?_) (fun a k z => z)), Or.inl ⟨A3, j + 1, R5, by omega, ⟨atM_eo o23 (fun a k z => by omega) a5, ?_, ?_⟩, ⟨⟨?_, ?_, ?_, ?_, ?_, ?_⟩, ?_, ?_, x6⟩, ⟨no, ?_⟩, flM_eo o23 (fun a k z => by omega) f5, fp5, ?_, W5⟩⟩
      · rcases z with z | z | z
        · exact sGo_Rm z
        · exact Or.inr (Or.inr (Or.inl ⟨by omega, z.2⟩))
        · exact Or.inr (Or.inr (Or.inr (Or.inl ⟨by omega, z.2⟩)))
      · rw [oo.2 _ _ (fun y => by unfold sGo at y; omega)]; exact g12
      · rw [oo.2 _ _ (fun y => by unfold sGo at y; omega)]; exact g19
      · rw [k2 _ _ (by omega) (by omega) (by omega), xs _ _ (by omega) (by omega)]; exact t1
      · rw [k2 _ _ (by omega) (by omega) (by omega), xs _ _ (by omega) (by omega)]; exact t2
      · rw [o3.2 _ _ (fun y => by omega), gI_eq, x2]
      · rw [k2 _ _ (by omega) (by omega) (by omega), xs _ _ (by omega) (by omega)]; exact t4
      · rw [k2 _ _ (by omega) (by omega) (by omega), xs _ _ (by omega) (by omega)]; exact t5
      · rw [k2 _ _ (by omega) (by omega) (by omega), xs _ _ (by omega) (by omega)]; exact t6
      · intro r hr
        rw [xs _ _ (by omega) (by omega)] at hr
        rw [k2 _ _ (by omega) (by omega) (by omega), k2 _ _ (by omega) (by omega) (by omega), xs _ _ (by omega) (by omega), xs _ _ (by omega) (by omega)]
        exact t7 r hr
      · intro l hl
        rw [xs _ _ (by omega) (by omega)] at hl
        rw [k2 _ _ (by omega) (by omega) (by omega), k2 _ _ (by omega) (by omega) (by omega), k2 _ _ (by omega) (by omega) (by omega), xs _ _ (by omega) (by omega), xs _ _ (by omega) (by omega), xs _ _ (by omega) (by omega)]
        exact t8 l hl
      · have nm2 := nmM_eL (SL := fun _ _ => False) (eL_eo oo) (fun a k z => by unfold sGo at z; omega) (fun k z => z) nm
        have nmo9 : ∀ a, nmo A3 a = nmo A a := fun a => by
          unfold nmo
          rw [eN]
        unfold nmM at nm2 ⊢
        rw [xs 0 0 (by omega) (by omega), xs 0 1 (by omega) (by omega)]
        refine ⟨nm2.1, fun k hk => ?_, nm2.2.2⟩
        rw [nmo9]
        exact nm2.2.1 k hk
      · exact lwM_eL (SL := fun _ _ => False) (eL_eo oo) (fun a k z => by unfold sGo at z; omega) (by omega) eW lw
    have x60 : ∀ h2 : mh, (∀ l, l < 6 → gI h2 316 (6 * s + l) = gI h 316 (6 * s + l)) → (o = none ∨ r = none) → ∀ l, l < 6 → gI h2 316 (6 * s + l) = nI (tX A3 6 l) := fun h2 z1 z2 l hl => by
      rw [z1 l hl, t9 l hl, eX]
      cases o with
      | none =>
        dsimp only [rX9]
        rw [up_ne (by omega)]
      | some x =>
        cases r with
        | none =>
          dsimp only [rX9]
          rw [up_ne (by omega)]
        | some y => rcases z2 with z | z <;> cases z
    have zero : v4 = 0 → (o = none ∨ r = none) → ok (rtV (uI h1 317 s (nI (tX A 0 2 + 1)))) (fun _ h' => eL (sRm s) lEn h0 h' ∧ ((∃ A' i', R = run τ (bd9 A') i' ∧ i < i' ∧ relM τ s A' i' h') ∨ ddR R h')) := fun _ z => v_rV (fin _ eo_rf (x60 _ (fun l hl => by rw [gI_ne (by omega), f1 _ _ (by omega)]) z))
    cases o with
    | none => exact v_it hv4 (zero hv4 (Or.inl rfl))
    | some x =>
      cases r with
      | none => exact v_it hv4 (zero hv4 (Or.inr rfl))
      | some y =>
          have hx := ho x rfl
          have hy := hr y rfl
          refine v_ie (by rw [hv4]; show ¬ (1 : Int32) = 0; decide) ?_
          have g19_2 : gI (uI h1 317 s (nI (tX A 0 2 + 1))) 299 19 = nI s := by rw [gI_ne (by omega)]; exact g19_1
          have ix : 6 * gI (uI h1 317 s (nI (tX A 0 2 + 1))) 299 19 + opC (some x) = nI (6 * s + x) := by
            rw [g19_2]
            exact ixom 6 s x
          repeat (first | with_reducible apply v_lt | ((with_reducible apply w_MR); exact hL1; rfl) | ((with_reducible apply w_lv); exact hL1; assumption) | ((with_reducible apply vMI); exact hL1) | ((with_reducible apply vMS); exact hL1) | ((with_reducible apply vMC); exact hL1) | ((with_reducible apply vMZ); exact hL1; (first | exact Or.inl rfl | exact Or.inr rfl | exact b2i_01 _ | assumption)) | ((first | with_reducible apply w_MA | with_reducible apply w_MW | with_reducible apply w_MY | with_reducible apply w_MB | with_reducible apply w_MJ | with_reducible apply w_MK); exact hL1; rfl; rfl; rfl; (first | with_reducible rfl | with_reducible exact ixo _ | with_reducible exact ixoc _ _ | with_reducible exact ixom _ _ _ | with_reducible exact ixop _ _ | with_reducible exact ixod _ _ | assumption); omega))
          have g6 : gI (uI h1 317 s (nI (tX A 0 2 + 1))) 316 (6 * s + x) = nI (tX A 6 x) := by rw [gI_ne (by omega), f1 _ _ (by omega)]; exact t9 x (by omega)
          rw [g6]
          rw [show nI (tX A 6 x) ||| (1 : Int32) <<< (opC (some y) &&& 31) = nI (tX A 6 x ||| 2 ^ y) from or_bit (by omega)]
          refine v_rV (fin _ (eo_uI eo_rf ⟨rfl, by omega, by omega⟩) (fun l hl => ?_))
          rw [eX]
          dsimp only [rX9]
          by_cases e : l = x
          · rw [e, gI_eq, up_eq]
          · rw [gI_ne (by omega), gI_ne (by omega), f1 _ _ (by omega), up_ne (by omega), up_ne (by omega)]
            exact t9 l hl
  · exact v_ie (x13 d).1 (v_rV ⟨e1, Or.inr d⟩)
