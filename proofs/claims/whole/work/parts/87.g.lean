/-! THE CLASS READS: a token of a law; a token of a form; any token -/
theorem sLw_Rd {u k s0 a j : Nat} (z : sLw u k s0 a j) : sRd u a j := by
  unfold sLw at z
  unfold sRd
  omega
theorem lawW_Lw {u k k1 cz c1 : Nat} {A : Lw} {h h1 : mh} (hu : u = 7 ∨ u = 23) (o : eo (sLw u k cz) h h1) (hk : k1 ≠ k) (hc : cz ≤ c1) (q : lawW h u k1 cz A) : lawW h1 u k1 c1 A :=
  lawW_fr q hc (fun j _ => o.2 _ _ (fun z => by unfold sLw at z; omega)) (o.2 _ _ (fun z => by unfold sLw at z; omega)) (fun j _ _ => o.2 _ _ (fun z => by unfold sLw at z; omega)) (o.2 _ _ (fun z => by unfold sLw at z; omega))
theorem ln_flP (ts : List (Pf × Pf × Pf)) (e : Pf) : ln1 (flP ts e) = ln3 ts + e.length ∧ (flP ts e).length = 3 * ts.length + 1 := by
  rw [fl3_P, ln1_app, List.length_append, (fl3_ln ts).1, (fl3_ln ts).2]
  exact ⟨rfl, rfl⟩
/-- a law that is through holds by its own cells -/
theorem lawW_new {u k cz c1 : Nat} {ts : List (Pf × Pf × Pf)} {e : Pf} {h : mh} (h4 : ts.length ≤ 4) (g1 : gI h (u + 11) k = nI cz) (g2 : gI h (u + 13) k = nI (3 * ts.length + 1)) (q : prtC h u (13 * k) cz (flP ts e)) (hc : cz + ln3 ts + e.length ≤ c1) : lawW h u k c1 (some (ts, e)) := fun h1 f1 f2 f3 f4 => by
  obtain ⟨l1, l2⟩ := ln_flP ts e
  exact ⟨h4, by rw [f4]; exact g2, cz, by rw [f2]; exact g1, prtC_lo f1 (fun j j1 j2 => f3 j j1 (by omega)) (by omega) q⟩
set_option maxHeartbeats 1000000 in
theorem lawR {fu u i tl st : Nat} {A : RT} {rl : Option Nat} {lz : Option LZ} {q : Tk} {h : mh} (hfu : 1000 ≤ fu) (hU : LU u h.2) (hi : i ≤ 400) (h3 : 3 ≤ tl) (h7 : tl < 7) (w : wM (A, tl, st, rl, lz)) (r : relC u (A, tl, st, rl, lz) i h) (hq : tkC h q) (hk : tkK q < 100) (hv : tkK q = 23 → tkV q < 10000) : ok (fX5_take fu 2 u h) (takn u (A, tl, st, rl, lz) q i h) := by
  have hu := hU.2
  obtain ⟨t, ⟨cz, lw⟩, hF, hR⟩ := r
  dsimp only at t lw hF hR
  obtain ⟨R1, R2, R3⟩ := hR
  rw [if_neg (by omega)] at R1
  unfold fX5_take
  repeat (first | with_reducible apply v_lt | ((with_reducible apply y_TR); exact hU; rfl) | ((with_reducible apply y_UR); exact hU; rfl) | ((first | with_reducible apply y_0I | with_reducible apply y_9I | with_reducible apply y_0C | with_reducible apply y_9C | with_reducible apply y_0S | with_reducible apply y_9S); exact hU) | ((first | with_reducible apply y_TA | with_reducible apply y_TW | with_reducible apply y_TJ | with_reducible apply y_TK); exact hU; rfl; rfl; (first | with_reducible rfl | with_reducible exact ixo _ | with_reducible exact ixoc _ _ | with_reducible exact ixom _ _ _ | with_reducible exact ixop _ _ | with_reducible exact ixod _ _ | assumption); omega) | ((with_reducible apply v2R0); exact (And.left hU)) | ((with_reducible apply v2R1); exact (And.left hU)) | ((with_reducible apply v2I); exact (And.left hU)) | ((with_reducible apply v2S); exact (And.left hU)) | ((with_reducible apply v2Z); exact (And.left hU); first | exact Or.inl rfl | exact Or.inr rfl | assumption) | ((with_reducible apply v2C); exact (And.left hU)) | ((with_reducible apply v3R0); exact (And.left hU)) | ((with_reducible apply v3I); exact (And.left hU)) | ((with_reducible apply v3S); exact (And.left hU)) | ((with_reducible apply v3Z); exact (And.left hU); first | exact Or.inl rfl | exact Or.inr rfl | assumption) | ((with_reducible apply v3C); exact (And.left hU)) | ((with_reducible apply v3L); exact (And.left hU)) | ((with_reducible apply v3M); exact (And.left hU)) | ((with_reducible apply v4A); exact (And.left hU); (first | with_reducible rfl | with_reducible exact ixo _ | with_reducible exact ixoc _ _ | with_reducible exact ixom _ _ _ | with_reducible exact ixop _ _ | with_reducible exact ixod _ _ | assumption); omega) | ((with_reducible apply v4W); exact (And.left hU); (first | with_reducible rfl | with_reducible exact ixo _ | with_reducible exact ixoc _ _ | with_reducible exact ixom _ _ _ | with_reducible exact ixop _ _ | with_reducible exact ixod _ _ | assumption); omega) | ((with_reducible apply v5R8); exact (And.left hU)) | ((with_reducible apply v5I); exact (And.left hU)) | ((with_reducible apply v5S); exact (And.left hU)) | ((with_reducible apply v5Z); exact (And.left hU); first | exact Or.inl rfl | exact Or.inr rfl | assumption) | ((with_reducible apply v5C); exact (And.left hU)) | ((with_reducible apply v6A); exact (And.left hU); (first | with_reducible rfl | with_reducible exact ixo _ | with_reducible exact ixoc _ _ | with_reducible exact ixom _ _ _ | with_reducible exact ixop _ _ | with_reducible exact ixod _ _ | assumption); omega) | ((with_reducible apply v6W); exact (And.left hU); (first | with_reducible rfl | with_reducible exact ixo _ | with_reducible exact ixoc _ _ | with_reducible exact ixom _ _ _ | with_reducible exact ixop _ _ | with_reducible exact ixod _ _ | assumption); omega) | ((with_reducible apply vX1A); exact (And.left hU); (first | with_reducible rfl | with_reducible exact ixo _ | with_reducible exact ixoc _ _ | with_reducible exact ixom _ _ _ | with_reducible exact ixop _ _ | with_reducible exact ixod _ _ | assumption); omega))
  rw [R1]
  refine v_ie (fun z => ?_) ?_
  · have h1 : ¬ nI tl < 0 := nI_pos (by omega)
    rw [z] at h1
    exact absurd (by decide) h1
  repeat (first | with_reducible apply v_lt | ((with_reducible apply y_TR); exact hU; rfl) | ((with_reducible apply y_UR); exact hU; rfl) | ((first | with_reducible apply y_0I | with_reducible apply y_9I | with_reducible apply y_0C | with_reducible apply y_9C | with_reducible apply y_0S | with_reducible apply y_9S); exact hU) | ((first | with_reducible apply y_TA | with_reducible apply y_TW | with_reducible apply y_TJ | with_reducible apply y_TK); exact hU; rfl; rfl; (first | with_reducible rfl | with_reducible exact ixo _ | with_reducible exact ixoc _ _ | with_reducible exact ixom _ _ _ | with_reducible exact ixop _ _ | with_reducible exact ixod _ _ | assumption); omega) | ((with_reducible apply v2R0); exact (And.left hU)) | ((with_reducible apply v2R1); exact (And.left hU)) | ((with_reducible apply v2I); exact (And.left hU)) | ((with_reducible apply v2S); exact (And.left hU)) | ((with_reducible apply v2Z); exact (And.left hU); first | exact Or.inl rfl | exact Or.inr rfl | assumption) | ((with_reducible apply v2C); exact (And.left hU)) | ((with_reducible apply v3R0); exact (And.left hU)) | ((with_reducible apply v3I); exact (And.left hU)) | ((with_reducible apply v3S); exact (And.left hU)) | ((with_reducible apply v3Z); exact (And.left hU); first | exact Or.inl rfl | exact Or.inr rfl | assumption) | ((with_reducible apply v3C); exact (And.left hU)) | ((with_reducible apply v3L); exact (And.left hU)) | ((with_reducible apply v3M); exact (And.left hU)) | ((with_reducible apply v4A); exact (And.left hU); (first | with_reducible rfl | with_reducible exact ixo _ | with_reducible exact ixoc _ _ | with_reducible exact ixom _ _ _ | with_reducible exact ixop _ _ | with_reducible exact ixod _ _ | assumption); omega) | ((with_reducible apply v4W); exact (And.left hU); (first | with_reducible rfl | with_reducible exact ixo _ | with_reducible exact ixoc _ _ | with_reducible exact ixom _ _ _ | with_reducible exact ixop _ _ | with_reducible exact ixod _ _ | assumption); omega) | ((with_reducible apply v5R8); exact (And.left hU)) | ((with_reducible apply v5I); exact (And.left hU)) | ((with_reducible apply v5S); exact (And.left hU)) | ((with_reducible apply v5Z); exact (And.left hU); first | exact Or.inl rfl | exact Or.inr rfl | assumption) | ((with_reducible apply v5C); exact (And.left hU)) | ((with_reducible apply v6A); exact (And.left hU); (first | with_reducible rfl | with_reducible exact ixo _ | with_reducible exact ixoc _ _ | with_reducible exact ixom _ _ _ | with_reducible exact ixop _ _ | with_reducible exact ixod _ _ | assumption); omega) | ((with_reducible apply v6W); exact (And.left hU); (first | with_reducible rfl | with_reducible exact ixo _ | with_reducible exact ixoc _ _ | with_reducible exact ixom _ _ _ | with_reducible exact ixop _ _ | with_reducible exact ixod _ _ | assumption); omega) | ((with_reducible apply vX1A); exact (And.left hU); (first | with_reducible rfl | with_reducible exact ixo _ | with_reducible exact ixoc _ _ | with_reducible exact ixom _ _ _ | with_reducible exact ixop _ _ | with_reducible exact ixod _ _ | assumption); omega))
  rw [R1]
  refine v_eq (isLawC (by omega)) ?_
  rw [decide_eq_true ⟨h3, h7⟩]
  refine v_ie (by decide) ?_
  repeat (first | with_reducible apply v_lt | ((with_reducible apply y_TR); exact hU; rfl) | ((with_reducible apply y_UR); exact hU; rfl) | ((first | with_reducible apply y_0I | with_reducible apply y_9I | with_reducible apply y_0C | with_reducible apply y_9C | with_reducible apply y_0S | with_reducible apply y_9S); exact hU) | ((first | with_reducible apply y_TA | with_reducible apply y_TW | with_reducible apply y_TJ | with_reducible apply y_TK); exact hU; rfl; rfl; (first | with_reducible rfl | with_reducible exact ixo _ | with_reducible exact ixoc _ _ | with_reducible exact ixom _ _ _ | with_reducible exact ixop _ _ | with_reducible exact ixod _ _ | assumption); omega) | ((with_reducible apply v2R0); exact (And.left hU)) | ((with_reducible apply v2R1); exact (And.left hU)) | ((with_reducible apply v2I); exact (And.left hU)) | ((with_reducible apply v2S); exact (And.left hU)) | ((with_reducible apply v2Z); exact (And.left hU); first | exact Or.inl rfl | exact Or.inr rfl | assumption) | ((with_reducible apply v2C); exact (And.left hU)) | ((with_reducible apply v3R0); exact (And.left hU)) | ((with_reducible apply v3I); exact (And.left hU)) | ((with_reducible apply v3S); exact (And.left hU)) | ((with_reducible apply v3Z); exact (And.left hU); first | exact Or.inl rfl | exact Or.inr rfl | assumption) | ((with_reducible apply v3C); exact (And.left hU)) | ((with_reducible apply v3L); exact (And.left hU)) | ((with_reducible apply v3M); exact (And.left hU)) | ((with_reducible apply v4A); exact (And.left hU); (first | with_reducible rfl | with_reducible exact ixo _ | with_reducible exact ixoc _ _ | with_reducible exact ixom _ _ _ | with_reducible exact ixop _ _ | with_reducible exact ixod _ _ | assumption); omega) | ((with_reducible apply v4W); exact (And.left hU); (first | with_reducible rfl | with_reducible exact ixo _ | with_reducible exact ixoc _ _ | with_reducible exact ixom _ _ _ | with_reducible exact ixop _ _ | with_reducible exact ixod _ _ | assumption); omega) | ((with_reducible apply v5R8); exact (And.left hU)) | ((with_reducible apply v5I); exact (And.left hU)) | ((with_reducible apply v5S); exact (And.left hU)) | ((with_reducible apply v5Z); exact (And.left hU); first | exact Or.inl rfl | exact Or.inr rfl | assumption) | ((with_reducible apply v5C); exact (And.left hU)) | ((with_reducible apply v6A); exact (And.left hU); (first | with_reducible rfl | with_reducible exact ixo _ | with_reducible exact ixoc _ _ | with_reducible exact ixom _ _ _ | with_reducible exact ixop _ _ | with_reducible exact ixod _ _ | assumption); omega) | ((with_reducible apply v6W); exact (And.left hU); (first | with_reducible rfl | with_reducible exact ixo _ | with_reducible exact ixoc _ _ | with_reducible exact ixom _ _ _ | with_reducible exact ixop _ _ | with_reducible exact ixod _ _ | assumption); omega) | ((with_reducible apply vX1A); exact (And.left hU); (first | with_reducible rfl | with_reducible exact ixo _ | with_reducible exact ixoc _ _ | with_reducible exact ixom _ _ _ | with_reducible exact ixop _ _ | with_reducible exact ixod _ _ | assumption); omega))
  cases lz with
  | none =>
    obtain ⟨l1, l2, l3, l4⟩ := lw
    rw [if_pos ⟨h3, h7⟩] at l4
    have es := stp_w0 (A := A) (st := st) (rl := rl) (q := q) h3 h7
    refine v_bd (beginC (k := tl - 3) (s0 := cz) hU (by omega) (by omega) (l3 h3 h7) l2 hq hk) (fun x h1 hq1 => ?_)
    obtain ⟨o1, g6, x1, x2⟩ := hq1
    have hU1 : LU u h1.2 := by rw [o1.1]; exact hU
    repeat (first | with_reducible apply v_lt | ((with_reducible apply y_TR); exact hU1; rfl) | ((with_reducible apply y_UR); exact hU1; rfl) | ((first | with_reducible apply y_0I | with_reducible apply y_9I | with_reducible apply y_0C | with_reducible apply y_9C | with_reducible apply y_0S | with_reducible apply y_9S); exact hU1) | ((first | with_reducible apply y_TA | with_reducible apply y_TW | with_reducible apply y_TJ | with_reducible apply y_TK); exact hU1; rfl; rfl; (first | with_reducible rfl | with_reducible exact ixo _ | with_reducible exact ixoc _ _ | with_reducible exact ixom _ _ _ | with_reducible exact ixop _ _ | with_reducible exact ixod _ _ | assumption); omega) | ((with_reducible apply v2R0); exact (And.left hU1)) | ((with_reducible apply v2R1); exact (And.left hU1)) | ((with_reducible apply v2I); exact (And.left hU1)) | ((with_reducible apply v2S); exact (And.left hU1)) | ((with_reducible apply v2Z); exact (And.left hU1); first | exact Or.inl rfl | exact Or.inr rfl | assumption) | ((with_reducible apply v2C); exact (And.left hU1)) | ((with_reducible apply v3R0); exact (And.left hU1)) | ((with_reducible apply v3I); exact (And.left hU1)) | ((with_reducible apply v3S); exact (And.left hU1)) | ((with_reducible apply v3Z); exact (And.left hU1); first | exact Or.inl rfl | exact Or.inr rfl | assumption) | ((with_reducible apply v3C); exact (And.left hU1)) | ((with_reducible apply v3L); exact (And.left hU1)) | ((with_reducible apply v3M); exact (And.left hU1)) | ((with_reducible apply v4A); exact (And.left hU1); (first | with_reducible rfl | with_reducible exact ixo _ | with_reducible exact ixoc _ _ | with_reducible exact ixom _ _ _ | with_reducible exact ixop _ _ | with_reducible exact ixod _ _ | assumption); omega) | ((with_reducible apply v4W); exact (And.left hU1); (first | with_reducible rfl | with_reducible exact ixo _ | with_reducible exact ixoc _ _ | with_reducible exact ixom _ _ _ | with_reducible exact ixop _ _ | with_reducible exact ixod _ _ | assumption); omega) | ((with_reducible apply v5R8); exact (And.left hU1)) | ((with_reducible apply v5I); exact (And.left hU1)) | ((with_reducible apply v5S); exact (And.left hU1)) | ((with_reducible apply v5Z); exact (And.left hU1); first | exact Or.inl rfl | exact Or.inr rfl | assumption) | ((with_reducible apply v5C); exact (And.left hU1)) | ((with_reducible apply v6A); exact (And.left hU1); (first | with_reducible rfl | with_reducible exact ixo _ | with_reducible exact ixoc _ _ | with_reducible exact ixom _ _ _ | with_reducible exact ixop _ _ | with_reducible exact ixod _ _ | assumption); omega) | ((with_reducible apply v6W); exact (And.left hU1); (first | with_reducible rfl | with_reducible exact ixo _ | with_reducible exact ixoc _ _ | with_reducible exact ixom _ _ _ | with_reducible exact ixop _ _ | with_reducible exact ixod _ _ | assumption); omega) | ((with_reducible apply vX1A); exact (And.left hU1); (first | with_reducible rfl | with_reducible exact ixo _ | with_reducible exact ixoc _ _ | with_reducible exact ixom _ _ _ | with_reducible exact ixop _ _ | with_reducible exact ixod _ _ | assumption); omega))
    rw [g6]
    refine v_it rfl (v_rI ?_)
    have eo9 : eL (sRd u) (lRd u) h h1 := eL_mono (eL_eo (SL := lRd u) o1) (fun a j z => sLw_Rd z) (fun a j z => z)
    have k3 : ∀ j, gI h1 3 j = gI h 3 j := fun j => o1.2 _ _ (fun z => by unfold sLw at z; omega)
    refine ⟨eo9, k3, ?_, ?_⟩
    · rw [es]
      by_cases z : tkK q = 61
      · rw [if_pos z]
        exact (x2 z).1
      · rw [if_neg z]
        exact x1 z
    · rw [es]
      by_cases z : tkK q = 61
      · rw [if_pos z]
        refine fun _ => ⟨tcC_eo o1 (fun a k z => by unfold sLw at z; omega) t, ⟨cz, ?_, ⟨h3, h7⟩, (x2 z).2, ?_⟩, flC_eL (SL := fun _ _ => False) (eL_eo o1) (fun a k z => by unfold sLw at z; omega) hF, ?_, ?_, ?_⟩
        · intro k1 hk1 z1
          exact lawW_Lw hu o1 (z1 (by simp)) (Nat.le_refl _) (l1 k1 hk1 (fun y => absurd rfl y))
        · show cz + 0 + 0 + 2 ≤ i + 1
          omega
        · dsimp only
          rw [if_neg (by omega), o1.2 _ _ (fun z => by unfold sLw at z; omega)]
          exact R1
        · exact fun z => by rw [o1.2 _ _ (fun z => by unfold sLw at z; omega)]; exact R2 z
        · exact fun z => by
            have z : tl = 2 := z
            omega
      · rw [if_neg z]
        exact fun y => absurd y Nat.one_ne_zero
  | some L =>
    obtain ⟨l1, l2, l3, l4⟩ := lw
    have wL : wfL L := w.2.2 L rfl
    have es := stp_w (A := A) (st := st) (rl := rl) (L := L) (q := q) h3 h7
    refine v_bd (takeC9 (k := tl - 3) (s0 := cz) hfu hU (by omega) wL (by omega) l3 hq hk) (fun x h1 hq1 => ?_)
    obtain ⟨o1, x1, x2⟩ := hq1
    have hU1 : LU u h1.2 := by rw [o1.1]; exact hU
    have eo9 : eL (sRd u) (lRd u) h h1 := eL_mono (eL_eo (SL := lRd u) o1) (fun a j z => sLw_Rd z) (fun a j z => z)
    have k3 : ∀ j, gI h1 3 j = gI h 3 j := fun j => o1.2 _ _ (fun z => by unfold sLw at z; omega)
    have o9 : eo (fun a j => sLw u (tl - 3) cz a j ∨ (a = 2 ∧ j = 2)) h (uI h1 2 2 (-1)) := eo_uI (eo_mono o1 (fun a j z => Or.inl z)) (Or.inr ⟨rfl, rfl⟩)
    have eo8 : eL (sRd u) (lRd u) h (uI h1 2 2 (-1)) := eL_mono (eL_eo (SL := lRd u) o9) (fun a j z => by rcases z with z | z; exact sLw_Rd z; unfold sRd; omega) (fun a j z => z)
    have k8 : ∀ j, gI (uI h1 2 2 (-1)) 3 j = gI h 3 j := fun j => o9.2 _ _ (fun z => by unfold sLw at z; omega)
    obtain ⟨s, hs⟩ : ∃ s, s = lst L q := ⟨_, rfl⟩
    rw [← hs] at es x1 x2
    obtain ⟨c, ov, L'⟩ := s
    dsimp only at es x1 x2
    repeat (first | with_reducible apply v_lt | ((with_reducible apply y_TR); exact hU1; rfl) | ((with_reducible apply y_UR); exact hU1; rfl) | ((first | with_reducible apply y_0I | with_reducible apply y_9I | with_reducible apply y_0C | with_reducible apply y_9C | with_reducible apply y_0S | with_reducible apply y_9S); exact hU1) | ((first | with_reducible apply y_TA | with_reducible apply y_TW | with_reducible apply y_TJ | with_reducible apply y_TK); exact hU1; rfl; rfl; (first | with_reducible rfl | with_reducible exact ixo _ | with_reducible exact ixoc _ _ | with_reducible exact ixom _ _ _ | with_reducible exact ixop _ _ | with_reducible exact ixod _ _ | assumption); omega) | ((with_reducible apply v2R0); exact (And.left hU1)) | ((with_reducible apply v2R1); exact (And.left hU1)) | ((with_reducible apply v2I); exact (And.left hU1)) | ((with_reducible apply v2S); exact (And.left hU1)) | ((with_reducible apply v2Z); exact (And.left hU1); first | exact Or.inl rfl | exact Or.inr rfl | assumption) | ((with_reducible apply v2C); exact (And.left hU1)) | ((with_reducible apply v3R0); exact (And.left hU1)) | ((with_reducible apply v3I); exact (And.left hU1)) | ((with_reducible apply v3S); exact (And.left hU1)) | ((with_reducible apply v3Z); exact (And.left hU1); first | exact Or.inl rfl | exact Or.inr rfl | assumption) | ((with_reducible apply v3C); exact (And.left hU1)) | ((with_reducible apply v3L); exact (And.left hU1)) | ((with_reducible apply v3M); exact (And.left hU1)) | ((with_reducible apply v4A); exact (And.left hU1); (first | with_reducible rfl | with_reducible exact ixo _ | with_reducible exact ixoc _ _ | with_reducible exact ixom _ _ _ | with_reducible exact ixop _ _ | with_reducible exact ixod _ _ | assumption); omega) | ((with_reducible apply v4W); exact (And.left hU1); (first | with_reducible rfl | with_reducible exact ixo _ | with_reducible exact ixoc _ _ | with_reducible exact ixom _ _ _ | with_reducible exact ixop _ _ | with_reducible exact ixod _ _ | assumption); omega) | ((with_reducible apply v5R8); exact (And.left hU1)) | ((with_reducible apply v5I); exact (And.left hU1)) | ((with_reducible apply v5S); exact (And.left hU1)) | ((with_reducible apply v5Z); exact (And.left hU1); first | exact Or.inl rfl | exact Or.inr rfl | assumption) | ((with_reducible apply v5C); exact (And.left hU1)) | ((with_reducible apply v6A); exact (And.left hU1); (first | with_reducible rfl | with_reducible exact ixo _ | with_reducible exact ixoc _ _ | with_reducible exact ixom _ _ _ | with_reducible exact ixop _ _ | with_reducible exact ixod _ _ | assumption); omega) | ((with_reducible apply v6W); exact (And.left hU1); (first | with_reducible rfl | with_reducible exact ixo _ | with_reducible exact ixoc _ _ | with_reducible exact ixom _ _ _ | with_reducible exact ixop _ _ | with_reducible exact ixod _ _ | assumption); omega) | ((with_reducible apply vX1A); exact (And.left hU1); (first | with_reducible rfl | with_reducible exact ixo _ | with_reducible exact ixoc _ _ | with_reducible exact ixom _ _ _ | with_reducible exact ixop _ _ | with_reducible exact ixod _ _ | assumption); omega))
    by_cases c0 : c = 0
    · subst c0
      obtain ⟨g6, y1, y2⟩ := x2 rfl
      obtain ⟨v1, v2, v3⟩ := lst_wf wL hv hs.symm
      rw [g6]
      cases ov with
      | false =>
        refine v_it rfl (v_rI ⟨eo9, k3, ?_, ?_⟩)
        · rw [es]
          exact x1
        · rw [es, if_neg (by decide)]
          refine fun _ => ⟨tcC_eo o1 (fun a k z => by unfold sLw at z; omega) t, ⟨cz, ?_, ⟨h3, h7⟩, y1 rfl, ?_⟩, flC_eL (SL := fun _ _ => False) (eL_eo o1) (fun a k z => by unfold sLw at z; omega) hF, ?_, ?_, ?_⟩
          · intro k1 hk1 z1
            exact lawW_Lw hu o1 (z1 (by simp)) (Nat.le_refl _) (l1 k1 hk1 (fun _ => z1 (by simp)))
          · omega
          · dsimp only
            rw [if_neg (by omega), o1.2 _ _ (fun z => by unfold sLw at z; omega)]
            exact R1
          · exact fun z => by rw [o1.2 _ _ (fun z => by unfold sLw at z; omega)]; exact R2 z
          · exact fun z => by
              have z : tl = 2 := z
              omega
      | true =>
        refine v_ie (by decide) ?_
        repeat (first | with_reducible apply v_lt | ((with_reducible apply y_TR); exact hU1; rfl) | ((with_reducible apply y_UR); exact hU1; rfl) | ((first | with_reducible apply y_0I | with_reducible apply y_9I | with_reducible apply y_0C | with_reducible apply y_9C | with_reducible apply y_0S | with_reducible apply y_9S); exact hU1) | ((first | with_reducible apply y_TA | with_reducible apply y_TW | with_reducible apply y_TJ | with_reducible apply y_TK); exact hU1; rfl; rfl; (first | with_reducible rfl | with_reducible exact ixo _ | with_reducible exact ixoc _ _ | with_reducible exact ixom _ _ _ | with_reducible exact ixop _ _ | with_reducible exact ixod _ _ | assumption); omega) | ((with_reducible apply v2R0); exact (And.left hU1)) | ((with_reducible apply v2R1); exact (And.left hU1)) | ((with_reducible apply v2I); exact (And.left hU1)) | ((with_reducible apply v2S); exact (And.left hU1)) | ((with_reducible apply v2Z); exact (And.left hU1); first | exact Or.inl rfl | exact Or.inr rfl | assumption) | ((with_reducible apply v2C); exact (And.left hU1)) | ((with_reducible apply v3R0); exact (And.left hU1)) | ((with_reducible apply v3I); exact (And.left hU1)) | ((with_reducible apply v3S); exact (And.left hU1)) | ((with_reducible apply v3Z); exact (And.left hU1); first | exact Or.inl rfl | exact Or.inr rfl | assumption) | ((with_reducible apply v3C); exact (And.left hU1)) | ((with_reducible apply v3L); exact (And.left hU1)) | ((with_reducible apply v3M); exact (And.left hU1)) | ((with_reducible apply v4A); exact (And.left hU1); (first | with_reducible rfl | with_reducible exact ixo _ | with_reducible exact ixoc _ _ | with_reducible exact ixom _ _ _ | with_reducible exact ixop _ _ | with_reducible exact ixod _ _ | assumption); omega) | ((with_reducible apply v4W); exact (And.left hU1); (first | with_reducible rfl | with_reducible exact ixo _ | with_reducible exact ixoc _ _ | with_reducible exact ixom _ _ _ | with_reducible exact ixop _ _ | with_reducible exact ixod _ _ | assumption); omega) | ((with_reducible apply v5R8); exact (And.left hU1)) | ((with_reducible apply v5I); exact (And.left hU1)) | ((with_reducible apply v5S); exact (And.left hU1)) | ((with_reducible apply v5Z); exact (And.left hU1); first | exact Or.inl rfl | exact Or.inr rfl | assumption) | ((with_reducible apply v5C); exact (And.left hU1)) | ((with_reducible apply v6A); exact (And.left hU1); (first | with_reducible rfl | with_reducible exact ixo _ | with_reducible exact ixoc _ _ | with_reducible exact ixom _ _ _ | with_reducible exact ixop _ _ | with_reducible exact ixod _ _ | assumption); omega) | ((with_reducible apply v6W); exact (And.left hU1); (first | with_reducible rfl | with_reducible exact ixo _ | with_reducible exact ixoc _ _ | with_reducible exact ixom _ _ _ | with_reducible exact ixop _ _ | with_reducible exact ixod _ _ | assumption); omega) | ((with_reducible apply vX1A); exact (And.left hU1); (first | with_reducible rfl | with_reducible exact ixo _ | with_reducible exact ixoc _ _ | with_reducible exact ixom _ _ _ | with_reducible exact ixop _ _ | with_reducible exact ixod _ _ | assumption); omega))
        refine v_rI ⟨eo8, k8, ?_, ?_⟩
        · rw [es]
          exact x1
        · rw [es, if_pos rfl]
          obtain ⟨m1, m2, m3, m4⟩ := y2 rfl
          obtain ⟨n1, n2, n3⟩ := v2 rfl
          have lz4 : lln L' = ln3 (lTs L') + ln1 (lPa L') + (lQu L').length := rfl
          refine fun _ => ⟨?_, ⟨cz + lln L', ?_, ?_, ?_, ?_⟩, ?_, ?_, ?_, ?_⟩
          · exact tc_X (A := A) rfl rfl (tcC_bd (tcC_eo o9 (fun a k z => by unfold sLw at z; omega) t) (by omega))
          · intro k1 hk1 _
            have p1 : ∀ a j, u + 9 ≤ a → gI (uI h1 2 2 (-1)) a j = gI h1 a j := fun a j z => gI_ne (by omega)
            show lawW (uI h1 2 2 (-1)) u k1 (cz + lln L') (if k1 = tl - 3 then some (lTs L', lQu L') else tW A k1)
            by_cases z : k1 = tl - 3
            · rw [if_pos z, z]
              have := lawW_new (c1 := cz + lln L') n2 m2 m3 m4 (by omega)
              exact lawW_fr this (Nat.le_refl _) (fun j _ => p1 _ _ (by omega)) (p1 _ _ (by omega)) (fun j _ _ => p1 _ _ (by omega)) (p1 _ _ (by omega))
            · rw [if_neg z]
              have := lawW_Lw (c1 := cz + lln L') hu o1 z (by omega) (l1 k1 hk1 (fun _ => z))
              exact lawW_fr this (Nat.le_refl _) (fun j _ => p1 _ _ (by omega)) (p1 _ _ (by omega)) (fun j _ _ => p1 _ _ (by omega)) (p1 _ _ (by omega))
          · rw [gI_ne (by omega)]
            exact m1
          · exact fun _ y => by
              have y : 10 < 7 := y
              omega
          · show cz + lln L' + 0 ≤ i + 1
            omega
          · exact flC_eL (SL := fun _ _ => False) (eL_eo o9) (fun a k z => by unfold sLw at z; omega) hF
          · exact gI_eq
          · exact fun y => absurd rfl y
          · exact fun y => by
              have y : 10 = 2 := y
              omega
    · have nz : (stp (A, tl, st, rl, some L) q).1 = 0 → relC u (stp (A, tl, st, rl, some L) q).2 (i + 1) h1 := by
        rw [es]
        exact fun y => absurd y c0
      have nz8 : (stp (A, tl, st, rl, some L) q).1 = 0 → relC u (stp (A, tl, st, rl, some L) q).2 (i + 1) (uI h1 2 2 (-1)) := by
        rw [es]
        exact fun y => absurd y c0
      refine v_if (fun _ => v_rI ⟨eo9, k3, by rw [es]; exact x1, nz⟩) (fun _ => ?_)
      repeat (first | with_reducible apply v_lt | ((with_reducible apply y_TR); exact hU1; rfl) | ((with_reducible apply y_UR); exact hU1; rfl) | ((first | with_reducible apply y_0I | with_reducible apply y_9I | with_reducible apply y_0C | with_reducible apply y_9C | with_reducible apply y_0S | with_reducible apply y_9S); exact hU1) | ((first | with_reducible apply y_TA | with_reducible apply y_TW | with_reducible apply y_TJ | with_reducible apply y_TK); exact hU1; rfl; rfl; (first | with_reducible rfl | with_reducible exact ixo _ | with_reducible exact ixoc _ _ | with_reducible exact ixom _ _ _ | with_reducible exact ixop _ _ | with_reducible exact ixod _ _ | assumption); omega) | ((with_reducible apply v2R0); exact (And.left hU1)) | ((with_reducible apply v2R1); exact (And.left hU1)) | ((with_reducible apply v2I); exact (And.left hU1)) | ((with_reducible apply v2S); exact (And.left hU1)) | ((with_reducible apply v2Z); exact (And.left hU1); first | exact Or.inl rfl | exact Or.inr rfl | assumption) | ((with_reducible apply v2C); exact (And.left hU1)) | ((with_reducible apply v3R0); exact (And.left hU1)) | ((with_reducible apply v3I); exact (And.left hU1)) | ((with_reducible apply v3S); exact (And.left hU1)) | ((with_reducible apply v3Z); exact (And.left hU1); first | exact Or.inl rfl | exact Or.inr rfl | assumption) | ((with_reducible apply v3C); exact (And.left hU1)) | ((with_reducible apply v3L); exact (And.left hU1)) | ((with_reducible apply v3M); exact (And.left hU1)) | ((with_reducible apply v4A); exact (And.left hU1); (first | with_reducible rfl | with_reducible exact ixo _ | with_reducible exact ixoc _ _ | with_reducible exact ixom _ _ _ | with_reducible exact ixop _ _ | with_reducible exact ixod _ _ | assumption); omega) | ((with_reducible apply v4W); exact (And.left hU1); (first | with_reducible rfl | with_reducible exact ixo _ | with_reducible exact ixoc _ _ | with_reducible exact ixom _ _ _ | with_reducible exact ixop _ _ | with_reducible exact ixod _ _ | assumption); omega) | ((with_reducible apply v5R8); exact (And.left hU1)) | ((with_reducible apply v5I); exact (And.left hU1)) | ((with_reducible apply v5S); exact (And.left hU1)) | ((with_reducible apply v5Z); exact (And.left hU1); first | exact Or.inl rfl | exact Or.inr rfl | assumption) | ((with_reducible apply v5C); exact (And.left hU1)) | ((with_reducible apply v6A); exact (And.left hU1); (first | with_reducible rfl | with_reducible exact ixo _ | with_reducible exact ixoc _ _ | with_reducible exact ixom _ _ _ | with_reducible exact ixop _ _ | with_reducible exact ixod _ _ | assumption); omega) | ((with_reducible apply v6W); exact (And.left hU1); (first | with_reducible rfl | with_reducible exact ixo _ | with_reducible exact ixoc _ _ | with_reducible exact ixom _ _ _ | with_reducible exact ixop _ _ | with_reducible exact ixod _ _ | assumption); omega) | ((with_reducible apply vX1A); exact (And.left hU1); (first | with_reducible rfl | with_reducible exact ixo _ | with_reducible exact ixoc _ _ | with_reducible exact ixom _ _ _ | with_reducible exact ixop _ _ | with_reducible exact ixod _ _ | assumption); omega))
      exact v_rI ⟨eo8, k8, by rw [es]; exact x1, nz8⟩
