/-! THE CLASS READS: a token of a form; any token; what holds goes on holding -/
theorem fm_c {tl st : Nat} : fm tl st = 22 ∨ fm tl st = 23 ∨ fm tl st = 59 := by
  unfold fm
  repeat' split
  all_goals first | exact Or.inl rfl | exact Or.inr (Or.inl rfl) | exact Or.inr (Or.inr rfl)
theorem fm_22 {tl st : Nat} (e : fm tl st = 22) : tl < 3 ∧ (st = 0 ∨ (tl = 2 ∧ st = 1)) := by
  unfold fm at e
  by_cases z0 : tl = 0
  · rw [if_pos z0] at e
    by_cases s0 : st = 0
    · exact ⟨by omega, Or.inl s0⟩
    · rw [if_neg s0] at e
      split at e <;> omega
  · rw [if_neg z0] at e
    by_cases z1 : tl = 1
    · rw [if_pos z1] at e
      by_cases s0 : st = 0
      · exact ⟨by omega, Or.inl s0⟩
      · rw [if_neg s0] at e
        split at e <;> omega
    · rw [if_neg z1] at e
      by_cases z2 : tl = 2
      · rw [if_pos z2] at e
        by_cases s1 : st ≤ 1
        · omega
        · rw [if_neg s1] at e
          omega
      · rw [if_neg z2] at e
        split at e <;> omega
theorem fm_23 {tl st : Nat} (e : fm tl st = 23) : (tl = 0 ∧ (st = 1 ∨ st = 2)) ∨ (tl = 1 ∧ (st = 1 ∨ st = 2 ∨ st = 3)) ∨ (2 < tl ∧ st = 0) := by
  unfold fm at e
  by_cases z0 : tl = 0
  · rw [if_pos z0] at e
    by_cases s0 : st = 0
    · rw [if_pos s0] at e
      omega
    · rw [if_neg s0] at e
      by_cases s2 : st ≤ 2
      · omega
      · rw [if_neg s2] at e
        omega
  · rw [if_neg z0] at e
    by_cases z1 : tl = 1
    · rw [if_pos z1] at e
      by_cases s0 : st = 0
      · rw [if_pos s0] at e
        omega
      · rw [if_neg s0] at e
        by_cases s2 : st ≤ 3
        · omega
        · rw [if_neg s2] at e
          omega
    · rw [if_neg z1] at e
      by_cases z2 : tl = 2
      · rw [if_pos z2] at e
        split at e <;> omega
      · rw [if_neg z2] at e
        by_cases s0 : st = 0
        · omega
        · rw [if_neg s0] at e
          omega
theorem fm_59 {tl st : Nat} (e : fm tl st = 59) : (tl = 0 → 3 ≤ st) ∧ (tl = 1 → 4 ≤ st) ∧ (tl = 2 → 2 ≤ st) := by
  unfold fm at e
  by_cases z0 : tl = 0
  · rw [if_pos z0] at e
    by_cases s0 : st = 0
    · rw [if_pos s0] at e
      omega
    · rw [if_neg s0] at e
      by_cases s2 : st ≤ 2
      · rw [if_pos s2] at e
        omega
      · omega
  · rw [if_neg z0] at e
    by_cases z1 : tl = 1
    · rw [if_pos z1] at e
      by_cases s0 : st = 0
      · rw [if_pos s0] at e
        omega
      · rw [if_neg s0] at e
        by_cases s2 : st ≤ 3
        · rw [if_pos s2] at e
          omega
        · omega
    · rw [if_neg z1] at e
      by_cases z2 : tl = 2
      · rw [if_pos z2] at e
        by_cases s1 : st ≤ 1
        · rw [if_pos s1] at e
          omega
        · omega
      · omega
theorem W_num {A : RT} {tl st v p : Nat} : tW (num A tl st v p) = tW A := by
  unfold num
  show tW (if v < lo9 tl ∨ hi9 tl st < v then nt A 5 p else A) = _
  split
  · exact nt_W
  · rfl
theorem W_nw {A : RT} {k p : Nat} {l : List Nat} : tW (nw9 A k l p) = tW A := by
  unfold nw9
  show tW (if rN9 A l = none ∧ lN9 A l = none then A else nt A 3 p) = _
  split
  · rfl
  · exact nt_W
theorem W_re1 {A : RT} {p : Nat} {l : List Nat} : tW (re1 A l p) = tW A := by
  unfold re1
  split
  · exact nt_W
  · rfl
theorem W_re2 {A : RT} {o : Option Nat} {p : Nat} {l : List Nat} : tW (re2 A o l p) = tW A := by
  unfold re2
  split
  · exact nt_W
  · rfl
  · show tW (if _ then nt A 3 p else A) = _
    split
    · exact nt_W
    · rfl
theorem X_re1 {A : RT} {p : Nat} {l : List Nat} : tX (re1 A l p) = tX A := by
  unfold re1
  split
  · exact nt_X
  · rfl
set_option maxHeartbeats 1000000 in
theorem formR {fu u i tl st : Nat} {A : RT} {rl : Option Nat} {q : Tk} {h : mh} (hfu : 1000 ≤ fu) (hU : LU u h.2) (h10 : tl ≠ 10) (h37 : ¬ (3 ≤ tl ∧ tl < 7)) (w : wM (A, tl, st, rl, none)) (r : relC u (A, tl, st, rl, none) i h) (hq : tkC h q) (hk : tkK q < 100) (hv : tkK q = 23 → tkV q < 10000) (hn : tkK q = 22 → okn (tkN q)) : ok (fX5_take fu 2 u h) (takn u (A, tl, st, rl, none) q i h) := by
  have hu := hU.2
  obtain ⟨t, ⟨cz, lw⟩, hF, hR⟩ := r
  obtain ⟨wa, ws, -⟩ := w
  dsimp only at t lw hF hR wa ws
  obtain ⟨R1, R2, R3⟩ := hR
  rw [if_neg h10] at R1
  have R2' := R2 h10
  have hs := hq.2.1
  have es := stp_f (A := A) (st := st) (rl := rl) (lz := none) (q := q) h10 h37
  unfold fX5_take
  repeat (first | with_reducible apply v_lt | ((with_reducible apply y_TR); exact hU; rfl) | ((with_reducible apply y_UR); exact hU; rfl) | ((first | with_reducible apply y_0I | with_reducible apply y_9I | with_reducible apply y_0C | with_reducible apply y_9C | with_reducible apply y_0S | with_reducible apply y_9S); exact hU) | ((first | with_reducible apply y_TA | with_reducible apply y_TW | with_reducible apply y_TJ | with_reducible apply y_TK); exact hU; rfl; rfl; (first | with_reducible rfl | with_reducible exact ixo _ | with_reducible exact ixoc _ _ | with_reducible exact ixom _ _ _ | with_reducible exact ixop _ _ | with_reducible exact ixod _ _ | assumption); omega) | ((with_reducible apply v2R0); exact (And.left hU)) | ((with_reducible apply v2R1); exact (And.left hU)) | ((with_reducible apply v2I); exact (And.left hU)) | ((with_reducible apply v2S); exact (And.left hU)) | ((with_reducible apply v2Z); exact (And.left hU); first | exact Or.inl rfl | exact Or.inr rfl | assumption) | ((with_reducible apply v2C); exact (And.left hU)) | ((with_reducible apply v3R0); exact (And.left hU)) | ((with_reducible apply v3I); exact (And.left hU)) | ((with_reducible apply v3S); exact (And.left hU)) | ((with_reducible apply v3Z); exact (And.left hU); first | exact Or.inl rfl | exact Or.inr rfl | assumption) | ((with_reducible apply v3C); exact (And.left hU)) | ((with_reducible apply v3L); exact (And.left hU)) | ((with_reducible apply v3M); exact (And.left hU)) | ((with_reducible apply v4A); exact (And.left hU); (first | with_reducible rfl | with_reducible exact ixo _ | with_reducible exact ixoc _ _ | with_reducible exact ixom _ _ _ | with_reducible exact ixop _ _ | with_reducible exact ixod _ _ | assumption); omega) | ((with_reducible apply v4W); exact (And.left hU); (first | with_reducible rfl | with_reducible exact ixo _ | with_reducible exact ixoc _ _ | with_reducible exact ixom _ _ _ | with_reducible exact ixop _ _ | with_reducible exact ixod _ _ | assumption); omega) | ((with_reducible apply v5R8); exact (And.left hU)) | ((with_reducible apply v5I); exact (And.left hU)) | ((with_reducible apply v5S); exact (And.left hU)) | ((with_reducible apply v5Z); exact (And.left hU); first | exact Or.inl rfl | exact Or.inr rfl | assumption) | ((with_reducible apply v5C); exact (And.left hU)) | ((with_reducible apply v6A); exact (And.left hU); (first | with_reducible rfl | with_reducible exact ixo _ | with_reducible exact ixoc _ _ | with_reducible exact ixom _ _ _ | with_reducible exact ixop _ _ | with_reducible exact ixod _ _ | assumption); omega) | ((with_reducible apply v6W); exact (And.left hU); (first | with_reducible rfl | with_reducible exact ixo _ | with_reducible exact ixoc _ _ | with_reducible exact ixom _ _ _ | with_reducible exact ixop _ _ | with_reducible exact ixod _ _ | assumption); omega) | ((with_reducible apply vX1A); exact (And.left hU); (first | with_reducible rfl | with_reducible exact ixo _ | with_reducible exact ixoc _ _ | with_reducible exact ixom _ _ _ | with_reducible exact ixop _ _ | with_reducible exact ixod _ _ | assumption); omega))
  rw [R1]
  refine v_ie (fun z => ?_) ?_
  · have h1 : ¬ nI tl < 0 := nI_pos (by have := ws.1; omega)
    rw [z] at h1
    exact absurd (by decide) h1
  repeat (first | with_reducible apply v_lt | ((with_reducible apply y_TR); exact hU; rfl) | ((with_reducible apply y_UR); exact hU; rfl) | ((first | with_reducible apply y_0I | with_reducible apply y_9I | with_reducible apply y_0C | with_reducible apply y_9C | with_reducible apply y_0S | with_reducible apply y_9S); exact hU) | ((first | with_reducible apply y_TA | with_reducible apply y_TW | with_reducible apply y_TJ | with_reducible apply y_TK); exact hU; rfl; rfl; (first | with_reducible rfl | with_reducible exact ixo _ | with_reducible exact ixoc _ _ | with_reducible exact ixom _ _ _ | with_reducible exact ixop _ _ | with_reducible exact ixod _ _ | assumption); omega) | ((with_reducible apply v2R0); exact (And.left hU)) | ((with_reducible apply v2R1); exact (And.left hU)) | ((with_reducible apply v2I); exact (And.left hU)) | ((with_reducible apply v2S); exact (And.left hU)) | ((with_reducible apply v2Z); exact (And.left hU); first | exact Or.inl rfl | exact Or.inr rfl | assumption) | ((with_reducible apply v2C); exact (And.left hU)) | ((with_reducible apply v3R0); exact (And.left hU)) | ((with_reducible apply v3I); exact (And.left hU)) | ((with_reducible apply v3S); exact (And.left hU)) | ((with_reducible apply v3Z); exact (And.left hU); first | exact Or.inl rfl | exact Or.inr rfl | assumption) | ((with_reducible apply v3C); exact (And.left hU)) | ((with_reducible apply v3L); exact (And.left hU)) | ((with_reducible apply v3M); exact (And.left hU)) | ((with_reducible apply v4A); exact (And.left hU); (first | with_reducible rfl | with_reducible exact ixo _ | with_reducible exact ixoc _ _ | with_reducible exact ixom _ _ _ | with_reducible exact ixop _ _ | with_reducible exact ixod _ _ | assumption); omega) | ((with_reducible apply v4W); exact (And.left hU); (first | with_reducible rfl | with_reducible exact ixo _ | with_reducible exact ixoc _ _ | with_reducible exact ixom _ _ _ | with_reducible exact ixop _ _ | with_reducible exact ixod _ _ | assumption); omega) | ((with_reducible apply v5R8); exact (And.left hU)) | ((with_reducible apply v5I); exact (And.left hU)) | ((with_reducible apply v5S); exact (And.left hU)) | ((with_reducible apply v5Z); exact (And.left hU); first | exact Or.inl rfl | exact Or.inr rfl | assumption) | ((with_reducible apply v5C); exact (And.left hU)) | ((with_reducible apply v6A); exact (And.left hU); (first | with_reducible rfl | with_reducible exact ixo _ | with_reducible exact ixoc _ _ | with_reducible exact ixom _ _ _ | with_reducible exact ixop _ _ | with_reducible exact ixod _ _ | assumption); omega) | ((with_reducible apply v6W); exact (And.left hU); (first | with_reducible rfl | with_reducible exact ixo _ | with_reducible exact ixoc _ _ | with_reducible exact ixom _ _ _ | with_reducible exact ixop _ _ | with_reducible exact ixod _ _ | assumption); omega) | ((with_reducible apply vX1A); exact (And.left hU); (first | with_reducible rfl | with_reducible exact ixo _ | with_reducible exact ixoc _ _ | with_reducible exact ixom _ _ _ | with_reducible exact ixop _ _ | with_reducible exact ixod _ _ | assumption); omega))
  rw [R1]
  refine v_eq (isLawC ws.1) ?_
  rw [decide_eq_false h37]
  refine v_it rfl ?_
  repeat (first | with_reducible apply v_lt | ((with_reducible apply y_TR); exact hU; rfl) | ((with_reducible apply y_UR); exact hU; rfl) | ((first | with_reducible apply y_0I | with_reducible apply y_9I | with_reducible apply y_0C | with_reducible apply y_9C | with_reducible apply y_0S | with_reducible apply y_9S); exact hU) | ((first | with_reducible apply y_TA | with_reducible apply y_TW | with_reducible apply y_TJ | with_reducible apply y_TK); exact hU; rfl; rfl; (first | with_reducible rfl | with_reducible exact ixo _ | with_reducible exact ixoc _ _ | with_reducible exact ixom _ _ _ | with_reducible exact ixop _ _ | with_reducible exact ixod _ _ | assumption); omega) | ((with_reducible apply v2R0); exact (And.left hU)) | ((with_reducible apply v2R1); exact (And.left hU)) | ((with_reducible apply v2I); exact (And.left hU)) | ((with_reducible apply v2S); exact (And.left hU)) | ((with_reducible apply v2Z); exact (And.left hU); first | exact Or.inl rfl | exact Or.inr rfl | assumption) | ((with_reducible apply v2C); exact (And.left hU)) | ((with_reducible apply v3R0); exact (And.left hU)) | ((with_reducible apply v3I); exact (And.left hU)) | ((with_reducible apply v3S); exact (And.left hU)) | ((with_reducible apply v3Z); exact (And.left hU); first | exact Or.inl rfl | exact Or.inr rfl | assumption) | ((with_reducible apply v3C); exact (And.left hU)) | ((with_reducible apply v3L); exact (And.left hU)) | ((with_reducible apply v3M); exact (And.left hU)) | ((with_reducible apply v4A); exact (And.left hU); (first | with_reducible rfl | with_reducible exact ixo _ | with_reducible exact ixoc _ _ | with_reducible exact ixom _ _ _ | with_reducible exact ixop _ _ | with_reducible exact ixod _ _ | assumption); omega) | ((with_reducible apply v4W); exact (And.left hU); (first | with_reducible rfl | with_reducible exact ixo _ | with_reducible exact ixoc _ _ | with_reducible exact ixom _ _ _ | with_reducible exact ixop _ _ | with_reducible exact ixod _ _ | assumption); omega) | ((with_reducible apply v5R8); exact (And.left hU)) | ((with_reducible apply v5I); exact (And.left hU)) | ((with_reducible apply v5S); exact (And.left hU)) | ((with_reducible apply v5Z); exact (And.left hU); first | exact Or.inl rfl | exact Or.inr rfl | assumption) | ((with_reducible apply v5C); exact (And.left hU)) | ((with_reducible apply v6A); exact (And.left hU); (first | with_reducible rfl | with_reducible exact ixo _ | with_reducible exact ixoc _ _ | with_reducible exact ixom _ _ _ | with_reducible exact ixop _ _ | with_reducible exact ixod _ _ | assumption); omega) | ((with_reducible apply v6W); exact (And.left hU); (first | with_reducible rfl | with_reducible exact ixo _ | with_reducible exact ixoc _ _ | with_reducible exact ixom _ _ _ | with_reducible exact ixop _ _ | with_reducible exact ixod _ _ | assumption); omega) | ((with_reducible apply vX1A); exact (And.left hU); (first | with_reducible rfl | with_reducible exact ixo _ | with_reducible exact ixoc _ _ | with_reducible exact ixom _ _ _ | with_reducible exact ixop _ _ | with_reducible exact ixod _ _ | assumption); omega))
  refine v_bd (P := takn u (A, tl, st, rl, none) q i h) ?_ (fun x h1 q => v_rI q)
  refine formC hU R1 R2' ?_ (fun a => ?_)
  · have h1 := ws.1
    rcases (show tl = 0 ∨ tl = 1 ∨ tl = 2 ∨ (7 ≤ tl ∧ tl < 10) by omega) with z | z | z | z
    · exact Or.inl ⟨z, (ws.2.1 z).2.2⟩
    · exact Or.inr (Or.inl ⟨z, (ws.2.2.1 z).2.2⟩)
    · exact Or.inr (Or.inr (Or.inl ⟨z, (ws.2.2.2.1 z).2⟩))
    · exact Or.inr (Or.inr (Or.inr ⟨by omega, ws.2.2.2.2.1 z.1 z.2⟩))
  unfold fX5_takeInForm_57
  repeat (first | with_reducible apply v_lt | ((with_reducible apply y_TR); exact hU; rfl) | ((with_reducible apply y_UR); exact hU; rfl) | ((first | with_reducible apply y_0I | with_reducible apply y_9I | with_reducible apply y_0C | with_reducible apply y_9C | with_reducible apply y_0S | with_reducible apply y_9S); exact hU) | ((first | with_reducible apply y_TA | with_reducible apply y_TW | with_reducible apply y_TJ | with_reducible apply y_TK); exact hU; rfl; rfl; (first | with_reducible rfl | with_reducible exact ixo _ | with_reducible exact ixoc _ _ | with_reducible exact ixom _ _ _ | with_reducible exact ixop _ _ | with_reducible exact ixod _ _ | assumption); omega) | ((with_reducible apply v2R0); exact (And.left hU)) | ((with_reducible apply v2R1); exact (And.left hU)) | ((with_reducible apply v2I); exact (And.left hU)) | ((with_reducible apply v2S); exact (And.left hU)) | ((with_reducible apply v2Z); exact (And.left hU); first | exact Or.inl rfl | exact Or.inr rfl | assumption) | ((with_reducible apply v2C); exact (And.left hU)) | ((with_reducible apply v3R0); exact (And.left hU)) | ((with_reducible apply v3I); exact (And.left hU)) | ((with_reducible apply v3S); exact (And.left hU)) | ((with_reducible apply v3Z); exact (And.left hU); first | exact Or.inl rfl | exact Or.inr rfl | assumption) | ((with_reducible apply v3C); exact (And.left hU)) | ((with_reducible apply v3L); exact (And.left hU)) | ((with_reducible apply v3M); exact (And.left hU)) | ((with_reducible apply v4A); exact (And.left hU); (first | with_reducible rfl | with_reducible exact ixo _ | with_reducible exact ixoc _ _ | with_reducible exact ixom _ _ _ | with_reducible exact ixop _ _ | with_reducible exact ixod _ _ | assumption); omega) | ((with_reducible apply v4W); exact (And.left hU); (first | with_reducible rfl | with_reducible exact ixo _ | with_reducible exact ixoc _ _ | with_reducible exact ixom _ _ _ | with_reducible exact ixop _ _ | with_reducible exact ixod _ _ | assumption); omega) | ((with_reducible apply v5R8); exact (And.left hU)) | ((with_reducible apply v5I); exact (And.left hU)) | ((with_reducible apply v5S); exact (And.left hU)) | ((with_reducible apply v5Z); exact (And.left hU); first | exact Or.inl rfl | exact Or.inr rfl | assumption) | ((with_reducible apply v5C); exact (And.left hU)) | ((with_reducible apply v6A); exact (And.left hU); (first | with_reducible rfl | with_reducible exact ixo _ | with_reducible exact ixoc _ _ | with_reducible exact ixom _ _ _ | with_reducible exact ixop _ _ | with_reducible exact ixod _ _ | assumption); omega) | ((with_reducible apply v6W); exact (And.left hU); (first | with_reducible rfl | with_reducible exact ixo _ | with_reducible exact ixoc _ _ | with_reducible exact ixom _ _ _ | with_reducible exact ixop _ _ | with_reducible exact ixod _ _ | assumption); omega) | ((with_reducible apply vX1A); exact (And.left hU); (first | with_reducible rfl | with_reducible exact ixo _ | with_reducible exact ixoc _ _ | with_reducible exact ixom _ _ _ | with_reducible exact ixop _ _ | with_reducible exact ixod _ _ | assumption); omega))
  rw [hs]
  obtain ⟨c22, c23, c59⟩ := sc_fm _ hk
  have ceq : soC (tkK q) = nI (fm tl st) ↔ tkK q = fm tl st := by
    rcases fm_c (tl := tl) (st := st) with e | e | e
    · rw [e]; exact c22
    · rw [e]; exact c23
    · rw [e]; exact c59
  by_cases ze : tkK q = fm tl st
  · refine v_it (ceq.mpr ze) ?_
    rw [if_neg (fun z => z ze)] at es
    -- the step goes on
    have fin : ∀ (A' : RT) (rl' : Option Nat) (h1 : mh), stp (A, tl, st, rl, none) q = (0, (A', tl, st + 1, rl', none)) → tW A' = tW A → eL (fun a k => sRd u a k ∧ ¬ (u + 9 ≤ a ∧ a ≤ u + 13) ∧ ¬ a = 3 ∧ ¬ (a = 2 ∧ k < 4)) (lRd u) h h1 → tcC u A' tl (st + 1) h1 → flC (tF A') h1 → (tl = 2 → gI h1 2 4 = opC rl') → ok (fX5_takeInForm_113 fu 2 u a (due tl st) (nI (fm tl st)) h1) (takn u (A, tl, st, rl, none) q i h) := by
      intro A' rl' h1 e1 eW o1 t1 f1 g4
      have hU1 : LU u h1.2 := LU_eL o1 hU
      have k2 : gI h1 2 2 = nI tl := by rw [o1.2.1 _ _ (fun z => by omega)]; exact R1
      have k3 : gI h1 2 3 = nI st := by rw [o1.2.1 _ _ (fun z => by omega)]; exact R2'
      unfold fX5_takeInForm_113
      repeat (first | with_reducible apply v_lt | ((with_reducible apply y_TR); exact hU1; rfl) | ((with_reducible apply y_UR); exact hU1; rfl) | ((first | with_reducible apply y_0I | with_reducible apply y_9I | with_reducible apply y_0C | with_reducible apply y_9C | with_reducible apply y_0S | with_reducible apply y_9S); exact hU1) | ((first | with_reducible apply y_TA | with_reducible apply y_TW | with_reducible apply y_TJ | with_reducible apply y_TK); exact hU1; rfl; rfl; (first | with_reducible rfl | with_reducible exact ixo _ | with_reducible exact ixoc _ _ | with_reducible exact ixom _ _ _ | with_reducible exact ixop _ _ | with_reducible exact ixod _ _ | assumption); omega) | ((with_reducible apply v2R0); exact (And.left hU1)) | ((with_reducible apply v2R1); exact (And.left hU1)) | ((with_reducible apply v2I); exact (And.left hU1)) | ((with_reducible apply v2S); exact (And.left hU1)) | ((with_reducible apply v2Z); exact (And.left hU1); first | exact Or.inl rfl | exact Or.inr rfl | assumption) | ((with_reducible apply v2C); exact (And.left hU1)) | ((with_reducible apply v3R0); exact (And.left hU1)) | ((with_reducible apply v3I); exact (And.left hU1)) | ((with_reducible apply v3S); exact (And.left hU1)) | ((with_reducible apply v3Z); exact (And.left hU1); first | exact Or.inl rfl | exact Or.inr rfl | assumption) | ((with_reducible apply v3C); exact (And.left hU1)) | ((with_reducible apply v3L); exact (And.left hU1)) | ((with_reducible apply v3M); exact (And.left hU1)) | ((with_reducible apply v4A); exact (And.left hU1); (first | with_reducible rfl | with_reducible exact ixo _ | with_reducible exact ixoc _ _ | with_reducible exact ixom _ _ _ | with_reducible exact ixop _ _ | with_reducible exact ixod _ _ | assumption); omega) | ((with_reducible apply v4W); exact (And.left hU1); (first | with_reducible rfl | with_reducible exact ixo _ | with_reducible exact ixoc _ _ | with_reducible exact ixom _ _ _ | with_reducible exact ixop _ _ | with_reducible exact ixod _ _ | assumption); omega) | ((with_reducible apply v5R8); exact (And.left hU1)) | ((with_reducible apply v5I); exact (And.left hU1)) | ((with_reducible apply v5S); exact (And.left hU1)) | ((with_reducible apply v5Z); exact (And.left hU1); first | exact Or.inl rfl | exact Or.inr rfl | assumption) | ((with_reducible apply v5C); exact (And.left hU1)) | ((with_reducible apply v6A); exact (And.left hU1); (first | with_reducible rfl | with_reducible exact ixo _ | with_reducible exact ixoc _ _ | with_reducible exact ixom _ _ _ | with_reducible exact ixop _ _ | with_reducible exact ixod _ _ | assumption); omega) | ((with_reducible apply v6W); exact (And.left hU1); (first | with_reducible rfl | with_reducible exact ixo _ | with_reducible exact ixoc _ _ | with_reducible exact ixom _ _ _ | with_reducible exact ixop _ _ | with_reducible exact ixod _ _ | assumption); omega) | ((with_reducible apply vX1A); exact (And.left hU1); (first | with_reducible rfl | with_reducible exact ixo _ | with_reducible exact ixoc _ _ | with_reducible exact ixom _ _ _ | with_reducible exact ixop _ _ | with_reducible exact ixod _ _ | assumption); omega))
      rw [k3, nI_1]
      have o2 : eo (fun a k => a = 2 ∧ k = 3) h1 (uI h1 2 3 (nI (st + 1))) := eo_uI eo_rf ⟨rfl, rfl⟩
      have o3 : eL (fun a k => sRd u a k ∧ ¬ (u + 9 ≤ a ∧ a ≤ u + 13) ∧ ¬ a = 3) (lRd u) h (uI h1 2 3 (nI (st + 1))) := eL_tr (eL_mono o1 (fun a k z => ⟨z.1, z.2.1, z.2.2.1⟩) (fun a k z => z)) (eL_mono (eL_eo (SL := lRd u) o2) (fun a k z => ⟨by unfold sRd; omega, by omega, by omega⟩) (fun a k z => z))
      refine v_rI ⟨eL_mono o3 (fun a k z => z.1) (fun a k z => z), fun k => o3.2.1 _ _ (fun z => z.2.2 rfl), ?_, ?_⟩
      · rw [e1]
        rfl
      · rw [e1]
        refine fun _ => ⟨tcC_eo o2 (fun a k z => by omega) t1, ⟨cz, lwC_up eW h37 h37 (lwC_eL o3 (fun a k z => z.2.1) h37 lw)⟩, flC_eL (SL := fun _ _ => False) (eL_eo o2) (fun a k z => by omega) f1, ?_, ?_, ?_⟩
        · dsimp only
          rw [if_neg h10, gI_ne (by omega)]
          exact k2
        · exact fun _ => gI_eq
        · exact fun z _ => by
            rw [gI_ne (by omega)]
            exact g4 z
    rcases fm_c (tl := tl) (st := st) with e | e | e
    · have hd : due tl st = 110 := by
        unfold due
        rw [e]
        rfl
      rw [e, hd]
      refine v_it rfl ?_
      repeat (first | with_reducible apply v_lt | ((with_reducible apply y_TR); exact hU; rfl) | ((with_reducible apply y_UR); exact hU; rfl) | ((first | with_reducible apply y_0I | with_reducible apply y_9I | with_reducible apply y_0C | with_reducible apply y_9C | with_reducible apply y_0S | with_reducible apply y_9S); exact hU) | ((first | with_reducible apply y_TA | with_reducible apply y_TW | with_reducible apply y_TJ | with_reducible apply y_TK); exact hU; rfl; rfl; (first | with_reducible rfl | with_reducible exact ixo _ | with_reducible exact ixoc _ _ | with_reducible exact ixom _ _ _ | with_reducible exact ixop _ _ | with_reducible exact ixod _ _ | assumption); omega) | ((with_reducible apply v2R0); exact (And.left hU)) | ((with_reducible apply v2R1); exact (And.left hU)) | ((with_reducible apply v2I); exact (And.left hU)) | ((with_reducible apply v2S); exact (And.left hU)) | ((with_reducible apply v2Z); exact (And.left hU); first | exact Or.inl rfl | exact Or.inr rfl | assumption) | ((with_reducible apply v2C); exact (And.left hU)) | ((with_reducible apply v3R0); exact (And.left hU)) | ((with_reducible apply v3I); exact (And.left hU)) | ((with_reducible apply v3S); exact (And.left hU)) | ((with_reducible apply v3Z); exact (And.left hU); first | exact Or.inl rfl | exact Or.inr rfl | assumption) | ((with_reducible apply v3C); exact (And.left hU)) | ((with_reducible apply v3L); exact (And.left hU)) | ((with_reducible apply v3M); exact (And.left hU)) | ((with_reducible apply v4A); exact (And.left hU); (first | with_reducible rfl | with_reducible exact ixo _ | with_reducible exact ixoc _ _ | with_reducible exact ixom _ _ _ | with_reducible exact ixop _ _ | with_reducible exact ixod _ _ | assumption); omega) | ((with_reducible apply v4W); exact (And.left hU); (first | with_reducible rfl | with_reducible exact ixo _ | with_reducible exact ixoc _ _ | with_reducible exact ixom _ _ _ | with_reducible exact ixop _ _ | with_reducible exact ixod _ _ | assumption); omega) | ((with_reducible apply v5R8); exact (And.left hU)) | ((with_reducible apply v5I); exact (And.left hU)) | ((with_reducible apply v5S); exact (And.left hU)) | ((with_reducible apply v5Z); exact (And.left hU); first | exact Or.inl rfl | exact Or.inr rfl | assumption) | ((with_reducible apply v5C); exact (And.left hU)) | ((with_reducible apply v6A); exact (And.left hU); (first | with_reducible rfl | with_reducible exact ixo _ | with_reducible exact ixoc _ _ | with_reducible exact ixom _ _ _ | with_reducible exact ixop _ _ | with_reducible exact ixod _ _ | assumption); omega) | ((with_reducible apply v6W); exact (And.left hU); (first | with_reducible rfl | with_reducible exact ixo _ | with_reducible exact ixoc _ _ | with_reducible exact ixom _ _ _ | with_reducible exact ixop _ _ | with_reducible exact ixod _ _ | assumption); omega) | ((with_reducible apply vX1A); exact (And.left hU); (first | with_reducible rfl | with_reducible exact ixo _ | with_reducible exact ixoc _ _ | with_reducible exact ixom _ _ _ | with_reducible exact ixop _ _ | with_reducible exact ixod _ _ | assumption); omega))
      rw [e] at ze
      rw [if_neg (by omega), if_neg (by omega)] at es
      obtain ⟨f1, f2⟩ := fm_22 e
      rw [e, hd] at fin
      by_cases z2 : tl = 2
      · subst z2
        rw [if_pos rfl] at es
        refine v_bd (P := fun _ h' => eo (sRe u) h h' ∧ ∃ A' rl', stp (A, 2, st, rl, none) q = (0, (A', 2, st + 1, rl', none)) ∧ tW A' = tW A ∧ tcC u A' 2 (st + 1) h' ∧ flC (tF A') h' ∧ gI h' 2 4 = opC rl') ?_ (fun _ h1 hq1 => ?_)
        · unfold fX5_takeName
          repeat (first | with_reducible apply v_lt | ((with_reducible apply y_TR); exact hU; rfl) | ((with_reducible apply y_UR); exact hU; rfl) | ((first | with_reducible apply y_0I | with_reducible apply y_9I | with_reducible apply y_0C | with_reducible apply y_9C | with_reducible apply y_0S | with_reducible apply y_9S); exact hU) | ((first | with_reducible apply y_TA | with_reducible apply y_TW | with_reducible apply y_TJ | with_reducible apply y_TK); exact hU; rfl; rfl; (first | with_reducible rfl | with_reducible exact ixo _ | with_reducible exact ixoc _ _ | with_reducible exact ixom _ _ _ | with_reducible exact ixop _ _ | with_reducible exact ixod _ _ | assumption); omega) | ((with_reducible apply v2R0); exact (And.left hU)) | ((with_reducible apply v2R1); exact (And.left hU)) | ((with_reducible apply v2I); exact (And.left hU)) | ((with_reducible apply v2S); exact (And.left hU)) | ((with_reducible apply v2Z); exact (And.left hU); first | exact Or.inl rfl | exact Or.inr rfl | assumption) | ((with_reducible apply v2C); exact (And.left hU)) | ((with_reducible apply v3R0); exact (And.left hU)) | ((with_reducible apply v3I); exact (And.left hU)) | ((with_reducible apply v3S); exact (And.left hU)) | ((with_reducible apply v3Z); exact (And.left hU); first | exact Or.inl rfl | exact Or.inr rfl | assumption) | ((with_reducible apply v3C); exact (And.left hU)) | ((with_reducible apply v3L); exact (And.left hU)) | ((with_reducible apply v3M); exact (And.left hU)) | ((with_reducible apply v4A); exact (And.left hU); (first | with_reducible rfl | with_reducible exact ixo _ | with_reducible exact ixoc _ _ | with_reducible exact ixom _ _ _ | with_reducible exact ixop _ _ | with_reducible exact ixod _ _ | assumption); omega) | ((with_reducible apply v4W); exact (And.left hU); (first | with_reducible rfl | with_reducible exact ixo _ | with_reducible exact ixoc _ _ | with_reducible exact ixom _ _ _ | with_reducible exact ixop _ _ | with_reducible exact ixod _ _ | assumption); omega) | ((with_reducible apply v5R8); exact (And.left hU)) | ((with_reducible apply v5I); exact (And.left hU)) | ((with_reducible apply v5S); exact (And.left hU)) | ((with_reducible apply v5Z); exact (And.left hU); first | exact Or.inl rfl | exact Or.inr rfl | assumption) | ((with_reducible apply v5C); exact (And.left hU)) | ((with_reducible apply v6A); exact (And.left hU); (first | with_reducible rfl | with_reducible exact ixo _ | with_reducible exact ixoc _ _ | with_reducible exact ixom _ _ _ | with_reducible exact ixop _ _ | with_reducible exact ixod _ _ | assumption); omega) | ((with_reducible apply v6W); exact (And.left hU); (first | with_reducible rfl | with_reducible exact ixo _ | with_reducible exact ixoc _ _ | with_reducible exact ixom _ _ _ | with_reducible exact ixop _ _ | with_reducible exact ixod _ _ | assumption); omega) | ((with_reducible apply vX1A); exact (And.left hU); (first | with_reducible rfl | with_reducible exact ixo _ | with_reducible exact ixoc _ _ | with_reducible exact ixom _ _ _ | with_reducible exact ixop _ _ | with_reducible exact ixod _ _ | assumption); omega))
          rw [R1]
          refine v_it rfl ?_
          repeat (first | with_reducible apply v_lt | ((with_reducible apply y_TR); exact hU; rfl) | ((with_reducible apply y_UR); exact hU; rfl) | ((first | with_reducible apply y_0I | with_reducible apply y_9I | with_reducible apply y_0C | with_reducible apply y_9C | with_reducible apply y_0S | with_reducible apply y_9S); exact hU) | ((first | with_reducible apply y_TA | with_reducible apply y_TW | with_reducible apply y_TJ | with_reducible apply y_TK); exact hU; rfl; rfl; (first | with_reducible rfl | with_reducible exact ixo _ | with_reducible exact ixoc _ _ | with_reducible exact ixom _ _ _ | with_reducible exact ixop _ _ | with_reducible exact ixod _ _ | assumption); omega) | ((with_reducible apply v2R0); exact (And.left hU)) | ((with_reducible apply v2R1); exact (And.left hU)) | ((with_reducible apply v2I); exact (And.left hU)) | ((with_reducible apply v2S); exact (And.left hU)) | ((with_reducible apply v2Z); exact (And.left hU); first | exact Or.inl rfl | exact Or.inr rfl | assumption) | ((with_reducible apply v2C); exact (And.left hU)) | ((with_reducible apply v3R0); exact (And.left hU)) | ((with_reducible apply v3I); exact (And.left hU)) | ((with_reducible apply v3S); exact (And.left hU)) | ((with_reducible apply v3Z); exact (And.left hU); first | exact Or.inl rfl | exact Or.inr rfl | assumption) | ((with_reducible apply v3C); exact (And.left hU)) | ((with_reducible apply v3L); exact (And.left hU)) | ((with_reducible apply v3M); exact (And.left hU)) | ((with_reducible apply v4A); exact (And.left hU); (first | with_reducible rfl | with_reducible exact ixo _ | with_reducible exact ixoc _ _ | with_reducible exact ixom _ _ _ | with_reducible exact ixop _ _ | with_reducible exact ixod _ _ | assumption); omega) | ((with_reducible apply v4W); exact (And.left hU); (first | with_reducible rfl | with_reducible exact ixo _ | with_reducible exact ixoc _ _ | with_reducible exact ixom _ _ _ | with_reducible exact ixop _ _ | with_reducible exact ixod _ _ | assumption); omega) | ((with_reducible apply v5R8); exact (And.left hU)) | ((with_reducible apply v5I); exact (And.left hU)) | ((with_reducible apply v5S); exact (And.left hU)) | ((with_reducible apply v5Z); exact (And.left hU); first | exact Or.inl rfl | exact Or.inr rfl | assumption) | ((with_reducible apply v5C); exact (And.left hU)) | ((with_reducible apply v6A); exact (And.left hU); (first | with_reducible rfl | with_reducible exact ixo _ | with_reducible exact ixoc _ _ | with_reducible exact ixom _ _ _ | with_reducible exact ixop _ _ | with_reducible exact ixod _ _ | assumption); omega) | ((with_reducible apply v6W); exact (And.left hU); (first | with_reducible rfl | with_reducible exact ixo _ | with_reducible exact ixoc _ _ | with_reducible exact ixom _ _ _ | with_reducible exact ixop _ _ | with_reducible exact ixod _ _ | assumption); omega) | ((with_reducible apply vX1A); exact (And.left hU); (first | with_reducible rfl | with_reducible exact ixo _ | with_reducible exact ixoc _ _ | with_reducible exact ixom _ _ _ | with_reducible exact ixop _ _ | with_reducible exact ixod _ _ | assumption); omega))
          rcases (show st = 0 ∨ st = 1 by omega) with rfl | rfl
          · rw [if_pos rfl] at es
            refine v_bd (really1 hfu hU wa t hF hq ze (hn ze) R2') (fun _ h1 hq1 => v_rV ⟨hq1.1, _, _, es, W_re1, hq1.2.1, hq1.2.2.1, hq1.2.2.2⟩)
          · rw [if_neg (by omega)] at es
            refine v_bd (really2 hfu hU wa ws.2.2.2.2.2 t hF hq ze (hn ze) R2' (R3 rfl (Nat.le_refl _))) (fun _ h1 hq1 => v_rV ⟨hq1.1, _, _, es, W_re2, hq1.2.1, hq1.2.2.1, hq1.2.2.2⟩)
        · obtain ⟨o1, A', rl', e1, e2, e3, e4, e5⟩ := hq1
          exact fin A' rl' h1 e1 e2 (eL_mono (eL_eo (SL := lRd u) o1) (fun a k z => by unfold sRe at z; unfold sRd; omega) (fun a k z => z)) e3 e4 (fun _ => e5)
      · rw [if_neg z2] at es
        have s0 : st = 0 := by omega
        subst s0
        have hlt : tX A 0 tl < 6 := by
          rcases (show tl = 0 ∨ tl = 1 by omega) with z | z
          · rw [z]
            exact (ws.2.1 z).1 rfl
          · rw [z]
            exact (ws.2.2.1 z).1 rfl
        refine v_bd (nameC hfu hU (by omega) hlt wa t hF hq ze (hn ze) R1) (fun _ h1 hq1 => ?_)
        obtain ⟨o1, t1, f3⟩ := hq1
        exact fin _ _ h1 es W_nw (eL_mono o1 (fun a k z => by unfold sNm at z; unfold sRd; omega) (fun a k z => by unfold lNm at z; unfold lRd; omega)) t1 f3 (fun z => absurd z z2)
    · have hd : due tl st = 105 := by
        unfold due
        rw [e]
        rfl
      rw [e, hd]
      refine v_ie (by decide) (v_it rfl ?_)
      repeat (first | with_reducible apply v_lt | ((with_reducible apply y_TR); exact hU; rfl) | ((with_reducible apply y_UR); exact hU; rfl) | ((first | with_reducible apply y_0I | with_reducible apply y_9I | with_reducible apply y_0C | with_reducible apply y_9C | with_reducible apply y_0S | with_reducible apply y_9S); exact hU) | ((first | with_reducible apply y_TA | with_reducible apply y_TW | with_reducible apply y_TJ | with_reducible apply y_TK); exact hU; rfl; rfl; (first | with_reducible rfl | with_reducible exact ixo _ | with_reducible exact ixoc _ _ | with_reducible exact ixom _ _ _ | with_reducible exact ixop _ _ | with_reducible exact ixod _ _ | assumption); omega) | ((with_reducible apply v2R0); exact (And.left hU)) | ((with_reducible apply v2R1); exact (And.left hU)) | ((with_reducible apply v2I); exact (And.left hU)) | ((with_reducible apply v2S); exact (And.left hU)) | ((with_reducible apply v2Z); exact (And.left hU); first | exact Or.inl rfl | exact Or.inr rfl | assumption) | ((with_reducible apply v2C); exact (And.left hU)) | ((with_reducible apply v3R0); exact (And.left hU)) | ((with_reducible apply v3I); exact (And.left hU)) | ((with_reducible apply v3S); exact (And.left hU)) | ((with_reducible apply v3Z); exact (And.left hU); first | exact Or.inl rfl | exact Or.inr rfl | assumption) | ((with_reducible apply v3C); exact (And.left hU)) | ((with_reducible apply v3L); exact (And.left hU)) | ((with_reducible apply v3M); exact (And.left hU)) | ((with_reducible apply v4A); exact (And.left hU); (first | with_reducible rfl | with_reducible exact ixo _ | with_reducible exact ixoc _ _ | with_reducible exact ixom _ _ _ | with_reducible exact ixop _ _ | with_reducible exact ixod _ _ | assumption); omega) | ((with_reducible apply v4W); exact (And.left hU); (first | with_reducible rfl | with_reducible exact ixo _ | with_reducible exact ixoc _ _ | with_reducible exact ixom _ _ _ | with_reducible exact ixop _ _ | with_reducible exact ixod _ _ | assumption); omega) | ((with_reducible apply v5R8); exact (And.left hU)) | ((with_reducible apply v5I); exact (And.left hU)) | ((with_reducible apply v5S); exact (And.left hU)) | ((with_reducible apply v5Z); exact (And.left hU); first | exact Or.inl rfl | exact Or.inr rfl | assumption) | ((with_reducible apply v5C); exact (And.left hU)) | ((with_reducible apply v6A); exact (And.left hU); (first | with_reducible rfl | with_reducible exact ixo _ | with_reducible exact ixoc _ _ | with_reducible exact ixom _ _ _ | with_reducible exact ixop _ _ | with_reducible exact ixod _ _ | assumption); omega) | ((with_reducible apply v6W); exact (And.left hU); (first | with_reducible rfl | with_reducible exact ixo _ | with_reducible exact ixoc _ _ | with_reducible exact ixom _ _ _ | with_reducible exact ixop _ _ | with_reducible exact ixod _ _ | assumption); omega) | ((with_reducible apply vX1A); exact (And.left hU); (first | with_reducible rfl | with_reducible exact ixo _ | with_reducible exact ixoc _ _ | with_reducible exact ixom _ _ _ | with_reducible exact ixop _ _ | with_reducible exact ixod _ _ | assumption); omega))
      rw [e] at ze
      rw [if_neg (by omega), if_pos ze] at es
      rw [e, hd] at fin
      rw [hq.2.2.1 ze]
      have f3 := fm_23 e
      refine v_bd (numC (p := tkP q) hU wa (hv ze) ?_ t hF hq.1 R1 R2') (fun _ h1 hq1 => ?_)
      · rcases f3 with ⟨z, y⟩ | ⟨z, y⟩ | ⟨z, y⟩
        · exact Or.inl ⟨z, y, (ws.2.1 z).2.1 (by omega)⟩
        · exact Or.inr (Or.inl ⟨z, y, (ws.2.2.1 z).2.1 (by omega)⟩)
        · exact Or.inr (Or.inr ⟨by have := ws.1; omega, y⟩)
      · obtain ⟨o1, t1, f4⟩ := hq1
        refine fin _ _ h1 es W_num (eL_mono (eL_eo (SL := lRd u) o1) (fun a k z => by unfold sNu at z; unfold sRd; omega) (fun a k z => z)) t1 f4 (fun z => ?_)
        omega
    · have hd : due tl st = 59 := by
        unfold due
        rw [e]
        rfl
      rw [e, hd]
      refine v_ie (by decide) (v_ie (by decide) ?_)
      repeat (first | with_reducible apply v_lt | ((with_reducible apply y_TR); exact hU; rfl) | ((with_reducible apply y_UR); exact hU; rfl) | ((first | with_reducible apply y_0I | with_reducible apply y_9I | with_reducible apply y_0C | with_reducible apply y_9C | with_reducible apply y_0S | with_reducible apply y_9S); exact hU) | ((first | with_reducible apply y_TA | with_reducible apply y_TW | with_reducible apply y_TJ | with_reducible apply y_TK); exact hU; rfl; rfl; (first | with_reducible rfl | with_reducible exact ixo _ | with_reducible exact ixoc _ _ | with_reducible exact ixom _ _ _ | with_reducible exact ixop _ _ | with_reducible exact ixod _ _ | assumption); omega) | ((with_reducible apply v2R0); exact (And.left hU)) | ((with_reducible apply v2R1); exact (And.left hU)) | ((with_reducible apply v2I); exact (And.left hU)) | ((with_reducible apply v2S); exact (And.left hU)) | ((with_reducible apply v2Z); exact (And.left hU); first | exact Or.inl rfl | exact Or.inr rfl | assumption) | ((with_reducible apply v2C); exact (And.left hU)) | ((with_reducible apply v3R0); exact (And.left hU)) | ((with_reducible apply v3I); exact (And.left hU)) | ((with_reducible apply v3S); exact (And.left hU)) | ((with_reducible apply v3Z); exact (And.left hU); first | exact Or.inl rfl | exact Or.inr rfl | assumption) | ((with_reducible apply v3C); exact (And.left hU)) | ((with_reducible apply v3L); exact (And.left hU)) | ((with_reducible apply v3M); exact (And.left hU)) | ((with_reducible apply v4A); exact (And.left hU); (first | with_reducible rfl | with_reducible exact ixo _ | with_reducible exact ixoc _ _ | with_reducible exact ixom _ _ _ | with_reducible exact ixop _ _ | with_reducible exact ixod _ _ | assumption); omega) | ((with_reducible apply v4W); exact (And.left hU); (first | with_reducible rfl | with_reducible exact ixo _ | with_reducible exact ixoc _ _ | with_reducible exact ixom _ _ _ | with_reducible exact ixop _ _ | with_reducible exact ixod _ _ | assumption); omega) | ((with_reducible apply v5R8); exact (And.left hU)) | ((with_reducible apply v5I); exact (And.left hU)) | ((with_reducible apply v5S); exact (And.left hU)) | ((with_reducible apply v5Z); exact (And.left hU); first | exact Or.inl rfl | exact Or.inr rfl | assumption) | ((with_reducible apply v5C); exact (And.left hU)) | ((with_reducible apply v6A); exact (And.left hU); (first | with_reducible rfl | with_reducible exact ixo _ | with_reducible exact ixoc _ _ | with_reducible exact ixom _ _ _ | with_reducible exact ixop _ _ | with_reducible exact ixod _ _ | assumption); omega) | ((with_reducible apply v6W); exact (And.left hU); (first | with_reducible rfl | with_reducible exact ixo _ | with_reducible exact ixoc _ _ | with_reducible exact ixom _ _ _ | with_reducible exact ixop _ _ | with_reducible exact ixod _ _ | assumption); omega) | ((with_reducible apply vX1A); exact (And.left hU); (first | with_reducible rfl | with_reducible exact ixo _ | with_reducible exact ixoc _ _ | with_reducible exact ixom _ _ _ | with_reducible exact ixop _ _ | with_reducible exact ixod _ _ | assumption); omega))
      rw [e] at ze
      rw [if_pos ze] at es
      obtain ⟨p1, p2, p3⟩ := fm_59 e
      unfold fX5_takeInForm_113
      repeat (first | with_reducible apply v_lt | ((with_reducible apply y_TR); exact hU; rfl) | ((with_reducible apply y_UR); exact hU; rfl) | ((first | with_reducible apply y_0I | with_reducible apply y_9I | with_reducible apply y_0C | with_reducible apply y_9C | with_reducible apply y_0S | with_reducible apply y_9S); exact hU) | ((first | with_reducible apply y_TA | with_reducible apply y_TW | with_reducible apply y_TJ | with_reducible apply y_TK); exact hU; rfl; rfl; (first | with_reducible rfl | with_reducible exact ixo _ | with_reducible exact ixoc _ _ | with_reducible exact ixom _ _ _ | with_reducible exact ixop _ _ | with_reducible exact ixod _ _ | assumption); omega) | ((with_reducible apply v2R0); exact (And.left hU)) | ((with_reducible apply v2R1); exact (And.left hU)) | ((with_reducible apply v2I); exact (And.left hU)) | ((with_reducible apply v2S); exact (And.left hU)) | ((with_reducible apply v2Z); exact (And.left hU); first | exact Or.inl rfl | exact Or.inr rfl | assumption) | ((with_reducible apply v2C); exact (And.left hU)) | ((with_reducible apply v3R0); exact (And.left hU)) | ((with_reducible apply v3I); exact (And.left hU)) | ((with_reducible apply v3S); exact (And.left hU)) | ((with_reducible apply v3Z); exact (And.left hU); first | exact Or.inl rfl | exact Or.inr rfl | assumption) | ((with_reducible apply v3C); exact (And.left hU)) | ((with_reducible apply v3L); exact (And.left hU)) | ((with_reducible apply v3M); exact (And.left hU)) | ((with_reducible apply v4A); exact (And.left hU); (first | with_reducible rfl | with_reducible exact ixo _ | with_reducible exact ixoc _ _ | with_reducible exact ixom _ _ _ | with_reducible exact ixop _ _ | with_reducible exact ixod _ _ | assumption); omega) | ((with_reducible apply v4W); exact (And.left hU); (first | with_reducible rfl | with_reducible exact ixo _ | with_reducible exact ixoc _ _ | with_reducible exact ixom _ _ _ | with_reducible exact ixop _ _ | with_reducible exact ixod _ _ | assumption); omega) | ((with_reducible apply v5R8); exact (And.left hU)) | ((with_reducible apply v5I); exact (And.left hU)) | ((with_reducible apply v5S); exact (And.left hU)) | ((with_reducible apply v5Z); exact (And.left hU); first | exact Or.inl rfl | exact Or.inr rfl | assumption) | ((with_reducible apply v5C); exact (And.left hU)) | ((with_reducible apply v6A); exact (And.left hU); (first | with_reducible rfl | with_reducible exact ixo _ | with_reducible exact ixoc _ _ | with_reducible exact ixom _ _ _ | with_reducible exact ixop _ _ | with_reducible exact ixod _ _ | assumption); omega) | ((with_reducible apply v6W); exact (And.left hU); (first | with_reducible rfl | with_reducible exact ixo _ | with_reducible exact ixoc _ _ | with_reducible exact ixom _ _ _ | with_reducible exact ixop _ _ | with_reducible exact ixod _ _ | assumption); omega) | ((with_reducible apply vX1A); exact (And.left hU); (first | with_reducible rfl | with_reducible exact ixo _ | with_reducible exact ixoc _ _ | with_reducible exact ixom _ _ _ | with_reducible exact ixop _ _ | with_reducible exact ixod _ _ | assumption); omega))
      rw [gI_ne (by omega), R2', nI_1]
      have o2 : eo (fun a k => a = 2 ∧ (k = 2 ∨ k = 3)) h (uI (uI h 2 2 (-1)) 2 3 (nI (st + 1))) := eo_uI (eo_uI eo_rf ⟨rfl, Or.inl rfl⟩) ⟨rfl, Or.inr rfl⟩
      refine v_rI ⟨eL_mono (eL_eo (SL := lRd u) o2) (fun a k z => by unfold sRd; omega) (fun a k z => z), fun k => o2.2 _ _ (fun z => by omega), ?_, ?_⟩
      · rw [es]
        rfl
      · rw [es]
        refine fun _ => ⟨tcC_bd (tcC_eo o2 (fun a k z => by omega) t) ⟨fun z => Or.inr (p1 z), fun z => Or.inr (by have := p2 z; omega)⟩, ⟨cz, lwC_up rfl h37 (by show ¬ (3 ≤ 10 ∧ 10 < 7); omega) (lwC_eL (eL_eo (SL := fun _ _ => False) o2) (fun a k z => by omega) h37 lw)⟩, flC_eL (SL := fun _ _ => False) (eL_eo o2) (fun a k z => by omega) hF, ?_, ?_, ?_⟩
        · rw [gI_ne (by omega), gI_eq]
          rfl
        · exact fun z => absurd rfl z
        · exact fun z => by
            have z : 10 = 2 := z
            omega
  · rw [if_pos ze] at es
    refine v_ie (fun z => ze (ceq.mp z)) (v_rI ⟨eL_rf, fun _ => rfl, ?_, ?_⟩)
    · rw [es]
      rfl
    · rw [es]
      exact fun y => absurd y Nat.one_ne_zero
theorem takeR {fu u i : Nat} {M : MZ} {q : Tk} {h : mh} (hfu : 1000 ≤ fu) (hU : LU u h.2) (hi : i ≤ 400) (w : wM M) (r : relC u M i h) (hq : tkC h q) (hk : tkK q < 100) (hv : tkK q = 23 → tkV q < 10000) (hn : tkK q = 22 → okn (tkN q)) : ok (fX5_take fu 2 u h) (takn u M q i h) := by
  obtain ⟨A, tl, st, rl, lz⟩ := M
  by_cases h37 : 3 ≤ tl ∧ tl < 7
  · exact lawR hfu hU hi h37.1 h37.2 w r hq hk hv
  · have hz : lz = none := by
      obtain ⟨-, ⟨cz, lw⟩, -, -⟩ := r
      cases lz with
      | none => rfl
      | some L => exact absurd lw.2.1 h37
    subst hz
    by_cases h10 : tl = 10
    · subst h10
      have R1 := r.2.2.2.1
      unfold fX5_take
      repeat (first | with_reducible apply v_lt | ((with_reducible apply y_TR); exact hU; rfl) | ((with_reducible apply y_UR); exact hU; rfl) | ((first | with_reducible apply y_0I | with_reducible apply y_9I | with_reducible apply y_0C | with_reducible apply y_9C | with_reducible apply y_0S | with_reducible apply y_9S); exact hU) | ((first | with_reducible apply y_TA | with_reducible apply y_TW | with_reducible apply y_TJ | with_reducible apply y_TK); exact hU; rfl; rfl; (first | with_reducible rfl | with_reducible exact ixo _ | with_reducible exact ixoc _ _ | with_reducible exact ixom _ _ _ | with_reducible exact ixop _ _ | with_reducible exact ixod _ _ | assumption); omega) | ((with_reducible apply v2R0); exact (And.left hU)) | ((with_reducible apply v2R1); exact (And.left hU)) | ((with_reducible apply v2I); exact (And.left hU)) | ((with_reducible apply v2S); exact (And.left hU)) | ((with_reducible apply v2Z); exact (And.left hU); first | exact Or.inl rfl | exact Or.inr rfl | assumption) | ((with_reducible apply v2C); exact (And.left hU)) | ((with_reducible apply v3R0); exact (And.left hU)) | ((with_reducible apply v3I); exact (And.left hU)) | ((with_reducible apply v3S); exact (And.left hU)) | ((with_reducible apply v3Z); exact (And.left hU); first | exact Or.inl rfl | exact Or.inr rfl | assumption) | ((with_reducible apply v3C); exact (And.left hU)) | ((with_reducible apply v3L); exact (And.left hU)) | ((with_reducible apply v3M); exact (And.left hU)) | ((with_reducible apply v4A); exact (And.left hU); (first | with_reducible rfl | with_reducible exact ixo _ | with_reducible exact ixoc _ _ | with_reducible exact ixom _ _ _ | with_reducible exact ixop _ _ | with_reducible exact ixod _ _ | assumption); omega) | ((with_reducible apply v4W); exact (And.left hU); (first | with_reducible rfl | with_reducible exact ixo _ | with_reducible exact ixoc _ _ | with_reducible exact ixom _ _ _ | with_reducible exact ixop _ _ | with_reducible exact ixod _ _ | assumption); omega) | ((with_reducible apply v5R8); exact (And.left hU)) | ((with_reducible apply v5I); exact (And.left hU)) | ((with_reducible apply v5S); exact (And.left hU)) | ((with_reducible apply v5Z); exact (And.left hU); first | exact Or.inl rfl | exact Or.inr rfl | assumption) | ((with_reducible apply v5C); exact (And.left hU)) | ((with_reducible apply v6A); exact (And.left hU); (first | with_reducible rfl | with_reducible exact ixo _ | with_reducible exact ixoc _ _ | with_reducible exact ixom _ _ _ | with_reducible exact ixop _ _ | with_reducible exact ixod _ _ | assumption); omega) | ((with_reducible apply v6W); exact (And.left hU); (first | with_reducible rfl | with_reducible exact ixo _ | with_reducible exact ixoc _ _ | with_reducible exact ixom _ _ _ | with_reducible exact ixop _ _ | with_reducible exact ixod _ _ | assumption); omega) | ((with_reducible apply vX1A); exact (And.left hU); (first | with_reducible rfl | with_reducible exact ixo _ | with_reducible exact ixoc _ _ | with_reducible exact ixom _ _ _ | with_reducible exact ixop _ _ | with_reducible exact ixod _ _ | assumption); omega))
      rw [R1]
      refine v_it rfl ?_
      repeat (first | with_reducible apply v_lt | ((with_reducible apply y_TR); exact hU; rfl) | ((with_reducible apply y_UR); exact hU; rfl) | ((first | with_reducible apply y_0I | with_reducible apply y_9I | with_reducible apply y_0C | with_reducible apply y_9C | with_reducible apply y_0S | with_reducible apply y_9S); exact hU) | ((first | with_reducible apply y_TA | with_reducible apply y_TW | with_reducible apply y_TJ | with_reducible apply y_TK); exact hU; rfl; rfl; (first | with_reducible rfl | with_reducible exact ixo _ | with_reducible exact ixoc _ _ | with_reducible exact ixom _ _ _ | with_reducible exact ixop _ _ | with_reducible exact ixod _ _ | assumption); omega) | ((with_reducible apply v2R0); exact (And.left hU)) | ((with_reducible apply v2R1); exact (And.left hU)) | ((with_reducible apply v2I); exact (And.left hU)) | ((with_reducible apply v2S); exact (And.left hU)) | ((with_reducible apply v2Z); exact (And.left hU); first | exact Or.inl rfl | exact Or.inr rfl | assumption) | ((with_reducible apply v2C); exact (And.left hU)) | ((with_reducible apply v3R0); exact (And.left hU)) | ((with_reducible apply v3I); exact (And.left hU)) | ((with_reducible apply v3S); exact (And.left hU)) | ((with_reducible apply v3Z); exact (And.left hU); first | exact Or.inl rfl | exact Or.inr rfl | assumption) | ((with_reducible apply v3C); exact (And.left hU)) | ((with_reducible apply v3L); exact (And.left hU)) | ((with_reducible apply v3M); exact (And.left hU)) | ((with_reducible apply v4A); exact (And.left hU); (first | with_reducible rfl | with_reducible exact ixo _ | with_reducible exact ixoc _ _ | with_reducible exact ixom _ _ _ | with_reducible exact ixop _ _ | with_reducible exact ixod _ _ | assumption); omega) | ((with_reducible apply v4W); exact (And.left hU); (first | with_reducible rfl | with_reducible exact ixo _ | with_reducible exact ixoc _ _ | with_reducible exact ixom _ _ _ | with_reducible exact ixop _ _ | with_reducible exact ixod _ _ | assumption); omega) | ((with_reducible apply v5R8); exact (And.left hU)) | ((with_reducible apply v5I); exact (And.left hU)) | ((with_reducible apply v5S); exact (And.left hU)) | ((with_reducible apply v5Z); exact (And.left hU); first | exact Or.inl rfl | exact Or.inr rfl | assumption) | ((with_reducible apply v5C); exact (And.left hU)) | ((with_reducible apply v6A); exact (And.left hU); (first | with_reducible rfl | with_reducible exact ixo _ | with_reducible exact ixoc _ _ | with_reducible exact ixom _ _ _ | with_reducible exact ixop _ _ | with_reducible exact ixod _ _ | assumption); omega) | ((with_reducible apply v6W); exact (And.left hU); (first | with_reducible rfl | with_reducible exact ixo _ | with_reducible exact ixoc _ _ | with_reducible exact ixom _ _ _ | with_reducible exact ixop _ _ | with_reducible exact ixod _ _ | assumption); omega) | ((with_reducible apply vX1A); exact (And.left hU); (first | with_reducible rfl | with_reducible exact ixo _ | with_reducible exact ixoc _ _ | with_reducible exact ixom _ _ _ | with_reducible exact ixop _ _ | with_reducible exact ixod _ _ | assumption); omega))
      exact v_bd (openR hU w.1 r hq hk) (fun x h1 q => v_rI q)
    · exact formR hfu hU h10 h37 w r hq hk hv hn
