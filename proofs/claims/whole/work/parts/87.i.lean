/-! WHAT HOLDS OF A TEXT SO FAR GOES ON HOLDING -/
theorem X_sX {B : RT} {a j v : Nat} : tX (sX B a j v) = up2 (tX B) a j v := rfl
/-- what holds goes on holding -/
theorem wM_stp {M M' : MZ} {q : Tk} (w : wM M) (hz : ¬ (3 ≤ M.2.1 ∧ M.2.1 < 7) → M.2.2.2.2 = none) (hv : tkK q = 23 → tkV q < 10000) (hn : tkK q = 22 → okn (tkN q)) (e : stp M q = (0, M')) : wM M' := by
  obtain ⟨A, tl, st, rl, lz⟩ := M
  obtain ⟨wa, ws, wl⟩ := w
  dsimp only at wa ws wl hz
  have bdM : ∀ B : RT, wA B → wM (bd9 B) := fun B wB => ⟨wB, ⟨by show 10 ≤ 10; omega, (fun z => by have z : 10 = 0 := z; omega), (fun z => by have z : 10 = 1 := z; omega), (fun z => by have z : 10 = 2 := z; omega), (fun _ z => by have z : 10 < 10 := z; omega), fun o z => by cases z⟩, fun L z => by cases z⟩
  by_cases h10 : tl = 10
  · subst h10
    rw [stp_o] at e
    by_cases z : 9 < tkK q
    · rw [if_pos z] at e
      exact absurd (Prod.mk.inj e).1 Nat.one_ne_zero
    · rw [if_neg z] at e
      cases hf : fulB A (tkK q) with
      | true =>
        rw [hf, if_pos rfl] at e
        exact absurd (Prod.mk.inj e).1 (by decide)
      | false =>
        rw [hf, if_neg (by decide)] at e
        cases e
        obtain ⟨w1, w2, w3⟩ := wa.1
        refine ⟨wa, ⟨by show tkK q ≤ 10; omega, fun y => ⟨fun _ => ?_, (fun y => by have y : 1 ≤ 0 := y; omega), Nat.zero_le _⟩, fun y => ⟨fun _ => ?_, (fun y => by have y : 1 ≤ 0 := y; omega), Nat.zero_le _⟩, fun y => ⟨fun _ => ?_, Nat.zero_le _⟩, fun _ _ => Nat.zero_le _, fun o y => by cases y⟩, fun L y => by cases y⟩
        · have y : tkK q = 0 := y
          show tX A 0 0 < 6
          have : ¬ tX A 0 0 = 6 := fun s => by
            unfold fulB at hf
            rw [y, s] at hf
            simp at hf
          omega
        · have y : tkK q = 1 := y
          show tX A 0 1 < 6
          have : ¬ tX A 0 1 = 6 := fun s => by
            unfold fulB at hf
            rw [y, s] at hf
            simp at hf
          omega
        · have y : tkK q = 2 := y
          show tX A 0 2 < 6
          have : ¬ tX A 0 2 = 6 := fun s => by
            unfold fulB at hf
            rw [y, s] at hf
            simp at hf
          omega
  · by_cases h37 : 3 ≤ tl ∧ tl < 7
    · cases lz with
      | none =>
        rw [stp_w0 h37.1 h37.2] at e
        by_cases z : tkK q = 61
        · rw [if_pos z] at e
          cases e
          exact ⟨wa, ws, fun L y => by cases y; exact wfL0⟩
        · rw [if_neg z] at e
          exact absurd (Prod.mk.inj e).1 Nat.one_ne_zero
      | some L =>
        rw [stp_w h37.1 h37.2] at e
        obtain ⟨s, hs⟩ : ∃ s, s = lst L q := ⟨_, rfl⟩
        rw [← hs] at e
        obtain ⟨c, ov, L'⟩ := s
        dsimp only at e
        have c0 := (Prod.mk.inj e).1
        subst c0
        have e := (Prod.mk.inj e).2
        obtain ⟨v1, v2, v3⟩ := lst_wf (wl L rfl) hv hs.symm
        cases ov with
        | true =>
          rw [if_pos rfl] at e
          rw [← e]
          exact bdM _ wa
        | false =>
          rw [if_neg (by decide)] at e
          rw [← e]
          exact ⟨wa, ws, fun L1 y => by cases y; exact v1 rfl⟩
    · have hz := hz h37
      subst hz
      rw [stp_f h10 h37] at e
      by_cases z : tkK q ≠ fm tl st
      · rw [if_pos z] at e
        exact absurd (Prod.mk.inj e).1 Nat.one_ne_zero
      rw [if_neg z] at e
      have z : tkK q = fm tl st := Decidable.not_not.mp z
      by_cases z59 : tkK q = 59
      · rw [if_pos z59] at e
        cases e
        exact bdM _ wa
      rw [if_neg z59] at e
      by_cases z23 : tkK q = 23
      · rw [if_pos z23] at e
        cases e
        have f3 := fm_23 (tl := tl) (st := st) (by omega)
        have eX : ∀ j, j < 3 → tX (num A tl st (tkV q) (tkP q)) 0 j = tX A 0 j := fun j hj => by
          unfold num
          show up2 (tX (if tkV q < lo9 tl ∨ hi9 tl st < tkV q then nt A 5 (tkP q) else A)) (fa9 tl st) (fj9 A tl) (tkV q) 0 j = _
          rw [up_ne (fun y => ?_)]
          · split
            · rw [nt_X]
            · rfl
          · unfold fa9 fj9 at y
            rcases f3 with ⟨y1, y2⟩ | ⟨y1, y2⟩ | ⟨y1, y2⟩
            · rw [if_pos y1] at y
              omega
            · rw [if_neg (by omega), if_pos y1] at y
              omega
            · rw [if_neg (show ¬ tl = 0 by omega), if_neg (show ¬ tl = 1 by omega), if_neg (show ¬ tl = 0 by omega), if_neg (show ¬ tl = 1 by omega)] at y
              omega
        have ws1 := ws.1
        refine ⟨wA_num wa ws (by omega) (by omega) (hv z23), ⟨ws.1, fun y => ?_, fun y => ?_, fun y => ?_, fun y1 y2 => ?_, fun o y => ?_⟩, fun L y => by cases y⟩
        · rw [eX 0 (by omega)]
          exact ⟨fun y => absurd y (Nat.succ_ne_zero _), fun _ => (ws.2.1 y).2.1 (by have y : tl = 0 := y; omega), by have y : tl = 0 := y; show st + 1 ≤ 3; omega⟩
        · rw [eX 1 (by omega)]
          exact ⟨fun y => absurd y (Nat.succ_ne_zero _), fun _ => (ws.2.2.1 y).2.1 (by have y : tl = 1 := y; omega), by have y : tl = 1 := y; show st + 1 ≤ 4; omega⟩
        · have y : tl = 2 := y
          omega
        · have y1 : 7 ≤ tl := y1
          show st + 1 ≤ 1
          omega
        · rw [eX 1 (by omega)]
          exact ws.2.2.2.2.2 o y
      rw [if_neg z23] at e
      have k22 : tkK q = 22 := by
        rcases fm_c (tl := tl) (st := st) with y | y | y <;> omega
      obtain ⟨f1, f2⟩ := fm_22 (tl := tl) (st := st) (by omega)
      by_cases z2 : tl = 2
      · subst z2
        rw [if_pos rfl] at e
        by_cases s0 : st = 0
        · subst s0
          rw [if_pos rfl] at e
          cases e
          refine ⟨?_, ⟨by show 2 ≤ 10; omega, (fun z => by have z : 2 = 0 := z; omega), (fun z => by have z : 2 = 1 := z; omega), fun _ => ⟨fun _ => ?_, by show 0 + 1 ≤ 2; omega⟩, (fun y => by have y : 7 ≤ 2 := y; omega), fun o y => ?_⟩, fun L y => by cases y⟩
          · show wA (re1 A (tkN q) (tkP q))
            unfold re1
            split
            · exact wA_nt wa (by omega) (by omega)
            · exact wa
          · show tX (re1 A (tkN q) (tkP q)) 0 2 < 6
            rw [X_re1]
            exact (ws.2.2.2.1 rfl).1 (by omega)
          · show o < tX (re1 A (tkN q) (tkP q)) 0 1
            rw [X_re1]
            exact lsN_lt y
        · rw [if_neg s0] at e
          cases e
          have h6 := (ws.2.2.2.1 rfl).1 (by omega)
          refine ⟨wA_re2 wa h6, ⟨by show 2 ≤ 10; omega, (fun z => by have z : 2 = 0 := z; omega), (fun z => by have z : 2 = 1 := z; omega), fun _ => ⟨(fun y => by have y : st + 1 ≤ 1 := y; omega), by show st + 1 ≤ 2; omega⟩, (fun y => by have y : 7 ≤ 2 := y; omega), fun o y => ?_⟩, fun L y => by cases y⟩
          show o < tX (re2 A rl (tkN q) (tkP q)) 0 1
          have : tX (re2 A rl (tkN q) (tkP q)) 0 1 = tX A 0 1 := by
            unfold re2
            split
            · rw [X_sX, up_ne (by omega), nt_X]
            · rw [X_sX, up_ne (by omega)]
            · rw [X_sX, up_ne (by omega), X_sX, up_ne (by omega)]
              split
              · rw [nt_X]
              · rfl
          rw [this]
          exact ws.2.2.2.2.2 o y
      · rw [if_neg z2] at e
        cases e
        have s0 : st = 0 := by omega
        subst s0
        have hlt : tX A 0 tl < 6 := by
          rcases (show tl = 0 ∨ tl = 1 by omega) with z | z
          · rw [z]
            exact (ws.2.1 z).1 rfl
          · rw [z]
            exact (ws.2.2.1 z).1 rfl
        have eX : ∀ a j, tX (nw9 A tl (tkN q) (tkP q)) a j = up2 (tX A) 0 tl (tX A 0 tl + 1) a j := fun a j => by
          unfold nw9
          show up2 (tX (if rN9 A (tkN q) = none ∧ lN9 A (tkN q) = none then A else nt A 3 (tkP q))) 0 tl (tX A 0 tl + 1) a j = _
          split
          · rfl
          · rw [nt_X]
        refine ⟨wA_nw wa (by omega) hlt (hn k22), ⟨ws.1, fun y => ?_, fun y => ?_, (fun y => absurd y z2), (fun y => by have y : 7 ≤ tl := y; omega), fun o y => ?_⟩, fun L y => by cases y⟩
        · have y : tl = 0 := y
          subst y
          show (0 + 1 = 0 → _) ∧ (1 ≤ 0 + 1 → 1 ≤ tX (nw9 A 0 (tkN q) (tkP q)) 0 0) ∧ 0 + 1 ≤ 3
          rw [eX, up_eq]
          exact ⟨by omega, by omega, by omega⟩
        · have y : tl = 1 := y
          subst y
          show (0 + 1 = 0 → _) ∧ (1 ≤ 0 + 1 → 1 ≤ tX (nw9 A 1 (tkN q) (tkP q)) 0 1) ∧ 0 + 1 ≤ 4
          rw [eX, up_eq]
          exact ⟨by omega, by omega, by omega⟩
        · have y := ws.2.2.2.2.2 o y
          show o < tX (nw9 A tl (tkN q) (tkP q)) 0 1
          rw [eX]
          unfold up2
          split
          · next s => rw [← s.2]; omega
          · exact y
