/-! WHAT HOLDS OF A TEXT SO FAR -/
def okn (l : List Nat) : Prop := okl l ∧ l.length ≤ 8
def rng (X : Nat → Nat → Nat) : Prop := (∀ r, X 1 r < 256 ∧ X 2 r < 10 ∧ X 3 r < 256 ∧ X 4 r < 256 ∧ X 5 r ≤ 99) ∧ X 0 3 ≤ 100 ∧ 1 ≤ X 0 4 ∧ X 0 4 ≤ 99 ∧ X 0 5 ≤ 9999
def wA (A : RT) : Prop := (tX A 0 0 ≤ 6 ∧ tX A 0 1 ≤ 6 ∧ tX A 0 2 ≤ 6) ∧ ((∀ r, r < tX A 0 0 → okn (tN A 0 r)) ∧ (∀ l, l < tX A 0 1 → okn (tN A 1 l))) ∧ (∀ l, tX A 6 l < 64) ∧ (∀ l, tX A 0 1 ≤ l → tX A 3 l = 0 ∧ tX A 5 l = 0) ∧ ((tF A).1 = 0 → rng (tX A)) ∧ (tF A).1 ≤ 5
def wS (A : RT) (tl st : Nat) (rl : Option Nat) : Prop := tl ≤ 10 ∧ (tl = 0 → (st = 0 → tX A 0 0 < 6) ∧ (1 ≤ st → 1 ≤ tX A 0 0) ∧ st ≤ 3) ∧ (tl = 1 → (st = 0 → tX A 0 1 < 6) ∧ (1 ≤ st → 1 ≤ tX A 0 1) ∧ st ≤ 4) ∧ (tl = 2 → (st ≤ 1 → tX A 0 2 < 6) ∧ st ≤ 2) ∧ (7 ≤ tl → tl < 10 → st ≤ 1) ∧ (∀ o, rl = some o → o < tX A 0 1)
def wM (M : MZ) : Prop := wA M.1 ∧ wS M.1 M.2.1 M.2.2.1 M.2.2.2.1 ∧ ∀ L, M.2.2.2.2 = some L → wfL L
def A0 : RT := ((fun a j => if a = 0 ∧ j = 4 then 3 else 0), (fun _ _ => []), (fun _ => none), (0, 0))
theorem wA0 : wA A0 := ⟨⟨Nat.zero_le _, Nat.zero_le _, Nat.zero_le _⟩, ⟨fun r hr => absurd hr (Nat.not_lt_zero r), fun r hr => absurd hr (Nat.not_lt_zero r)⟩, fun l => (by show (if 6 = 0 ∧ l = 4 then 3 else 0) < 64; rw [if_neg (by omega)]; omega), fun l _ => (by show (if 3 = 0 ∧ l = 4 then 3 else 0) = 0 ∧ (if 5 = 0 ∧ l = 4 then 3 else 0) = 0; rw [if_neg (by omega), if_neg (by omega)]; exact ⟨rfl, rfl⟩), fun _ => ⟨fun r => (by
    show (if 1 = 0 ∧ r = 4 then 3 else 0) < 256 ∧ (if 2 = 0 ∧ r = 4 then 3 else 0) < 10 ∧ (if 3 = 0 ∧ r = 4 then 3 else 0) < 256 ∧ (if 4 = 0 ∧ r = 4 then 3 else 0) < 256 ∧ (if 5 = 0 ∧ r = 4 then 3 else 0) ≤ 99
    rw [if_neg (by omega), if_neg (by omega), if_neg (by omega), if_neg (by omega), if_neg (by omega)]
    omega), by decide, by decide, by decide, by decide⟩, by decide⟩
theorem wM0 : wM (bd9 A0) := ⟨wA0, ⟨by decide, (fun z => absurd z (by decide)), (fun z => absurd z (by decide)), (fun z => absurd z (by decide)), (fun _ z => absurd z (by decide)), fun o z => by cases z⟩, fun L z => by cases z⟩
theorem wA_nt {A : RT} {c p : Nat} (w : wA A) (h1 : 1 ≤ c) (h2 : c ≤ 5) : wA (nt A c p) := by
  obtain ⟨w1, w2, w3, w4, w5, w6⟩ := w
  refine ⟨by rw [nt_X]; exact w1, by rw [nt_X, nt_N]; exact w2, by rw [nt_X]; exact w3, by rw [nt_X]; exact w4, ?_, ?_⟩
  · rw [nt_F, nt_X]
    split
    · exact fun z => absurd z (by show ¬ c = 0; omega)
    · exact w5
  · rw [nt_F]
    split
    · exact h2
    · exact w6
def oknum (a j v : Nat) : Prop := (a = 1 → v < 256) ∧ (a = 2 → v < 10) ∧ (a = 3 → v < 256) ∧ (a = 4 → v < 256) ∧ (a = 5 → v ≤ 99) ∧ (a = 0 → (j = 3 → v ≤ 100) ∧ (j = 4 → 1 ≤ v ∧ v ≤ 99) ∧ (j = 5 → v ≤ 9999))
theorem rng_up {X : Nat → Nat → Nat} {a j v : Nat} (r : rng X) (h : oknum a j v) : rng (up2 X a j v) := by
  obtain ⟨r1, r2, r3, r4, r5⟩ := r
  obtain ⟨h1, h2, h3, h4, h5, h6⟩ := h
  have g : ∀ (P : Nat → Prop) b i, P (X b i) → (b = a → i = j → P v) → P (up2 X a j v b i) := fun P b i p1 p2 => by
    unfold up2
    split
    · next z => exact p2 z.1 z.2
    · exact p1
  refine ⟨fun i => ⟨g (fun x => x < 256) 1 i (r1 i).1 (fun e _ => h1 e.symm), g (fun x => x < 10) 2 i (r1 i).2.1 (fun e _ => h2 e.symm), g (fun x => x < 256) 3 i (r1 i).2.2.1 (fun e _ => h3 e.symm), g (fun x => x < 256) 4 i (r1 i).2.2.2.1 (fun e _ => h4 e.symm), g (fun x => x ≤ 99) 5 i (r1 i).2.2.2.2 (fun e _ => h5 e.symm)⟩, g (fun x => x ≤ 100) 0 3 r2 (fun e e2 => (h6 e.symm).1 e2.symm), g (fun x => 1 ≤ x) 0 4 r3 (fun e e2 => ((h6 e.symm).2.1 e2.symm).1), g (fun x => x ≤ 99) 0 4 r4 (fun e e2 => ((h6 e.symm).2.1 e2.symm).2), g (fun x => x ≤ 9999) 0 5 r5 (fun e e2 => (h6 e.symm).2.2 e2.symm)⟩
/-- a number that is no counter -/
theorem wA_sX {A : RT} {a j v : Nat} (w : wA A) (h0 : a = 0 → 3 ≤ j) (h3 : a = 3 ∨ a = 5 → j < tX A 0 1) (h6 : a = 6 → v < 64) (h : (tF A).1 = 0 → oknum a j v) : wA (sX A a j v) := by
  obtain ⟨⟨w1, w1', w1''⟩, ⟨w2, w2'⟩, w3, w4, w5, w6⟩ := w
  have c0 : tX (sX A a j v) 0 0 = tX A 0 0 := up_ne (fun z => by have := h0 z.1.symm; omega)
  have c1 : tX (sX A a j v) 0 1 = tX A 0 1 := up_ne (fun z => by have := h0 z.1.symm; omega)
  have c2 : tX (sX A a j v) 0 2 = tX A 0 2 := up_ne (fun z => by have := h0 z.1.symm; omega)
  unfold wA
  rw [c0, c1, c2]
  refine ⟨⟨w1, w1', w1''⟩, ⟨w2, w2'⟩, fun l => ?_, fun l hl => ?_, fun z => rng_up (w5 z) (h z), w6⟩
  · show up2 (tX A) a j v 6 l < 64
    unfold up2
    split
    · next z => exact h6 z.1.symm
    · exact w3 l
  · show up2 (tX A) a j v 3 l = 0 ∧ up2 (tX A) a j v 5 l = 0
    rw [up_ne (fun z => by have := h3 (Or.inl z.1.symm); omega), up_ne (fun z => by have := h3 (Or.inr z.1.symm); omega)]
    exact w4 l hl
theorem hi_ok {A : RT} {tl st v : Nat} (h : fm tl st = 23) (h1 : ¬ (v < lo9 tl ∨ hi9 tl st < v)) (h2 : tl < 3 ∨ (7 ≤ tl ∧ tl < 10)) (hv : v < 10000) : oknum (fa9 tl st) (fj9 A tl) v := by
  unfold fm at h
  unfold lo9 hi9 at h1
  unfold fa9 fj9 oknum
  rcases (show tl = 0 ∨ tl = 1 ∨ tl = 2 ∨ tl = 7 ∨ tl = 8 ∨ tl = 9 by omega) with rfl | rfl | rfl | rfl | rfl | rfl
  · rw [if_pos rfl] at h h1 ⊢
    have hs : st = 1 ∨ st = 2 := by
      by_cases z0 : st = 0
      · rw [if_pos z0] at h
        omega
      · rw [if_neg z0] at h
        by_cases z2 : st ≤ 2
        · omega
        · rw [if_neg z2] at h
          omega
    rcases hs with rfl | rfl
    · have h1 : ¬ (v < 0 ∨ 255 < v) := h1
      omega
    · have h1 : ¬ (v < 0 ∨ 9 < v) := h1
      omega
  · have h : (if st = 0 then 22 else if st ≤ 3 then 23 else 59) = 23 := h
    have h1 : ¬ (v < 0 ∨ (if st < 3 then 255 else 99) < v) := h1
    show (st + 2 = 1 → v < 256) ∧ (st + 2 = 2 → v < 10) ∧ (st + 2 = 3 → v < 256) ∧ (st + 2 = 4 → v < 256) ∧ (st + 2 = 5 → v ≤ 99) ∧ (st + 2 = 0 → _)
    have hs : st = 1 ∨ st = 2 ∨ st = 3 := by
      by_cases z0 : st = 0
      · rw [if_pos z0] at h
        omega
      · rw [if_neg z0] at h
        by_cases z2 : st ≤ 3
        · omega
        · rw [if_neg z2] at h
          omega
    rcases hs with rfl | rfl | rfl
    · have h1 : ¬ (v < 0 ∨ 255 < v) := h1
      exact ⟨by omega, by omega, by omega, by omega, by omega, fun z => by omega⟩
    · have h1 : ¬ (v < 0 ∨ 255 < v) := h1
      exact ⟨by omega, by omega, by omega, by omega, by omega, fun z => by omega⟩
    · have h1 : ¬ (v < 0 ∨ 99 < v) := h1
      exact ⟨by omega, by omega, by omega, by omega, by omega, fun z => by omega⟩
  · have h : (if st ≤ 1 then 22 else 59) = 23 := h
    split at h <;> omega
  · have h1 : ¬ (v < 0 ∨ 100 < v) := h1
    show (0 = 1 → _) ∧ (0 = 2 → _) ∧ (0 = 3 → _) ∧ (0 = 4 → _) ∧ (0 = 5 → _) ∧ (0 = 0 → (3 = 3 → v ≤ 100) ∧ (3 = 4 → 1 ≤ v ∧ v ≤ 99) ∧ (3 = 5 → v ≤ 9999))
    exact ⟨by omega, by omega, by omega, by omega, by omega, fun _ => ⟨by omega, by omega, by omega⟩⟩
  · have h1 : ¬ (v < 1 ∨ 99 < v) := h1
    show (0 = 1 → _) ∧ (0 = 2 → _) ∧ (0 = 3 → _) ∧ (0 = 4 → _) ∧ (0 = 5 → _) ∧ (0 = 0 → (4 = 3 → v ≤ 100) ∧ (4 = 4 → 1 ≤ v ∧ v ≤ 99) ∧ (4 = 5 → v ≤ 9999))
    exact ⟨by omega, by omega, by omega, by omega, by omega, fun _ => ⟨by omega, by omega, by omega⟩⟩
  · show (0 = 1 → _) ∧ (0 = 2 → _) ∧ (0 = 3 → _) ∧ (0 = 4 → _) ∧ (0 = 5 → _) ∧ (0 = 0 → (5 = 3 → v ≤ 100) ∧ (5 = 4 → 1 ≤ v ∧ v ≤ 99) ∧ (5 = 5 → v ≤ 9999))
    exact ⟨by omega, by omega, by omega, by omega, by omega, fun _ => ⟨by omega, by omega, by omega⟩⟩
theorem wA_num {A : RT} {tl st v p : Nat} {rl : Option Nat} (w : wA A) (ws : wS A tl st rl) (h : fm tl st = 23) (h2 : tl < 3 ∨ (7 ≤ tl ∧ tl < 10)) (hv : v < 10000) : wA (num A tl st v p) := by
  obtain ⟨s1, s2, s3, s4, s5, s6⟩ := ws
  have n2 : ¬ tl = 2 := fun z => by
    rw [z] at h
    have h : (if st ≤ 1 then 22 else 59) = 23 := h
    split at h <;> omega
  have h0 : fa9 tl st = 0 → 3 ≤ fj9 A tl := by
    unfold fa9 fj9
    intro z
    by_cases z0 : tl = 0
    · rw [if_pos z0] at z
      rw [z0, z] at h
      have h : (22 : Nat) = 23 := h
      omega
    · rw [if_neg z0] at z ⊢
      by_cases z1 : tl = 1
      · rw [if_pos z1] at z
        omega
      · rw [if_neg z1]
        have := n2
        omega
  have h3 : fa9 tl st = 3 ∨ fa9 tl st = 5 → fj9 A tl < tX A 0 1 := by
    unfold fa9 fj9
    intro z
    by_cases z0 : tl = 0
    · rw [if_pos z0] at z
      have := (s2 z0).2.2
      rw [z0, show st = 3 by omega] at h
      have h : (59 : Nat) = 23 := h
      omega
    · rw [if_neg z0] at z ⊢
      by_cases z1 : tl = 1
      · rw [if_pos z1] at z ⊢
        have := (s3 z1).2.1 (by omega)
        omega
      · rw [if_neg z1] at z
        omega
  have h6 : fa9 tl st = 6 → v < 64 := by
    unfold fa9
    intro z
    by_cases z0 : tl = 0
    · rw [if_pos z0] at z
      have := (s2 z0).2.2
      omega
    · rw [if_neg z0] at z
      by_cases z1 : tl = 1
      · rw [if_pos z1] at z
        rw [z1, show st = 4 by omega] at h
        have h : (59 : Nat) = 23 := h
        omega
      · rw [if_neg z1] at z
        omega
  unfold num
  by_cases z : v < lo9 tl ∨ hi9 tl st < v
  · rw [if_pos z]
    refine wA_sX (wA_nt w (by omega) (by omega)) h0 (by rw [nt_X]; exact h3) h6 (fun e => ?_)
    rw [nt_F] at e
    split at e
    · have e : (5 : Nat) = 0 := e
      omega
    · next q => exact absurd e q
  · rw [if_neg z]
    exact wA_sX w h0 h3 h6 (fun _ => hi_ok h z h2 hv)
theorem wA_nw {A : RT} {k p : Nat} {l : List Nat} (w : wA A) (hk : k < 2) (h : tX A 0 k < 6) (hl : okn l) : wA (nw9 A k l p) := by
  unfold nw9
  obtain ⟨B, hB⟩ : ∃ B, B = (if rN9 A l = none ∧ lN9 A l = none then A else nt A 3 p) := ⟨_, rfl⟩
  rw [← hB]
  have wB : wA B := by
    rw [hB]
    split
    · exact w
    · exact wA_nt w (by omega) (by omega)
  have eX : tX B = tX A := by
    rw [hB]
    split
    · rfl
    · exact nt_X
  obtain ⟨⟨w1, w1', w1''⟩, ⟨w2, w2'⟩, w3, w4, w5, w6⟩ := wB
  rw [← eX] at h ⊢
  have X : tX (sX (sN B k (tX B 0 k) l) 0 k (tX B 0 k + 1)) = up2 (tX B) 0 k (tX B 0 k + 1) := rfl
  have N : tN (sX (sN B k (tX B 0 k) l) 0 k (tX B 0 k + 1)) = up2 (tN B) k (tX B 0 k) l := rfl
  have F : tF (sX (sN B k (tX B 0 k) l) 0 k (tX B 0 k + 1)) = tF B := rfl
  unfold wA
  rw [X, N, F]
  have r5 : (tF B).1 = 0 → rng (up2 (tX B) 0 k (tX B 0 k + 1)) := fun z => rng_up (w5 z) ⟨by omega, by omega, by omega, by omega, by omega, fun _ => ⟨by omega, by omega, by omega⟩⟩
  have r6 : ∀ i, up2 (tX B) 0 k (tX B 0 k + 1) 6 i < 64 := fun i => by
    rw [up_ne (by omega)]
    exact w3 i
  rcases (show k = 0 ∨ k = 1 by omega) with rfl | rfl
  · rw [up_eq, up_ne (show ¬ (0 = 0 ∧ 1 = 0) by omega), up_ne (show ¬ (0 = 0 ∧ 2 = 0) by omega)]
    refine ⟨⟨by omega, w1', w1''⟩, ⟨fun r hr => ?_, fun r hr => ?_⟩, r6, fun i hi => ?_, r5, w6⟩
    · unfold up2
      split
      · exact hl
      · next z => exact w2 r (by omega)
    · rw [up_ne (by omega)]
      exact w2' r hr
    · rw [up_ne (by omega), up_ne (by omega)]
      exact w4 i hi
  · rw [up_eq, up_ne (show ¬ (0 = 0 ∧ 0 = 1) by omega), up_ne (show ¬ (0 = 0 ∧ 2 = 1) by omega)]
    refine ⟨⟨w1, by omega, w1''⟩, ⟨fun r hr => ?_, fun r hr => ?_⟩, r6, fun i hi => ?_, r5, w6⟩
    · rw [up_ne (by omega)]
      exact w2 r hr
    · unfold up2
      split
      · exact hl
      · next z => exact w2' r (by omega)
    · rw [up_ne (by omega), up_ne (by omega)]
      exact w4 i (by omega)
theorem wA_c2 {A : RT} (w : wA A) (h : tX A 0 2 < 6) : wA (sX A 0 2 (tX A 0 2 + 1)) := by
  obtain ⟨⟨w1, w1', w1''⟩, ⟨w2, w2'⟩, w3, w4, w5, w6⟩ := w
  have X : tX (sX A 0 2 (tX A 0 2 + 1)) = up2 (tX A) 0 2 (tX A 0 2 + 1) := rfl
  unfold wA
  rw [X, up_eq, up_ne (show ¬ (0 = 0 ∧ 0 = 2) by omega), up_ne (show ¬ (0 = 0 ∧ 1 = 2) by omega)]
  exact ⟨⟨w1, w1', h⟩, ⟨w2, w2'⟩, fun i => by rw [up_ne (by omega)]; exact w3 i, fun i hi => by rw [up_ne (by omega), up_ne (by omega)]; exact w4 i hi, fun z => rng_up (w5 z) ⟨by omega, by omega, by omega, by omega, by omega, fun _ => ⟨by omega, by omega, by omega⟩⟩, w6⟩
theorem roN_lt {A : RT} {l : List Nat} {r : Nat} (e : rN9 A l = some r) : r < tX A 0 0 := by
  unfold rN9 at e
  rcases fnd_c (P := fun r => decide (tN A 0 r = l)) (tX A 0 0) with ⟨z, -⟩ | ⟨r', z, z2, -, -⟩
  · rw [z] at e
    cases e
  · rw [z] at e
    cases e
    exact z2
theorem lsN_lt {A : RT} {l : List Nat} {r : Nat} (e : lN9 A l = some r) : r < tX A 0 1 := by
  unfold lN9 at e
  rcases fnd_c (P := fun r => decide (tN A 1 r = l)) (tX A 0 1) with ⟨z, -⟩ | ⟨r', z, z2, -, -⟩
  · rw [z] at e
    cases e
  · rw [z] at e
    cases e
    exact z2
theorem wA_re2 {A : RT} {o : Option Nat} {l : List Nat} {p : Nat} (w : wA A) (h : tX A 0 2 < 6) : wA (re2 A o l p) := by
  unfold re2
  match hr : rN9 A l, o with
  | none, _ =>
    dsimp only
    have := wA_c2 (wA_nt (p := p) w (show 1 ≤ 4 by omega) (by omega)) (by rw [nt_X]; exact h)
    rw [nt_X] at this
    exact this
  | some r, none => exact wA_c2 w h
  | some r, some o =>
    dsimp only
    have r6 : r < 6 := by
      have := roN_lt hr
      have := w.1.1
      omega
    obtain ⟨B, hB⟩ : ∃ B, B = (if (tX A 6 o).testBit r = true then nt A 3 p else A) := ⟨_, rfl⟩
    rw [← hB]
    have wB : wA B := by
      rw [hB]
      split
      · exact wA_nt w (by omega) (by omega)
      · exact w
    have eX : tX B = tX A := by
      rw [hB]
      split
      · exact nt_X
      · rfl
    rw [← eX] at h ⊢
    refine wA_sX (wA_c2 wB h) (by omega) (by omega) (fun _ => ?_) (fun _ => ⟨by omega, by omega, by omega, by omega, by omega, by omega⟩)
    exact Nat.or_lt_two_pow (n := 6) (wB.2.2.1 o) (Nat.pow_lt_pow_right (by omega) r6)
