/-! THE START, AND ALL CALLS TOGETHER -/
def hJ : mh := match initR 60000 with
  | some (_, h) => h
  | none => mh0
theorem jnit_1 : (initR 60000).map (fun q => q.1) = some (0, 299) := by decide +kernel
theorem jnit_N : gN hJ = 343 ∧ gM hJ = 15757 := by decide +kernel
theorem jnit_S : ∀ a, a < 343 → gS hJ a = Sh a := by decide +kernel
theorem jnit_R : ∀ q ∈ rtb, gR hJ q.1 q.2.1 = some q.2.2 := by decide +kernel
theorem jnit_T : gR hJ 0 4 = some 7 ∧ gR hJ 0 5 = some 23 := by decide +kernel
theorem jnit_Ly : Ly 7 23 hJ := ⟨jnit_N.1, jnit_N.2, jnit_S, jnit_R, jnit_T.1, jnit_T.2, Or.inl ⟨rfl, rfl⟩⟩
theorem jnit_eq : initR 60000 = some ((0, 299), hJ) := by
  have h := jnit_1
  unfold hJ
  cases hq : initR 60000 with
  | none => rw [hq] at h; cases h
  | some q =>
    obtain ⟨q1, q2⟩ := q
    rw [hq] at h
    have h1 : q1 = (0, 299) := Option.some.inj h
    rw [h1]
theorem law_of6 {S : mh → Prop} (hS : ∀ h, S h → ∃ t u, Ly t u h) (hI0 : S hJ) (hst : Steps9 S 60000) (L : Nat) (xs : Nat → Int32) (hL : L ≤ 3072) : LawP L xs := by
  obtain ⟨h', e, hs⟩ := loop9 (xs := xs) hL hS hst hJ hI0 (by omega)
  obtain ⟨t, u, hLy⟩ := hS h' hs
  refine ⟨60000, h', ?_, by rw [hLy.1]; omega, by rw [hLy.2.1]; omega⟩
  have hq := jnit_eq
  unfold initR at hq
  unfold fL_law
  unfold newO at hq ⊢
  dsimp only at hq ⊢
  cases h1 : fX9_init 60000 (gN mh0) (nw mh0 (0, 9) (fnum 9)) with
  | none => rw [h1] at hq; cases hq
  | some q1 =>
    obtain ⟨u1, h3⟩ := q1
    rw [h1] at hq
    rw [bd_s] at hq ⊢
    cases h2 : fX10_init 60000 (gN h3) (nw h3 (0, 10) (fnum 10)) with
    | none => rw [h2] at hq; cases hq
    | some q2 =>
      obtain ⟨u2, h6⟩ := q2
      rw [h2] at hq
      rw [bd_s] at hq ⊢
      have hq := Option.some.inj hq
      have e1 : gN mh0 = 0 := (Prod.mk.inj (Prod.mk.inj hq).1).1
      have e2 : gN h3 = 299 := (Prod.mk.inj (Prod.mk.inj hq).1).2
      have e3 : h6 = hJ := (Prod.mk.inj hq).2
      rw [e1, e2, e3]
      exact e
def T0 : AT := (0, 0, fun _ => 0, fun _ => 0, fun _ => 0, fun _ => 0, 0, 3, 0, fun _ => none)
def N0 : AN := (fun _ => 0, fun _ => 0, fun _ => 0, fun _ => 0, 0, 0, none, 0)
def D0 : SD := (0, 0, 0, fun _ => N0, 0, fun _ => N0, 0, fun _ => (false, 0, false))
theorem wfT0 : wfT T0 := ⟨by decide, by decide, fun r h => absurd h (Nat.not_lt_zero r), fun r h => absurd h (Nat.not_lt_zero r), by decide, by decide, by decide, by decide⟩
theorem wfN0 : wfN T0 N0 := by
  refine ⟨fun i hi => ⟨by show (0 : Nat) < 256; decide, by show (0 : Nat) ≤ 99; decide, by show (0 : Nat) ≤ 99; decide⟩, by show (0 : Nat) < 64; decide, (fun r h => by cases h), fun i hi _ => ⟨rfl, ?_⟩, fun i hi _ => rfl⟩
  show (0 : Nat).testBit i = false
  exact Nat.zero_testBit i
theorem j_C : gI hJ 7 0 = nI 0 ∧ gI hJ 7 4 = nI 0 ∧ gI hJ 7 12 = nI 0 ∧ gI hJ 7 13 = nI 3 ∧ gI hJ 7 14 = nI 0 ∧ ∀ k, k < 4 → gI hJ 20 k = 0 := by decide +kernel
theorem j_N : (∀ i, i < 6 → gI hJ 40 i = nI 0 ∧ gI hJ 41 i = nI 0 ∧ gI hJ 42 i = nI 0 ∧ gI hJ 43 i = nI 0) ∧ gI hJ 39 4 = nI 0 ∧ gI hJ 39 5 = nI 0 ∧ gI hJ 39 6 = -1 ∧ gI hJ 39 7 = nI 0 := by decide +kernel
theorem j_M : gI hJ 299 18 = nI 0 ∧ gI hJ 309 0 = nI 0 ∧ gI hJ 312 0 = nI 0 ∧ gI hJ 318 0 = nI 0 ∧ gI hJ 319 0 = nI 3 ∧ gI hJ 320 0 = nI 0 ∧ ∀ k, k < 4 → gI hJ 321 (4 * 0 + k) = gI hJ 322 (4 * 0 + k) := by decide +kernel
theorem j_R : (∀ i, i < 6 → gI hJ 333 i = nI 0 ∧ gI hJ 333 (6 + i) = nI 0 ∧ gI hJ 333 (12 + i) = nI 0 ∧ gI hJ 333 (18 + i) = nI 0 ∧ gI hJ 333 (24 + i) = 0) ∧ gI hJ 333 30 = nI 0 ∧ gI hJ 333 31 = -2 ∧ gI hJ 333 32 = nI 0 := by decide +kernel
theorem j_X : gI hJ 0 1 = nI 0 ∧ gI hJ 299 2 = nI 0 ∧ gI hJ 0 2 = gI hJ 299 17 ∧ gI hJ 77 1 = nI 0 ∧ gI hJ 77 2 = nI 0 ∧ gI hJ 299 58 = nI 0 ∧ gI hJ 77 4 = nI 0 ∧ (∀ s, s < 3 → gI hJ 341 s = 0) ∧ gI hJ 295 3 = nI 0 ∧ gI hJ 299 63 = nI 0 := by decide +kernel
theorem j_K : (∀ i, i < 22 → gL hJ 4 i = gL hI 4 i) ∧ (∀ i, i < 22 → gL hJ 306 i = gL hI 306 i) := by decide +kernel
theorem Sim_J : Sim hJ := by
  obtain ⟨c1, c2, c3, c4, c5, c6⟩ := j_C
  obtain ⟨m1, m2, m3, m4, m5, m6, m7⟩ := j_M
  obtain ⟨x1, x2, x3, x4, x5, x6, x7, x8, x9, x10⟩ := j_X
  refine ⟨7, 23, 0, T0, N0, D0, ⟨jnit_Ly, ⟨c1, c2, fun r h => absurd h (Nat.not_lt_zero r), fun r h => absurd h (Nat.not_lt_zero r), c3, c4, c5, c6⟩, j_N, m39, wfT0, wfN0⟩, ⟨jnit_Ly, by omega, m1, ⟨m2, m3, fun r h => absurd h (Nat.not_lt_zero r), fun r h => absurd h (Nat.not_lt_zero r), m4, m5, m6, m7⟩, ?_, wfT0, wfN0⟩, ⟨by decide, x1, x2, fun i h => absurd h (Nat.not_lt_zero i), x3⟩, ⟨by decide, by decide, x4, x5, x6, fun i h => absurd h (Nat.not_lt_zero i)⟩, ⟨by decide, x7, fun s hs => ⟨?_, fun e => ?_⟩⟩, ⟨by decide, x9, x10, fun i h => absurd h (Nat.not_lt_zero i)⟩, j_K⟩
  · obtain ⟨r1, r2, r3, r4⟩ := j_R
    refine ⟨fun i hi => ?_, r2, r3, r4⟩
    obtain ⟨a1, a2, a3, a4, a5⟩ := r1 i hi
    refine ⟨a1, a2, a3, a4, ?_⟩
    rw [a5]
    show (0 : Int32) = if (0 : Nat).testBit i then 1 else 0
    rw [Nat.zero_testBit]
    rfl
  · rw [x8 s hs]
    show (0 : Int32) = b2i ((0 : Nat).testBit s)
    rw [Nat.zero_testBit]
    rfl
  · rw [show (dH D0).testBit s = (0 : Nat).testBit s from rfl, Nat.zero_testBit] at e
    cases e
theorem steps_of (hr : ∀ (h : mh), Sim h → pr Sim (fX9_read 60000 0 h) (fun h1 => fX10_read 60000 299 h1)) : Steps9 Sim 60000 := by
  refine ⟨fun h x0 x1 x2 x3 x4 hS => st_feed (by omega) h x0 x1 x2 x3 x4 hS, fun h x0 hS => st_back h x0 hS, hr, fun h hS => st_place h hS, fun h x0 x1 hS => st_role (by omega) h x0 x1 hS, fun h x0 x1 hS => st_listener (by omega) h x0 x1 hS, fun h x0 x1 x2 hS => st_tells (by omega) h x0 x1 x2 hS, fun h x0 hS => st_announce (by omega) h x0 hS, fun h x0 x1 hS hb => st_turn (by omega) h x0 x1 hS hb, fun h x0 x1 hS => st_inform (by omega) h x0 x1 hS, fun h x0 x1 hS => st_talk (by omega) h x0 x1 hS, fun h x0 hS => st_evenings (by omega) h x0 hS, fun h hS => st_undo (by omega) h hS, fun h x0 x1 hS => st_tonight (by omega) h x0 x1 hS, fun h x0 hS => st_best (by omega) h x0 hS, fun h x0 x1 hS => st_plan (by omega) h x0 x1 hS, fun h x0 hS => st_star (by omega) h x0 hS, fun h x0 hS => st_credit (by omega) h x0 hS, fun h x0 hS => st_missing h x0 hS, fun h x0 hS => st_holders (by omega) h x0 hS, fun h x0 hS => st_rarest (by omega) h x0 hS, fun h x0 x1 hS => st_series (by omega) h x0 x1 hS, fun h x0 x1 hS => st_longOf (by omega) h x0 x1 hS, fun h x0 hS => st_callers (by omega) h x0 hS, fun h x0 hS => st_sway (by omega) h x0 hS, fun h x0 x1 hS => st_circle (by omega) h x0 x1 hS, fun h hS => st_doubles (by omega) h hS, fun h x0 hS => st_faith (by omega) h x0 hS, fun h x0 hS => st_never (by omega) h x0 hS, fun h x0 hS => st_apart (by omega) h x0 hS, fun h x0 x1 hS => st_unlike h x0 x1 hS, fun h x0 hS => st_rumour (by omega) h x0 hS, fun h x0 hS => st_talks (by omega) h x0 hS, fun h x0 x1 x2 hS => st_then (by omega) h x0 x1 x2 hS, fun h x0 x1 hS => st_quietIn (by omega) h x0 x1 hS, fun h x0 x1 x2 x3 hS => st_sure (by omega) h x0 x1 x2 x3 hS, fun h x0 x1 hS hb => st_tellFact h x0 x1 hS hb, fun h x0 x1 hS hb => st_tellDone h x0 x1 hS hb, fun h hS => st_forget h hS, fun h x0 x1 hS => st_who (by omega) h x0 x1 hS, fun h x0 hS => st_ask (by omega) h x0 hS, fun h x0 hS => st_hold (by omega) h x0 hS, fun h x0 hS => st_restore (by omega) h x0 hS, fun h x0 hS => st_count (by omega) h x0 hS⟩
theorem all_law (hr : ∀ (h : mh), Sim h → pr Sim (fX9_read 60000 0 h) (fun h1 => fX10_read 60000 299 h1)) (L : Nat) (xs : Nat → Int32) (hL : L ≤ 3072) : LawP L xs := law_of6 Sim_Ly Sim_J (steps_of hr) L xs hL
