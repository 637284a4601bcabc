/-! TOKENS OF A TAPE: what holds of them -/
theorem dvl_lt (B : Nat → Nat) (p : Nat) : ∀ m, (∀ j, j < m → dg9 (B (p + j)) = true) → dvl B p m < 10 ^ m
  | 0, _ => by
    show (0 : Nat) < 10 ^ 0
    decide
  | m + 1, h => by
    have ih := dvl_lt B p m (fun j hj => h j (by omega))
    have hd := of_decide_eq_true (h m (by omega))
    show 10 * dvl B p m + (B (p + m) - 48) < 10 ^ (m + 1)
    rw [Nat.pow_succ]
    omega
theorem tkAt_ok {B : Nat → Nat} {n q : Nat} (hq : q < n) : tkK (tkAt B n q).1 < 100 ∧ tkK (tkAt B n q).1 ≠ 98 ∧ (tkK (tkAt B n q).1 = 23 → tkV (tkAt B n q).1 < 10000) ∧ (tkK (tkAt B n q).1 = 22 → okn (tkN (tkAt B n q).1)) ∧ tkP (tkAt B n q).1 = q := by
  unfold tkAt
  cases l1 : lt9 (B q) with
  | true =>
    rw [if_pos rfl]
    show (if 8 < rE lt9 B n q - q then 99 else wix (lls B q (rE lt9 B n q - q))) < 100 ∧ (if 8 < rE lt9 B n q - q then 99 else wix (lls B q (rE lt9 B n q - q))) ≠ 98 ∧ ((if 8 < rE lt9 B n q - q then 99 else wix (lls B q (rE lt9 B n q - q))) = 23 → 0 < 10000) ∧ ((if 8 < rE lt9 B n q - q then 99 else wix (lls B q (rE lt9 B n q - q))) = 22 → okn (lls B q (rE lt9 B n q - q))) ∧ q = q
    have w := wix_le (lls B q (rE lt9 B n q - q))
    have r := rE_run (P := lt9) (B := B) (Nat.le_of_lt hq)
    by_cases z : 8 < rE lt9 B n q - q
    · rw [if_pos z]
      exact ⟨by omega, by omega, by omega, fun y => by omega, rfl⟩
    · rw [if_neg z]
      refine ⟨by omega, by omega, by omega, fun _ => ⟨lls_ok (fun i hi => (r i hi).2), ?_⟩, rfl⟩
      rw [lls_len]
      omega
  | false =>
    rw [if_neg (by decide)]
    cases l2 : dg9 (B q) with
    | true =>
      rw [if_pos rfl]
      show (if 4 < rE dg9 B n q - q then 99 else 23) < 100 ∧ (if 4 < rE dg9 B n q - q then 99 else 23) ≠ 98 ∧ ((if 4 < rE dg9 B n q - q then 99 else 23) = 23 → dvl B q (rE dg9 B n q - q) < 10000) ∧ ((if 4 < rE dg9 B n q - q then 99 else 23) = 22 → okn []) ∧ q = q
      have r := rE_run (P := dg9) (B := B) (Nat.le_of_lt hq)
      by_cases z : 4 < rE dg9 B n q - q
      · rw [if_pos z]
        exact ⟨by omega, by omega, fun y => by omega, fun y => by omega, rfl⟩
      · rw [if_neg z]
        refine ⟨by omega, by omega, fun _ => ?_, fun y => by omega, rfl⟩
        have d1 := dvl_lt B q (rE dg9 B n q - q) (fun j hj => (r j hj).2)
        have d2 : 10 ^ (rE dg9 B n q - q) ≤ 10 ^ 4 := Nat.pow_le_pow_right (by omega) (by omega)
        have d3 : (10 : Nat) ^ 4 = 10000 := by decide
        omega
    | false =>
      rw [if_neg (by decide)]
      show (if sg9 (B q) then B q else 99) < 100 ∧ (if sg9 (B q) then B q else 99) ≠ 98 ∧ ((if sg9 (B q) then B q else 99) = 23 → 0 < 10000) ∧ ((if sg9 (B q) then B q else 99) = 22 → okn []) ∧ q = q
      cases s : sg9 (B q) with
      | true =>
        have := of_decide_eq_true s
        rw [if_pos rfl]
        exact ⟨by omega, by omega, by omega, fun y => by omega, rfl⟩
      | false =>
        rw [if_neg (by decide)]
        exact ⟨by omega, by omega, by omega, fun y => by omega, rfl⟩
/-- what a row of tokens is -/
def tkOk (τ : Nat → Tk) : Prop := okT τ ∧ (∀ i, tkK (τ i) = 22 → okn (tkN (τ i))) ∧ (∀ i, tkK (τ i) ≠ 98 → tkP (τ i) < tkP (τ (i + 1))) ∧ ∀ i, tkP (τ i) ≤ 2000
theorem tk_s {B : Nat → Nat} {n i : Nat} {q : Tk} {e : Nat} (h : tkNx B n (pos B n i) = some (q, e)) : tk B n i = q ∧ pos B n (i + 1) = e ∧ q = (tkAt B n (rE bl9 B n (pos B n i))).1 ∧ e = (tkAt B n (rE bl9 B n (pos B n i))).2 ∧ rE bl9 B n (pos B n i) < n := by
  have h0 := h
  unfold tkNx at h
  by_cases z : rE bl9 B n (pos B n i) < n
  · rw [if_pos z] at h
    have h := Option.some.inj h
    refine ⟨by unfold tk; rw [h0], ?_, by rw [h], by rw [h], z⟩
    show (match tkNx B n (pos B n i) with | some (_, e) => e | none => pos B n i) = e
    rw [h0]
  · rw [if_neg z] at h
    cases h
theorem tk_n {B : Nat → Nat} {n i : Nat} (h : tkNx B n (pos B n i) = none) : tk B n i = (98, n, 0, []) ∧ pos B n (i + 1) = pos B n i ∧ n ≤ rE bl9 B n (pos B n i) := by
  refine ⟨by unfold tk; rw [h], ?_, ?_⟩
  · show (match tkNx B n (pos B n i) with | some (_, e) => e | none => pos B n i) = _
    rw [h]
  · unfold tkNx at h
    by_cases z : rE bl9 B n (pos B n i) < n
    · rw [if_pos z] at h
      cases h
    · omega
theorem tk_98 {B : Nat → Nat} {n i : Nat} : tkK (tk B n i) = 98 ↔ tkNx B n (pos B n i) = none := by
  cases h : tkNx B n (pos B n i) with
  | none =>
    rw [(tk_n h).1]
    exact ⟨fun _ => rfl, fun _ => rfl⟩
  | some r =>
    obtain ⟨q, e⟩ := r
    obtain ⟨e1, -, e3, -, e5⟩ := tk_s h
    refine ⟨fun z => ?_, fun z => by cases z⟩
    rw [e1, e3] at z
    exact absurd z (tkAt_ok e5).2.1
theorem tk_pos {B : Nat → Nat} {n : Nat} : ∀ {i : Nat}, (∀ j, j < i → tkK (tk B n j) ≠ 98) → i ≤ pos B n i
  | 0, _ => Nat.zero_le _
  | i + 1, h => by
    have ih := tk_pos (B := B) (n := n) (i := i) (fun j hj => h j (by omega))
    cases hx : tkNx B n (pos B n i) with
    | none => exact absurd (tk_98.mpr hx) (h i (by omega))
    | some r =>
      obtain ⟨q, e⟩ := r
      obtain ⟨-, e2, -, -, -⟩ := tk_s hx
      have := (tkNx_end hx).1
      omega
theorem tk_tkOk {B : Nat → Nat} {n : Nat} (hn : n ≤ 2000) : tkOk (tk B n) := by
  have P : ∀ i, pos B n i ≤ tkP (tk B n i) ∧ tkP (tk B n i) ≤ n ∧ (tkK (tk B n i) ≠ 98 → tkP (tk B n i) < pos B n (i + 1)) := by
    intro i
    have hp := pos_le B n i
    have r1 := rE_ge bl9 B n (pos B n i)
    cases hx : tkNx B n (pos B n i) with
    | none =>
      rw [(tk_n hx).1]
      exact ⟨hp, Nat.le_refl _, fun z => absurd rfl z⟩
    | some r =>
      obtain ⟨q, e⟩ := r
      obtain ⟨e1, e2, e3, e4, e5⟩ := tk_s hx
      rw [e1, e2, e3, e4, (tkAt_ok e5).2.2.2.2]
      exact ⟨r1.1, by omega, fun _ => (tkAt_end e5).1⟩
  refine ⟨fun i => ?_, fun i h => ?_, fun i h => ?_, fun i => ?_⟩
  · cases hx : tkNx B n (pos B n i) with
    | none =>
      rw [(tk_n hx).1]
      exact ⟨by show (98 : Nat) < 100; omega, fun z => absurd z (by show ¬ (98 : Nat) = 23; omega)⟩
    | some r =>
      obtain ⟨q, e⟩ := r
      obtain ⟨e1, -, e3, -, e5⟩ := tk_s hx
      rw [e1, e3]
      exact ⟨(tkAt_ok e5).1, (tkAt_ok e5).2.2.1⟩
  · cases hx : tkNx B n (pos B n i) with
    | none =>
      rw [(tk_n hx).1] at h
      exact absurd h (by show ¬ (98 : Nat) = 22; omega)
    | some r =>
      obtain ⟨q, e⟩ := r
      obtain ⟨e1, -, e3, -, e5⟩ := tk_s hx
      rw [e1, e3] at h ⊢
      exact (tkAt_ok e5).2.2.2.1 h
  · have h1 := (P i).2.2 h
    have h2 := (P (i + 1)).1
    omega
  · have := (P i).2.1
    omega
/-! what doesn't look at longs -/
theorem pil_l {h : mh} {x : m2} {a : Nat} : ∀ {r : List Int32}, pil h a r → pil (h.1, x) a r
  | [], _ => trivial
  | _ :: _, hp => ⟨hp.1, pil_l hp.2⟩
theorem prtC_l {h : mh} {x : m2} {u : Nat} : ∀ {es : List Pf} {p s : Nat}, prtC h u p s es → prtC (h.1, x) u p s es
  | [], _, _, _ => trivial
  | _ :: _, _, _, ⟨q1, q2, q3, q4, q5⟩ => ⟨q1, q2, fun i q hq => q3 i q hq, q4, prtC_l q5⟩
theorem rLC_l {h : mh} {x : m2} {u k s0 : Nat} {L : LZ} (q : rLC u k s0 L h) : rLC u k s0 L (h.1, x) := by
  obtain ⟨q1, q2, q3, q4, q5, q6, q7⟩ := q
  exact ⟨q1, pil_l q2, q3, fun i q hq => q4 i q hq, q5, q6, prtC_l q7⟩
/-- the reader's next token leaves a text so far as it is -/
theorem relC_tk {u i : Nat} {M : MZ} {h h1 : mh} (hu : u = 7 ∨ u = 23) (o : eL sTk lTk h h1) (r : relC u M i h) : relC u M i h1 := by
  have f : ∀ a k, a ≠ 3 → gI h1 a k = gI h a k := fun a k z => o.2.1 _ _ (fun y => z y.1)
  have g : ∀ a k, a ≠ 3 → gL h1 a k = gL h a k := fun a k z => o.2.2 _ _ (fun y => z y.1)
  have oo : eo sTk (h.1, h1.2) h1 := ⟨rfl, o.2.1⟩
  obtain ⟨t, ⟨cz, lw⟩, hF, hR⟩ := r
  refine ⟨?_, ⟨cz, ?_, ?_⟩, flC_eL o (fun a k z => by unfold sTk at z; omega) hF, ?_⟩
  · obtain ⟨⟨a1, a2, a3, a4, a5, a6⟩, a7, a8, a9, a10, a11, a12⟩ := t
    refine ⟨⟨by rw [f _ _ (by omega)]; exact a1, by rw [f _ _ (by omega)]; exact a2, by rw [f _ _ (by omega)]; exact a3, by rw [f _ _ (by omega)]; exact a4, by rw [f _ _ (by omega)]; exact a5, by rw [f _ _ (by omega)]; exact a6⟩, fun r hr => by rw [g _ _ (by omega)]; exact a7 r hr, fun r hr => by rw [g _ _ (by omega)]; exact a8 r hr, fun r hr z => by rw [f _ _ (by omega)]; exact a9 r hr z, fun r hr z => by rw [f _ _ (by omega)]; exact a10 r hr z, fun r hr z => by rw [f _ _ (by omega)]; exact a11 r hr z, fun l hl => ?_⟩
    rw [f _ _ (by omega), f _ _ (by omega), f _ _ (by omega)]
    exact a12 l hl
  · exact fun k hk z => lawW_fr (lw.1 k hk z) (Nat.le_refl _) (fun j _ => f _ _ (by omega)) (f _ _ (by omega)) (fun j _ _ => f _ _ (by omega)) (f _ _ (by omega))
  · have lw2 := lw.2
    revert lw2
    cases M.2.2.2.2 with
    | none =>
      intro ⟨l1, l2, l3⟩
      refine ⟨by rw [f _ _ (by omega)]; exact l1, fun z1 z2 => ?_, l3⟩
      have := l2 z1 z2
      unfold rL0 at this ⊢
      rw [f _ _ (by omega), f _ _ (by omega), f _ _ (by omega), f _ _ (by omega), f _ _ (by omega), f _ _ (by omega), f _ _ (by omega)]
      exact this
    | some L =>
      intro ⟨l1, l2, l3⟩
      refine ⟨l1, ?_, l3⟩
      obtain ⟨⟨q1, q2, q3, q4, q5, q6, q7, q8, q9⟩, q10, q11⟩ := rLC_l (x := h1.2) l2
      exact ⟨⟨by rw [oo.2 _ _ (fun z => by unfold sTk at z; omega)]; exact q1, by rw [oo.2 _ _ (fun z => by unfold sTk at z; omega)]; exact q2, by rw [oo.2 _ _ (fun z => by unfold sTk at z; omega)]; exact q3, by rw [oo.2 _ _ (fun z => by unfold sTk at z; omega)]; exact q4, by rw [oo.2 _ _ (fun z => by unfold sTk at z; omega)]; exact q5, by rw [oo.2 _ _ (fun z => by unfold sTk at z; omega)]; exact q6, by rw [oo.2 _ _ (fun z => by unfold sTk at z; omega)]; exact q7, by rw [oo.2 _ _ (fun z => by unfold sTk at z; omega)]; exact q8, by rw [oo.2 _ _ (fun z => by unfold sTk at z; omega)]; exact q9⟩, pil_eo oo (fun k z => by unfold sTk at z; omega) q10, cdC_eo oo (fun a j z => by unfold sTk at z; omega) q11⟩
  · obtain ⟨r1, r2, r3⟩ := hR
    exact ⟨by rw [f _ _ (by omega)]; exact r1, fun z => by rw [f _ _ (by omega)]; exact r2 z, fun z1 z2 => by rw [f _ _ (by omega)]; exact r3 z1 z2⟩
