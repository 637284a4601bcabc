/-! BOTH READ -/
theorem lawC_l {h : mh} {x : m2} {t k : Nat} {A : Lw} (q : lawC h t k A) : lawC (h.1, x) t k A := by
  match A, q with
  | none, q => exact q
  | some (ts, e), ⟨q1, q2, s, q3, q4⟩ => exact ⟨q1, q2, s, q3, prtC_l q4⟩
theorem txC_l {h : mh} {x : m2} {t : Nat} {T : AT} (q : txC h t T) : txC (h.1, x) t T := by
  obtain ⟨q1, q2, q3, q4, q5, q6, q7, q8⟩ := q
  exact ⟨q1, q2, q3, q4, q5, q6, q7, fun k hk => lawC_l (q8 k hk)⟩
theorem ngC_l {h : mh} {x : m2} {n : Nat} {N : AN} (q : ngC h n N) : ngC (h.1, x) n N := q
theorem ngM_l {h : mh} {x : m2} {n : Nat} {N : AN} (q : ngM h n N) : ngM (h.1, x) n N := q
theorem rUn_l {h : mh} {x : m2} {T : AT} {n y : Nat} {P : Nat → AN} (q : rUn T n y P h) : rUn T n y P (h.1, x) := q
theorem rSl_l {h : mh} {x : m2} {T : AT} {b : Nat} {S : Nat → AN} (q : rSl T b S h) : rSl T b S (h.1, x) := q
theorem rTo_l {h : mh} {x : m2} {T : AT} {n : Nat} {W : Nat → Bool × Nat × Bool} (q : rTo T n W h) : rTo T n W (h.1, x) := q
theorem eo_l {S SL : Nat → Nat → Prop} {h h1 : mh} (o : eL S SL h h1) : eo S (h.1, h1.2) h1 := ⟨rfl, o.2.1⟩
/-- the side that isn't read on -/
theorem txM_sd {S SL : Nat → Nat → Prop} {l s : Nat} {T : AT} {h h1 : mh} (hl : l < 2) (hs : s = 1 - l) (r6 : nR T ≤ 6) (l6 : nL9 T ≤ 6) (o : eL S SL h h1) (hS : ∀ a k, 309 ≤ a → a ≤ 329 → S a k → sRm s a k) (q : txM h l T) : txM h1 l T := by
  have f : ∀ a k, 309 ≤ a → a ≤ 329 → ¬ sRm s a k → gI h1 a k = gI h a k := fun a k z1 z2 z3 => o.2.1 _ _ (fun y => z3 (hS a k z1 z2 y))
  have ns : ∀ a k, 309 ≤ a → a ≤ 329 → ¬ (((a = 309 ∨ a = 312 ∨ (317 ≤ a ∧ a ≤ 320)) ∧ k = s) ∨ ((a = 310 ∨ a = 311 ∨ (313 ≤ a ∧ a ≤ 316)) ∧ 6 * s ≤ k ∧ k < 6 * s + 6) ∨ ((a = 321 ∨ a = 322) ∧ 4 * s ≤ k ∧ k < 4 * s + 4) ∨ (323 ≤ a ∧ a ≤ 327 ∧ 130 * s ≤ k ∧ k < 130 * s + 130) ∨ ((a = 328 ∨ a = 329) ∧ 420 * s ≤ k ∧ k < 420 * s + 420)) → gI h1 a k = gI h a k := fun a k z1 z2 z3 => f a k z1 z2 (fun y => by
    rcases y with y | y | y | y | y | y | y | y
    · omega
    · omega
    · exact z3 (Or.inl y)
    · exact z3 (Or.inr (Or.inl y))
    · exact z3 (Or.inr (Or.inr (Or.inl y)))
    · exact z3 (Or.inr (Or.inr (Or.inr (Or.inl y))))
    · exact z3 (Or.inr (Or.inr (Or.inr (Or.inr y))))
    · omega)
  obtain ⟨q1, q2, q3, q4, q5, q6, q7, q8⟩ := q
  refine ⟨by rw [ns _ _ (by omega) (by omega) (by omega)]; exact q1, by rw [ns _ _ (by omega) (by omega) (by omega)]; exact q2, fun r hr => by rw [ns _ _ (by omega) (by omega) (by omega), ns _ _ (by omega) (by omega) (by omega)]; exact q3 r hr, fun r hr => by rw [ns _ _ (by omega) (by omega) (by omega), ns _ _ (by omega) (by omega) (by omega)]; exact q4 r hr, by rw [ns _ _ (by omega) (by omega) (by omega)]; exact q5, by rw [ns _ _ (by omega) (by omega) (by omega)]; exact q6, by rw [ns _ _ (by omega) (by omega) (by omega)]; exact q7, fun k hk => ?_⟩
  have := q8 k hk
  revert this
  cases lw9 T k with
  | none =>
    intro q
    show gI h1 321 _ = gI h1 322 _
    rw [ns _ _ (by omega) (by omega) (by omega), ns _ _ (by omega) (by omega) (by omega)]
    exact q
  | some A =>
    obtain ⟨ts, e⟩ := A
    intro ⟨f9, r1, r2, r3, r4⟩
    exact ⟨f9, r1, by rw [ns _ _ (by omega) (by omega) (by omega)]; exact r2, by rw [ns _ _ (by omega) (by omega) (by omega)]; exact r3, brsL_sd ⟨fun a j j1 j2 j3 j4 => ns _ _ (by omega) (by omega) (by omega), fun a j j1 j2 j3 j4 => ns _ _ (by omega) (by omega) (by omega)⟩ r4⟩
/-- what a text read is -/
def TA (A : RT) : AT := (tX A 0 0, tX A 0 1, tX A 1, tX A 2, tX A 4, tX A 6, tX A 0 3, tX A 0 4, tX A 0 5, tW A)
theorem wfTA {A : RT} (w : wA A) (f : (tF A).1 = 0) : wfT (TA A) ∧ wfN (TA A) (NB A) := by
  obtain ⟨⟨w1, w2, -⟩, -, w4, w5, w6, -⟩ := w
  obtain ⟨r1, r2, r3, r4, r5⟩ := w6 f
  refine ⟨⟨w1, w2, fun r _ => ⟨(r1 r).1, (r1 r).2.1⟩, fun l _ => ⟨(r1 l).2.2.2.1, w4 l⟩, r2, r3, r4, r5⟩, fun i _ => ⟨(r1 i).2.2.1, (r1 i).2.2.2.2, Nat.zero_le _⟩, ?_, (fun r z => by cases z), fun i _ hi => ⟨(w5 i hi).1, ?_⟩, fun i _ _ => rfl⟩
  · show 2 ^ tX A 0 1 - 1 < 64
    have : 2 ^ tX A 0 1 ≤ 2 ^ 6 := Nat.pow_le_pow_right (by omega) w2
    omega
  · show (2 ^ tX A 0 1 - 1).testBit i = false
    rw [onBt]
    exact decide_eq_false (by have hi : tX A 0 1 ≤ i := hi; omega)
theorem txC_A {u : Nat} {A : RT} {h : mh} (t : tcC u A 10 0 h) (w : tX A 0 1 ≤ 6) (l : ∀ k, k < 4 → lawC h u k (tW A k)) : txC h u (TA A) := by
  obtain ⟨⟨a1, a2, a3, a4, a5, a6⟩, a7, a8, a9, a10, a11, a12⟩ := t
  exact ⟨a1, a2, fun r hr => ⟨a9 r hr (by omega), a10 r hr (by omega)⟩, fun r hr => ⟨a11 r hr (by omega), (a12 r (by have hr : r < tX A 0 1 := hr; omega)).2.2⟩, a4, a5, a6, l⟩
theorem txM_A {s : Nat} {A : RT} {h : mh} (t : tcM s A h) (w : tX A 0 1 ≤ 6) (l : ∀ k, k < 4 → lawM h s k (tW A k)) : txM h s (TA A) := by
  obtain ⟨⟨t1, t2, t3, t4, t5, t6⟩, t7, t8, t9⟩ := t
  exact ⟨t1, t2, t7, fun r hr => ⟨(t8 r hr).2.1, t9 r (by have hr : r < tX A 0 1 := hr; omega)⟩, t4, t5, t6, l⟩
theorem Ly_sw {t u : Nat} {h : mh} (y : Ly t u h) : Ly u t (uR (uR h 0 4 (some u)) 0 5 (some t)) := by
  obtain ⟨y1, y2, y3, y4, y5, y6, y7⟩ := y
  refine ⟨y1, y2, y3, fun q hq => ?_, ?_, ?_, by omega⟩
  · rw [gR_uR, gR_uR]
    have h1 : ∀ q ∈ rtb, ¬ (q.1 = 0 ∧ q.2.1 = 5) ∧ ¬ (q.1 = 0 ∧ q.2.1 = 4) := by decide +kernel
    rw [if_neg (h1 q hq).1, if_neg (h1 q hq).2]
    exact y4 q hq
  · rw [gR_uR, if_neg (by omega), gR_uR, if_pos ⟨rfl, rfl⟩]
  · rw [gR_uR, if_pos ⟨rfl, rfl⟩]
