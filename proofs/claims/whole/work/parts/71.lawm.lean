/-! A LAW, TOKEN BY TOKEN -/
def tt9 (c : Nat) : Nat := if c = 43 ∨ c = 45 then 1 else if c = 42 ∨ c = 47 then 2 else 0
def opk (c : Nat) : Nat := if c = 43 then 2 else if c = 45 then 3 else if c = 42 then 4 else 5
/-- signs that hang come out, as long as they bind no looser -/
def out9 (w : Nat) : Pf → List Nat → Pf × List Nat
  | cu, [] => (cu, [])
  | cu, c :: r => if w ≤ tt9 c then out9 w (cu ++ [(opk c, 0)]) r else (cu, c :: r)
/-- a unit is due; an if may come; part; ifs; opened; hanging (the last first); the part so far; the parts of an if so far; the ifs that are through -/
abbrev LZ : Type := Bool × Bool × Nat × Nat × Nat × List Nat × Pf × List Pf × List (Pf × Pf × Pf)
def lWu (L : LZ) : Bool := L.1
def lMi (L : LZ) : Bool := L.2.1
def lPt (L : LZ) : Nat := L.2.2.1
def lIf (L : LZ) : Nat := L.2.2.2.1
def lOp (L : LZ) : Nat := L.2.2.2.2.1
def lPd (L : LZ) : List Nat := L.2.2.2.2.2.1
def lQu (L : LZ) : Pf := L.2.2.2.2.2.2.1
def lPa (L : LZ) : List Pf := L.2.2.2.2.2.2.2.1
def lTs (L : LZ) : List (Pf × Pf × Pf) := L.2.2.2.2.2.2.2.2
def LZ0 : LZ := (true, true, 3, 0, 0, [], [], [], [])
def eop (p : Nat) : Nat := if p = 0 then 60 else if p = 1 then 11 else if p = 2 then 12 else 59
/-- a part is through -/
def lend (L : LZ) : LZ :=
  let cu := (out9 1 (lQu L) (lPd L)).1
  if lPt L = 3 then (true, false, 3, lIf L, 0, [], cu, [], lTs L)
  else if lPt L = 2 then (true, true, 3, lIf L, 0, [], [], [], lTs L ++ [((lPa L).getD 0 [], (lPa L).getD 1 [], cu)])
  else (true, false, lPt L + 1, lIf L, 0, [], [], lPa L ++ [cu], lTs L)
/-- what a token does: the FAULT or 0; is the law through; the state behind it -/
def lst (L : LZ) (q : Tk) : Nat × Bool × LZ :=
  let k := tkK q
  if lWu L then
    if lMi L = true ∧ k = 10 then (if lIf L + 1 ≤ 4 then 0 else 2, false, (true, false, 0, lIf L + 1, lOp L, lPd L, lQu L, lPa L, lTs L))
    else if k = 40 then (if lOp L + 1 ≤ 6 then 0 else 2, false, (true, false, lPt L, lIf L, lOp L + 1, 40 :: lPd L, lQu L, lPa L, lTs L))
    else if k = 23 then (0, false, (false, false, lPt L, lIf L, lOp L, lPd L, lQu L ++ [(0, nI (tkV q))], lPa L, lTs L))
    else if 13 ≤ k ∧ k < 22 then (0, false, (false, false, lPt L, lIf L, lOp L, lPd L, lQu L ++ [(1, nI (k - 13))], lPa L, lTs L))
    else (1, false, L)
  else if 0 < tt9 k then (0, false, (true, false, lPt L, lIf L, lOp L, k :: (out9 (tt9 k) (lQu L) (lPd L)).2, (out9 (tt9 k) (lQu L) (lPd L)).1, lPa L, lTs L))
  else if 0 < lOp L then
    if k = 41 then (0, false, (false, false, lPt L, lIf L, lOp L - 1, (out9 1 (lQu L) (lPd L)).2.tail, (out9 1 (lQu L) (lPd L)).1, lPa L, lTs L))
    else (1, false, L)
  else if k = eop (lPt L) then (0, decide (lPt L = 3), lend L)
  else (1, false, L)
/-- well formed from a depth to a depth -/
def Pre : Pf → Nat → Nat → Prop
  | [], d, d' => d = d'
  | (k, v) :: e, d, d' => (k = 0 ∧ d < 24 ∧ (∃ j, j < 10000 ∧ v = nI j) ∧ Pre e (d + 1) d') ∨ (k = 1 ∧ d < 24 ∧ (∃ j, j < 9 ∧ v = nI j) ∧ Pre e (d + 1) d') ∨ (2 ≤ k ∧ k ≤ 5 ∧ 2 ≤ d ∧ Pre e (d - 1) d')
theorem Pre_wf : ∀ {e : Pf} {d : Nat}, Pre e d 1 → wfP e d
  | [], _, h => h
  | (_, _) :: _, _, h => by
    rcases h with ⟨h1, h2, h3, h4⟩ | ⟨h1, h2, h3, h4⟩ | ⟨h1, h2, h3, h4⟩
    · exact Or.inl ⟨h1, h2, h3, Pre_wf h4⟩
    · exact Or.inr (Or.inl ⟨h1, h2, h3, Pre_wf h4⟩)
    · exact Or.inr (Or.inr ⟨h1, h2, h3, Pre_wf h4⟩)
theorem Pre_app : ∀ {a b : Pf} {d e f : Nat}, Pre a d e → Pre b e f → Pre (a ++ b) d f
  | [], _, _, _, _, h, g => by
    have h : _ = _ := h
    rw [h]
    exact g
  | (_, _) :: _, _, _, _, _, h, g => by
    rcases h with ⟨h1, h2, h3, h4⟩ | ⟨h1, h2, h3, h4⟩ | ⟨h1, h2, h3, h4⟩
    · exact Or.inl ⟨h1, h2, h3, Pre_app h4 g⟩
    · exact Or.inr (Or.inl ⟨h1, h2, h3, Pre_app h4 g⟩)
    · exact Or.inr (Or.inr ⟨h1, h2, h3, Pre_app h4 g⟩)
def isOp (c : Nat) : Prop := c = 43 ∨ c = 45 ∨ c = 42 ∨ c = 47
def ops : List Nat → Nat
  | [] => 0
  | c :: r => (if c = 40 then 0 else 1) + ops r
def prs : List Nat → Nat
  | [] => 0
  | c :: r => (if c = 40 then 1 else 0) + prs r
def top9 : List Nat → Nat
  | [] => 0
  | c :: _ => tt9 c
/-- what hangs: each sign binds tighter than the one below it, but for what is in brackets -/
def okp : List Nat → Prop
  | [] => True
  | c :: r => (c = 40 ∨ (isOp c ∧ top9 r < tt9 c)) ∧ okp r
theorem tt_op {c : Nat} (h : isOp c) : c ≠ 40 ∧ 1 ≤ tt9 c ∧ tt9 c ≤ 2 ∧ 2 ≤ opk c ∧ opk c ≤ 5 := by
  rcases h with rfl | rfl | rfl | rfl <;> decide
theorem top_le : ∀ {l : List Nat}, okp l → top9 l ≤ 2
  | [], _ => Nat.zero_le _
  | c :: r, h => by
    rcases h.1 with z | z
    · show tt9 c ≤ 2
      rw [z]
      decide
    · exact (tt_op z.1).2.2.1
theorem ops_le : ∀ {l : List Nat}, okp l → ops l ≤ 2 * prs l + top9 l
  | [], _ => Nat.le_refl _
  | c :: r, h => by
    have ih := ops_le h.2
    have t2 := top_le h.2
    unfold ops prs
    rcases h.1 with z | z
    · rw [if_pos z, if_pos z]
      omega
    · have := tt_op z.1
      rw [if_neg this.1, if_neg this.1]
      show 1 + ops r ≤ 2 * (0 + prs r) + tt9 c
      omega
theorem len_pd : ∀ (l : List Nat), l.length = ops l + prs l
  | [] => rfl
  | c :: r => by
    have := len_pd r
    unfold ops prs
    rw [List.length_cons]
    split <;> omega
/-- what comes out, and what is left -/
theorem out_ok (w : Nat) (hw : 1 ≤ w) : ∀ {pd : List Nat} {cu : Pf}, okp pd → Pre cu 0 (ops pd + 1) → okp (out9 w cu pd).2 ∧ Pre (out9 w cu pd).1 0 (ops (out9 w cu pd).2 + 1) ∧ prs (out9 w cu pd).2 = prs pd ∧ (top9 (out9 w cu pd).2 < w) ∧ (out9 w cu pd).1.length + (out9 w cu pd).2.length = cu.length + pd.length
  | [], cu, h1, h2 => ⟨h1, h2, rfl, hw, rfl⟩
  | c :: r, cu, h1, h2 => by
    unfold out9
    by_cases z : w ≤ tt9 c
    · rw [if_pos z]
      have hc : isOp c ∧ top9 r < tt9 c := by
        rcases h1.1 with e | e
        · rw [e] at z
          exact absurd z (show ¬ w ≤ 0 by omega)
        · exact e
      have ho := tt_op hc.1
      have e1 : ops (c :: r) = 1 + ops r := by
        show (if c = 40 then 0 else 1) + ops r = 1 + ops r
        rw [if_neg ho.1]
      rw [e1] at h2
      have h3 : Pre (cu ++ [(opk c, 0)]) 0 (ops r + 1) := Pre_app h2 (Or.inr (Or.inr ⟨ho.2.2.2.1, ho.2.2.2.2, by omega, show 1 + ops r + 1 - 1 = ops r + 1 by omega⟩))
      obtain ⟨i1, i2, i3, i4, i5⟩ := out_ok w hw h1.2 h3
      refine ⟨i1, i2, ?_, i4, ?_⟩
      · rw [i3]
        show _ = (if c = 40 then 1 else 0) + prs r
        rw [if_neg ho.1, Nat.zero_add]
      · have l1 : (cu ++ [(opk c, (0 : Int32))]).length = cu.length + 1 := by
          rw [List.length_append]
          rfl
        have l2 : (c :: r).length = r.length + 1 := rfl
        omega
    · rw [if_neg z]
      exact ⟨h1, h2, rfl, by show tt9 c < w; omega, rfl⟩
theorem out_0 {w : Nat} (hw : w = 1) {pd : List Nat} {cu : Pf} (h1 : okp pd) (h2 : Pre cu 0 (ops pd + 1)) (h3 : prs pd = 0) : (out9 w cu pd).2 = [] := by
  obtain ⟨i1, i2, i3, i4, i5⟩ := out_ok w (by omega) h1 h2
  cases e : (out9 w cu pd).2 with
  | nil => rfl
  | cons c r =>
    rw [e] at i1 i3 i4
    rcases i1.1 with z | z
    · rw [z, h3] at i3
      have i3 : 1 + prs r = 0 := i3
      omega
    · have := tt_op z.1
      have i4 : tt9 c < w := i4
      omega
theorem out_1 {w : Nat} (hw : w = 1) {pd : List Nat} {cu : Pf} (h1 : okp pd) (h2 : Pre cu 0 (ops pd + 1)) (h3 : 0 < prs pd) : ∃ r, (out9 w cu pd).2 = 40 :: r := by
  obtain ⟨i1, i2, i3, i4, i5⟩ := out_ok w (by omega) h1 h2
  cases e : (out9 w cu pd).2 with
  | nil =>
    rw [e] at i3
    have i3 : 0 = prs pd := i3
    omega
  | cons c r =>
    rw [e] at i1 i3 i4
    rcases i1.1 with z | z
    · exact ⟨r, by rw [z]⟩
    · have := tt_op z.1
      have i4 : tt9 c < w := i4
      omega
def wfL (L : LZ) : Prop := okp (lPd L) ∧ Pre (lQu L) 0 (ops (lPd L) + (if lWu L then 0 else 1)) ∧ prs (lPd L) = lOp L ∧ lOp L ≤ 6 ∧ lIf L ≤ 4 ∧ ((lPt L = 3 ∧ lPa L = [] ∧ lIf L = (lTs L).length) ∨ (lPt L < 3 ∧ (lPa L).length = lPt L ∧ lIf L = (lTs L).length + 1)) ∧ (∀ e ∈ lPa L, wfP e 0) ∧ (∀ b ∈ lTs L, wfP b.1 0 ∧ wfP b.2.1 0 ∧ wfP b.2.2 0) ∧ (lMi L = true → lWu L = true ∧ lPt L = 3 ∧ lOp L = 0 ∧ lPd L = [] ∧ lQu L = [])
theorem wfL0 : wfL LZ0 := ⟨trivial, rfl, rfl, by decide, by decide, Or.inl ⟨rfl, rfl, rfl⟩, (fun e h => by cases h), (fun e h => by cases h), fun _ => ⟨rfl, rfl, rfl, rfl, rfl⟩⟩
/-- how long all the code is -/
def ln3 : List (Pf × Pf × Pf) → Nat
  | [] => 0
  | b :: r => b.1.length + b.2.1.length + b.2.2.length + ln3 r
def ln1 : List Pf → Nat
  | [] => 0
  | e :: r => e.length + ln1 r
theorem ln3_app : ∀ (a b : List (Pf × Pf × Pf)), ln3 (a ++ b) = ln3 a + ln3 b
  | [], b => (Nat.zero_add _).symm
  | x :: a, b => by
    show _ + ln3 (a ++ b) = _ + ln3 a + ln3 b
    rw [ln3_app a b]
    omega
theorem ln1_app : ∀ (a b : List Pf), ln1 (a ++ b) = ln1 a + ln1 b
  | [], b => (Nat.zero_add _).symm
  | x :: a, b => by
    show _ + ln1 (a ++ b) = _ + ln1 a + ln1 b
    rw [ln1_app a b]
    omega
def lln (L : LZ) : Nat := ln3 (lTs L) + ln1 (lPa L) + (lQu L).length
theorem ops_cons {c : Nat} {r : List Nat} (h : isOp c) : ops (c :: r) = ops r + 1 ∧ prs (c :: r) = prs r := by
  have := (tt_op h).1
  constructor
  · show (if c = 40 then 0 else 1) + ops r = _
    rw [if_neg this]
    omega
  · show (if c = 40 then 1 else 0) + prs r = _
    rw [if_neg this]
    omega
theorem tt_is {c : Nat} (h : 0 < tt9 c) : isOp c := by
  unfold tt9 at h
  unfold isOp
  split at h
  · omega
  · split at h
    · omega
    · omega
theorem pa2 {l : List Pf} (h : l.length = 2) : ∃ a b, l = [a, b] := by
  match l, h with
  | [a, b], _ => exact ⟨a, b, rfl⟩
set_option maxHeartbeats 1000000 in
theorem lend_wf {L : LZ} (h : wfL L) (hw : lWu L = false) (ho : lOp L = 0) : (lPt L ≠ 3 → wfL (lend L)) ∧ (lPt L = 3 → wfP (lQu (lend L)) 0 ∧ lTs (lend L) = lTs L ∧ lQu (lend L) = (out9 1 (lQu L) (lPd L)).1) ∧ lln (lend L) = lln L + (lPd L).length ∧ lPd (lend L) = [] := by
  obtain ⟨h1, h2, h3, h4, h5, h6, h7, h8, h9⟩ := h
  rw [hw] at h2
  have h2 : Pre (lQu L) 0 (ops (lPd L) + 1) := h2
  obtain ⟨i1, i2, i3, i4, i5⟩ := out_ok 1 (Nat.le_refl _) h1 h2
  have i6 := out_0 rfl h1 h2 (by omega)
  rw [i6] at i2 i5
  have w1 : wfP (out9 1 (lQu L) (lPd L)).1 0 := Pre_wf i2
  have i5 : (out9 1 (lQu L) (lPd L)).1.length = (lQu L).length + (lPd L).length := i5
  obtain ⟨cu, hcu⟩ : ∃ cu, cu = (out9 1 (lQu L) (lPd L)).1 := ⟨_, rfl⟩
  unfold lend
  rw [← hcu] at w1 i5 ⊢
  rcases h6 with ⟨p1, p2, p3⟩ | ⟨p1, p2, p3⟩
  · dsimp only
    rw [if_pos p1]
    refine ⟨fun z => absurd p1 z, fun _ => ⟨w1, rfl, rfl⟩, ?_, rfl⟩
    show ln3 (lTs L) + ln1 [] + cu.length = ln3 (lTs L) + ln1 (lPa L) + (lQu L).length + (lPd L).length
    rw [p2]
    omega
  · dsimp only
    rw [if_neg (by omega)]
    by_cases z : lPt L = 2
    · rw [if_pos z]
      rw [z] at p2
      obtain ⟨a, b, e⟩ := pa2 p2
      rw [e] at h7 ⊢
      refine ⟨fun _ => ⟨trivial, rfl, rfl, Nat.zero_le _, h5, Or.inl ⟨rfl, rfl, ?_⟩, (fun e h => by cases h), fun x hx => ?_, fun _ => ⟨rfl, rfl, rfl, rfl, rfl⟩⟩, fun w => by omega, ?_, rfl⟩
      · show lIf L = (lTs L ++ [_]).length
        rw [List.length_append, p3]
        rfl
      · have hx : x ∈ lTs L ++ [(a, b, cu)] := hx
        rw [List.mem_append, List.mem_singleton] at hx
        rcases hx with hx | hx
        · exact h8 x hx
        · rw [hx]
          exact ⟨h7 a (by simp), h7 b (by simp), w1⟩
      · show ln3 (lTs L ++ [(a, b, cu)]) + 0 + 0 = ln3 (lTs L) + ln1 (lPa L) + (lQu L).length + (lPd L).length
        rw [ln3_app, e]
        show ln3 (lTs L) + (a.length + b.length + cu.length + 0) + 0 + 0 = ln3 (lTs L) + (a.length + (b.length + 0)) + (lQu L).length + (lPd L).length
        omega
    · rw [if_neg z]
      refine ⟨fun _ => ⟨trivial, rfl, rfl, Nat.zero_le _, h5, Or.inr ⟨by show lPt L + 1 < 3; omega, ?_, p3⟩, fun x hx => ?_, h8, (fun e => by cases e)⟩, fun w => by omega, ?_, rfl⟩
      · show (lPa L ++ [cu]).length = lPt L + 1
        rw [List.length_append, p2]
        rfl
      · have hx : x ∈ lPa L ++ [cu] := hx
        rw [List.mem_append, List.mem_singleton] at hx
        rcases hx with hx | hx
        · exact h7 x hx
        · rw [hx]
          exact w1
      · show ln3 (lTs L) + ln1 (lPa L ++ [cu]) + 0 = ln3 (lTs L) + ln1 (lPa L) + (lQu L).length + (lPd L).length
        rw [ln1_app]
        show ln3 (lTs L) + (ln1 (lPa L) + (cu.length + 0)) + 0 = _
        omega
set_option maxHeartbeats 1000000 in
theorem lst_wf {L L' : LZ} {q : Tk} {ov : Bool} (h : wfL L) (hv : tkK q = 23 → tkV q < 10000) (e : lst L q = (0, ov, L')) : (ov = false → wfL L') ∧ (ov = true → wfP (lQu L') 0 ∧ (lTs L').length ≤ 4 ∧ ∀ b ∈ lTs L', wfP b.1 0 ∧ wfP b.2.1 0 ∧ wfP b.2.2 0) ∧ lln L' + (lPd L').length ≤ lln L + (lPd L).length + 1 := by
  have h0 := h
  obtain ⟨h1, h2, h3, h4, h5, h6, h7, h8, h9⟩ := h
  have o1 := ops_le h1
  have o2 := top_le h1
  unfold lst at e
  dsimp only at e
  cases hw : lWu L with
  | true =>
    rw [hw] at e h2
    rw [if_pos rfl] at e
    have h2 : Pre (lQu L) 0 (ops (lPd L)) := h2
    by_cases c1 : lMi L = true ∧ tkK q = 10
    · rw [if_pos c1] at e
      obtain ⟨m1, m2, m3, m4, m5⟩ := h9 c1.1
      by_cases c2 : lIf L + 1 ≤ 4
      · rw [if_pos c2] at e
        cases e
        refine ⟨fun _ => ⟨h1, h2, h3, h4, c2, Or.inr ⟨by show (0 : Nat) < 3; omega, ?_, ?_⟩, h7, h8, (fun z => by cases z)⟩, (fun z => by cases z), Nat.le_succ _⟩
        · show (lPa L).length = 0
          rcases h6 with ⟨_, p2, _⟩ | ⟨p1, _, _⟩
          · rw [p2]
            rfl
          · omega
        · rcases h6 with ⟨_, _, p3⟩ | ⟨p1, _, _⟩
          · show lIf L + 1 = (lTs L).length + 1
            rw [p3]
          · omega
      · rw [if_neg c2] at e
        cases e
    · rw [if_neg c1] at e
      by_cases c2 : tkK q = 40
      · rw [if_pos c2] at e
        by_cases c3 : lOp L + 1 ≤ 6
        · rw [if_pos c3] at e
          cases e
          refine ⟨fun _ => ⟨⟨Or.inl rfl, h1⟩, ?_, ?_, c3, h5, h6, h7, h8, (fun z => by cases z)⟩, (fun z => by cases z), Nat.le_refl _⟩
          · show Pre (lQu L) 0 (0 + ops (lPd L) + 0)
            rw [Nat.zero_add]
            exact h2
          · show 1 + prs (lPd L) = lOp L + 1
            omega
        · rw [if_neg c3] at e
          cases e
      · rw [if_neg c2] at e
        have app : ∀ x : Nat × Int32, Pre [x] (ops (lPd L)) (ops (lPd L) + 1) → (false = false → wfL (false, false, lPt L, lIf L, lOp L, lPd L, lQu L ++ [x], lPa L, lTs L)) ∧ (false = true → wfP (lQu (false, false, lPt L, lIf L, lOp L, lPd L, lQu L ++ [x], lPa L, lTs L)) 0 ∧ (lTs (false, false, lPt L, lIf L, lOp L, lPd L, lQu L ++ [x], lPa L, lTs L)).length ≤ 4 ∧ ∀ b ∈ lTs (false, false, lPt L, lIf L, lOp L, lPd L, lQu L ++ [x], lPa L, lTs L), wfP b.1 0 ∧ wfP b.2.1 0 ∧ wfP b.2.2 0) ∧ lln (false, false, lPt L, lIf L, lOp L, lPd L, lQu L ++ [x], lPa L, lTs L) + (lPd L).length ≤ lln L + (lPd L).length + 1 := by
          intro x hx
          refine ⟨fun _ => ⟨h1, Pre_app h2 hx, h3, h4, h5, h6, h7, h8, (fun z => by cases z)⟩, (fun z => by cases z), ?_⟩
          show ln3 (lTs L) + ln1 (lPa L) + (lQu L ++ [x]).length + (lPd L).length ≤ ln3 (lTs L) + ln1 (lPa L) + (lQu L).length + (lPd L).length + 1
          rw [List.length_append]
          show ln3 (lTs L) + ln1 (lPa L) + ((lQu L).length + 1) + (lPd L).length ≤ ln3 (lTs L) + ln1 (lPa L) + (lQu L).length + (lPd L).length + 1
          omega
        by_cases c3 : tkK q = 23
        · rw [if_pos c3] at e
          cases e
          exact app _ (Or.inl ⟨rfl, by omega, ⟨_, hv c3, rfl⟩, rfl⟩)
        · rw [if_neg c3] at e
          by_cases c4 : 13 ≤ tkK q ∧ tkK q < 22
          · rw [if_pos c4] at e
            cases e
            exact app _ (Or.inr (Or.inl ⟨rfl, by omega, ⟨tkK q - 13, by omega, rfl⟩, rfl⟩))
          · rw [if_neg c4] at e
            cases e
  | false =>
    rw [hw] at e h2
    rw [if_neg (by decide)] at e
    have h2 : Pre (lQu L) 0 (ops (lPd L) + 1) := h2
    by_cases c1 : 0 < tt9 (tkK q)
    · rw [if_pos c1] at e
      cases e
      obtain ⟨i1, i2, i3, i4, i5⟩ := out_ok (tt9 (tkK q)) c1 h1 h2
      have j1 := tt_is c1
      obtain ⟨j2, j3⟩ := ops_cons (r := (out9 (tt9 (tkK q)) (lQu L) (lPd L)).2) j1
      refine ⟨fun _ => ⟨⟨Or.inr ⟨j1, i4⟩, i1⟩, ?_, ?_, h4, h5, h6, h7, h8, (fun z => by cases z)⟩, (fun z => by cases z), ?_⟩
      · show Pre _ 0 (ops (tkK q :: (out9 (tt9 (tkK q)) (lQu L) (lPd L)).2) + 0)
        rw [j2]
        exact i2
      · show prs (tkK q :: (out9 (tt9 (tkK q)) (lQu L) (lPd L)).2) = lOp L
        rw [j3, i3, h3]
      · show ln3 (lTs L) + ln1 (lPa L) + (out9 (tt9 (tkK q)) (lQu L) (lPd L)).1.length + ((out9 (tt9 (tkK q)) (lQu L) (lPd L)).2.length + 1) ≤ ln3 (lTs L) + ln1 (lPa L) + (lQu L).length + (lPd L).length + 1
        omega
    · rw [if_neg c1] at e
      by_cases c2 : 0 < lOp L
      · rw [if_pos c2] at e
        by_cases c3 : tkK q = 41
        · rw [if_pos c3] at e
          cases e
          obtain ⟨i1, i2, i3, i4, i5⟩ := out_ok 1 (Nat.le_refl _) h1 h2
          obtain ⟨r, hr⟩ := out_1 rfl h1 h2 (by omega)
          rw [hr] at i1 i2 i3 i5
          refine ⟨fun _ => ⟨?_, ?_, ?_, by show lOp L - 1 ≤ 6; omega, h5, h6, h7, h8, (fun z => by cases z)⟩, (fun z => by cases z), ?_⟩
          · show okp (out9 1 (lQu L) (lPd L)).2.tail
            rw [hr]
            exact i1.2
          · show Pre _ 0 (ops (out9 1 (lQu L) (lPd L)).2.tail + 1)
            rw [hr]
            have i2 : Pre (out9 1 (lQu L) (lPd L)).1 0 (0 + ops r + 1) := i2
            rw [Nat.zero_add] at i2
            exact i2
          · show prs (out9 1 (lQu L) (lPd L)).2.tail = lOp L - 1
            rw [hr]
            have i3 : 1 + prs r = prs (lPd L) := i3
            show prs r = _
            omega
          · show ln3 (lTs L) + ln1 (lPa L) + (out9 1 (lQu L) (lPd L)).1.length + (out9 1 (lQu L) (lPd L)).2.tail.length ≤ ln3 (lTs L) + ln1 (lPa L) + (lQu L).length + (lPd L).length + 1
            rw [hr]
            have i5 : (out9 1 (lQu L) (lPd L)).1.length + (r.length + 1) = (lQu L).length + (lPd L).length := i5
            show _ + _ + _ + r.length ≤ _
            omega
        · rw [if_neg c3] at e
          cases e
      · rw [if_neg c2] at e
        by_cases c3 : tkK q = eop (lPt L)
        · rw [if_pos c3] at e
          cases e
          obtain ⟨j1, j2, j3, j4⟩ := lend_wf h0 hw (by omega)
          refine ⟨fun z => j1 (of_decide_eq_false z), fun z => ?_, ?_⟩
          · have z := of_decide_eq_true z
            obtain ⟨k1, k2, k3⟩ := j2 z
            rw [k2]
            refine ⟨k1, ?_, h8⟩
            rcases h6 with ⟨_, _, p3⟩ | ⟨p1, _, _⟩ <;> omega
          · rw [j3, j4]
            exact Nat.le_succ _
        · rw [if_neg c3] at e
          cases e
