/-! A TEXT, TOKEN BY TOKEN, apart from cells -/
def up2 {α : Type} (f : Nat → Nat → α) (a j : Nat) (v : α) : Nat → Nat → α := fun b i => if b = a ∧ i = j then v else f b i
theorem up_eq {α : Type} {f : Nat → Nat → α} {a j : Nat} {v : α} : up2 f a j v a j = v := if_pos ⟨rfl, rfl⟩
theorem up_ne {α : Type} {f : Nat → Nat → α} {a j : Nat} {v : α} {b i : Nat} (e : ¬ (b = a ∧ i = j)) : up2 f a j v b i = f b i := if_neg e
/-- numbers (0: roles, listeners, reallies, crackle, quiet, seed; 1 knows, 2 fame, 3 known, 4 needed, 5 belief, 6 really), names (0 roles', 1 listeners'), laws, the first flaw and its place -/
abbrev RT : Type := (Nat → Nat → Nat) × (Nat → Nat → List Nat) × (Nat → Lw) × (Nat × Nat)
def tX (A : RT) : Nat → Nat → Nat := A.1
def tN (A : RT) : Nat → Nat → List Nat := A.2.1
def tW (A : RT) : Nat → Lw := A.2.2.1
def tF (A : RT) : Nat × Nat := A.2.2.2
def sX (A : RT) (a j v : Nat) : RT := (up2 (tX A) a j v, tN A, tW A, tF A)
def sN (A : RT) (a j : Nat) (l : List Nat) : RT := (tX A, up2 (tN A) a j l, tW A, tF A)
def sWl (A : RT) (k : Nat) (w : Lw) : RT := (tX A, tN A, (fun i => if i = k then w else tW A i), tF A)
/-- a flaw noted: the first one counts -/
def nt (A : RT) (c p : Nat) : RT := if (tF A).1 = 0 then (tX A, tN A, tW A, (c, p)) else A
theorem nt_X {A : RT} {c p : Nat} : tX (nt A c p) = tX A := by unfold nt; split <;> rfl
theorem nt_N {A : RT} {c p : Nat} : tN (nt A c p) = tN A := by unfold nt; split <;> rfl
theorem nt_W {A : RT} {c p : Nat} : tW (nt A c p) = tW A := by unfold nt; split <;> rfl
theorem nt_F {A : RT} {c p : Nat} : tF (nt A c p) = if (tF A).1 = 0 then (c, p) else tF A := by unfold nt; split <;> rfl
/-- the first one below n -/
def fnd (P : Nat → Bool) : Nat → Option Nat
  | 0 => none
  | n + 1 => match fnd P n with
    | some r => some r
    | none => if P n then some n else none
theorem fnd_n {P : Nat → Bool} : ∀ {n : Nat}, (∀ q, q < n → P q = false) → fnd P n = none
  | 0, _ => rfl
  | n + 1, h => by
    unfold fnd
    rw [fnd_n (fun q hq => h q (by omega))]
    dsimp only
    rw [h n (by omega)]
    rfl
theorem fnd_s {P : Nat → Bool} {r : Nat} (hp : P r = true) (h : ∀ q, q < r → P q = false) : ∀ {n : Nat}, r < n → fnd P n = some r
  | 0, hr => absurd hr (Nat.not_lt_zero _)
  | n + 1, hr => by
    unfold fnd
    by_cases e : r = n
    · rw [← e, fnd_n h]
      dsimp only
      rw [hp]
      rfl
    · rw [fnd_s hp h (n := n) (by omega)]
theorem fnd_c {P : Nat → Bool} : ∀ (n : Nat), (fnd P n = none ∧ ∀ q, q < n → P q = false) ∨ (∃ r, fnd P n = some r ∧ r < n ∧ P r = true ∧ ∀ q, q < r → P q = false)
  | 0 => Or.inl ⟨rfl, fun q hq => absurd hq (Nat.not_lt_zero _)⟩
  | n + 1 => by
    rcases fnd_c (P := P) n with ⟨e, h⟩ | ⟨r, e, h1, h2, h3⟩
    · cases hp : P n with
      | true => exact Or.inr ⟨n, fnd_s hp h (by omega), by omega, hp, h⟩
      | false =>
        have : ∀ q, q < n + 1 → P q = false := fun q hq => by
          by_cases z : q = n
          · rw [z]
            exact hp
          · exact h q (by omega)
        exact Or.inl ⟨fnd_n this, this⟩
    · exact Or.inr ⟨r, fnd_s h2 h3 (by omega), by omega, h2, h3⟩
def rN9 (A : RT) (l : List Nat) : Option Nat := fnd (fun r => decide (tN A 0 r = l)) (tX A 0 0)
def lN9 (A : RT) (l : List Nat) : Option Nat := fnd (fun r => decide (tN A 1 r = l)) (tX A 0 1)
/-- what is due -/
def fm (tl st : Nat) : Nat := if tl = 0 then (if st = 0 then 22 else if st ≤ 2 then 23 else 59) else if tl = 1 then (if st = 0 then 22 else if st ≤ 3 then 23 else 59) else if tl = 2 then (if st ≤ 1 then 22 else 59) else if st = 0 then 23 else 59
def lo9 (tl : Nat) : Nat := if tl = 8 then 1 else 0
def hi9 (tl st : Nat) : Nat := if tl = 0 then (if st = 1 then 255 else 9) else if tl = 1 then (if st < 3 then 255 else 99) else if tl = 7 then 100 else if tl = 8 then 99 else 9999
def fa9 (tl st : Nat) : Nat := if tl = 0 then st else if tl = 1 then st + 2 else 0
def fj9 (A : RT) (tl : Nat) : Nat := if tl = 0 then tX A 0 0 - 1 else if tl = 1 then tX A 0 1 - 1 else tl - 4
def num (A : RT) (tl st v p : Nat) : RT := sX (if v < lo9 tl ∨ hi9 tl st < v then nt A 5 p else A) (fa9 tl st) (fj9 A tl) v
/-- a new role or listener -/
def nw9 (A : RT) (k : Nat) (l : List Nat) (p : Nat) : RT := sX (sN (if rN9 A l = none ∧ lN9 A l = none then A else nt A 3 p) k (tX A 0 k) l) 0 k (tX A 0 k + 1)
def re1 (A : RT) (l : List Nat) (p : Nat) : RT := if lN9 A l = none then nt A 4 p else A
def re2 (A : RT) (o : Option Nat) (l : List Nat) (p : Nat) : RT :=
  match rN9 A l, o with
  | none, _ => sX (nt A 4 p) 0 2 (tX A 0 2 + 1)
  | some _, none => sX A 0 2 (tX A 0 2 + 1)
  | some r, some o => sX (sX (if (tX A 6 o).testBit r then nt A 3 p else A) 0 2 (tX A 0 2 + 1)) 6 o (tX A 6 o ||| 2 ^ r)
/-- text so far; which tell (10: none); step; whose really; a law's state -/
abbrev MZ : Type := RT × Nat × Nat × Option Nat × Option LZ
def bd9 (A : RT) : MZ := (A, 10, 0, none, none)
def fulB (A : RT) (k : Nat) : Bool := (k == 0 && tX A 0 0 == 6) || (k == 1 && tX A 0 1 == 6) || (k == 2 && tX A 0 2 == 6)
def stp : MZ → Tk → Nat × MZ
  | (A, tl, st, rl, lz), q =>
    if tl = 10 then
      if 9 < tkK q then (1, (A, tl, st, rl, lz)) else (if fulB A (tkK q) = true then 2 else 0, (A, tkK q, 0, none, none))
    else if 3 ≤ tl ∧ tl < 7 then
      match lz with
      | none => if tkK q = 61 then (0, (A, tl, st, rl, some LZ0)) else (1, (A, tl, st, rl, lz))
      | some L => ((lst L q).1, if (lst L q).2.1 = true then bd9 (sWl A (tl - 3) (some (lTs (lst L q).2.2, lQu (lst L q).2.2))) else (A, tl, st, rl, some (lst L q).2.2))
    else if tkK q ≠ fm tl st then (1, (A, tl, st, rl, lz))
    else if tkK q = 59 then (0, bd9 A)
    else if tkK q = 23 then (0, (num A tl st (tkV q) (tkP q), tl, st + 1, rl, none))
    else if tl = 2 then (if st = 0 then (0, (re1 A (tkN q) (tkP q), tl, st + 1, lN9 A (tkN q), none)) else (0, (re2 A rl (tkN q) (tkP q), tl, st + 1, rl, none)))
    else (0, (nw9 A tl (tkN q) (tkP q), tl, st + 1, rl, none))
/-- what becomes of a text: the FAULT, its place, the text -/
def runF (τ : Nat → Tk) : Nat → MZ → Nat → Nat × Nat × RT
  | 0, M, i => (2, tkP (τ i), M.1)
  | f + 1, M, i => if M.2.1 = 10 ∧ tkK (τ i) = 98 then ((tF M.1).1, (tF M.1).2, M.1) else if (stp M (τ i)).1 ≠ 0 then ((stp M (τ i)).1, tkP (τ i), M.1) else if i = 400 then (2, tkP (τ i), M.1) else runF τ f (stp M (τ i)).2 (i + 1)
def run (τ : Nat → Tk) (M : MZ) (i : Nat) : Nat × Nat × RT := runF τ (401 - i) M i
theorem run_u {τ : Nat → Tk} {M : MZ} {i : Nat} (hi : i ≤ 400) : run τ M i = if M.2.1 = 10 ∧ tkK (τ i) = 98 then ((tF M.1).1, (tF M.1).2, M.1) else if (stp M (τ i)).1 ≠ 0 then ((stp M (τ i)).1, tkP (τ i), M.1) else if i = 400 then (2, tkP (τ i), M.1) else run τ (stp M (τ i)).2 (i + 1) := by
  unfold run
  rw [show 401 - i = (401 - (i + 1)) + 1 from by omega]
  rfl
theorem run_e {τ : Nat → Tk} {A : RT} {i : Nat} (hi : i ≤ 400) (hk : tkK (τ i) = 98) : run τ (bd9 A) i = ((tF A).1, (tF A).2, A) := by
  rw [run_u hi, if_pos ⟨rfl, hk⟩]
  rfl
theorem run_x {τ : Nat → Tk} {M M' : MZ} {i c : Nat} (hi : i ≤ 400) (hk : ¬ (M.2.1 = 10 ∧ tkK (τ i) = 98)) (e : stp M (τ i) = (c, M')) (hc : c ≠ 0) : run τ M i = (c, tkP (τ i), M.1) := by
  rw [run_u hi, if_neg hk, e, if_pos hc]
theorem run_r {τ : Nat → Tk} {M M' : MZ} {i : Nat} (hi : i = 400) (hk : ¬ (M.2.1 = 10 ∧ tkK (τ i) = 98)) (e : stp M (τ i) = (0, M')) : run τ M i = (2, tkP (τ i), M.1) := by
  rw [run_u (by omega), if_neg hk, e, if_neg (fun z => z rfl), if_pos hi]
theorem run_s {τ : Nat → Tk} {M M' : MZ} {i : Nat} (hi : i < 400) (hk : ¬ (M.2.1 = 10 ∧ tkK (τ i) = 98)) (e : stp M (τ i) = (0, M')) : run τ M i = run τ M' (i + 1) := by
  rw [run_u (by omega), if_neg hk, e, if_neg (fun z => z rfl), if_neg (by omega)]
theorem stp_w {A : RT} {tl st : Nat} {rl : Option Nat} {L : LZ} {q : Tk} (h1 : 3 ≤ tl) (h2 : tl < 7) : stp (A, tl, st, rl, some L) q = ((lst L q).1, if (lst L q).2.1 = true then bd9 (sWl A (tl - 3) (some (lTs (lst L q).2.2, lQu (lst L q).2.2))) else (A, tl, st, rl, some (lst L q).2.2)) := by
  unfold stp
  dsimp only
  rw [if_neg (by omega), if_pos ⟨h1, h2⟩]
theorem stp_w0 {A : RT} {tl st : Nat} {rl : Option Nat} {q : Tk} (h1 : 3 ≤ tl) (h2 : tl < 7) : stp (A, tl, st, rl, none) q = if tkK q = 61 then (0, (A, tl, st, rl, some LZ0)) else (1, (A, tl, st, rl, none)) := by
  unfold stp
  dsimp only
  rw [if_neg (by omega), if_pos ⟨h1, h2⟩]
theorem stp_o {A : RT} {st : Nat} {rl : Option Nat} {lz : Option LZ} {q : Tk} : stp (A, 10, st, rl, lz) q = if 9 < tkK q then (1, (A, 10, st, rl, lz)) else (if fulB A (tkK q) = true then 2 else 0, (A, tkK q, 0, none, none)) := by
  unfold stp
  dsimp only
  rw [if_pos rfl]
theorem stp_f {A : RT} {tl st : Nat} {rl : Option Nat} {lz : Option LZ} {q : Tk} (h1 : tl ≠ 10) (h2 : ¬ (3 ≤ tl ∧ tl < 7)) : stp (A, tl, st, rl, lz) q = if tkK q ≠ fm tl st then (1, (A, tl, st, rl, lz)) else if tkK q = 59 then (0, bd9 A) else if tkK q = 23 then (0, (num A tl st (tkV q) (tkP q), tl, st + 1, rl, none)) else if tl = 2 then (if st = 0 then (0, (re1 A (tkN q) (tkP q), tl, st + 1, lN9 A (tkN q), none)) else (0, (re2 A rl (tkN q) (tkP q), tl, st + 1, rl, none))) else (0, (nw9 A tl (tkN q) (tkP q), tl, st + 1, rl, none)) := by
  unfold stp
  dsimp only
  rw [if_neg h1, if_neg h2]
/-- a law runs as its fate says -/
theorem run_law {τ : Nat → Tk} {A : RT} {tl st : Nat} {rl : Option Nat} (h1 : 3 ≤ tl) (h2 : tl < 7) : ∀ (f i : Nat) (L : LZ), i ≤ 400 → f = 401 - i → ((fateF τ f L i).1 ≠ 0 → run τ (A, tl, st, rl, some L) i = ((fateF τ f L i).1, (fateF τ f L i).2.1, A)) ∧ (∀ L' i', fateF τ f L i = (0, 0, L', i') → run τ (A, tl, st, rl, some L) i = run τ (bd9 (sWl A (tl - 3) (some (lTs L', lQu L')))) i')
  | 0, i, L, hi, hf => by omega
  | f + 1, i, L, hi, hf => by
    obtain ⟨r, hr⟩ : ∃ r, r = lst L (τ i) := ⟨_, rfl⟩
    have es := stp_w (A := A) (st := st) (rl := rl) (L := L) (q := τ i) h1 h2
    have hk : ¬ ((A, tl, st, rl, some L) : MZ).2.1 = 10 := by show ¬ tl = 10; omega
    have hk : ¬ (((A, tl, st, rl, some L) : MZ).2.1 = 10 ∧ tkK (τ i) = 98) := fun z => hk z.1
    rw [← hr] at es
    unfold fateF
    rw [← hr]
    obtain ⟨c, ov, L2⟩ := r
    dsimp only at es ⊢
    by_cases c0 : c ≠ 0
    · rw [if_pos c0]
      exact ⟨fun _ => run_x hi hk es c0, fun L' i' z => absurd (Prod.mk.inj z).1 c0⟩
    · rw [if_neg c0]
      have c0 : c = 0 := Decidable.not_not.mp c0
      subst c0
      by_cases i4 : i = 400
      · rw [if_pos i4]
        exact ⟨fun _ => run_r i4 hk es, fun L' i' z => absurd (Prod.mk.inj z).1 (by decide)⟩
      · rw [if_neg i4]
        cases ov with
        | true =>
          rw [if_pos rfl] at es ⊢
          refine ⟨fun z => absurd rfl z, fun L' i' z => ?_⟩
          cases z
          exact run_s (by omega) hk es
        | false =>
          rw [if_neg (by decide)] at es ⊢
          obtain ⟨y1, y2⟩ := run_law (A := A) (st := st) (rl := rl) h1 h2 f (i + 1) L2 (by omega) (by omega)
          have e2 := run_s (by omega) hk es
          exact ⟨fun z => by rw [e2]; exact y1 z, fun L' i' z => by rw [e2]; exact y2 L' i' z⟩
/-- the same from its word on -/
theorem run_lawF {τ : Nat → Tk} {A : RT} {tl j : Nat} (h1 : 3 ≤ tl) (h2 : tl < 7) (hj : j ≤ 400) : ((lawF τ j).1 ≠ 0 → ∃ B, run τ (A, tl, 0, none, none) j = ((lawF τ j).1, (lawF τ j).2.1, B)) ∧ (∀ L' i', lawF τ j = (0, 0, L', i') → run τ (A, tl, 0, none, none) j = run τ (bd9 (sWl A (tl - 3) (some (lTs L', lQu L')))) i') := by
  have es := stp_w0 (A := A) (st := 0) (rl := none) (q := τ j) h1 h2
  have hk : ¬ (((A, tl, 0, none, none) : MZ).2.1 = 10 ∧ tkK (τ j) = 98) := fun z => by
    have z : tl = 10 := z.1
    omega
  unfold lawF
  by_cases c1 : tkK (τ j) ≠ 61
  · rw [if_pos c1]
    rw [if_neg c1] at es
    exact ⟨fun _ => ⟨A, run_x hj hk es Nat.one_ne_zero⟩, fun L' i' z => absurd (Prod.mk.inj z).1 (by decide)⟩
  · rw [if_neg c1]
    have c1 : tkK (τ j) = 61 := Decidable.not_not.mp c1
    rw [if_pos c1] at es
    by_cases c2 : j = 400
    · rw [if_pos c2]
      exact ⟨fun _ => ⟨A, run_r c2 hk es⟩, fun L' i' z => absurd (Prod.mk.inj z).1 (by decide)⟩
    · rw [if_neg c2]
      have e2 := run_s (by omega) hk es
      obtain ⟨y1, y2⟩ := run_law (A := A) (st := 0) (rl := none) (τ := τ) h1 h2 (401 - (j + 1)) (j + 1) LZ0 (by omega) rfl
      exact ⟨fun z => ⟨A, by rw [e2]; exact y1 z⟩, fun L' i' z => by rw [e2]; exact y2 L' i' z⟩
