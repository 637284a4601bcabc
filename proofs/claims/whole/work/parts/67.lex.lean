/-! TOKENS: what they are, apart from cells -/
def lt9 (c : Nat) : Bool := decide (97 ≤ c ∧ c ≤ 122)
def dg9 (c : Nat) : Bool := decide (48 ≤ c ∧ c ≤ 57)
def bl9 (c : Nat) : Bool := decide (c = 9 ∨ c = 10 ∨ c = 13 ∨ c = 32)
theorem by_all : ∀ n, n < 256 → byN n &&& 255 = nI n ∧ (byN n < 97 ∨ 122 < byN n ↔ lt9 n = false) ∧ (byN n < 48 ∨ 57 < byN n ↔ dg9 n = false) ∧ (byN n = 9 ∨ byN n = 10 ∨ byN n = 13 ∨ byN n = 32 ↔ bl9 n = true) ∧ (lt9 n = true → byN n = nI n) ∧ (dg9 n = true → byN n = nI n) ∧ (byN n).toInt8.toInt32 = byN n := by decide +kernel
theorem nb_all : ∀ n, n < 256 → (nI n < 97 ∨ 122 < nI n ↔ lt9 n = false) ∧ (nI n < 48 ∨ 57 < nI n ↔ dg9 n = false) ∧ (nI n = 9 ∨ nI n = 10 ∨ nI n = 13 ∨ nI n = 32 ↔ bl9 n = true) := by decide +kernel
/-- where a run ends -/
def rn (P : Nat → Bool) (B : Nat → Nat) (n : Nat) : Nat → Nat → Nat
  | 0, p => p
  | f + 1, p => if p < n ∧ P (B p) = true then rn P B n f (p + 1) else p
def rE (P : Nat → Bool) (B : Nat → Nat) (n p : Nat) : Nat := rn P B n (n - p) p
theorem rE_s {P : Nat → Bool} {B : Nat → Nat} {n p : Nat} (h : p < n) (hp : P (B p) = true) : rE P B n p = rE P B n (p + 1) := by
  unfold rE
  rw [show n - p = (n - (p + 1)) + 1 from by omega]
  show (if p < n ∧ P (B p) = true then _ else _) = _
  rw [if_pos ⟨h, hp⟩]
theorem rE_0 {P : Nat → Bool} {B : Nat → Nat} {n p : Nat} (h : ¬ (p < n ∧ P (B p) = true)) : rE P B n p = p := by
  unfold rE
  cases e : n - p with
  | zero => rfl
  | succ f =>
    show (if p < n ∧ P (B p) = true then _ else _) = _
    rw [if_neg h]
theorem rn_ge (P : Nat → Bool) (B : Nat → Nat) (n : Nat) : ∀ f p, p ≤ rn P B n f p ∧ (p ≤ n → rn P B n f p ≤ n)
  | 0, p => ⟨Nat.le_refl _, fun h => h⟩
  | f + 1, p => by
    show p ≤ (if p < n ∧ P (B p) = true then _ else _) ∧ (p ≤ n → (if p < n ∧ P (B p) = true then _ else _) ≤ n)
    split
    · next z =>
      obtain ⟨h1, h2⟩ := rn_ge P B n f (p + 1)
      exact ⟨by omega, fun _ => h2 (by omega)⟩
    · exact ⟨Nat.le_refl _, fun h => h⟩
theorem rE_ge (P : Nat → Bool) (B : Nat → Nat) (n p : Nat) : p ≤ rE P B n p ∧ (p ≤ n → rE P B n p ≤ n) := rn_ge P B n _ p
theorem rE_in (P : Nat → Bool) (B : Nat → Nat) (n : Nat) : ∀ f p, n - p ≤ f → ∀ i, p ≤ i → i < rE P B n p → i < n ∧ P (B i) = true
  | 0, p, hf, i, h1, h2 => by
    rw [rE_0 (by omega)] at h2
    omega
  | f + 1, p, hf, i, h1, h2 => by
    by_cases z : p < n ∧ P (B p) = true
    · by_cases e : i = p
      · rw [e]
        exact z
      · rw [rE_s z.1 z.2] at h2
        exact rE_in P B n f (p + 1) (by omega) i (by omega) h2
    · rw [rE_0 z] at h2
      omega
theorem rE_end {P : Nat → Bool} {B : Nat → Nat} {n : Nat} : ∀ f p, n - p ≤ f → ¬ (rE P B n p < n ∧ P (B (rE P B n p)) = true)
  | 0, p, hf => by
    rw [rE_0 (by omega)]
    omega
  | f + 1, p, hf => by
    by_cases z : p < n ∧ P (B p) = true
    · rw [rE_s z.1 z.2]
      exact rE_end f (p + 1) (by omega)
    · rw [rE_0 z]
      exact z
/-- letters, and their two codes -/
def lls (B : Nat → Nat) (p : Nat) : Nat → List Nat
  | 0 => []
  | m + 1 => lls B p m ++ [B (p + m) - 96]
def cod (R : Nat) : List Nat → Nat := List.foldl (fun a x => a * R + x) 0
theorem cod_snoc (R : Nat) (l : List Nat) (x : Nat) : cod R (l ++ [x]) = cod R l * R + x := by
  unfold cod
  rw [List.foldl_append]
  rfl
def okl (l : List Nat) : Prop := ∀ x ∈ l, 1 ≤ x ∧ x ≤ 26
theorem cod_inj {R : Nat} (hR : 27 ≤ R) : ∀ (a b : List Nat), okl a → okl b → cod R a = cod R b → a = b := by
  have key : ∀ (n : Nat) (a b : List Nat), a.length ≤ n → okl a → okl b → cod R a = cod R b → a = b := by
    intro n
    induction n with
    | zero =>
      intro a b hn ha hb e
      have : a = [] := List.eq_nil_of_length_eq_zero (by omega)
      subst this
      rcases List.eq_nil_or_concat b with z | ⟨b', y, z⟩
      · exact z.symm
      · rw [List.concat_eq_append] at z
        subst z
        rw [cod_snoc] at e
        have := hb y (by simp)
        have e : 0 = cod R b' * R + y := e
        omega
    | succ n ih =>
      intro a b hn ha hb e
      rcases List.eq_nil_or_concat a with z | ⟨a', x, z⟩
      · subst z
        rcases List.eq_nil_or_concat b with z | ⟨b', y, z⟩
        · exact z.symm
        · rw [List.concat_eq_append] at z
          subst z
          rw [cod_snoc] at e
          have := hb y (by simp)
          have e : 0 = cod R b' * R + y := e
          omega
      · rw [List.concat_eq_append] at z
        subst z
        have hx := ha x (by simp)
        rcases List.eq_nil_or_concat b with z | ⟨b', y, z⟩
        · subst z
          rw [cod_snoc] at e
          have e : cod R a' * R + x = 0 := e
          omega
        · rw [List.concat_eq_append] at z
          subst z
          have hy := hb y (by simp)
          rw [cod_snoc, cod_snoc] at e
          have e1 : (cod R a' * R + x) % R = (cod R b' * R + y) % R := by rw [e]
          rw [Nat.mul_comm, Nat.mul_add_mod, Nat.mod_eq_of_lt (by omega), Nat.mul_comm, Nat.mul_add_mod, Nat.mod_eq_of_lt (by omega)] at e1
          subst e1
          have e2 : cod R a' * R = cod R b' * R := by omega
          have e3 : cod R a' = cod R b' := Nat.eq_of_mul_eq_mul_right (by omega) e2
          rw [ih a' b' (by simp at hn; omega) (fun x hx => ha x (by simp [hx])) (fun x hx => hb x (by simp [hx])) e3]
  intro a b
  exact key a.length a b (Nat.le_refl _)
theorem cod_lt {R : Nat} (hR : 27 ≤ R) : ∀ (m : Nat) (B : Nat → Nat) (p : Nat), okl (lls B p m) → cod R (lls B p m) < R ^ m
  | 0, _, _, _ => by
    show (0 : Nat) < R ^ 0
    rw [Nat.pow_zero]
    decide
  | m + 1, B, p, h => by
    have ih := cod_lt hR m B p (fun x hx => h x (by unfold lls; simp [hx]))
    have hx := h (B (p + m) - 96) (by unfold lls; simp)
    unfold lls
    rw [cod_snoc, Nat.pow_succ]
    have : (cod R (lls B p m) + 1) * R ≤ R ^ m * R := Nat.mul_le_mul_right _ ih
    rw [Nat.add_mul, Nat.one_mul] at this
    omega
theorem lls_len (B : Nat → Nat) (p : Nat) : ∀ m, (lls B p m).length = m
  | 0 => rfl
  | m + 1 => by
    unfold lls
    rw [List.length_append, lls_len B p m]
    rfl
theorem lls_ok {B : Nat → Nat} {p : Nat} : ∀ {m : Nat}, (∀ i, i < m → lt9 (B (p + i)) = true) → okl (lls B p m)
  | 0, _ => fun x hx => by cases hx
  | m + 1, h => fun x hx => by
    unfold lls at hx
    rw [List.mem_append] at hx
    rcases hx with hx | hx
    · exact lls_ok (fun i hi => h i (by omega)) x hx
    · rw [List.mem_singleton] at hx
      have := of_decide_eq_true (h m (by omega))
      omega
/-- the words -/
def wl : List (List Nat) := [[18, 15, 12, 5], [12, 9, 19, 20, 5, 14, 5, 18], [18, 5, 1, 12, 12, 25], [19, 1, 25, 19], [20, 18, 21, 19, 20, 19], [13, 15, 22, 5, 19], [18, 9, 14, 7, 19], [3, 18, 1, 3, 11, 12, 5], [17, 21, 9, 5, 20], [19, 5, 5, 4], [9, 6], [20, 8, 5, 14], [5, 12, 19, 5], [6, 1, 13, 5], [20, 9, 13, 5, 19], [6, 1, 3, 20], [5, 22, 5, 14, 9, 14, 7], [2, 5, 12, 9, 5, 6], [11, 14, 15, 23, 14], [16, 1, 18, 20, 19], [23, 8, 9, 3, 8], [19, 1, 13, 5]]
theorem words_C : ∀ i, i < 22 → gL hI 4 i = lN (cod 32 (wl.getD i [])) := by decide +kernel
theorem words_M : ∀ i, i < 22 → gL hI 306 i = lN (cod 27 (wl.getD i [])) := by decide +kernel
theorem wl_ok : ∀ i, i < 22 → (wl.getD i []).length ≤ 8 ∧ (∀ x ∈ wl.getD i [], 1 ≤ x ∧ x ≤ 26) ∧ cod 32 (wl.getD i []) < 2 ^ 41 ∧ cod 27 (wl.getD i []) < 2 ^ 41 := by decide +kernel
theorem wl_inj : ∀ i, i < 22 → ∀ j, j < 22 → wl.getD i [] = wl.getD j [] → i = j := by decide +kernel
/-- which word, or a name -/
def wfind (l : List Nat) : Nat → Nat → Nat
  | 0, i => i
  | f + 1, i => if wl.getD i [] = l then i else wfind l f (i + 1)
def wix (l : List Nat) : Nat := wfind l 22 0
/-- a number's digits -/
def dvl (B : Nat → Nat) (p : Nat) : Nat → Nat
  | 0 => 0
  | m + 1 => 10 * dvl B p m + (B (p + m) - 48)
def sg9 (c : Nat) : Bool := decide (c = 59 ∨ c = 61 ∨ c = 43 ∨ c = 45 ∨ c = 42 ∨ c = 47 ∨ c = 60 ∨ c = 40 ∨ c = 41)
/-- a token: its kind (0 .. 21 a word, 22 a name, 23 a number, a sign's byte, 99 none, 98 the end), its place, its number, its letters; where it ends -/
abbrev Tk : Type := Nat × Nat × Nat × List Nat
def tkK (t : Tk) : Nat := t.1
def tkP (t : Tk) : Nat := t.2.1
def tkV (t : Tk) : Nat := t.2.2.1
def tkN (t : Tk) : List Nat := t.2.2.2
/-- the token at a place that isn't blank, and where it ends -/
def tkAt (B : Nat → Nat) (n q : Nat) : Tk × Nat :=
  if lt9 (B q) then
    let e := rE lt9 B n q
    ((if 8 < e - q then 99 else wix (lls B q (e - q)), q, 0, lls B q (e - q)), e)
  else if dg9 (B q) then
    let e := rE dg9 B n q
    ((if 4 < e - q then 99 else 23, q, dvl B q (e - q), []), e)
  else ((if sg9 (B q) then B q else 99, q, 0, []), q + 1)
/-- the next one from a place on -/
def tkNx (B : Nat → Nat) (n p : Nat) : Option (Tk × Nat) := if rE bl9 B n p < n then some (tkAt B n (rE bl9 B n p)) else none
/-- where the i-th one is looked for -/
def pos (B : Nat → Nat) (n : Nat) : Nat → Nat
  | 0 => 0
  | i + 1 => match tkNx B n (pos B n i) with
    | some (_, e) => e
    | none => pos B n i
/-- the i-th token; the end behind the last one -/
def tk (B : Nat → Nat) (n i : Nat) : Tk := match tkNx B n (pos B n i) with
  | some (t, _) => t
  | none => (98, n, 0, [])
def soC (k : Nat) : Int32 := if k = 99 then -1 else nI k
def soM (k : Nat) : Int32 := if k < 22 then nI (20 + k) else if k = 22 then 1 else if k = 23 then 2 else if k = 59 then 4 else if k = 61 then 5 else if k = 40 then 6 else if k = 41 then 7 else if k = 43 then 8 else if k = 45 then 9 else if k = 42 then 10 else if k = 60 then 13 else if k = 47 then 15 else if k = 98 then 0 else 3
theorem tkAt_end {B : Nat → Nat} {n q : Nat} (hq : q < n) : q < (tkAt B n q).2 ∧ (tkAt B n q).2 ≤ n := by
  unfold tkAt
  split
  · next z =>
    dsimp only
    have h1 := rE_ge lt9 B n (q + 1)
    rw [rE_s hq z]
    exact ⟨by omega, h1.2 (by omega)⟩
  · split
    · next z =>
      dsimp only
      have h1 := rE_ge dg9 B n (q + 1)
      rw [rE_s hq z]
      exact ⟨by omega, h1.2 (by omega)⟩
    · dsimp only
      omega
theorem tkNx_end {B : Nat → Nat} {n p : Nat} {t : Tk} {e : Nat} (h : tkNx B n p = some (t, e)) : p < e ∧ e ≤ n := by
  unfold tkNx at h
  split at h
  · next z =>
    have h1 := (rE_ge bl9 B n p).1
    have h2 := tkAt_end (B := B) z
    have e2 := Option.some.inj h
    rw [e2] at h2
    exact ⟨by omega, h2.2⟩
  · cases h
theorem pos_le (B : Nat → Nat) (n : Nat) : ∀ i, pos B n i ≤ n
  | 0 => Nat.zero_le _
  | i + 1 => by
    have := pos_le B n i
    show (match tkNx B n (pos B n i) with | some (_, e) => e | none => pos B n i) ≤ n
    cases e : tkNx B n (pos B n i) with
    | none => exact this
    | some q =>
      obtain ⟨t, e2⟩ := q
      exact (tkNx_end e).2
theorem wfind_le : ∀ (l : List Nat) (f i : Nat), wfind l f i ≤ i + f
  | _, 0, i => Nat.le_refl _
  | l, f + 1, i => by
    unfold wfind
    split
    · omega
    · have := wfind_le l f (i + 1)
      omega
theorem wix_le (l : List Nat) : wix l ≤ 22 := wfind_le l 22 0
theorem tk_kind {B : Nat → Nat} {n q : Nat} : (tkAt B n q).1.1 = 99 ∨ (tkAt B n q).1.1 ≤ 23 ∨ sg9 (tkAt B n q).1.1 = true := by
  unfold tkAt
  split
  · dsimp only
    split
    · exact Or.inl rfl
    · have := wix_le (lls B q (rE lt9 B n q - q))
      exact Or.inr (Or.inl (by omega))
  · split
    · dsimp only
      split
      · exact Or.inl rfl
      · exact Or.inr (Or.inl (Nat.le_refl _))
    · dsimp only
      split
      · next z => exact Or.inr (Or.inr z)
      · exact Or.inl rfl
