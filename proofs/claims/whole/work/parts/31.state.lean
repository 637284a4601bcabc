/-! WHAT A TEXT AND A NIGHT ARE, apart from cells; how class and reference hold them -/
/-- roles, listeners, knows, fame, needed, really, crackle, quiet, seed, laws -/
abbrev AT : Type := Nat × Nat × (Nat → Nat) × (Nat → Nat) × (Nat → Nat) × (Nat → Nat) × Nat × Nat × Nat × (Nat → Lw)
def nR (T : AT) : Nat := T.1
def nL9 (T : AT) : Nat := T.2.1
def kw (T : AT) : Nat → Nat := T.2.2.1
def fa (T : AT) : Nat → Nat := T.2.2.2.1
def ne9 (T : AT) : Nat → Nat := T.2.2.2.2.1
def re9 (T : AT) : Nat → Nat := T.2.2.2.2.2.1
def cr9 (T : AT) : Nat := T.2.2.2.2.2.2.1
def qt9 (T : AT) : Nat := T.2.2.2.2.2.2.2.1
def sd9 (T : AT) : Nat := T.2.2.2.2.2.2.2.2.1
def lw9 (T : AT) : Nat → Lw := T.2.2.2.2.2.2.2.2.2
/-- known, belief, heard, quiet; on (bits), evening, announced, rung -/
abbrev AN : Type := (Nat → Nat) × (Nat → Nat) × (Nat → Nat) × (Nat → Nat) × Nat × Nat × Option Nat × Nat
def kn (N : AN) : Nat → Nat := N.1
def be (N : AN) : Nat → Nat := N.2.1
def he (N : AN) : Nat → Nat := N.2.2.1
def qu (N : AN) : Nat → Nat := N.2.2.2.1
def on9 (N : AN) : Nat := N.2.2.2.2.1
def ev9 (N : AN) : Nat := N.2.2.2.2.2.1
def an9 (N : AN) : Option Nat := N.2.2.2.2.2.2.1
def ru9 (N : AN) : Nat := N.2.2.2.2.2.2.2
def wfT (T : AT) : Prop := nR T ≤ 6 ∧ nL9 T ≤ 6 ∧ (∀ r, r < nR T → kw T r < 256 ∧ fa T r < 10) ∧ (∀ l, l < nL9 T → ne9 T l < 256 ∧ re9 T l < 64) ∧ cr9 T ≤ 100 ∧ 1 ≤ qt9 T ∧ qt9 T ≤ 99 ∧ sd9 T ≤ 9999
def wfN (T : AT) (N : AN) : Prop := (∀ i, i < 6 → kn N i < 256 ∧ be N i ≤ 99 ∧ qu N i ≤ 99) ∧ on9 N < 64 ∧ (∀ r, an9 N = some r → r < nR T) ∧ (∀ i, i < 6 → nL9 T ≤ i → kn N i = 0 ∧ (on9 N).testBit i = false) ∧ (∀ i, i < 6 → nR T ≤ i → qu N i = 0)
def anC : Option Nat → Int32
  | none => -1
  | some r => nI r
def anM : Option Nat → Int32
  | none => -2
  | some r => nI r
def txC (h : mh) (t : Nat) (T : AT) : Prop := gI h t 0 = nI (nR T) ∧ gI h t 4 = nI (nL9 T) ∧ (∀ r, r < nR T → gI h (t + 2) r = nI (kw T r) ∧ gI h (t + 3) r = nI (fa T r)) ∧ (∀ l, l < nL9 T → gI h (t + 6) l = nI (ne9 T l) ∧ gI h (t + 8) l = nI (re9 T l)) ∧ gI h t 12 = nI (cr9 T) ∧ gI h t 13 = nI (qt9 T) ∧ gI h t 14 = nI (sd9 T) ∧ ∀ k, k < 4 → lawC h t k (lw9 T k)
def txM (h : mh) (l : Nat) (T : AT) : Prop := gI h 309 l = nI (nR T) ∧ gI h 312 l = nI (nL9 T) ∧ (∀ r, r < nR T → gI h 310 (6 * l + r) = nI (kw T r) ∧ gI h 311 (6 * l + r) = nI (fa T r)) ∧ (∀ o, o < nL9 T → gI h 314 (6 * l + o) = nI (ne9 T o) ∧ gI h 316 (6 * l + o) = nI (re9 T o)) ∧ gI h 318 l = nI (cr9 T) ∧ gI h 319 l = nI (qt9 T) ∧ gI h 320 l = nI (sd9 T) ∧ ∀ k, k < 4 → lawM h l k (lw9 T k)
def ngC (h : mh) (n : Nat) (N : AN) : Prop := (∀ i, i < 6 → gI h (n + 1) i = nI (kn N i) ∧ gI h (n + 2) i = nI (be N i) ∧ gI h (n + 3) i = nI (he N i) ∧ gI h (n + 4) i = nI (qu N i)) ∧ gI h n 4 = nI (on9 N) ∧ gI h n 5 = nI (ev9 N) ∧ gI h n 6 = anC (an9 N) ∧ gI h n 7 = nI (ru9 N)
def ngM (h : mh) (a : Nat) (N : AN) : Prop := (∀ i, i < 6 → gI h a i = nI (he N i) ∧ gI h a (6 + i) = nI (qu N i) ∧ gI h a (12 + i) = nI (kn N i) ∧ gI h a (18 + i) = nI (be N i) ∧ gI h a (24 + i) = if (on9 N).testBit i then 1 else 0) ∧ gI h a 30 = nI (ev9 N) ∧ gI h a 31 = anM (an9 N) ∧ gI h a 32 = nI (ru9 N)
/-- what SAYS looks at -/
def vsS (T : AT) (N : AN) (r f : Nat) : Nat → Int32 := fun i => if i = 0 then nI (fa T r) else if i = 1 then nI (he N r) else if i = 2 then nI f else if i = 3 then nI (ev9 N) else if i = 7 then nI r else 0
/-- what TRUSTS, MOVES, RINGS look at -/
def vsL (T : AT) (N : AN) (o r said : Nat) : Nat → Int32 := fun i => if i = 0 then nI (fa T r) else if i = 1 then nI (he N r) else if i = 3 then nI (ev9 N) else if i = 4 then nI (be N o) else if i = 5 then nI (pop (kn N o) 8) else if i = 6 then nI (pop said 8) else if i = 7 then nI o else if i = 8 then (if (re9 T o).testBit r then 1 else 0) else 0
/-- a row's law depends on its first nine places alone -/
def wLw : Lw → Prop
  | none => True
  | some (ts, e) => wfP e 0 ∧ ∀ q ∈ ts, wfP q.1 0 ∧ wfP q.2.1 0 ∧ wfP q.2.2 0
theorem evP_cg {v w : Nat → Int32} (hv : ∀ i, i < 9 → v i = w i) : ∀ {e : Pf} {d : Nat} {st : List Int32}, wfP e d → evP v e st = evP w e st
  | [], _, _, _ => rfl
  | (k, x) :: e, d, st, hw => by
    unfold evP
    rcases wfP_cons hw with ⟨rfl, _, _, hw'⟩ | ⟨rfl, _, ⟨q, hq, rfl⟩, hw'⟩ | ⟨h2, h5, _, hw'⟩
    · rw [if_pos rfl, if_pos rfl]
      exact evP_cg hv hw'
    · rw [if_neg (show ¬ (1 : Nat) = 0 by decide), if_neg (show ¬ (1 : Nat) = 0 by decide), if_pos rfl, if_pos rfl, nI_clamp (by omega), hv q hq]
      exact evP_cg hv hw'
    · rw [if_neg (by omega), if_neg (by omega), if_neg (by omega), if_neg (by omega)]
      match st with
      | [] => rfl
      | [_] => rfl
      | b :: a :: r =>
        dsimp only
        split
        · rfl
        · exact evP_cg hv hw'
theorem vlP_cg {v w : Nat → Int32} (hv : ∀ i, i < 9 → v i = w i) {e : Pf} (hw : wfP e 0) : vlP v e = vlP w e := by
  unfold vlP
  rw [evP_cg hv hw]
theorem lawv_cg {v w : Nat → Int32} (hv : ∀ i, i < 9 → v i = w i) : ∀ {ts : List (Pf × Pf × Pf)} {e : Pf}, wfP e 0 → (∀ q ∈ ts, wfP q.1 0 ∧ wfP q.2.1 0 ∧ wfP q.2.2 0) → lawv v ts e = lawv w ts e
  | [], e, he, _ => by
    unfold lawv
    rw [vlP_cg hv he]
  | (a, b, c) :: ts, e, he, hq => by
    unfold lawv
    obtain ⟨h1, h2, h3⟩ := hq (a, b, c) List.mem_cons_self
    rw [vlP_cg hv h1, vlP_cg hv h2, vlP_cg hv h3, lawv_cg hv he (fun q h => hq q (List.mem_cons_of_mem _ h))]
theorem vlL_cg {v w : Nat → Int32} (hv : ∀ i, i < 9 → v i = w i) {d : Int32} {A : Lw} (hA : wLw A) : vlL v d A = vlL w d A := by
  match A, hA with
  | none, _ => rfl
  | some (ts, e), ⟨h1, h2⟩ => exact lawv_cg hv h1 h2
theorem prtC_wf {h : mh} {t : Nat} : ∀ {es : List Pf} {p s : Nat}, prtC h t p s es → ∀ e ∈ es, wfP e 0
  | [], _, _, _, _, hq => by cases hq
  | x :: es, p, s, ⟨_, _, _, q4, q5⟩, e, hq => by
    rcases List.mem_cons.mp hq with rfl | hq
    · exact q4
    · exact prtC_wf q5 e hq
theorem flP_mem : ∀ {ts : List (Pf × Pf × Pf)} {e : Pf}, e ∈ flP ts e ∧ ∀ q ∈ ts, q.1 ∈ flP ts e ∧ q.2.1 ∈ flP ts e ∧ q.2.2 ∈ flP ts e
  | [], e => ⟨List.mem_cons_self, fun _ h => by cases h⟩
  | (a, b, c) :: ts, e => by
    obtain ⟨i1, i2⟩ := flP_mem (ts := ts) (e := e)
    unfold flP
    refine ⟨List.mem_cons_of_mem _ (List.mem_cons_of_mem _ (List.mem_cons_of_mem _ i1)), fun q h => ?_⟩
    rcases List.mem_cons.mp h with rfl | h
    · exact ⟨List.mem_cons_self, List.mem_cons_of_mem _ List.mem_cons_self, List.mem_cons_of_mem _ (List.mem_cons_of_mem _ List.mem_cons_self)⟩
    · obtain ⟨j1, j2, j3⟩ := i2 q h
      exact ⟨List.mem_cons_of_mem _ (List.mem_cons_of_mem _ (List.mem_cons_of_mem _ j1)), List.mem_cons_of_mem _ (List.mem_cons_of_mem _ (List.mem_cons_of_mem _ j2)), List.mem_cons_of_mem _ (List.mem_cons_of_mem _ (List.mem_cons_of_mem _ j3))⟩
theorem lawC_wf {h : mh} {t k : Nat} {A : Lw} (hA : lawC h t k A) : wLw A := by
  match A, hA with
  | none, _ => trivial
  | some (ts, e), ⟨_, _, s, _, q⟩ =>
    have hw := prtC_wf q
    obtain ⟨i1, i2⟩ := flP_mem (ts := ts) (e := e)
    exact ⟨hw _ i1, fun q h => ⟨hw _ (i2 q h).1, hw _ (i2 q h).2.1, hw _ (i2 q h).2.2⟩⟩
theorem brsM_wf {h : mh} : ∀ {ts : List (Pf × Pf × Pf)} {f : Nat} {e : Pf}, brsM h f ts e → wfP e 0 ∧ ∀ q ∈ ts, wfP q.1 0 ∧ wfP q.2.1 0 ∧ wfP q.2.2 0
  | [], _, _, ⟨_, _, _, _, _, _, _, q⟩ => ⟨q, fun _ h => by cases h⟩
  | (a, b, c) :: ts, f, e, ⟨⟨_, _, _, _, _, _, _, _, _, _, _, r1, r2, r3⟩, q⟩ => by
    obtain ⟨i1, i2⟩ := brsM_wf q
    refine ⟨i1, fun q h => ?_⟩
    rcases List.mem_cons.mp h with rfl | h
    · exact ⟨r1, r2, r3⟩
    · exact i2 q h
theorem lawM_wf {h : mh} {l k : Nat} {A : Lw} (hA : lawM h l k A) : wLw A := by
  match A, hA with
  | none, _ => trivial
  | some (ts, e), ⟨_, _, _, _, q⟩ => exact brsM_wf (brsL_M q)
/-- what is said: the law told of a fact that is known -/
def sayB (T : AT) (N : AN) (r f : Nat) : Bool := (kw T r).testBit f && decide (0 < vlL (vsS T N r f) 1 (lw9 T 0))
def saidU (T : AT) (N : AN) (r : Nat) : Nat → Nat
  | 0 => 0
  | f + 1 => if sayB T N r f then saidU T N r f ||| 2 ^ f else saidU T N r f
def said (T : AT) (N : AN) (r : Nat) : Nat := saidU T N r 8
theorem saidU_lt (T : AT) (N : AN) (r : Nat) : ∀ f, f ≤ 8 → saidU T N r f < 256
  | 0, _ => by show (0 : Nat) < 256; decide
  | f + 1, hf => by
    unfold saidU
    split
    · exact or_lt (saidU_lt T N r f (by omega)) (Nat.pow_lt_pow_right (by decide) (by omega) : 2 ^ f < 2 ^ 8)
    · exact saidU_lt T N r f (by omega)
theorem said_lt (T : AT) (N : AN) (r : Nat) : said T N r < 256 := saidU_lt T N r 8 (Nat.le_refl _)
