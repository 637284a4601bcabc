/-! WHAT A LAW IS: postfix rows, what they tell; heaps that are alike but for some ints -/
/-- (0, v) a number, (1, i) a variable, 2 plus, 3 minus, 4 times, 5 over -/
abbrev Pf : Type := List (Nat × Int32)
def ap9 (k : Nat) (a b : Int32) : Int32 := if k = 2 then a + b else if k = 3 then a - b else if k = 4 then a * b else a / b
/-- over a stack; none: a division by 0 -/
def evP (vars : Nat → Int32) : Pf → List Int32 → Option (List Int32)
  | [], st => some st
  | (k, v) :: e, st => if k = 0 then evP vars e (v :: st) else if k = 1 then evP vars e (vars v.toNatClampNeg :: st) else match st with
    | b :: a :: r => if k = 5 ∧ b = 0 then none else evP vars e (ap9 k a b :: r)
    | _ => none
/-- well formed from a depth on: it ends at a depth of 1, never deeper than 24 -/
def wfP : Pf → Nat → Prop
  | [], d => d = 1
  | (k, v) :: e, d => (k = 0 ∧ d < 24 ∧ (∃ j, j < 10000 ∧ v = nI j) ∧ wfP e (d + 1)) ∨ (k = 1 ∧ d < 24 ∧ (∃ j, j < 9 ∧ v = nI j) ∧ wfP e (d + 1)) ∨ (2 ≤ k ∧ k ≤ 5 ∧ 2 ≤ d ∧ wfP e (d - 1))
/-- its value; none: a division by 0 -/
def vlP (vars : Nat → Int32) (e : Pf) : Option Int32 := match evP vars e [] with
  | some (x :: _) => some x
  | _ => none
/-- alike but for some ints -/
def eo (S : Nat → Nat → Prop) (h h' : mh) : Prop := h'.2 = h.2 ∧ ∀ a k, ¬ S a k → gI h' a k = gI h a k
theorem eo_rf {S : Nat → Nat → Prop} {h : mh} : eo S h h := ⟨rfl, fun _ _ _ => rfl⟩
theorem eo_tr {S : Nat → Nat → Prop} {h h1 h2 : mh} (p : eo S h h1) (q : eo S h1 h2) : eo S h h2 := ⟨q.1.trans p.1, fun a k hk => (q.2 a k hk).trans (p.2 a k hk)⟩
theorem eo_mono {S T : Nat → Nat → Prop} {h h1 : mh} (p : eo S h h1) (hST : ∀ a k, S a k → T a k) : eo T h h1 := ⟨p.1, fun a k hk => p.2 a k (fun q => hk (hST a k q))⟩
theorem eo_uI {S : Nat → Nat → Prop} {h h1 : mh} {a k : Nat} {v : Int32} (p : eo S h h1) (hs : S a k) : eo S h (uI h1 a k v) := ⟨p.1, fun b j hb => by
  rw [gI_uI, if_neg (fun q => hb (by rw [q.1, q.2]; exact hs))]
  exact p.2 b j hb⟩
theorem eo_uA {S : Nat → Nat → Prop} {h h1 : mh} {a : Nat} {f : Nat → Int32} (p : eo S h h1) (hs : ∀ k, S a k) : eo S h (uA h1 a f) := ⟨p.1, fun b j hb => by
  rw [gI_uA, if_neg (fun q => hb (by rw [q]; exact hs j))]
  exact p.2 b j hb⟩
theorem Ly_eq {t u : Nat} {h h' : mh} (hL : Ly t u h) (e : h'.2 = h.2) : Ly t u h' := by
  unfold Ly gN gM gS gR at hL ⊢
  rw [e]
  exact hL
theorem Ly_eo {S : Nat → Nat → Prop} {t u : Nat} {h h' : mh} (hL : Ly t u h) (e : eo S h h') : Ly t u h' := Ly_eq hL e.1
/-- a row from 0 on holds a stack, its bottom first -/
def pil (h : mh) (a : Nat) : List Int32 → Prop
  | [] => True
  | x :: r => gI h a r.length = x ∧ pil h a r
theorem pil_up {h : mh} {a k : Nat} {v : Int32} : ∀ {r : List Int32}, r.length ≤ k → pil h a r → pil (uI h a k v) a r
  | [], _, _ => trivial
  | x :: r, hk, hp => by
    simp only [List.length_cons] at hk
    exact ⟨by rw [gI_uI, if_neg (fun q => by omega)]; exact hp.1, pil_up (by omega) hp.2⟩
theorem pil_eo {S : Nat → Nat → Prop} {h h1 : mh} {a : Nat} (e : eo S h h1) (hs : ∀ k, ¬ S a k) : ∀ {r : List Int32}, pil h a r → pil h1 a r
  | [], _ => trivial
  | x :: r, hp => ⟨by rw [e.2 _ _ (hs _)]; exact hp.1, pil_eo e hs hp.2⟩
