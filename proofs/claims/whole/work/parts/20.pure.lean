/-! LAWS OF THE SMALL HEAP, and what it means that a function comes through -/
def mh0 : mh := (fun _ _ => 0, fun _ _ => 0, fun _ _ => none, fun _ => (9, 0), 0, 0)
/-- WHAT THE CLAIM COMES TO: the law's function answers 1 on every script -/
def LawP (L : Nat) (xs : Nat → Int32) : Prop := ∃ (fu : Nat) (h' : mh), fL_law fu L xs () mh0 = some (1, h') ∧ gN h' ≤ 600000 ∧ gM h' ≤ 7302250
theorem gI_uI (h : mh) (a k : Nat) (v : Int32) (b j : Nat) : gI (uI h a k v) b j = if b = a ∧ j = k then v else gI h b j := rfl
theorem gI_uL (h : mh) (a k : Nat) (v : Int64) (b j : Nat) : gI (uL h a k v) b j = gI h b j := rfl
theorem gI_uR (h : mh) (a k : Nat) (v : Option Nat) (b j : Nat) : gI (uR h a k v) b j = gI h b j := rfl
theorem gI_uA (h : mh) (a : Nat) (f : Nat → Int32) (b j : Nat) : gI (uA h a f) b j = if b = a then f j else gI h b j := by
  show (if b = a then f else h.1 b) j = _
  split <;> rfl
theorem gL_uI (h : mh) (a k : Nat) (v : Int32) (b j : Nat) : gL (uI h a k v) b j = gL h b j := rfl
theorem gL_uL (h : mh) (a k : Nat) (v : Int64) (b j : Nat) : gL (uL h a k v) b j = if b = a ∧ j = k then v else gL h b j := rfl
theorem gL_uR (h : mh) (a k : Nat) (v : Option Nat) (b j : Nat) : gL (uR h a k v) b j = gL h b j := rfl
theorem gL_uA (h : mh) (a : Nat) (f : Nat → Int32) (b j : Nat) : gL (uA h a f) b j = gL h b j := rfl
theorem gR_uI (h : mh) (a k : Nat) (v : Int32) (b j : Nat) : gR (uI h a k v) b j = gR h b j := rfl
theorem gR_uL (h : mh) (a k : Nat) (v : Int64) (b j : Nat) : gR (uL h a k v) b j = gR h b j := rfl
theorem gR_uR (h : mh) (a k : Nat) (v : Option Nat) (b j : Nat) : gR (uR h a k v) b j = if b = a ∧ j = k then v else gR h b j := rfl
theorem gR_uA (h : mh) (a : Nat) (f : Nat → Int32) (b j : Nat) : gR (uA h a f) b j = gR h b j := rfl
/-- a function comes through, and Q holds of its answer and heap -/
def ok {β : Type} (R : Option (β × mh)) (Q : β → mh → Prop) : Prop := ∃ (b : β) (h' : mh), R = some (b, h') ∧ Q b h'
theorem ok_some {β : Type} {b : β} {h : mh} {Q : β → mh → Prop} (q : Q b h) : ok (some (b, h)) Q := ⟨b, h, rfl, q⟩
theorem ok_bd {β γ : Type} {R : Option (γ × mh)} {F : γ → mh → Option (β × mh)} {Q : β → mh → Prop} (h : ok R (fun x h1 => ok (F x h1) Q)) : ok (bd R F) Q := by
  obtain ⟨x, h1, e, q⟩ := h
  rw [e]
  exact q
theorem ok_mono {β : Type} {R : Option (β × mh)} {Q Q' : β → mh → Prop} (h : ok R Q) (hq : ∀ b h', Q b h' → Q' b h') : ok R Q' := by
  obtain ⟨b, h', e, q⟩ := h
  exact ⟨b, h', e, hq b h' q⟩
theorem bd_some {β γ : Type} {x : γ} {h1 : mh} {F : γ → mh → Option (β × mh)} : bd (some (x, h1)) F = F x h1 := rfl
/-- a loop that counts up to n -/
theorem itr_up {σ δ : Type} {B : (σ → Option δ) → σ → Option δ} {I : Nat → σ → Prop} {P : Option δ → Prop} {n : Nat} (hs : ∀ (j : Nat) (s : σ) (k : σ → Option δ), j < n → I j s → (∀ s', I (j + 1) s' → P (k s')) → P (B k s)) (he : ∀ (s : σ) (k : σ → Option δ), I n s → P (B k s)) : ∀ (fu j : Nat) (s : σ), n < j + fu → j ≤ n → I j s → P (itr B fu s) := by
  intro fu
  induction fu with
  | zero => intro j s h1 h2; omega
  | succ fu ih =>
    intro j s h1 h2 hI
    rw [itr_s]
    rcases Nat.lt_or_ge j n with q | q
    · exact hs j s _ q hI (fun s' hI' => ih (j + 1) s' (by omega) (by omega) hI')
    · have e : j = n := by omega
      subst e
      exact he s _ hI
/-- a loop with a measure that falls -/
theorem itr_ms {σ δ : Type} {B : (σ → Option δ) → σ → Option δ} {I : σ → Prop} {P : Option δ → Prop} (μ : σ → Nat) (hs : ∀ (s : σ) (k : σ → Option δ), I s → (∀ s', I s' → μ s' < μ s → P (k s')) → P (B k s)) : ∀ (fu : Nat) (s : σ), μ s < fu → I s → P (itr B fu s) := by
  intro fu
  induction fu with
  | zero => intro s h1; omega
  | succ fu ih =>
    intro s h1 hI
    rw [itr_s]
    exact hs s _ hI (fun s' hI' hm => ih s' (by omega) hI')
theorem ldI_of {δ : Type} {h : mh} {a ci k : Nat} {F : Int32 → Option δ} (h1 : a < gN h ∧ gS h a = (0, ci)) : ldI h a ci k F = F (gI h a k) := if_pos h1
theorem ldL_of {δ : Type} {h : mh} {a ci k : Nat} {F : Int64 → Option δ} (h1 : a < gN h ∧ gS h a = (0, ci)) : ldL h a ci k F = F (gL h a k) := if_pos h1
theorem ldR_of {δ : Type} {h : mh} {a ci k q : Nat} {F : Nat → Option δ} (h1 : a < gN h ∧ gS h a = (0, ci)) (h2 : gR h a k = some q) : ldR h a ci k F = F q := by
  unfold ldR
  rw [if_pos h1, h2]
  rfl
theorem stI_of {δ : Type} {h : mh} {a ci k : Nat} {x : Int32} {F : mh → Option δ} (h1 : a < gN h ∧ gS h a = (0, ci)) : stI h a ci k x F = F (uI h a k x) := if_pos h1
theorem stZ_of {δ : Type} {h : mh} {a ci k : Nat} {x : Int32} {F : mh → Option δ} (h1 : a < gN h ∧ gS h a = (0, ci)) (h2 : x = 0 ∨ x = 1) : stZ h a ci k x F = F (uI h a k x) := if_pos ⟨h1, h2⟩
theorem stL_of {δ : Type} {h : mh} {a ci k : Nat} {x : Int64} {F : mh → Option δ} (h1 : a < gN h ∧ gS h a = (0, ci)) : stL h a ci k x F = F (uL h a k x) := if_pos h1
theorem stR_of {δ : Type} {h : mh} {a ci k q : Nat} {F : mh → Option δ} (h1 : a < gN h ∧ gS h a = (0, ci)) : stR h a ci k q F = F (uR h a k (some q)) := if_pos h1
theorem ckO_of {δ : Type} {h : mh} {a ci : Nat} {X : Option δ} (h1 : a < gN h ∧ gS h a = (0, ci)) : ckO h a ci X = X := if_pos h1
/-- an index in a row of n -/
def inr (i : Int32) (n : Nat) : Prop := ¬ i < 0 ∧ i.toNatClampNeg < n
theorem ldA_of {δ : Type} {h : mh} {a t n : Nat} {i : Int32} {F : Int32 → Option δ} (h1 : a < gN h ∧ gS h a = (t, n)) (hi : inr i n) : ldA h a t i F = F (gI h a i.toNatClampNeg) := if_pos ⟨h1.1, by rw [h1.2], hi.1, by rw [h1.2]; exact hi.2⟩
theorem ldJ_of {δ : Type} {h : mh} {a n : Nat} {i : Int32} {F : Int64 → Option δ} (h1 : a < gN h ∧ gS h a = (4, n)) (hi : inr i n) : ldJ h a i F = F (gL h a i.toNatClampNeg) := if_pos ⟨h1.1, by rw [h1.2], hi.1, by rw [h1.2]; exact hi.2⟩
theorem ldQ_of {δ : Type} {h : mh} {a n q : Nat} {i : Int32} {F : Nat → Option δ} (h1 : a < gN h ∧ gS h a = (5, n)) (hi : inr i n) (hq : gR h a i.toNatClampNeg = some q) : ldQ h a i F = F q := by
  unfold ldQ
  rw [if_pos ⟨h1.1, by rw [h1.2], hi.1, by rw [h1.2]; exact hi.2⟩, hq]
  rfl
theorem stA_of {δ : Type} {h : mh} {a n : Nat} {i x : Int32} {F : mh → Option δ} (h1 : a < gN h ∧ gS h a = (1, n)) (hi : inr i n) : stA h a i x F = F (uI h a i.toNatClampNeg x) := if_pos ⟨h1.1, by rw [h1.2], hi.1, by rw [h1.2]; exact hi.2⟩
theorem stB_of {δ : Type} {h : mh} {a n : Nat} {i x : Int32} {F : mh → Option δ} (h1 : a < gN h ∧ gS h a = (2, n)) (hi : inr i n) : stB h a i x F = F (uI h a i.toNatClampNeg x.toInt8.toInt32) := if_pos ⟨h1.1, by rw [h1.2], hi.1, by rw [h1.2]; exact hi.2⟩
theorem stY_of {δ : Type} {h : mh} {a n : Nat} {i x : Int32} {F : mh → Option δ} (h1 : a < gN h ∧ gS h a = (3, n)) (hi : inr i n) : stY h a i x F = F (uI h a i.toNatClampNeg (x &&& 1)) := if_pos ⟨h1.1, by rw [h1.2], hi.1, by rw [h1.2]; exact hi.2⟩
theorem stJ_of {δ : Type} {h : mh} {a n : Nat} {i : Int32} {x : Int64} {F : mh → Option δ} (h1 : a < gN h ∧ gS h a = (4, n)) (hi : inr i n) : stJ h a i x F = F (uL h a i.toNatClampNeg x) := if_pos ⟨h1.1, by rw [h1.2], hi.1, by rw [h1.2]; exact hi.2⟩
theorem inr_nI {i n : Nat} (h : i < n) (hn : n < 2 ^ 31) : inr (nI i) n := ⟨nI_pos (by omega), by rw [nI_clamp (by omega)]; exact h⟩
