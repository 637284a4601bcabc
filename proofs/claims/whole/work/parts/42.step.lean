/-! STEPPING, SHORTER: one rule a kind, tables looked up by rfl -/
def nth {α : Type} (d : α) : List α → Nat → α
  | [], _ => d
  | x :: _, 0 => x
  | _ :: l, n + 1 => nth d l n
theorem nth_ge {α : Type} {d : α} : ∀ {l : List α} {n : Nat}, l.length ≤ n → nth d l n = d
  | [], _, _ => rfl
  | _ :: _, 0, h => by simp at h
  | _ :: l, n + 1, h => nth_ge (l := l) (n := n) (by simp at h; exact h)
theorem ixo (n : Nat) : (OfNat.ofNat n : Int32) = nI (OfNat.ofNat n) := rfl
theorem ixoc (c a : Nat) : (OfNat.ofNat c : Int32) + nI a = nI ((OfNat.ofNat c : Nat) + a) := ixc c a
theorem ixod (a c : Nat) : nI a + (OfNat.ofNat c : Int32) = nI (a + (OfNat.ofNat c : Nat)) := ixd a c
theorem ixom (c a b : Nat) : (OfNat.ofNat c : Int32) * nI a + nI b = nI ((OfNat.ofNat c : Nat) * a + b) := by
  rw [ixl c, pk_mul, nI_add]
  rfl
theorem ixop (a b : Nat) : nI a + nI b = nI (a + b) := nI_add a b
def rMt : List (Option Nat) := [none, some 300, none, some 301, none, some 302, some 303, some 304, some 305, some 306, none, none, none, none, none, none, none, none, none, none, none, some 307, some 308, some 309, some 310, some 311, some 312, some 313, some 314, some 315, some 316, some 317, some 318, some 319, some 320, some 321, some 322, none, some 323, some 324, some 325, some 326, some 327, none, some 328, some 329, some 330, none, some 331, some 332, none, some 333, some 334, none, none, some 335, some 336, none, none, some 337, none, none, some 338, none, some 339, some 340, some 341, some 342]
def rM (k : Nat) : Option Nat := nth none rMt k
def sMt : List (Nat × Nat) := [(2, 2000), (2, 2000), (1, 403), (1, 403), (1, 403), (4, 403), (4, 22), (4, 12), (1, 12), (1, 2), (1, 12), (1, 12), (1, 2), (1, 12), (1, 12), (1, 12), (1, 12), (1, 2), (1, 2), (1, 2), (1, 2), (1, 8), (1, 8), (3, 260), (1, 260), (1, 260), (1, 260), (1, 260), (1, 840), (1, 840), (1, 64), (1, 9), (1, 400), (1, 33), (1, 33), (3, 6), (1, 6), (1, 1320), (1, 6), (1, 20), (1, 20), (3, 3), (1, 99)]
def sM (a : Nat) : Nat × Nat := nth (9, 0) sMt (a - 300)
def rXt : List (Option Nat) := [some 1, none, none, some 2, none, none, some 39, some 44, some 49, some 77, some 295]
def rX (k : Nat) : Option Nat := nth none rXt k
def rTt : List (Option Nat) := [none, some 1, some 2, some 3, none, some 4, some 5, some 6, some 7, none, some 8, some 9, none, none, none]
def rT (k : Nat) : Option Nat := nth none rTt k
def rUt : List (Option Nat) := [some 10, none, some 11, some 12, some 13, some 14, some 15, none]
def rU (k : Nat) : Option Nat := nth none rUt k
def shTt : List (Nat × Nat) := [(0, 6), (4, 6), (1, 6), (1, 6), (4, 6), (1, 6), (1, 6), (1, 6), (1, 6), (0, 1), (1, 400), (1, 4), (1, 52), (1, 4), (1, 9), (1, 24)]
def shT (a : Nat) : Nat × Nat := nth (9, 0) shTt a
theorem tb_ok {f : Nat → Option Nat} {n : Nat} {p : Nat → Nat → Bool} (h1 : ∀ k, n ≤ k → f k = none) (h2 : ∀ k, k < n → (f k).all (p k) = true) {k q : Nat} (e : f k = some q) : p k q = true := by
  rcases Nat.lt_or_ge k n with h | h
  · have := h2 k h
    rw [e] at this
    exact this
  · rw [h1 k h] at e
    cases e
theorem rM_ok {k q : Nat} (e : rM k = some q) : (299, k, q) ∈ rtb := of_decide_eq_true (tb_ok (f := rM) (n := 68) (p := fun k q => decide ((299, k, q) ∈ rtb)) (fun k h => nth_ge h) (by decide +kernel) e)
theorem rX_ok {k q : Nat} (e : rX k = some q) : (0, k, q) ∈ rtb := of_decide_eq_true (tb_ok (f := rX) (n := 11) (p := fun k q => decide ((0, k, q) ∈ rtb)) (fun k h => nth_ge h) (by decide +kernel) e)
theorem rT_ok {k q : Nat} (e : rT k = some q) : (7, k, 7 + q) ∈ rtb ∧ (23, k, 23 + q) ∈ rtb := of_decide_eq_true (tb_ok (f := rT) (n := 15) (p := fun k q => decide ((7, k, 7 + q) ∈ rtb ∧ (23, k, 23 + q) ∈ rtb)) (fun k h => nth_ge h) (by decide +kernel) e)
theorem rU_ok {k q : Nat} (e : rU k = some q) : (16, k, 7 + q) ∈ rtb ∧ (32, k, 23 + q) ∈ rtb := of_decide_eq_true (tb_ok (f := rU) (n := 8) (p := fun k q => decide ((16, k, 7 + q) ∈ rtb ∧ (32, k, 23 + q) ∈ rtb)) (fun k h => nth_ge h) (by decide +kernel) e)
theorem sM_all : ∀ b, b < 43 → sM (300 + b) = Sh (300 + b) ∧ (sM (300 + b)).2 ≤ 2000 := by decide +kernel
theorem sM_ok {a t n : Nat} (h3 : Nat.ble 300 a = true) (e : sM a = (t, n)) (h9 : Nat.ble t 8 = true) : a < 343 ∧ Sh a = (t, n) ∧ n ≤ 2000 := by
  have h3 := Nat.le_of_ble_eq_true h3
  have h9 := Nat.le_of_ble_eq_true h9
  obtain ⟨b, rfl⟩ : ∃ b, a = 300 + b := ⟨a - 300, by omega⟩
  rcases Nat.lt_or_ge b 43 with h | h
  · obtain ⟨q1, q2⟩ := sM_all b h
    rw [e] at q1 q2
    exact ⟨by omega, q1.symm, q2⟩
  · have : sM (300 + b) = (9, 0) := nth_ge (l := sMt) (by show 43 ≤ 300 + b - 300; omega)
    rw [this] at e
    have : t = 9 := (Prod.mk.inj e).1.symm
    omega
theorem shT_all : ∀ b, b < 16 → shT b = Sh (7 + b) ∧ shT b = Sh (23 + b) ∧ (shT b).2 ≤ 2000 := by decide +kernel
theorem shT_ok {k ty n : Nat} (e : shT k = (ty, n)) (h9 : Nat.ble ty 8 = true) : Sh (7 + k) = (ty, n) ∧ Sh (23 + k) = (ty, n) ∧ n ≤ 2000 ∧ k < 16 := by
  have h9 := Nat.le_of_ble_eq_true h9
  rcases Nat.lt_or_ge k 16 with h | h
  · obtain ⟨q1, q2, q3⟩ := shT_all k h
    rw [e] at q1 q2 q3
    exact ⟨q1.symm, q2.symm, q3, h⟩
  · have : shT k = (9, 0) := nth_ge (l := shTt) h
    rw [this] at e
    have : ty = 9 := (Prod.mk.inj e).1.symm
    omega
theorem MA_c {a t n : Nat} {h : mh} (hL : LM h.2) (h3 : Nat.ble 300 a = true) (e : sM a = (t, n)) (h9 : Nat.ble t 8 = true) : (a < gN h ∧ gS h a = (t, n)) ∧ n < 2 ^ 31 := by
  obtain ⟨_, _, y⟩ := hL
  obtain ⟨q1, q2, q3⟩ := sM_ok h3 e h9
  exact ⟨y.cell a _ q1 q2, by omega⟩
theorem TA_c {t k ty n : Nat} {h : mh} (hL : LT t h.2) (e : shT k = (ty, n)) (h9 : Nat.ble ty 8 = true) : (t + k < gN h ∧ gS h (t + k) = (ty, n)) ∧ n < 2 ^ 31 := by
  obtain ⟨_, y⟩ := hL
  obtain ⟨q1, q2, q3, q4⟩ := shT_ok e h9
  refine ⟨?_, by omega⟩
  rcases y.2.2.2.2.2.2 with ⟨rfl, _⟩ | ⟨rfl, _⟩
  · exact y.cell (7 + k) _ (by omega) q1
  · exact y.cell (23 + k) _ (by omega) q2
theorem NA_c {n k : Nat} {h : mh} (hL : LM h.2) (hn : n ∈ ngt) (h1 : Nat.ble 1 k = true) (h4 : Nat.ble k 4 = true) : n + k < gN h ∧ gS h (n + k) = (1, 6) := by
  obtain ⟨_, _, y⟩ := hL
  have h1 := Nat.le_of_ble_eq_true h1
  have h4 := Nat.le_of_ble_eq_true h4
  rcases (show k = 1 ∨ k = 2 ∨ k = 3 ∨ k = 4 by omega) with rfl | rfl | rfl | rfl
  · exact nc1 y hn
  · exact nc2 y hn
  · exact nc3 y hn
  · exact nc4 y hn
theorem w_MR {β : Type} {h : mh} {Q : β → mh → Prop} {k q : Nat} {F : Nat → Option (β × mh)} (hL : LM h.2) (e : rM k = some q) (g : ok (F q) Q) : ok (ldR h 299 10 k F) Q := by
  obtain ⟨_, _, y⟩ := hL
  exact v0ldR (cl299 y) (y.2.2.2.1 (299, k, q) (rM_ok e)) g
theorem w_XR {β : Type} {h : mh} {Q : β → mh → Prop} {k q : Nat} {F : Nat → Option (β × mh)} (hL : LM h.2) (e : rX k = some q) (g : ok (F q) Q) : ok (ldR h 0 9 k F) Q := by
  obtain ⟨_, _, y⟩ := hL
  exact v0ldR (cl0 y) (y.2.2.2.1 (0, k, q) (rX_ok e)) g
theorem w_TR {β : Type} {h : mh} {Q : β → mh → Prop} {t k q : Nat} {F : Nat → Option (β × mh)} (hL : LT t h.2) (e : rT k = some q) (g : ok (F (t + q)) Q) : ok (ldR h t 6 k F) Q := by
  obtain ⟨_, y⟩ := hL
  obtain ⟨q1, q2⟩ := rT_ok e
  refine v0ldR (tc0 y) ?_ g
  rcases y.2.2.2.2.2.2 with ⟨rfl, _⟩ | ⟨rfl, _⟩
  · exact y.2.2.2.1 (7, k, 7 + q) q1
  · exact y.2.2.2.1 (23, k, 23 + q) q2
theorem w_UR {β : Type} {h : mh} {Q : β → mh → Prop} {t k q : Nat} {F : Nat → Option (β × mh)} (hL : LT t h.2) (e : rU k = some q) (g : ok (F (t + q)) Q) : ok (ldR h (t + 9) 1 k F) Q := by
  obtain ⟨_, y⟩ := hL
  obtain ⟨q1, q2⟩ := rU_ok e
  refine v0ldR (tc9 y) ?_ g
  rcases y.2.2.2.2.2.2 with ⟨rfl, _⟩ | ⟨rfl, _⟩
  · exact y.2.2.2.1 (16, k, 7 + q) q1
  · exact y.2.2.2.1 (32, k, 23 + q) q2
theorem w_lv {β : Type} {h : mh} {Q : β → mh → Prop} {l : Nat} {F : Int32 → Option (β × mh)} (hL : LM h.2) (e : gI h 299 18 = nI l) (g : ok (F (nI l)) Q) : ok (ldI h 299 10 18 F) Q := by
  obtain ⟨_, _, y⟩ := hL
  refine v0ldI (cl299 y) ?_
  rw [e]
  exact g
theorem m39 : 39 ∈ ngt := by decide +kernel
theorem m44 : 44 ∈ ngt := by decide +kernel
theorem w_MA {β : Type} {h : mh} {Q : β → mh → Prop} {a t n j : Nat} {i : Int32} {F : Int32 → Option (β × mh)} (hL : LM h.2) (h3 : Nat.ble 300 a = true) (e9 : sM a = (t, n)) (h9 : Nat.ble t 8 = true) (e : i = nI j) (hj : j < n) (g : ok (F (gI h a j)) Q) : ok (ldA h a t i F) Q := v0ldA (MA_c hL h3 e9 h9).1 e hj (MA_c hL h3 e9 h9).2 g
theorem w_MJ {β : Type} {h : mh} {Q : β → mh → Prop} {a n j : Nat} {i : Int32} {F : Int64 → Option (β × mh)} (hL : LM h.2) (h3 : Nat.ble 300 a = true) (e9 : sM a = (4, n)) (h9 : Nat.ble 4 8 = true) (e : i = nI j) (hj : j < n) (g : ok (F (gL h a j)) Q) : ok (ldJ h a i F) Q := v0ldJ (MA_c hL h3 e9 h9).1 e hj (MA_c hL h3 e9 h9).2 g
theorem w_MW {β : Type} {h : mh} {Q : β → mh → Prop} {a n j : Nat} {i : Int32} {x : Int32} {F : mh → Option (β × mh)} (hL : LM h.2) (h3 : Nat.ble 300 a = true) (e9 : sM a = (1, n)) (h9 : Nat.ble 1 8 = true) (e : i = nI j) (hj : j < n) (g : ok (F (uI h a j x)) Q) : ok (stA h a i x F) Q := v0stA (MA_c hL h3 e9 h9).1 e hj (MA_c hL h3 e9 h9).2 g
theorem w_MB {β : Type} {h : mh} {Q : β → mh → Prop} {a n j : Nat} {i : Int32} {x : Int32} {F : mh → Option (β × mh)} (hL : LM h.2) (h3 : Nat.ble 300 a = true) (e9 : sM a = (2, n)) (h9 : Nat.ble 2 8 = true) (e : i = nI j) (hj : j < n) (g : ok (F (uI h a j (x.toInt8.toInt32))) Q) : ok (stB h a i x F) Q := v0stB (MA_c hL h3 e9 h9).1 e hj (MA_c hL h3 e9 h9).2 g
theorem w_MY {β : Type} {h : mh} {Q : β → mh → Prop} {a n j : Nat} {i : Int32} {x : Int32} {F : mh → Option (β × mh)} (hL : LM h.2) (h3 : Nat.ble 300 a = true) (e9 : sM a = (3, n)) (h9 : Nat.ble 3 8 = true) (e : i = nI j) (hj : j < n) (g : ok (F (uI h a j (x &&& 1))) Q) : ok (stY h a i x F) Q := v0stY (MA_c hL h3 e9 h9).1 e hj (MA_c hL h3 e9 h9).2 g
theorem w_MK {β : Type} {h : mh} {Q : β → mh → Prop} {a n j : Nat} {i : Int32} {x : Int64} {F : mh → Option (β × mh)} (hL : LM h.2) (h3 : Nat.ble 300 a = true) (e9 : sM a = (4, n)) (h9 : Nat.ble 4 8 = true) (e : i = nI j) (hj : j < n) (g : ok (F (uL h a j x)) Q) : ok (stJ h a i x F) Q := v0stJ (MA_c hL h3 e9 h9).1 e hj (MA_c hL h3 e9 h9).2 g
theorem w_TA {β : Type} {h : mh} {Q : β → mh → Prop} {t k ty n j : Nat} {i : Int32} {F : Int32 → Option (β × mh)} (hL : LT t h.2) (e9 : shT k = (ty, n)) (h9 : Nat.ble ty 8 = true) (e : i = nI j) (hj : j < n) (g : ok (F (gI h (t + k) j)) Q) : ok (ldA h (t + k) ty i F) Q := v0ldA (TA_c hL e9 h9).1 e hj (TA_c hL e9 h9).2 g
theorem w_TJ {β : Type} {h : mh} {Q : β → mh → Prop} {t k n j : Nat} {i : Int32} {F : Int64 → Option (β × mh)} (hL : LT t h.2) (e9 : shT k = (4, n)) (h9 : Nat.ble 4 8 = true) (e : i = nI j) (hj : j < n) (g : ok (F (gL h (t + k) j)) Q) : ok (ldJ h (t + k) i F) Q := v0ldJ (TA_c hL e9 h9).1 e hj (TA_c hL e9 h9).2 g
theorem w_TW {β : Type} {h : mh} {Q : β → mh → Prop} {t k n j : Nat} {i : Int32} {x : Int32} {F : mh → Option (β × mh)} (hL : LT t h.2) (e9 : shT k = (1, n)) (h9 : Nat.ble 1 8 = true) (e : i = nI j) (hj : j < n) (g : ok (F (uI h (t + k) j x)) Q) : ok (stA h (t + k) i x F) Q := v0stA (TA_c hL e9 h9).1 e hj (TA_c hL e9 h9).2 g
theorem w_TB {β : Type} {h : mh} {Q : β → mh → Prop} {t k n j : Nat} {i : Int32} {x : Int32} {F : mh → Option (β × mh)} (hL : LT t h.2) (e9 : shT k = (2, n)) (h9 : Nat.ble 2 8 = true) (e : i = nI j) (hj : j < n) (g : ok (F (uI h (t + k) j (x.toInt8.toInt32))) Q) : ok (stB h (t + k) i x F) Q := v0stB (TA_c hL e9 h9).1 e hj (TA_c hL e9 h9).2 g
theorem w_TY {β : Type} {h : mh} {Q : β → mh → Prop} {t k n j : Nat} {i : Int32} {x : Int32} {F : mh → Option (β × mh)} (hL : LT t h.2) (e9 : shT k = (3, n)) (h9 : Nat.ble 3 8 = true) (e : i = nI j) (hj : j < n) (g : ok (F (uI h (t + k) j (x &&& 1))) Q) : ok (stY h (t + k) i x F) Q := v0stY (TA_c hL e9 h9).1 e hj (TA_c hL e9 h9).2 g
theorem w_TK {β : Type} {h : mh} {Q : β → mh → Prop} {t k n j : Nat} {i : Int32} {x : Int64} {F : mh → Option (β × mh)} (hL : LT t h.2) (e9 : shT k = (4, n)) (h9 : Nat.ble 4 8 = true) (e : i = nI j) (hj : j < n) (g : ok (F (uL h (t + k) j x)) Q) : ok (stJ h (t + k) i x F) Q := v0stJ (TA_c hL e9 h9).1 e hj (TA_c hL e9 h9).2 g
theorem w_NA {β : Type} {h : mh} {Q : β → mh → Prop} {n k j : Nat} {i : Int32} {F : Int32 → Option (β × mh)} (hL : LM h.2) (hn : n ∈ ngt) (h1 : Nat.ble 1 k = true) (h4 : Nat.ble k 4 = true) (e : i = nI j) (hj : j < 6) (g : ok (F (gI h (n + k) j)) Q) : ok (ldA h (n + k) 1 i F) Q := v0ldA (NA_c hL hn h1 h4) e hj (by decide) g
theorem w_NW {β : Type} {h : mh} {Q : β → mh → Prop} {n k j : Nat} {i : Int32} {x : Int32} {F : mh → Option (β × mh)} (hL : LM h.2) (hn : n ∈ ngt) (h1 : Nat.ble 1 k = true) (h4 : Nat.ble k 4 = true) (e : i = nI j) (hj : j < 6) (g : ok (F (uI h (n + k) j x)) Q) : ok (stA h (n + k) i x F) Q := v0stA (NA_c hL hn h1 h4) e hj (by decide) g
/-- a loop that gathers bits, its two ways apart -/
theorem v_b {β : Type} {b : Bool} {A B : Option (β × mh)} {Q : β → mh → Prop} (p0 : b = false → ok A Q) (p1 : b = true → ok B Q) : ok (if b2i b = 0 then A else B) Q := by
  cases b
  · exact v_it rfl (p0 rfl)
  · exact v_ie (by decide) (p1 rfl)
theorem v_b' {β : Type} {b : Bool} {A B : Option (β × mh)} {Q : β → mh → Prop} (p1 : b = true → ok A Q) (p0 : b = false → ok B Q) : ok (if b2i b = 1 then A else B) Q := by
  cases b
  · exact v_ie (by decide) (p0 rfl)
  · exact v_it rfl (p1 rfl)
theorem bitsL {B : (Int32 × Int32 × mh → Option (Int32 × mh)) → Int32 × Int32 × mh → Option (Int32 × mh)} {n fu : Nat} {p : Nat → Bool} {V : mh → Prop} (hn : n ≤ 8) (hfu : 1000 ≤ fu) {h : mh} (hV : V h)
    (he : ∀ (a : Nat) (h : mh) (k : Int32 × Int32 × mh → Option (Int32 × mh)), V h → ok (B k (nI a, nI n, h)) (fun x h' => V h' ∧ x = nI a))
    (hs : ∀ (i a : Nat) (h : mh) (k : Int32 × Int32 × mh → Option (Int32 × mh)) (Q : Int32 → mh → Prop), i < n → V h → (∀ h', V h' → p i = false → ok (k (nI a, nI i + 1, h')) Q) → (∀ h', V h' → p i = true → ok (k (nI a ||| ((1 : Int32) <<< (nI i &&& 31)), nI i + 1, h')) Q) → ok (B k (nI a, nI i, h)) Q) :
    ok (itr B fu (0, 0, h)) (fun x h' => V h' ∧ x = nI (bitsU p n)) := by
  refine bits_loop hn hfu (fun i a h k Q hi ha hV hk => ?_) he hV
  refine hs i a h k Q hi hV (fun h' hV' e => ?_) (fun h' hV' e => ?_)
  · have := hk h' hV'
    rw [e] at this
    rw [nI_1]
    exact this
  · have := hk h' hV'
    rw [e] at this
    rw [nI_1, or_bit (by omega)]
    exact this
