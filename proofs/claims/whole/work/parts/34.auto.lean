/-! STEPPING: goals of the form ok R Q, one instruction at a time, under the layout -/
abbrev m2 : Type := (Nat → Nat → Int64) × (Nat → Nat → Option Nat) × (Nat → Nat × Nat) × Nat × Nat
def LM (q : m2) : Prop := ∃ t u, Ly t u (fun _ _ => 0, q)
def LT (t : Nat) (q : m2) : Prop := ∃ u, Ly t u (fun _ _ => 0, q)
theorem LM_of {t u : Nat} {h : mh} (hL : Ly t u h) : LM h.2 := ⟨t, u, hL⟩
theorem LT_of {t u : Nat} {h : mh} (hL : Ly t u h) : LT t h.2 := ⟨u, hL⟩
theorem LM_T {t : Nat} {q : m2} (hL : LT t q) : LM q := ⟨t, hL⟩
theorem LM_eo {S : Nat → Nat → Prop} {h h1 : mh} (o : eo S h h1) (hL : LM h.2) : LM h1.2 := by rw [o.1]; exact hL
theorem LT_eo {S : Nat → Nat → Prop} {t : Nat} {h h1 : mh} (o : eo S h h1) (hL : LT t h.2) : LT t h1.2 := by rw [o.1]; exact hL
theorem ok_eq {β : Type} {R : Option (β × mh)} {v : β} {h : mh} (q : ok R (fun x h' => x = v ∧ h' = h)) : R = some (v, h) := by
  obtain ⟨x, h1, e, rfl, rfl⟩ := q
  exact e
theorem v_eq {β γ : Type} {R : Option (γ × mh)} {x : γ} {h1 : mh} {F : γ → mh → Option (β × mh)} {Q : β → mh → Prop} (e : R = some (x, h1)) (g : ok (F x h1) Q) : ok (bd R F) Q := by rw [e]; exact g
theorem v_bd {β γ : Type} {R : Option (γ × mh)} {F : γ → mh → Option (β × mh)} {P : γ → mh → Prop} {Q : β → mh → Prop} (e : ok R P) (g : ∀ x h1, P x h1 → ok (F x h1) Q) : ok (bd R F) Q := ok_bd (ok_mono e g)
theorem v_if {β : Type} {c : Prop} [d : Decidable c] {A B : Option (β × mh)} {Q : β → mh → Prop} (p : c → ok A Q) (q : ¬ c → ok B Q) : ok (if c then A else B) Q := by
  by_cases e : c
  · rw [if_pos e]; exact p e
  · rw [if_neg e]; exact q e
theorem v_it {β : Type} {c : Prop} [d : Decidable c] {A B : Option (β × mh)} {Q : β → mh → Prop} (e : c) (p : ok A Q) : ok (if c then A else B) Q := by rw [if_pos e]; exact p
theorem v_ie {β : Type} {c : Prop} [d : Decidable c] {A B : Option (β × mh)} {Q : β → mh → Prop} (e : ¬ c) (p : ok B Q) : ok (if c then A else B) Q := by rw [if_neg e]; exact p
theorem v_lt {α β : Type} {v : α} {F : α → Option (β × mh)} {Q : β → mh → Prop} (p : ok (F v) Q) : ok (lt v F) Q := p
theorem v_rI {x : Int32} {h : mh} {Q : Int32 → mh → Prop} (q : Q x h) : ok (rtI x h) Q := ⟨x, h, rfl, q⟩
theorem v_rV {h : mh} {Q : Unit → mh → Prop} (q : Q () h) : ok (rtV h) Q := ⟨(), h, rfl, q⟩
theorem v_rZ {x : Int32} {h : mh} {Q : Int32 → mh → Prop} (e : x = 0 ∨ x = 1) (q : Q x h) : ok (rtZ x h) Q := ⟨x, h, if_pos e, q⟩
theorem gI_ne {h : mh} {a k : Nat} {v : Int32} {b j : Nat} (e : ¬ (b = a ∧ j = k)) : gI (uI h a k v) b j = gI h b j := by rw [gI_uI, if_neg e]
theorem gI_eq {h : mh} {a k : Nat} {v : Int32} : gI (uI h a k v) a k = v := by rw [gI_uI, if_pos ⟨rfl, rfl⟩]
theorem gI_eq' {h : mh} {a k : Nat} {v : Int32} {b j : Nat} (e : b = a ∧ j = k) : gI (uI h a k v) b j = v := by rw [gI_uI, if_pos e]
theorem ixl (n : Nat) : (OfNat.ofNat n : Int32) = nI n := rfl
theorem ix4 (a b : Nat) : (4 : Int32) * nI a + nI b = nI (4 * a + b) := by rw [show (4 : Int32) = nI 4 from rfl, pk_mul, nI_add]
theorem ix6 (a b : Nat) : (6 : Int32) * nI a + nI b = nI (6 * a + b) := by rw [show (6 : Int32) = nI 6 from rfl, pk_mul, nI_add]
theorem ix33 (a b : Nat) : (33 : Int32) * nI a + nI b = nI (33 * a + b) := by rw [show (33 : Int32) = nI 33 from rfl, pk_mul, nI_add]
theorem ixc (c a : Nat) : (OfNat.ofNat c : Int32) + nI a = nI (c + a) := by rw [ixl, nI_add]
theorem ixd (a c : Nat) : nI a + (OfNat.ofNat c : Int32) = nI (a + c) := by rw [ixl, nI_add]
theorem v0ldI {β : Type} {a ci k : Nat} {h : mh} {F : Int32 → Option (β × mh)} {Q : β → mh → Prop} (c : a < gN h ∧ gS h a = (0, ci)) (g : ok (F (gI h a k)) Q) : ok (ldI h a ci k F) Q := by rw [ldI_of c]; exact g
theorem v0ldL {β : Type} {a ci k : Nat} {h : mh} {F : Int64 → Option (β × mh)} {Q : β → mh → Prop} (c : a < gN h ∧ gS h a = (0, ci)) (g : ok (F (gL h a k)) Q) : ok (ldL h a ci k F) Q := by rw [ldL_of c]; exact g
theorem v0ldR {β : Type} {a ci k q : Nat} {h : mh} {F : Nat → Option (β × mh)} {Q : β → mh → Prop} (c : a < gN h ∧ gS h a = (0, ci)) (r : gR h a k = some q) (g : ok (F q) Q) : ok (ldR h a ci k F) Q := by rw [ldR_of c r]; exact g
theorem v0stI {β : Type} {a ci k : Nat} {x : Int32} {h : mh} {F : mh → Option (β × mh)} {Q : β → mh → Prop} (c : a < gN h ∧ gS h a = (0, ci)) (g : ok (F (uI h a k x)) Q) : ok (stI h a ci k x F) Q := by rw [stI_of c]; exact g
theorem v0stL {β : Type} {a ci k : Nat} {x : Int64} {h : mh} {F : mh → Option (β × mh)} {Q : β → mh → Prop} (c : a < gN h ∧ gS h a = (0, ci)) (g : ok (F (uL h a k x)) Q) : ok (stL h a ci k x F) Q := by rw [stL_of c]; exact g
theorem v0stZ {β : Type} {a ci k : Nat} {x : Int32} {h : mh} {F : mh → Option (β × mh)} {Q : β → mh → Prop} (c : a < gN h ∧ gS h a = (0, ci)) (e : x = 0 ∨ x = 1) (g : ok (F (uI h a k x)) Q) : ok (stZ h a ci k x F) Q := by rw [stZ_of c e]; exact g
theorem v0ck {β : Type} {a ci : Nat} {h : mh} {X : Option (β × mh)} {Q : β → mh → Prop} (c : a < gN h ∧ gS h a = (0, ci)) (g : ok X Q) : ok (ckO h a ci X) Q := by rw [ckO_of c]; exact g
theorem v0ldA {β : Type} {a t n j : Nat} {i : Int32} {h : mh} {F : Int32 → Option (β × mh)} {Q : β → mh → Prop} (c : a < gN h ∧ gS h a = (t, n)) (e : i = nI j) (hj : j < n) (hn : n < 2 ^ 31) (g : ok (F (gI h a j)) Q) : ok (ldA h a t i F) Q := by rw [e, ldA_of c (inr_nI hj hn), nI_clamp (by omega)]; exact g
theorem v0ldJ {β : Type} {a n j : Nat} {i : Int32} {h : mh} {F : Int64 → Option (β × mh)} {Q : β → mh → Prop} (c : a < gN h ∧ gS h a = (4, n)) (e : i = nI j) (hj : j < n) (hn : n < 2 ^ 31) (g : ok (F (gL h a j)) Q) : ok (ldJ h a i F) Q := by rw [e, ldJ_of c (inr_nI hj hn), nI_clamp (by omega)]; exact g
theorem v0ldQ {β : Type} {a n j q : Nat} {i : Int32} {h : mh} {F : Nat → Option (β × mh)} {Q : β → mh → Prop} (c : a < gN h ∧ gS h a = (5, n)) (e : i = nI j) (hj : j < n) (hn : n < 2 ^ 31) (r : gR h a j = some q) (g : ok (F q) Q) : ok (ldQ h a i F) Q := by rw [e, ldQ_of c (inr_nI hj hn) (by rw [nI_clamp (by omega)]; exact r)]; exact g
theorem v0stA {β : Type} {a n j : Nat} {i x : Int32} {h : mh} {F : mh → Option (β × mh)} {Q : β → mh → Prop} (c : a < gN h ∧ gS h a = (1, n)) (e : i = nI j) (hj : j < n) (hn : n < 2 ^ 31) (g : ok (F (uI h a j x)) Q) : ok (stA h a i x F) Q := by rw [e, stA_of c (inr_nI hj hn), nI_clamp (by omega)]; exact g
theorem v0stB {β : Type} {a n j : Nat} {i x : Int32} {h : mh} {F : mh → Option (β × mh)} {Q : β → mh → Prop} (c : a < gN h ∧ gS h a = (2, n)) (e : i = nI j) (hj : j < n) (hn : n < 2 ^ 31) (g : ok (F (uI h a j x.toInt8.toInt32)) Q) : ok (stB h a i x F) Q := by rw [e, stB_of c (inr_nI hj hn), nI_clamp (by omega)]; exact g
theorem v0stY {β : Type} {a n j : Nat} {i x : Int32} {h : mh} {F : mh → Option (β × mh)} {Q : β → mh → Prop} (c : a < gN h ∧ gS h a = (3, n)) (e : i = nI j) (hj : j < n) (hn : n < 2 ^ 31) (g : ok (F (uI h a j (x &&& 1))) Q) : ok (stY h a i x F) Q := by rw [e, stY_of c (inr_nI hj hn), nI_clamp (by omega)]; exact g
theorem v0stJ {β : Type} {a n j : Nat} {i : Int32} {x : Int64} {h : mh} {F : mh → Option (β × mh)} {Q : β → mh → Prop} (c : a < gN h ∧ gS h a = (4, n)) (e : i = nI j) (hj : j < n) (hn : n < 2 ^ 31) (g : ok (F (uL h a j x)) Q) : ok (stJ h a i x F) Q := by rw [e, stJ_of c (inr_nI hj hn), nI_clamp (by omega)]; exact g
theorem v0len {β : Type} {a t n : Nat} {h : mh} {F : Int32 → Option (β × mh)} {Q : β → mh → Prop} (c : a < gN h ∧ gS h a = (t, n)) (h1 : 1 ≤ t) (h5 : t ≤ 5) (g : ok (F (nI n)) Q) : ok (len h a F) Q := by
  unfold len
  rw [c.2, if_pos ⟨c.1, h1, h5⟩]
  exact g
theorem ixc6 (a : Nat) : (6 : Int32) + nI a = nI (6 + a) := ixc 6 a
theorem ixc12 (a : Nat) : (12 : Int32) + nI a = nI (12 + a) := ixc 12 a
theorem ixc18 (a : Nat) : (18 : Int32) + nI a = nI (18 + a) := ixc 18 a
theorem ixc24 (a : Nat) : (24 : Int32) + nI a = nI (24 + a) := ixc 24 a
theorem ixl0 : (0 : Int32) = nI 0 := rfl
theorem ixl1 : (1 : Int32) = nI 1 := rfl
theorem ixl2 : (2 : Int32) = nI 2 := rfl
theorem ixl3 : (3 : Int32) = nI 3 := rfl
theorem ixl4 : (4 : Int32) = nI 4 := rfl
theorem ixl5 : (5 : Int32) = nI 5 := rfl
theorem ixl6 : (6 : Int32) = nI 6 := rfl
theorem ixl7 : (7 : Int32) = nI 7 := rfl
theorem ixl8 : (8 : Int32) = nI 8 := rfl
theorem ixl9 : (9 : Int32) = nI 9 := rfl
theorem ixl10 : (10 : Int32) = nI 10 := rfl
theorem ixl11 : (11 : Int32) = nI 11 := rfl
theorem ixl12 : (12 : Int32) = nI 12 := rfl
theorem ixl13 : (13 : Int32) = nI 13 := rfl
theorem ixl14 : (14 : Int32) = nI 14 := rfl
theorem ixl15 : (15 : Int32) = nI 15 := rfl
theorem ixl16 : (16 : Int32) = nI 16 := rfl
theorem ixl17 : (17 : Int32) = nI 17 := rfl
theorem ixl18 : (18 : Int32) = nI 18 := rfl
theorem ixl19 : (19 : Int32) = nI 19 := rfl
theorem ixl20 : (20 : Int32) = nI 20 := rfl
theorem ixl21 : (21 : Int32) = nI 21 := rfl
theorem ixl22 : (22 : Int32) = nI 22 := rfl
theorem ixl23 : (23 : Int32) = nI 23 := rfl
theorem ixl24 : (24 : Int32) = nI 24 := rfl
theorem ixl25 : (25 : Int32) = nI 25 := rfl
theorem ixl26 : (26 : Int32) = nI 26 := rfl
theorem ixl27 : (27 : Int32) = nI 27 := rfl
theorem ixl28 : (28 : Int32) = nI 28 := rfl
theorem ixl29 : (29 : Int32) = nI 29 := rfl
theorem ixl30 : (30 : Int32) = nI 30 := rfl
theorem ixl31 : (31 : Int32) = nI 31 := rfl
theorem ixl32 : (32 : Int32) = nI 32 := rfl
theorem vMR1 {β : Type} {h : mh} {Q : β → mh → Prop} (hL : LM h.2) {F : Nat → Option (β × mh)} (g : ok (F (300)) Q) : ok (ldR h 299 10 1 F) Q := by
  obtain ⟨_, _, q⟩ := hL
  exact v0ldR (cl299 q) (rf299_1 q) g
theorem vMR3 {β : Type} {h : mh} {Q : β → mh → Prop} (hL : LM h.2) {F : Nat → Option (β × mh)} (g : ok (F (301)) Q) : ok (ldR h 299 10 3 F) Q := by
  obtain ⟨_, _, q⟩ := hL
  exact v0ldR (cl299 q) (rf299_3 q) g
theorem vMR5 {β : Type} {h : mh} {Q : β → mh → Prop} (hL : LM h.2) {F : Nat → Option (β × mh)} (g : ok (F (302)) Q) : ok (ldR h 299 10 5 F) Q := by
  obtain ⟨_, _, q⟩ := hL
  exact v0ldR (cl299 q) (rf299_5 q) g
theorem vMR6 {β : Type} {h : mh} {Q : β → mh → Prop} (hL : LM h.2) {F : Nat → Option (β × mh)} (g : ok (F (303)) Q) : ok (ldR h 299 10 6 F) Q := by
  obtain ⟨_, _, q⟩ := hL
  exact v0ldR (cl299 q) (rf299_6 q) g
theorem vMR7 {β : Type} {h : mh} {Q : β → mh → Prop} (hL : LM h.2) {F : Nat → Option (β × mh)} (g : ok (F (304)) Q) : ok (ldR h 299 10 7 F) Q := by
  obtain ⟨_, _, q⟩ := hL
  exact v0ldR (cl299 q) (rf299_7 q) g
theorem vMR8 {β : Type} {h : mh} {Q : β → mh → Prop} (hL : LM h.2) {F : Nat → Option (β × mh)} (g : ok (F (305)) Q) : ok (ldR h 299 10 8 F) Q := by
  obtain ⟨_, _, q⟩ := hL
  exact v0ldR (cl299 q) (rf299_8 q) g
theorem vMR9 {β : Type} {h : mh} {Q : β → mh → Prop} (hL : LM h.2) {F : Nat → Option (β × mh)} (g : ok (F (306)) Q) : ok (ldR h 299 10 9 F) Q := by
  obtain ⟨_, _, q⟩ := hL
  exact v0ldR (cl299 q) (rf299_9 q) g
theorem vMR21 {β : Type} {h : mh} {Q : β → mh → Prop} (hL : LM h.2) {F : Nat → Option (β × mh)} (g : ok (F (307)) Q) : ok (ldR h 299 10 21 F) Q := by
  obtain ⟨_, _, q⟩ := hL
  exact v0ldR (cl299 q) (rf299_21 q) g
theorem vMR22 {β : Type} {h : mh} {Q : β → mh → Prop} (hL : LM h.2) {F : Nat → Option (β × mh)} (g : ok (F (308)) Q) : ok (ldR h 299 10 22 F) Q := by
  obtain ⟨_, _, q⟩ := hL
  exact v0ldR (cl299 q) (rf299_22 q) g
theorem vMR23 {β : Type} {h : mh} {Q : β → mh → Prop} (hL : LM h.2) {F : Nat → Option (β × mh)} (g : ok (F (309)) Q) : ok (ldR h 299 10 23 F) Q := by
  obtain ⟨_, _, q⟩ := hL
  exact v0ldR (cl299 q) (rf299_23 q) g
theorem vMR24 {β : Type} {h : mh} {Q : β → mh → Prop} (hL : LM h.2) {F : Nat → Option (β × mh)} (g : ok (F (310)) Q) : ok (ldR h 299 10 24 F) Q := by
  obtain ⟨_, _, q⟩ := hL
  exact v0ldR (cl299 q) (rf299_24 q) g
theorem vMR25 {β : Type} {h : mh} {Q : β → mh → Prop} (hL : LM h.2) {F : Nat → Option (β × mh)} (g : ok (F (311)) Q) : ok (ldR h 299 10 25 F) Q := by
  obtain ⟨_, _, q⟩ := hL
  exact v0ldR (cl299 q) (rf299_25 q) g
theorem vMR26 {β : Type} {h : mh} {Q : β → mh → Prop} (hL : LM h.2) {F : Nat → Option (β × mh)} (g : ok (F (312)) Q) : ok (ldR h 299 10 26 F) Q := by
  obtain ⟨_, _, q⟩ := hL
  exact v0ldR (cl299 q) (rf299_26 q) g
theorem vMR27 {β : Type} {h : mh} {Q : β → mh → Prop} (hL : LM h.2) {F : Nat → Option (β × mh)} (g : ok (F (313)) Q) : ok (ldR h 299 10 27 F) Q := by
  obtain ⟨_, _, q⟩ := hL
  exact v0ldR (cl299 q) (rf299_27 q) g
theorem vMR28 {β : Type} {h : mh} {Q : β → mh → Prop} (hL : LM h.2) {F : Nat → Option (β × mh)} (g : ok (F (314)) Q) : ok (ldR h 299 10 28 F) Q := by
  obtain ⟨_, _, q⟩ := hL
  exact v0ldR (cl299 q) (rf299_28 q) g
theorem vMR29 {β : Type} {h : mh} {Q : β → mh → Prop} (hL : LM h.2) {F : Nat → Option (β × mh)} (g : ok (F (315)) Q) : ok (ldR h 299 10 29 F) Q := by
  obtain ⟨_, _, q⟩ := hL
  exact v0ldR (cl299 q) (rf299_29 q) g
theorem vMR30 {β : Type} {h : mh} {Q : β → mh → Prop} (hL : LM h.2) {F : Nat → Option (β × mh)} (g : ok (F (316)) Q) : ok (ldR h 299 10 30 F) Q := by
  obtain ⟨_, _, q⟩ := hL
  exact v0ldR (cl299 q) (rf299_30 q) g
theorem vMR31 {β : Type} {h : mh} {Q : β → mh → Prop} (hL : LM h.2) {F : Nat → Option (β × mh)} (g : ok (F (317)) Q) : ok (ldR h 299 10 31 F) Q := by
  obtain ⟨_, _, q⟩ := hL
  exact v0ldR (cl299 q) (rf299_31 q) g
theorem vMR32 {β : Type} {h : mh} {Q : β → mh → Prop} (hL : LM h.2) {F : Nat → Option (β × mh)} (g : ok (F (318)) Q) : ok (ldR h 299 10 32 F) Q := by
  obtain ⟨_, _, q⟩ := hL
  exact v0ldR (cl299 q) (rf299_32 q) g
theorem vMR33 {β : Type} {h : mh} {Q : β → mh → Prop} (hL : LM h.2) {F : Nat → Option (β × mh)} (g : ok (F (319)) Q) : ok (ldR h 299 10 33 F) Q := by
  obtain ⟨_, _, q⟩ := hL
  exact v0ldR (cl299 q) (rf299_33 q) g
theorem vMR34 {β : Type} {h : mh} {Q : β → mh → Prop} (hL : LM h.2) {F : Nat → Option (β × mh)} (g : ok (F (320)) Q) : ok (ldR h 299 10 34 F) Q := by
  obtain ⟨_, _, q⟩ := hL
  exact v0ldR (cl299 q) (rf299_34 q) g
theorem vMR35 {β : Type} {h : mh} {Q : β → mh → Prop} (hL : LM h.2) {F : Nat → Option (β × mh)} (g : ok (F (321)) Q) : ok (ldR h 299 10 35 F) Q := by
  obtain ⟨_, _, q⟩ := hL
  exact v0ldR (cl299 q) (rf299_35 q) g
theorem vMR36 {β : Type} {h : mh} {Q : β → mh → Prop} (hL : LM h.2) {F : Nat → Option (β × mh)} (g : ok (F (322)) Q) : ok (ldR h 299 10 36 F) Q := by
  obtain ⟨_, _, q⟩ := hL
  exact v0ldR (cl299 q) (rf299_36 q) g
theorem vMR38 {β : Type} {h : mh} {Q : β → mh → Prop} (hL : LM h.2) {F : Nat → Option (β × mh)} (g : ok (F (323)) Q) : ok (ldR h 299 10 38 F) Q := by
  obtain ⟨_, _, q⟩ := hL
  exact v0ldR (cl299 q) (rf299_38 q) g
theorem vMR39 {β : Type} {h : mh} {Q : β → mh → Prop} (hL : LM h.2) {F : Nat → Option (β × mh)} (g : ok (F (324)) Q) : ok (ldR h 299 10 39 F) Q := by
  obtain ⟨_, _, q⟩ := hL
  exact v0ldR (cl299 q) (rf299_39 q) g
theorem vMR40 {β : Type} {h : mh} {Q : β → mh → Prop} (hL : LM h.2) {F : Nat → Option (β × mh)} (g : ok (F (325)) Q) : ok (ldR h 299 10 40 F) Q := by
  obtain ⟨_, _, q⟩ := hL
  exact v0ldR (cl299 q) (rf299_40 q) g
theorem vMR41 {β : Type} {h : mh} {Q : β → mh → Prop} (hL : LM h.2) {F : Nat → Option (β × mh)} (g : ok (F (326)) Q) : ok (ldR h 299 10 41 F) Q := by
  obtain ⟨_, _, q⟩ := hL
  exact v0ldR (cl299 q) (rf299_41 q) g
theorem vMR42 {β : Type} {h : mh} {Q : β → mh → Prop} (hL : LM h.2) {F : Nat → Option (β × mh)} (g : ok (F (327)) Q) : ok (ldR h 299 10 42 F) Q := by
  obtain ⟨_, _, q⟩ := hL
  exact v0ldR (cl299 q) (rf299_42 q) g
theorem vMR44 {β : Type} {h : mh} {Q : β → mh → Prop} (hL : LM h.2) {F : Nat → Option (β × mh)} (g : ok (F (328)) Q) : ok (ldR h 299 10 44 F) Q := by
  obtain ⟨_, _, q⟩ := hL
  exact v0ldR (cl299 q) (rf299_44 q) g
theorem vMR45 {β : Type} {h : mh} {Q : β → mh → Prop} (hL : LM h.2) {F : Nat → Option (β × mh)} (g : ok (F (329)) Q) : ok (ldR h 299 10 45 F) Q := by
  obtain ⟨_, _, q⟩ := hL
  exact v0ldR (cl299 q) (rf299_45 q) g
theorem vMR46 {β : Type} {h : mh} {Q : β → mh → Prop} (hL : LM h.2) {F : Nat → Option (β × mh)} (g : ok (F (330)) Q) : ok (ldR h 299 10 46 F) Q := by
  obtain ⟨_, _, q⟩ := hL
  exact v0ldR (cl299 q) (rf299_46 q) g
theorem vMR48 {β : Type} {h : mh} {Q : β → mh → Prop} (hL : LM h.2) {F : Nat → Option (β × mh)} (g : ok (F (331)) Q) : ok (ldR h 299 10 48 F) Q := by
  obtain ⟨_, _, q⟩ := hL
  exact v0ldR (cl299 q) (rf299_48 q) g
theorem vMR49 {β : Type} {h : mh} {Q : β → mh → Prop} (hL : LM h.2) {F : Nat → Option (β × mh)} (g : ok (F (332)) Q) : ok (ldR h 299 10 49 F) Q := by
  obtain ⟨_, _, q⟩ := hL
  exact v0ldR (cl299 q) (rf299_49 q) g
theorem vMR51 {β : Type} {h : mh} {Q : β → mh → Prop} (hL : LM h.2) {F : Nat → Option (β × mh)} (g : ok (F (333)) Q) : ok (ldR h 299 10 51 F) Q := by
  obtain ⟨_, _, q⟩ := hL
  exact v0ldR (cl299 q) (rf299_51 q) g
theorem vMR52 {β : Type} {h : mh} {Q : β → mh → Prop} (hL : LM h.2) {F : Nat → Option (β × mh)} (g : ok (F (334)) Q) : ok (ldR h 299 10 52 F) Q := by
  obtain ⟨_, _, q⟩ := hL
  exact v0ldR (cl299 q) (rf299_52 q) g
theorem vMR55 {β : Type} {h : mh} {Q : β → mh → Prop} (hL : LM h.2) {F : Nat → Option (β × mh)} (g : ok (F (335)) Q) : ok (ldR h 299 10 55 F) Q := by
  obtain ⟨_, _, q⟩ := hL
  exact v0ldR (cl299 q) (rf299_55 q) g
theorem vMR56 {β : Type} {h : mh} {Q : β → mh → Prop} (hL : LM h.2) {F : Nat → Option (β × mh)} (g : ok (F (336)) Q) : ok (ldR h 299 10 56 F) Q := by
  obtain ⟨_, _, q⟩ := hL
  exact v0ldR (cl299 q) (rf299_56 q) g
theorem vMR59 {β : Type} {h : mh} {Q : β → mh → Prop} (hL : LM h.2) {F : Nat → Option (β × mh)} (g : ok (F (337)) Q) : ok (ldR h 299 10 59 F) Q := by
  obtain ⟨_, _, q⟩ := hL
  exact v0ldR (cl299 q) (rf299_59 q) g
theorem vMR62 {β : Type} {h : mh} {Q : β → mh → Prop} (hL : LM h.2) {F : Nat → Option (β × mh)} (g : ok (F (338)) Q) : ok (ldR h 299 10 62 F) Q := by
  obtain ⟨_, _, q⟩ := hL
  exact v0ldR (cl299 q) (rf299_62 q) g
theorem vMR64 {β : Type} {h : mh} {Q : β → mh → Prop} (hL : LM h.2) {F : Nat → Option (β × mh)} (g : ok (F (339)) Q) : ok (ldR h 299 10 64 F) Q := by
  obtain ⟨_, _, q⟩ := hL
  exact v0ldR (cl299 q) (rf299_64 q) g
theorem vMR65 {β : Type} {h : mh} {Q : β → mh → Prop} (hL : LM h.2) {F : Nat → Option (β × mh)} (g : ok (F (340)) Q) : ok (ldR h 299 10 65 F) Q := by
  obtain ⟨_, _, q⟩ := hL
  exact v0ldR (cl299 q) (rf299_65 q) g
theorem vMR66 {β : Type} {h : mh} {Q : β → mh → Prop} (hL : LM h.2) {F : Nat → Option (β × mh)} (g : ok (F (341)) Q) : ok (ldR h 299 10 66 F) Q := by
  obtain ⟨_, _, q⟩ := hL
  exact v0ldR (cl299 q) (rf299_66 q) g
theorem vMR67 {β : Type} {h : mh} {Q : β → mh → Prop} (hL : LM h.2) {F : Nat → Option (β × mh)} (g : ok (F (342)) Q) : ok (ldR h 299 10 67 F) Q := by
  obtain ⟨_, _, q⟩ := hL
  exact v0ldR (cl299 q) (rf299_67 q) g
theorem vMI {β : Type} {h : mh} {Q : β → mh → Prop} (hL : LM h.2) {k : Nat} {F : Int32 → Option (β × mh)} (g : ok (F (gI h 299 k)) Q) : ok (ldI h 299 10 k F) Q := by
  obtain ⟨_, _, q⟩ := hL
  exact v0ldI (cl299 q) g
theorem vMS {β : Type} {h : mh} {Q : β → mh → Prop} (hL : LM h.2) {k : Nat} {x : Int32} {F : mh → Option (β × mh)} (g : ok (F (uI h 299 k x)) Q) : ok (stI h 299 10 k x F) Q := by
  obtain ⟨_, _, q⟩ := hL
  exact v0stI (cl299 q) g
theorem vMZ {β : Type} {h : mh} {Q : β → mh → Prop} (hL : LM h.2) {k : Nat} {x : Int32} {F : mh → Option (β × mh)} (e : x = 0 ∨ x = 1) (g : ok (F (uI h 299 k x)) Q) : ok (stZ h 299 10 k x F) Q := by
  obtain ⟨_, _, q⟩ := hL
  exact v0stZ (cl299 q) e g
theorem vMC {β : Type} {h : mh} {Q : β → mh → Prop} (hL : LM h.2) {X : Option (β × mh)} (g : ok X Q) : ok (ckO h 299 10 X) Q := by
  obtain ⟨_, _, q⟩ := hL
  exact v0ck (cl299 q) g
theorem vM300A {β : Type} {h : mh} {Q : β → mh → Prop} (hL : LM h.2) {j : Nat} {i : Int32} {F : Int32 → Option (β × mh)} (e : i = nI j) (hj : j < 2000) (g : ok (F (gI h 300 j)) Q) : ok (ldA h 300 2 i F) Q := by
  obtain ⟨_, _, q⟩ := hL
  exact v0ldA (cl300 q) e hj (by decide) g
theorem vM300W {β : Type} {h : mh} {Q : β → mh → Prop} (hL : LM h.2) {j : Nat} {i : Int32} {x : Int32} {F : mh → Option (β × mh)} (e : i = nI j) (hj : j < 2000) (g : ok (F (uI h 300 j (x.toInt8.toInt32))) Q) : ok (stB h 300 i x F) Q := by
  obtain ⟨_, _, q⟩ := hL
  exact v0stB (cl300 q) e hj (by decide) g
theorem vM301A {β : Type} {h : mh} {Q : β → mh → Prop} (hL : LM h.2) {j : Nat} {i : Int32} {F : Int32 → Option (β × mh)} (e : i = nI j) (hj : j < 2000) (g : ok (F (gI h 301 j)) Q) : ok (ldA h 301 2 i F) Q := by
  obtain ⟨_, _, q⟩ := hL
  exact v0ldA (cl301 q) e hj (by decide) g
theorem vM301W {β : Type} {h : mh} {Q : β → mh → Prop} (hL : LM h.2) {j : Nat} {i : Int32} {x : Int32} {F : mh → Option (β × mh)} (e : i = nI j) (hj : j < 2000) (g : ok (F (uI h 301 j (x.toInt8.toInt32))) Q) : ok (stB h 301 i x F) Q := by
  obtain ⟨_, _, q⟩ := hL
  exact v0stB (cl301 q) e hj (by decide) g
theorem vM302A {β : Type} {h : mh} {Q : β → mh → Prop} (hL : LM h.2) {j : Nat} {i : Int32} {F : Int32 → Option (β × mh)} (e : i = nI j) (hj : j < 403) (g : ok (F (gI h 302 j)) Q) : ok (ldA h 302 1 i F) Q := by
  obtain ⟨_, _, q⟩ := hL
  exact v0ldA (cl302 q) e hj (by decide) g
theorem vM302W {β : Type} {h : mh} {Q : β → mh → Prop} (hL : LM h.2) {j : Nat} {i : Int32} {x : Int32} {F : mh → Option (β × mh)} (e : i = nI j) (hj : j < 403) (g : ok (F (uI h 302 j x)) Q) : ok (stA h 302 i x F) Q := by
  obtain ⟨_, _, q⟩ := hL
  exact v0stA (cl302 q) e hj (by decide) g
theorem vM303A {β : Type} {h : mh} {Q : β → mh → Prop} (hL : LM h.2) {j : Nat} {i : Int32} {F : Int32 → Option (β × mh)} (e : i = nI j) (hj : j < 403) (g : ok (F (gI h 303 j)) Q) : ok (ldA h 303 1 i F) Q := by
  obtain ⟨_, _, q⟩ := hL
  exact v0ldA (cl303 q) e hj (by decide) g
theorem vM303W {β : Type} {h : mh} {Q : β → mh → Prop} (hL : LM h.2) {j : Nat} {i : Int32} {x : Int32} {F : mh → Option (β × mh)} (e : i = nI j) (hj : j < 403) (g : ok (F (uI h 303 j x)) Q) : ok (stA h 303 i x F) Q := by
  obtain ⟨_, _, q⟩ := hL
  exact v0stA (cl303 q) e hj (by decide) g
theorem vM304A {β : Type} {h : mh} {Q : β → mh → Prop} (hL : LM h.2) {j : Nat} {i : Int32} {F : Int32 → Option (β × mh)} (e : i = nI j) (hj : j < 403) (g : ok (F (gI h 304 j)) Q) : ok (ldA h 304 1 i F) Q := by
  obtain ⟨_, _, q⟩ := hL
  exact v0ldA (cl304 q) e hj (by decide) g
theorem vM304W {β : Type} {h : mh} {Q : β → mh → Prop} (hL : LM h.2) {j : Nat} {i : Int32} {x : Int32} {F : mh → Option (β × mh)} (e : i = nI j) (hj : j < 403) (g : ok (F (uI h 304 j x)) Q) : ok (stA h 304 i x F) Q := by
  obtain ⟨_, _, q⟩ := hL
  exact v0stA (cl304 q) e hj (by decide) g
theorem vM305A {β : Type} {h : mh} {Q : β → mh → Prop} (hL : LM h.2) {j : Nat} {i : Int32} {F : Int64 → Option (β × mh)} (e : i = nI j) (hj : j < 403) (g : ok (F (gL h 305 j)) Q) : ok (ldJ h 305 i F) Q := by
  obtain ⟨_, _, q⟩ := hL
  exact v0ldJ (cl305 q) e hj (by decide) g
theorem vM305W {β : Type} {h : mh} {Q : β → mh → Prop} (hL : LM h.2) {j : Nat} {i : Int32} {x : Int64} {F : mh → Option (β × mh)} (e : i = nI j) (hj : j < 403) (g : ok (F (uL h 305 j x)) Q) : ok (stJ h 305 i x F) Q := by
  obtain ⟨_, _, q⟩ := hL
  exact v0stJ (cl305 q) e hj (by decide) g
theorem vM306A {β : Type} {h : mh} {Q : β → mh → Prop} (hL : LM h.2) {j : Nat} {i : Int32} {F : Int64 → Option (β × mh)} (e : i = nI j) (hj : j < 22) (g : ok (F (gL h 306 j)) Q) : ok (ldJ h 306 i F) Q := by
  obtain ⟨_, _, q⟩ := hL
  exact v0ldJ (cl306 q) e hj (by decide) g
theorem vM306W {β : Type} {h : mh} {Q : β → mh → Prop} (hL : LM h.2) {j : Nat} {i : Int32} {x : Int64} {F : mh → Option (β × mh)} (e : i = nI j) (hj : j < 22) (g : ok (F (uL h 306 j x)) Q) : ok (stJ h 306 i x F) Q := by
  obtain ⟨_, _, q⟩ := hL
  exact v0stJ (cl306 q) e hj (by decide) g
theorem vM307A {β : Type} {h : mh} {Q : β → mh → Prop} (hL : LM h.2) {j : Nat} {i : Int32} {F : Int64 → Option (β × mh)} (e : i = nI j) (hj : j < 12) (g : ok (F (gL h 307 j)) Q) : ok (ldJ h 307 i F) Q := by
  obtain ⟨_, _, q⟩ := hL
  exact v0ldJ (cl307 q) e hj (by decide) g
theorem vM307W {β : Type} {h : mh} {Q : β → mh → Prop} (hL : LM h.2) {j : Nat} {i : Int32} {x : Int64} {F : mh → Option (β × mh)} (e : i = nI j) (hj : j < 12) (g : ok (F (uL h 307 j x)) Q) : ok (stJ h 307 i x F) Q := by
  obtain ⟨_, _, q⟩ := hL
  exact v0stJ (cl307 q) e hj (by decide) g
theorem vM308A {β : Type} {h : mh} {Q : β → mh → Prop} (hL : LM h.2) {j : Nat} {i : Int32} {F : Int32 → Option (β × mh)} (e : i = nI j) (hj : j < 12) (g : ok (F (gI h 308 j)) Q) : ok (ldA h 308 1 i F) Q := by
  obtain ⟨_, _, q⟩ := hL
  exact v0ldA (cl308 q) e hj (by decide) g
theorem vM308W {β : Type} {h : mh} {Q : β → mh → Prop} (hL : LM h.2) {j : Nat} {i : Int32} {x : Int32} {F : mh → Option (β × mh)} (e : i = nI j) (hj : j < 12) (g : ok (F (uI h 308 j x)) Q) : ok (stA h 308 i x F) Q := by
  obtain ⟨_, _, q⟩ := hL
  exact v0stA (cl308 q) e hj (by decide) g
theorem vM309A {β : Type} {h : mh} {Q : β → mh → Prop} (hL : LM h.2) {j : Nat} {i : Int32} {F : Int32 → Option (β × mh)} (e : i = nI j) (hj : j < 2) (g : ok (F (gI h 309 j)) Q) : ok (ldA h 309 1 i F) Q := by
  obtain ⟨_, _, q⟩ := hL
  exact v0ldA (cl309 q) e hj (by decide) g
theorem vM309W {β : Type} {h : mh} {Q : β → mh → Prop} (hL : LM h.2) {j : Nat} {i : Int32} {x : Int32} {F : mh → Option (β × mh)} (e : i = nI j) (hj : j < 2) (g : ok (F (uI h 309 j x)) Q) : ok (stA h 309 i x F) Q := by
  obtain ⟨_, _, q⟩ := hL
  exact v0stA (cl309 q) e hj (by decide) g
theorem vM310A {β : Type} {h : mh} {Q : β → mh → Prop} (hL : LM h.2) {j : Nat} {i : Int32} {F : Int32 → Option (β × mh)} (e : i = nI j) (hj : j < 12) (g : ok (F (gI h 310 j)) Q) : ok (ldA h 310 1 i F) Q := by
  obtain ⟨_, _, q⟩ := hL
  exact v0ldA (cl310 q) e hj (by decide) g
theorem vM310W {β : Type} {h : mh} {Q : β → mh → Prop} (hL : LM h.2) {j : Nat} {i : Int32} {x : Int32} {F : mh → Option (β × mh)} (e : i = nI j) (hj : j < 12) (g : ok (F (uI h 310 j x)) Q) : ok (stA h 310 i x F) Q := by
  obtain ⟨_, _, q⟩ := hL
  exact v0stA (cl310 q) e hj (by decide) g
theorem vM311A {β : Type} {h : mh} {Q : β → mh → Prop} (hL : LM h.2) {j : Nat} {i : Int32} {F : Int32 → Option (β × mh)} (e : i = nI j) (hj : j < 12) (g : ok (F (gI h 311 j)) Q) : ok (ldA h 311 1 i F) Q := by
  obtain ⟨_, _, q⟩ := hL
  exact v0ldA (cl311 q) e hj (by decide) g
theorem vM311W {β : Type} {h : mh} {Q : β → mh → Prop} (hL : LM h.2) {j : Nat} {i : Int32} {x : Int32} {F : mh → Option (β × mh)} (e : i = nI j) (hj : j < 12) (g : ok (F (uI h 311 j x)) Q) : ok (stA h 311 i x F) Q := by
  obtain ⟨_, _, q⟩ := hL
  exact v0stA (cl311 q) e hj (by decide) g
theorem vM312A {β : Type} {h : mh} {Q : β → mh → Prop} (hL : LM h.2) {j : Nat} {i : Int32} {F : Int32 → Option (β × mh)} (e : i = nI j) (hj : j < 2) (g : ok (F (gI h 312 j)) Q) : ok (ldA h 312 1 i F) Q := by
  obtain ⟨_, _, q⟩ := hL
  exact v0ldA (cl312 q) e hj (by decide) g
theorem vM312W {β : Type} {h : mh} {Q : β → mh → Prop} (hL : LM h.2) {j : Nat} {i : Int32} {x : Int32} {F : mh → Option (β × mh)} (e : i = nI j) (hj : j < 2) (g : ok (F (uI h 312 j x)) Q) : ok (stA h 312 i x F) Q := by
  obtain ⟨_, _, q⟩ := hL
  exact v0stA (cl312 q) e hj (by decide) g
theorem vM313A {β : Type} {h : mh} {Q : β → mh → Prop} (hL : LM h.2) {j : Nat} {i : Int32} {F : Int32 → Option (β × mh)} (e : i = nI j) (hj : j < 12) (g : ok (F (gI h 313 j)) Q) : ok (ldA h 313 1 i F) Q := by
  obtain ⟨_, _, q⟩ := hL
  exact v0ldA (cl313 q) e hj (by decide) g
theorem vM313W {β : Type} {h : mh} {Q : β → mh → Prop} (hL : LM h.2) {j : Nat} {i : Int32} {x : Int32} {F : mh → Option (β × mh)} (e : i = nI j) (hj : j < 12) (g : ok (F (uI h 313 j x)) Q) : ok (stA h 313 i x F) Q := by
  obtain ⟨_, _, q⟩ := hL
  exact v0stA (cl313 q) e hj (by decide) g
theorem vM314A {β : Type} {h : mh} {Q : β → mh → Prop} (hL : LM h.2) {j : Nat} {i : Int32} {F : Int32 → Option (β × mh)} (e : i = nI j) (hj : j < 12) (g : ok (F (gI h 314 j)) Q) : ok (ldA h 314 1 i F) Q := by
  obtain ⟨_, _, q⟩ := hL
  exact v0ldA (cl314 q) e hj (by decide) g
theorem vM314W {β : Type} {h : mh} {Q : β → mh → Prop} (hL : LM h.2) {j : Nat} {i : Int32} {x : Int32} {F : mh → Option (β × mh)} (e : i = nI j) (hj : j < 12) (g : ok (F (uI h 314 j x)) Q) : ok (stA h 314 i x F) Q := by
  obtain ⟨_, _, q⟩ := hL
  exact v0stA (cl314 q) e hj (by decide) g
theorem vM315A {β : Type} {h : mh} {Q : β → mh → Prop} (hL : LM h.2) {j : Nat} {i : Int32} {F : Int32 → Option (β × mh)} (e : i = nI j) (hj : j < 12) (g : ok (F (gI h 315 j)) Q) : ok (ldA h 315 1 i F) Q := by
  obtain ⟨_, _, q⟩ := hL
  exact v0ldA (cl315 q) e hj (by decide) g
theorem vM315W {β : Type} {h : mh} {Q : β → mh → Prop} (hL : LM h.2) {j : Nat} {i : Int32} {x : Int32} {F : mh → Option (β × mh)} (e : i = nI j) (hj : j < 12) (g : ok (F (uI h 315 j x)) Q) : ok (stA h 315 i x F) Q := by
  obtain ⟨_, _, q⟩ := hL
  exact v0stA (cl315 q) e hj (by decide) g
theorem vM316A {β : Type} {h : mh} {Q : β → mh → Prop} (hL : LM h.2) {j : Nat} {i : Int32} {F : Int32 → Option (β × mh)} (e : i = nI j) (hj : j < 12) (g : ok (F (gI h 316 j)) Q) : ok (ldA h 316 1 i F) Q := by
  obtain ⟨_, _, q⟩ := hL
  exact v0ldA (cl316 q) e hj (by decide) g
theorem vM316W {β : Type} {h : mh} {Q : β → mh → Prop} (hL : LM h.2) {j : Nat} {i : Int32} {x : Int32} {F : mh → Option (β × mh)} (e : i = nI j) (hj : j < 12) (g : ok (F (uI h 316 j x)) Q) : ok (stA h 316 i x F) Q := by
  obtain ⟨_, _, q⟩ := hL
  exact v0stA (cl316 q) e hj (by decide) g
theorem vM317A {β : Type} {h : mh} {Q : β → mh → Prop} (hL : LM h.2) {j : Nat} {i : Int32} {F : Int32 → Option (β × mh)} (e : i = nI j) (hj : j < 2) (g : ok (F (gI h 317 j)) Q) : ok (ldA h 317 1 i F) Q := by
  obtain ⟨_, _, q⟩ := hL
  exact v0ldA (cl317 q) e hj (by decide) g
theorem vM317W {β : Type} {h : mh} {Q : β → mh → Prop} (hL : LM h.2) {j : Nat} {i : Int32} {x : Int32} {F : mh → Option (β × mh)} (e : i = nI j) (hj : j < 2) (g : ok (F (uI h 317 j x)) Q) : ok (stA h 317 i x F) Q := by
  obtain ⟨_, _, q⟩ := hL
  exact v0stA (cl317 q) e hj (by decide) g
theorem vM318A {β : Type} {h : mh} {Q : β → mh → Prop} (hL : LM h.2) {j : Nat} {i : Int32} {F : Int32 → Option (β × mh)} (e : i = nI j) (hj : j < 2) (g : ok (F (gI h 318 j)) Q) : ok (ldA h 318 1 i F) Q := by
  obtain ⟨_, _, q⟩ := hL
  exact v0ldA (cl318 q) e hj (by decide) g
theorem vM318W {β : Type} {h : mh} {Q : β → mh → Prop} (hL : LM h.2) {j : Nat} {i : Int32} {x : Int32} {F : mh → Option (β × mh)} (e : i = nI j) (hj : j < 2) (g : ok (F (uI h 318 j x)) Q) : ok (stA h 318 i x F) Q := by
  obtain ⟨_, _, q⟩ := hL
  exact v0stA (cl318 q) e hj (by decide) g
theorem vM319A {β : Type} {h : mh} {Q : β → mh → Prop} (hL : LM h.2) {j : Nat} {i : Int32} {F : Int32 → Option (β × mh)} (e : i = nI j) (hj : j < 2) (g : ok (F (gI h 319 j)) Q) : ok (ldA h 319 1 i F) Q := by
  obtain ⟨_, _, q⟩ := hL
  exact v0ldA (cl319 q) e hj (by decide) g
theorem vM319W {β : Type} {h : mh} {Q : β → mh → Prop} (hL : LM h.2) {j : Nat} {i : Int32} {x : Int32} {F : mh → Option (β × mh)} (e : i = nI j) (hj : j < 2) (g : ok (F (uI h 319 j x)) Q) : ok (stA h 319 i x F) Q := by
  obtain ⟨_, _, q⟩ := hL
  exact v0stA (cl319 q) e hj (by decide) g
theorem vM320A {β : Type} {h : mh} {Q : β → mh → Prop} (hL : LM h.2) {j : Nat} {i : Int32} {F : Int32 → Option (β × mh)} (e : i = nI j) (hj : j < 2) (g : ok (F (gI h 320 j)) Q) : ok (ldA h 320 1 i F) Q := by
  obtain ⟨_, _, q⟩ := hL
  exact v0ldA (cl320 q) e hj (by decide) g
theorem vM320W {β : Type} {h : mh} {Q : β → mh → Prop} (hL : LM h.2) {j : Nat} {i : Int32} {x : Int32} {F : mh → Option (β × mh)} (e : i = nI j) (hj : j < 2) (g : ok (F (uI h 320 j x)) Q) : ok (stA h 320 i x F) Q := by
  obtain ⟨_, _, q⟩ := hL
  exact v0stA (cl320 q) e hj (by decide) g
theorem vM321A {β : Type} {h : mh} {Q : β → mh → Prop} (hL : LM h.2) {j : Nat} {i : Int32} {F : Int32 → Option (β × mh)} (e : i = nI j) (hj : j < 8) (g : ok (F (gI h 321 j)) Q) : ok (ldA h 321 1 i F) Q := by
  obtain ⟨_, _, q⟩ := hL
  exact v0ldA (cl321 q) e hj (by decide) g
theorem vM321W {β : Type} {h : mh} {Q : β → mh → Prop} (hL : LM h.2) {j : Nat} {i : Int32} {x : Int32} {F : mh → Option (β × mh)} (e : i = nI j) (hj : j < 8) (g : ok (F (uI h 321 j x)) Q) : ok (stA h 321 i x F) Q := by
  obtain ⟨_, _, q⟩ := hL
  exact v0stA (cl321 q) e hj (by decide) g
theorem vM322A {β : Type} {h : mh} {Q : β → mh → Prop} (hL : LM h.2) {j : Nat} {i : Int32} {F : Int32 → Option (β × mh)} (e : i = nI j) (hj : j < 8) (g : ok (F (gI h 322 j)) Q) : ok (ldA h 322 1 i F) Q := by
  obtain ⟨_, _, q⟩ := hL
  exact v0ldA (cl322 q) e hj (by decide) g
theorem vM322W {β : Type} {h : mh} {Q : β → mh → Prop} (hL : LM h.2) {j : Nat} {i : Int32} {x : Int32} {F : mh → Option (β × mh)} (e : i = nI j) (hj : j < 8) (g : ok (F (uI h 322 j x)) Q) : ok (stA h 322 i x F) Q := by
  obtain ⟨_, _, q⟩ := hL
  exact v0stA (cl322 q) e hj (by decide) g
theorem vM323A {β : Type} {h : mh} {Q : β → mh → Prop} (hL : LM h.2) {j : Nat} {i : Int32} {F : Int32 → Option (β × mh)} (e : i = nI j) (hj : j < 260) (g : ok (F (gI h 323 j)) Q) : ok (ldA h 323 3 i F) Q := by
  obtain ⟨_, _, q⟩ := hL
  exact v0ldA (cl323 q) e hj (by decide) g
theorem vM323W {β : Type} {h : mh} {Q : β → mh → Prop} (hL : LM h.2) {j : Nat} {i : Int32} {x : Int32} {F : mh → Option (β × mh)} (e : i = nI j) (hj : j < 260) (g : ok (F (uI h 323 j (x &&& 1))) Q) : ok (stY h 323 i x F) Q := by
  obtain ⟨_, _, q⟩ := hL
  exact v0stY (cl323 q) e hj (by decide) g
theorem vM324A {β : Type} {h : mh} {Q : β → mh → Prop} (hL : LM h.2) {j : Nat} {i : Int32} {F : Int32 → Option (β × mh)} (e : i = nI j) (hj : j < 260) (g : ok (F (gI h 324 j)) Q) : ok (ldA h 324 1 i F) Q := by
  obtain ⟨_, _, q⟩ := hL
  exact v0ldA (cl324 q) e hj (by decide) g
theorem vM324W {β : Type} {h : mh} {Q : β → mh → Prop} (hL : LM h.2) {j : Nat} {i : Int32} {x : Int32} {F : mh → Option (β × mh)} (e : i = nI j) (hj : j < 260) (g : ok (F (uI h 324 j x)) Q) : ok (stA h 324 i x F) Q := by
  obtain ⟨_, _, q⟩ := hL
  exact v0stA (cl324 q) e hj (by decide) g
theorem vM325A {β : Type} {h : mh} {Q : β → mh → Prop} (hL : LM h.2) {j : Nat} {i : Int32} {F : Int32 → Option (β × mh)} (e : i = nI j) (hj : j < 260) (g : ok (F (gI h 325 j)) Q) : ok (ldA h 325 1 i F) Q := by
  obtain ⟨_, _, q⟩ := hL
  exact v0ldA (cl325 q) e hj (by decide) g
theorem vM325W {β : Type} {h : mh} {Q : β → mh → Prop} (hL : LM h.2) {j : Nat} {i : Int32} {x : Int32} {F : mh → Option (β × mh)} (e : i = nI j) (hj : j < 260) (g : ok (F (uI h 325 j x)) Q) : ok (stA h 325 i x F) Q := by
  obtain ⟨_, _, q⟩ := hL
  exact v0stA (cl325 q) e hj (by decide) g
theorem vM326A {β : Type} {h : mh} {Q : β → mh → Prop} (hL : LM h.2) {j : Nat} {i : Int32} {F : Int32 → Option (β × mh)} (e : i = nI j) (hj : j < 260) (g : ok (F (gI h 326 j)) Q) : ok (ldA h 326 1 i F) Q := by
  obtain ⟨_, _, q⟩ := hL
  exact v0ldA (cl326 q) e hj (by decide) g
theorem vM326W {β : Type} {h : mh} {Q : β → mh → Prop} (hL : LM h.2) {j : Nat} {i : Int32} {x : Int32} {F : mh → Option (β × mh)} (e : i = nI j) (hj : j < 260) (g : ok (F (uI h 326 j x)) Q) : ok (stA h 326 i x F) Q := by
  obtain ⟨_, _, q⟩ := hL
  exact v0stA (cl326 q) e hj (by decide) g
theorem vM327A {β : Type} {h : mh} {Q : β → mh → Prop} (hL : LM h.2) {j : Nat} {i : Int32} {F : Int32 → Option (β × mh)} (e : i = nI j) (hj : j < 260) (g : ok (F (gI h 327 j)) Q) : ok (ldA h 327 1 i F) Q := by
  obtain ⟨_, _, q⟩ := hL
  exact v0ldA (cl327 q) e hj (by decide) g
theorem vM327W {β : Type} {h : mh} {Q : β → mh → Prop} (hL : LM h.2) {j : Nat} {i : Int32} {x : Int32} {F : mh → Option (β × mh)} (e : i = nI j) (hj : j < 260) (g : ok (F (uI h 327 j x)) Q) : ok (stA h 327 i x F) Q := by
  obtain ⟨_, _, q⟩ := hL
  exact v0stA (cl327 q) e hj (by decide) g
theorem vM328A {β : Type} {h : mh} {Q : β → mh → Prop} (hL : LM h.2) {j : Nat} {i : Int32} {F : Int32 → Option (β × mh)} (e : i = nI j) (hj : j < 840) (g : ok (F (gI h 328 j)) Q) : ok (ldA h 328 1 i F) Q := by
  obtain ⟨_, _, q⟩ := hL
  exact v0ldA (cl328 q) e hj (by decide) g
theorem vM328W {β : Type} {h : mh} {Q : β → mh → Prop} (hL : LM h.2) {j : Nat} {i : Int32} {x : Int32} {F : mh → Option (β × mh)} (e : i = nI j) (hj : j < 840) (g : ok (F (uI h 328 j x)) Q) : ok (stA h 328 i x F) Q := by
  obtain ⟨_, _, q⟩ := hL
  exact v0stA (cl328 q) e hj (by decide) g
theorem vM329A {β : Type} {h : mh} {Q : β → mh → Prop} (hL : LM h.2) {j : Nat} {i : Int32} {F : Int32 → Option (β × mh)} (e : i = nI j) (hj : j < 840) (g : ok (F (gI h 329 j)) Q) : ok (ldA h 329 1 i F) Q := by
  obtain ⟨_, _, q⟩ := hL
  exact v0ldA (cl329 q) e hj (by decide) g
theorem vM329W {β : Type} {h : mh} {Q : β → mh → Prop} (hL : LM h.2) {j : Nat} {i : Int32} {x : Int32} {F : mh → Option (β × mh)} (e : i = nI j) (hj : j < 840) (g : ok (F (uI h 329 j x)) Q) : ok (stA h 329 i x F) Q := by
  obtain ⟨_, _, q⟩ := hL
  exact v0stA (cl329 q) e hj (by decide) g
theorem vM330A {β : Type} {h : mh} {Q : β → mh → Prop} (hL : LM h.2) {j : Nat} {i : Int32} {F : Int32 → Option (β × mh)} (e : i = nI j) (hj : j < 64) (g : ok (F (gI h 330 j)) Q) : ok (ldA h 330 1 i F) Q := by
  obtain ⟨_, _, q⟩ := hL
  exact v0ldA (cl330 q) e hj (by decide) g
theorem vM330W {β : Type} {h : mh} {Q : β → mh → Prop} (hL : LM h.2) {j : Nat} {i : Int32} {x : Int32} {F : mh → Option (β × mh)} (e : i = nI j) (hj : j < 64) (g : ok (F (uI h 330 j x)) Q) : ok (stA h 330 i x F) Q := by
  obtain ⟨_, _, q⟩ := hL
  exact v0stA (cl330 q) e hj (by decide) g
theorem vM331A {β : Type} {h : mh} {Q : β → mh → Prop} (hL : LM h.2) {j : Nat} {i : Int32} {F : Int32 → Option (β × mh)} (e : i = nI j) (hj : j < 9) (g : ok (F (gI h 331 j)) Q) : ok (ldA h 331 1 i F) Q := by
  obtain ⟨_, _, q⟩ := hL
  exact v0ldA (cl331 q) e hj (by decide) g
theorem vM331W {β : Type} {h : mh} {Q : β → mh → Prop} (hL : LM h.2) {j : Nat} {i : Int32} {x : Int32} {F : mh → Option (β × mh)} (e : i = nI j) (hj : j < 9) (g : ok (F (uI h 331 j x)) Q) : ok (stA h 331 i x F) Q := by
  obtain ⟨_, _, q⟩ := hL
  exact v0stA (cl331 q) e hj (by decide) g
theorem vM332A {β : Type} {h : mh} {Q : β → mh → Prop} (hL : LM h.2) {j : Nat} {i : Int32} {F : Int32 → Option (β × mh)} (e : i = nI j) (hj : j < 400) (g : ok (F (gI h 332 j)) Q) : ok (ldA h 332 1 i F) Q := by
  obtain ⟨_, _, q⟩ := hL
  exact v0ldA (cl332 q) e hj (by decide) g
theorem vM332W {β : Type} {h : mh} {Q : β → mh → Prop} (hL : LM h.2) {j : Nat} {i : Int32} {x : Int32} {F : mh → Option (β × mh)} (e : i = nI j) (hj : j < 400) (g : ok (F (uI h 332 j x)) Q) : ok (stA h 332 i x F) Q := by
  obtain ⟨_, _, q⟩ := hL
  exact v0stA (cl332 q) e hj (by decide) g
theorem vM333A {β : Type} {h : mh} {Q : β → mh → Prop} (hL : LM h.2) {j : Nat} {i : Int32} {F : Int32 → Option (β × mh)} (e : i = nI j) (hj : j < 33) (g : ok (F (gI h 333 j)) Q) : ok (ldA h 333 1 i F) Q := by
  obtain ⟨_, _, q⟩ := hL
  exact v0ldA (cl333 q) e hj (by decide) g
theorem vM333W {β : Type} {h : mh} {Q : β → mh → Prop} (hL : LM h.2) {j : Nat} {i : Int32} {x : Int32} {F : mh → Option (β × mh)} (e : i = nI j) (hj : j < 33) (g : ok (F (uI h 333 j x)) Q) : ok (stA h 333 i x F) Q := by
  obtain ⟨_, _, q⟩ := hL
  exact v0stA (cl333 q) e hj (by decide) g
theorem vM334A {β : Type} {h : mh} {Q : β → mh → Prop} (hL : LM h.2) {j : Nat} {i : Int32} {F : Int32 → Option (β × mh)} (e : i = nI j) (hj : j < 33) (g : ok (F (gI h 334 j)) Q) : ok (ldA h 334 1 i F) Q := by
  obtain ⟨_, _, q⟩ := hL
  exact v0ldA (cl334 q) e hj (by decide) g
theorem vM334W {β : Type} {h : mh} {Q : β → mh → Prop} (hL : LM h.2) {j : Nat} {i : Int32} {x : Int32} {F : mh → Option (β × mh)} (e : i = nI j) (hj : j < 33) (g : ok (F (uI h 334 j x)) Q) : ok (stA h 334 i x F) Q := by
  obtain ⟨_, _, q⟩ := hL
  exact v0stA (cl334 q) e hj (by decide) g
theorem vM335A {β : Type} {h : mh} {Q : β → mh → Prop} (hL : LM h.2) {j : Nat} {i : Int32} {F : Int32 → Option (β × mh)} (e : i = nI j) (hj : j < 6) (g : ok (F (gI h 335 j)) Q) : ok (ldA h 335 3 i F) Q := by
  obtain ⟨_, _, q⟩ := hL
  exact v0ldA (cl335 q) e hj (by decide) g
theorem vM335W {β : Type} {h : mh} {Q : β → mh → Prop} (hL : LM h.2) {j : Nat} {i : Int32} {x : Int32} {F : mh → Option (β × mh)} (e : i = nI j) (hj : j < 6) (g : ok (F (uI h 335 j (x &&& 1))) Q) : ok (stY h 335 i x F) Q := by
  obtain ⟨_, _, q⟩ := hL
  exact v0stY (cl335 q) e hj (by decide) g
theorem vM336A {β : Type} {h : mh} {Q : β → mh → Prop} (hL : LM h.2) {j : Nat} {i : Int32} {F : Int32 → Option (β × mh)} (e : i = nI j) (hj : j < 6) (g : ok (F (gI h 336 j)) Q) : ok (ldA h 336 1 i F) Q := by
  obtain ⟨_, _, q⟩ := hL
  exact v0ldA (cl336 q) e hj (by decide) g
theorem vM336W {β : Type} {h : mh} {Q : β → mh → Prop} (hL : LM h.2) {j : Nat} {i : Int32} {x : Int32} {F : mh → Option (β × mh)} (e : i = nI j) (hj : j < 6) (g : ok (F (uI h 336 j x)) Q) : ok (stA h 336 i x F) Q := by
  obtain ⟨_, _, q⟩ := hL
  exact v0stA (cl336 q) e hj (by decide) g
theorem vM337A {β : Type} {h : mh} {Q : β → mh → Prop} (hL : LM h.2) {j : Nat} {i : Int32} {F : Int32 → Option (β × mh)} (e : i = nI j) (hj : j < 1320) (g : ok (F (gI h 337 j)) Q) : ok (ldA h 337 1 i F) Q := by
  obtain ⟨_, _, q⟩ := hL
  exact v0ldA (cl337 q) e hj (by decide) g
theorem vM337W {β : Type} {h : mh} {Q : β → mh → Prop} (hL : LM h.2) {j : Nat} {i : Int32} {x : Int32} {F : mh → Option (β × mh)} (e : i = nI j) (hj : j < 1320) (g : ok (F (uI h 337 j x)) Q) : ok (stA h 337 i x F) Q := by
  obtain ⟨_, _, q⟩ := hL
  exact v0stA (cl337 q) e hj (by decide) g
theorem vM338A {β : Type} {h : mh} {Q : β → mh → Prop} (hL : LM h.2) {j : Nat} {i : Int32} {F : Int32 → Option (β × mh)} (e : i = nI j) (hj : j < 6) (g : ok (F (gI h 338 j)) Q) : ok (ldA h 338 1 i F) Q := by
  obtain ⟨_, _, q⟩ := hL
  exact v0ldA (cl338 q) e hj (by decide) g
theorem vM338W {β : Type} {h : mh} {Q : β → mh → Prop} (hL : LM h.2) {j : Nat} {i : Int32} {x : Int32} {F : mh → Option (β × mh)} (e : i = nI j) (hj : j < 6) (g : ok (F (uI h 338 j x)) Q) : ok (stA h 338 i x F) Q := by
  obtain ⟨_, _, q⟩ := hL
  exact v0stA (cl338 q) e hj (by decide) g
theorem vM339A {β : Type} {h : mh} {Q : β → mh → Prop} (hL : LM h.2) {j : Nat} {i : Int32} {F : Int32 → Option (β × mh)} (e : i = nI j) (hj : j < 20) (g : ok (F (gI h 339 j)) Q) : ok (ldA h 339 1 i F) Q := by
  obtain ⟨_, _, q⟩ := hL
  exact v0ldA (cl339 q) e hj (by decide) g
theorem vM339W {β : Type} {h : mh} {Q : β → mh → Prop} (hL : LM h.2) {j : Nat} {i : Int32} {x : Int32} {F : mh → Option (β × mh)} (e : i = nI j) (hj : j < 20) (g : ok (F (uI h 339 j x)) Q) : ok (stA h 339 i x F) Q := by
  obtain ⟨_, _, q⟩ := hL
  exact v0stA (cl339 q) e hj (by decide) g
theorem vM340A {β : Type} {h : mh} {Q : β → mh → Prop} (hL : LM h.2) {j : Nat} {i : Int32} {F : Int32 → Option (β × mh)} (e : i = nI j) (hj : j < 20) (g : ok (F (gI h 340 j)) Q) : ok (ldA h 340 1 i F) Q := by
  obtain ⟨_, _, q⟩ := hL
  exact v0ldA (cl340 q) e hj (by decide) g
theorem vM340W {β : Type} {h : mh} {Q : β → mh → Prop} (hL : LM h.2) {j : Nat} {i : Int32} {x : Int32} {F : mh → Option (β × mh)} (e : i = nI j) (hj : j < 20) (g : ok (F (uI h 340 j x)) Q) : ok (stA h 340 i x F) Q := by
  obtain ⟨_, _, q⟩ := hL
  exact v0stA (cl340 q) e hj (by decide) g
theorem vM341A {β : Type} {h : mh} {Q : β → mh → Prop} (hL : LM h.2) {j : Nat} {i : Int32} {F : Int32 → Option (β × mh)} (e : i = nI j) (hj : j < 3) (g : ok (F (gI h 341 j)) Q) : ok (ldA h 341 3 i F) Q := by
  obtain ⟨_, _, q⟩ := hL
  exact v0ldA (cl341 q) e hj (by decide) g
theorem vM341W {β : Type} {h : mh} {Q : β → mh → Prop} (hL : LM h.2) {j : Nat} {i : Int32} {x : Int32} {F : mh → Option (β × mh)} (e : i = nI j) (hj : j < 3) (g : ok (F (uI h 341 j (x &&& 1))) Q) : ok (stY h 341 i x F) Q := by
  obtain ⟨_, _, q⟩ := hL
  exact v0stY (cl341 q) e hj (by decide) g
theorem vM342A {β : Type} {h : mh} {Q : β → mh → Prop} (hL : LM h.2) {j : Nat} {i : Int32} {F : Int32 → Option (β × mh)} (e : i = nI j) (hj : j < 99) (g : ok (F (gI h 342 j)) Q) : ok (ldA h 342 1 i F) Q := by
  obtain ⟨_, _, q⟩ := hL
  exact v0ldA (cl342 q) e hj (by decide) g
theorem vM342W {β : Type} {h : mh} {Q : β → mh → Prop} (hL : LM h.2) {j : Nat} {i : Int32} {x : Int32} {F : mh → Option (β × mh)} (e : i = nI j) (hj : j < 99) (g : ok (F (uI h 342 j x)) Q) : ok (stA h 342 i x F) Q := by
  obtain ⟨_, _, q⟩ := hL
  exact v0stA (cl342 q) e hj (by decide) g
theorem vXR0 {β : Type} {h : mh} {Q : β → mh → Prop} (hL : LM h.2) {F : Nat → Option (β × mh)} (g : ok (F (1)) Q) : ok (ldR h 0 9 0 F) Q := by
  obtain ⟨_, _, q⟩ := hL
  exact v0ldR (cl0 q) (rf0_0 q) g
theorem vXR3 {β : Type} {h : mh} {Q : β → mh → Prop} (hL : LM h.2) {F : Nat → Option (β × mh)} (g : ok (F (2)) Q) : ok (ldR h 0 9 3 F) Q := by
  obtain ⟨_, _, q⟩ := hL
  exact v0ldR (cl0 q) (rf0_3 q) g
theorem vXR6 {β : Type} {h : mh} {Q : β → mh → Prop} (hL : LM h.2) {F : Nat → Option (β × mh)} (g : ok (F (39)) Q) : ok (ldR h 0 9 6 F) Q := by
  obtain ⟨_, _, q⟩ := hL
  exact v0ldR (cl0 q) (rf0_6 q) g
theorem vXR7 {β : Type} {h : mh} {Q : β → mh → Prop} (hL : LM h.2) {F : Nat → Option (β × mh)} (g : ok (F (44)) Q) : ok (ldR h 0 9 7 F) Q := by
  obtain ⟨_, _, q⟩ := hL
  exact v0ldR (cl0 q) (rf0_7 q) g
theorem vXR8 {β : Type} {h : mh} {Q : β → mh → Prop} (hL : LM h.2) {F : Nat → Option (β × mh)} (g : ok (F (49)) Q) : ok (ldR h 0 9 8 F) Q := by
  obtain ⟨_, _, q⟩ := hL
  exact v0ldR (cl0 q) (rf0_8 q) g
theorem vXR9 {β : Type} {h : mh} {Q : β → mh → Prop} (hL : LM h.2) {F : Nat → Option (β × mh)} (g : ok (F (77)) Q) : ok (ldR h 0 9 9 F) Q := by
  obtain ⟨_, _, q⟩ := hL
  exact v0ldR (cl0 q) (rf0_9 q) g
theorem vXR10 {β : Type} {h : mh} {Q : β → mh → Prop} (hL : LM h.2) {F : Nat → Option (β × mh)} (g : ok (F (295)) Q) : ok (ldR h 0 9 10 F) Q := by
  obtain ⟨_, _, q⟩ := hL
  exact v0ldR (cl0 q) (rf0_10 q) g
theorem vXI {β : Type} {h : mh} {Q : β → mh → Prop} (hL : LM h.2) {k : Nat} {F : Int32 → Option (β × mh)} (g : ok (F (gI h 0 k)) Q) : ok (ldI h 0 9 k F) Q := by
  obtain ⟨_, _, q⟩ := hL
  exact v0ldI (cl0 q) g
theorem vXS {β : Type} {h : mh} {Q : β → mh → Prop} (hL : LM h.2) {k : Nat} {x : Int32} {F : mh → Option (β × mh)} (g : ok (F (uI h 0 k x)) Q) : ok (stI h 0 9 k x F) Q := by
  obtain ⟨_, _, q⟩ := hL
  exact v0stI (cl0 q) g
theorem vXZ {β : Type} {h : mh} {Q : β → mh → Prop} (hL : LM h.2) {k : Nat} {x : Int32} {F : mh → Option (β × mh)} (e : x = 0 ∨ x = 1) (g : ok (F (uI h 0 k x)) Q) : ok (stZ h 0 9 k x F) Q := by
  obtain ⟨_, _, q⟩ := hL
  exact v0stZ (cl0 q) e g
theorem vXC {β : Type} {h : mh} {Q : β → mh → Prop} (hL : LM h.2) {X : Option (β × mh)} (g : ok X Q) : ok (ckO h 0 9 X) Q := by
  obtain ⟨_, _, q⟩ := hL
  exact v0ck (cl0 q) g
theorem vXR4 {β : Type} {h : mh} {Q : β → mh → Prop} {t : Nat} (hL : LT t h.2) {F : Nat → Option (β × mh)} (g : ok (F t) Q) : ok (ldR h 0 9 4 F) Q := by
  obtain ⟨_, q⟩ := hL
  exact v0ldR (cl0 q) (tx_r q) g
theorem vX1A {β : Type} {h : mh} {Q : β → mh → Prop} (hL : LM h.2) {j : Nat} {i : Int32} {F : Int32 → Option (β × mh)} (e : i = nI j) (hj : j < 2000) (g : ok (F (gI h 1 j)) Q) : ok (ldA h 1 2 i F) Q := by
  obtain ⟨_, _, q⟩ := hL
  exact v0ldA (cl1 q) e hj (by decide) g
theorem vX1W {β : Type} {h : mh} {Q : β → mh → Prop} (hL : LM h.2) {j : Nat} {i : Int32} {x : Int32} {F : mh → Option (β × mh)} (e : i = nI j) (hj : j < 2000) (g : ok (F (uI h 1 j (x.toInt8.toInt32))) Q) : ok (stB h 1 i x F) Q := by
  obtain ⟨_, _, q⟩ := hL
  exact v0stB (cl1 q) e hj (by decide) g
theorem vT0R1 {β : Type} {h : mh} {Q : β → mh → Prop} {t : Nat} (hL : LT t h.2) {F : Nat → Option (β × mh)} (g : ok (F (t + 1)) Q) : ok (ldR h t 6 1 F) Q := by
  obtain ⟨_, q⟩ := hL
  exact v0ldR (tc0 q) (tr0_1 q) g
theorem vT0R2 {β : Type} {h : mh} {Q : β → mh → Prop} {t : Nat} (hL : LT t h.2) {F : Nat → Option (β × mh)} (g : ok (F (t + 2)) Q) : ok (ldR h t 6 2 F) Q := by
  obtain ⟨_, q⟩ := hL
  exact v0ldR (tc0 q) (tr0_2 q) g
theorem vT0R3 {β : Type} {h : mh} {Q : β → mh → Prop} {t : Nat} (hL : LT t h.2) {F : Nat → Option (β × mh)} (g : ok (F (t + 3)) Q) : ok (ldR h t 6 3 F) Q := by
  obtain ⟨_, q⟩ := hL
  exact v0ldR (tc0 q) (tr0_3 q) g
theorem vT0R5 {β : Type} {h : mh} {Q : β → mh → Prop} {t : Nat} (hL : LT t h.2) {F : Nat → Option (β × mh)} (g : ok (F (t + 4)) Q) : ok (ldR h t 6 5 F) Q := by
  obtain ⟨_, q⟩ := hL
  exact v0ldR (tc0 q) (tr0_5 q) g
theorem vT0R6 {β : Type} {h : mh} {Q : β → mh → Prop} {t : Nat} (hL : LT t h.2) {F : Nat → Option (β × mh)} (g : ok (F (t + 5)) Q) : ok (ldR h t 6 6 F) Q := by
  obtain ⟨_, q⟩ := hL
  exact v0ldR (tc0 q) (tr0_6 q) g
theorem vT0R7 {β : Type} {h : mh} {Q : β → mh → Prop} {t : Nat} (hL : LT t h.2) {F : Nat → Option (β × mh)} (g : ok (F (t + 6)) Q) : ok (ldR h t 6 7 F) Q := by
  obtain ⟨_, q⟩ := hL
  exact v0ldR (tc0 q) (tr0_7 q) g
theorem vT0R8 {β : Type} {h : mh} {Q : β → mh → Prop} {t : Nat} (hL : LT t h.2) {F : Nat → Option (β × mh)} (g : ok (F (t + 7)) Q) : ok (ldR h t 6 8 F) Q := by
  obtain ⟨_, q⟩ := hL
  exact v0ldR (tc0 q) (tr0_8 q) g
theorem vT0R10 {β : Type} {h : mh} {Q : β → mh → Prop} {t : Nat} (hL : LT t h.2) {F : Nat → Option (β × mh)} (g : ok (F (t + 8)) Q) : ok (ldR h t 6 10 F) Q := by
  obtain ⟨_, q⟩ := hL
  exact v0ldR (tc0 q) (tr0_10 q) g
theorem vT0R11 {β : Type} {h : mh} {Q : β → mh → Prop} {t : Nat} (hL : LT t h.2) {F : Nat → Option (β × mh)} (g : ok (F (t + 9)) Q) : ok (ldR h t 6 11 F) Q := by
  obtain ⟨_, q⟩ := hL
  exact v0ldR (tc0 q) (tr0_11 q) g
theorem vT0I {β : Type} {h : mh} {Q : β → mh → Prop} {t : Nat} (hL : LT t h.2) {k : Nat} {F : Int32 → Option (β × mh)} (g : ok (F (gI h t k)) Q) : ok (ldI h t 6 k F) Q := by
  obtain ⟨_, q⟩ := hL
  exact v0ldI (tc0 q) g
theorem vT0S {β : Type} {h : mh} {Q : β → mh → Prop} {t : Nat} (hL : LT t h.2) {k : Nat} {x : Int32} {F : mh → Option (β × mh)} (g : ok (F (uI h t k x)) Q) : ok (stI h t 6 k x F) Q := by
  obtain ⟨_, q⟩ := hL
  exact v0stI (tc0 q) g
theorem vT0Z {β : Type} {h : mh} {Q : β → mh → Prop} {t : Nat} (hL : LT t h.2) {k : Nat} {x : Int32} {F : mh → Option (β × mh)} (e : x = 0 ∨ x = 1) (g : ok (F (uI h t k x)) Q) : ok (stZ h t 6 k x F) Q := by
  obtain ⟨_, q⟩ := hL
  exact v0stZ (tc0 q) e g
theorem vT0C {β : Type} {h : mh} {Q : β → mh → Prop} {t : Nat} (hL : LT t h.2) {X : Option (β × mh)} (g : ok X Q) : ok (ckO h t 6 X) Q := by
  obtain ⟨_, q⟩ := hL
  exact v0ck (tc0 q) g
theorem vT1A {β : Type} {h : mh} {Q : β → mh → Prop} {t : Nat} (hL : LT t h.2) {j : Nat} {i : Int32} {F : Int64 → Option (β × mh)} (e : i = nI j) (hj : j < 6) (g : ok (F (gL h (t + 1) j)) Q) : ok (ldJ h (t + 1) i F) Q := by
  obtain ⟨_, q⟩ := hL
  exact v0ldJ (tc1 q) e hj (by decide) g
theorem vT1W {β : Type} {h : mh} {Q : β → mh → Prop} {t : Nat} (hL : LT t h.2) {j : Nat} {i : Int32} {x : Int64} {F : mh → Option (β × mh)} (e : i = nI j) (hj : j < 6) (g : ok (F (uL h (t + 1) j x)) Q) : ok (stJ h (t + 1) i x F) Q := by
  obtain ⟨_, q⟩ := hL
  exact v0stJ (tc1 q) e hj (by decide) g
theorem vT2A {β : Type} {h : mh} {Q : β → mh → Prop} {t : Nat} (hL : LT t h.2) {j : Nat} {i : Int32} {F : Int32 → Option (β × mh)} (e : i = nI j) (hj : j < 6) (g : ok (F (gI h (t + 2) j)) Q) : ok (ldA h (t + 2) 1 i F) Q := by
  obtain ⟨_, q⟩ := hL
  exact v0ldA (tc2 q) e hj (by decide) g
theorem vT2W {β : Type} {h : mh} {Q : β → mh → Prop} {t : Nat} (hL : LT t h.2) {j : Nat} {i : Int32} {x : Int32} {F : mh → Option (β × mh)} (e : i = nI j) (hj : j < 6) (g : ok (F (uI h (t + 2) j x)) Q) : ok (stA h (t + 2) i x F) Q := by
  obtain ⟨_, q⟩ := hL
  exact v0stA (tc2 q) e hj (by decide) g
theorem vT3A {β : Type} {h : mh} {Q : β → mh → Prop} {t : Nat} (hL : LT t h.2) {j : Nat} {i : Int32} {F : Int32 → Option (β × mh)} (e : i = nI j) (hj : j < 6) (g : ok (F (gI h (t + 3) j)) Q) : ok (ldA h (t + 3) 1 i F) Q := by
  obtain ⟨_, q⟩ := hL
  exact v0ldA (tc3 q) e hj (by decide) g
theorem vT3W {β : Type} {h : mh} {Q : β → mh → Prop} {t : Nat} (hL : LT t h.2) {j : Nat} {i : Int32} {x : Int32} {F : mh → Option (β × mh)} (e : i = nI j) (hj : j < 6) (g : ok (F (uI h (t + 3) j x)) Q) : ok (stA h (t + 3) i x F) Q := by
  obtain ⟨_, q⟩ := hL
  exact v0stA (tc3 q) e hj (by decide) g
theorem vT4A {β : Type} {h : mh} {Q : β → mh → Prop} {t : Nat} (hL : LT t h.2) {j : Nat} {i : Int32} {F : Int64 → Option (β × mh)} (e : i = nI j) (hj : j < 6) (g : ok (F (gL h (t + 4) j)) Q) : ok (ldJ h (t + 4) i F) Q := by
  obtain ⟨_, q⟩ := hL
  exact v0ldJ (tc4 q) e hj (by decide) g
theorem vT4W {β : Type} {h : mh} {Q : β → mh → Prop} {t : Nat} (hL : LT t h.2) {j : Nat} {i : Int32} {x : Int64} {F : mh → Option (β × mh)} (e : i = nI j) (hj : j < 6) (g : ok (F (uL h (t + 4) j x)) Q) : ok (stJ h (t + 4) i x F) Q := by
  obtain ⟨_, q⟩ := hL
  exact v0stJ (tc4 q) e hj (by decide) g
theorem vT5A {β : Type} {h : mh} {Q : β → mh → Prop} {t : Nat} (hL : LT t h.2) {j : Nat} {i : Int32} {F : Int32 → Option (β × mh)} (e : i = nI j) (hj : j < 6) (g : ok (F (gI h (t + 5) j)) Q) : ok (ldA h (t + 5) 1 i F) Q := by
  obtain ⟨_, q⟩ := hL
  exact v0ldA (tc5 q) e hj (by decide) g
theorem vT5W {β : Type} {h : mh} {Q : β → mh → Prop} {t : Nat} (hL : LT t h.2) {j : Nat} {i : Int32} {x : Int32} {F : mh → Option (β × mh)} (e : i = nI j) (hj : j < 6) (g : ok (F (uI h (t + 5) j x)) Q) : ok (stA h (t + 5) i x F) Q := by
  obtain ⟨_, q⟩ := hL
  exact v0stA (tc5 q) e hj (by decide) g
theorem vT6A {β : Type} {h : mh} {Q : β → mh → Prop} {t : Nat} (hL : LT t h.2) {j : Nat} {i : Int32} {F : Int32 → Option (β × mh)} (e : i = nI j) (hj : j < 6) (g : ok (F (gI h (t + 6) j)) Q) : ok (ldA h (t + 6) 1 i F) Q := by
  obtain ⟨_, q⟩ := hL
  exact v0ldA (tc6 q) e hj (by decide) g
theorem vT6W {β : Type} {h : mh} {Q : β → mh → Prop} {t : Nat} (hL : LT t h.2) {j : Nat} {i : Int32} {x : Int32} {F : mh → Option (β × mh)} (e : i = nI j) (hj : j < 6) (g : ok (F (uI h (t + 6) j x)) Q) : ok (stA h (t + 6) i x F) Q := by
  obtain ⟨_, q⟩ := hL
  exact v0stA (tc6 q) e hj (by decide) g
theorem vT7A {β : Type} {h : mh} {Q : β → mh → Prop} {t : Nat} (hL : LT t h.2) {j : Nat} {i : Int32} {F : Int32 → Option (β × mh)} (e : i = nI j) (hj : j < 6) (g : ok (F (gI h (t + 7) j)) Q) : ok (ldA h (t + 7) 1 i F) Q := by
  obtain ⟨_, q⟩ := hL
  exact v0ldA (tc7 q) e hj (by decide) g
theorem vT7W {β : Type} {h : mh} {Q : β → mh → Prop} {t : Nat} (hL : LT t h.2) {j : Nat} {i : Int32} {x : Int32} {F : mh → Option (β × mh)} (e : i = nI j) (hj : j < 6) (g : ok (F (uI h (t + 7) j x)) Q) : ok (stA h (t + 7) i x F) Q := by
  obtain ⟨_, q⟩ := hL
  exact v0stA (tc7 q) e hj (by decide) g
theorem vT8A {β : Type} {h : mh} {Q : β → mh → Prop} {t : Nat} (hL : LT t h.2) {j : Nat} {i : Int32} {F : Int32 → Option (β × mh)} (e : i = nI j) (hj : j < 6) (g : ok (F (gI h (t + 8) j)) Q) : ok (ldA h (t + 8) 1 i F) Q := by
  obtain ⟨_, q⟩ := hL
  exact v0ldA (tc8 q) e hj (by decide) g
theorem vT8W {β : Type} {h : mh} {Q : β → mh → Prop} {t : Nat} (hL : LT t h.2) {j : Nat} {i : Int32} {x : Int32} {F : mh → Option (β × mh)} (e : i = nI j) (hj : j < 6) (g : ok (F (uI h (t + 8) j x)) Q) : ok (stA h (t + 8) i x F) Q := by
  obtain ⟨_, q⟩ := hL
  exact v0stA (tc8 q) e hj (by decide) g
theorem vT9R0 {β : Type} {h : mh} {Q : β → mh → Prop} {t : Nat} (hL : LT t h.2) {F : Nat → Option (β × mh)} (g : ok (F (t + 10)) Q) : ok (ldR h (t + 9) 1 0 F) Q := by
  obtain ⟨_, q⟩ := hL
  exact v0ldR (tc9 q) (tr9_0 q) g
theorem vT9R2 {β : Type} {h : mh} {Q : β → mh → Prop} {t : Nat} (hL : LT t h.2) {F : Nat → Option (β × mh)} (g : ok (F (t + 11)) Q) : ok (ldR h (t + 9) 1 2 F) Q := by
  obtain ⟨_, q⟩ := hL
  exact v0ldR (tc9 q) (tr9_2 q) g
theorem vT9R3 {β : Type} {h : mh} {Q : β → mh → Prop} {t : Nat} (hL : LT t h.2) {F : Nat → Option (β × mh)} (g : ok (F (t + 12)) Q) : ok (ldR h (t + 9) 1 3 F) Q := by
  obtain ⟨_, q⟩ := hL
  exact v0ldR (tc9 q) (tr9_3 q) g
theorem vT9R4 {β : Type} {h : mh} {Q : β → mh → Prop} {t : Nat} (hL : LT t h.2) {F : Nat → Option (β × mh)} (g : ok (F (t + 13)) Q) : ok (ldR h (t + 9) 1 4 F) Q := by
  obtain ⟨_, q⟩ := hL
  exact v0ldR (tc9 q) (tr9_4 q) g
theorem vT9R5 {β : Type} {h : mh} {Q : β → mh → Prop} {t : Nat} (hL : LT t h.2) {F : Nat → Option (β × mh)} (g : ok (F (t + 14)) Q) : ok (ldR h (t + 9) 1 5 F) Q := by
  obtain ⟨_, q⟩ := hL
  exact v0ldR (tc9 q) (tr9_5 q) g
theorem vT9R6 {β : Type} {h : mh} {Q : β → mh → Prop} {t : Nat} (hL : LT t h.2) {F : Nat → Option (β × mh)} (g : ok (F (t + 15)) Q) : ok (ldR h (t + 9) 1 6 F) Q := by
  obtain ⟨_, q⟩ := hL
  exact v0ldR (tc9 q) (tr9_6 q) g
theorem vT9I {β : Type} {h : mh} {Q : β → mh → Prop} {t : Nat} (hL : LT t h.2) {k : Nat} {F : Int32 → Option (β × mh)} (g : ok (F (gI h (t + 9) k)) Q) : ok (ldI h (t + 9) 1 k F) Q := by
  obtain ⟨_, q⟩ := hL
  exact v0ldI (tc9 q) g
theorem vT9S {β : Type} {h : mh} {Q : β → mh → Prop} {t : Nat} (hL : LT t h.2) {k : Nat} {x : Int32} {F : mh → Option (β × mh)} (g : ok (F (uI h (t + 9) k x)) Q) : ok (stI h (t + 9) 1 k x F) Q := by
  obtain ⟨_, q⟩ := hL
  exact v0stI (tc9 q) g
theorem vT9Z {β : Type} {h : mh} {Q : β → mh → Prop} {t : Nat} (hL : LT t h.2) {k : Nat} {x : Int32} {F : mh → Option (β × mh)} (e : x = 0 ∨ x = 1) (g : ok (F (uI h (t + 9) k x)) Q) : ok (stZ h (t + 9) 1 k x F) Q := by
  obtain ⟨_, q⟩ := hL
  exact v0stZ (tc9 q) e g
theorem vT9C {β : Type} {h : mh} {Q : β → mh → Prop} {t : Nat} (hL : LT t h.2) {X : Option (β × mh)} (g : ok X Q) : ok (ckO h (t + 9) 1 X) Q := by
  obtain ⟨_, q⟩ := hL
  exact v0ck (tc9 q) g
theorem vT10A {β : Type} {h : mh} {Q : β → mh → Prop} {t : Nat} (hL : LT t h.2) {j : Nat} {i : Int32} {F : Int32 → Option (β × mh)} (e : i = nI j) (hj : j < 400) (g : ok (F (gI h (t + 10) j)) Q) : ok (ldA h (t + 10) 1 i F) Q := by
  obtain ⟨_, q⟩ := hL
  exact v0ldA (tc10 q) e hj (by decide) g
theorem vT10W {β : Type} {h : mh} {Q : β → mh → Prop} {t : Nat} (hL : LT t h.2) {j : Nat} {i : Int32} {x : Int32} {F : mh → Option (β × mh)} (e : i = nI j) (hj : j < 400) (g : ok (F (uI h (t + 10) j x)) Q) : ok (stA h (t + 10) i x F) Q := by
  obtain ⟨_, q⟩ := hL
  exact v0stA (tc10 q) e hj (by decide) g
theorem vT11A {β : Type} {h : mh} {Q : β → mh → Prop} {t : Nat} (hL : LT t h.2) {j : Nat} {i : Int32} {F : Int32 → Option (β × mh)} (e : i = nI j) (hj : j < 4) (g : ok (F (gI h (t + 11) j)) Q) : ok (ldA h (t + 11) 1 i F) Q := by
  obtain ⟨_, q⟩ := hL
  exact v0ldA (tc11 q) e hj (by decide) g
theorem vT11W {β : Type} {h : mh} {Q : β → mh → Prop} {t : Nat} (hL : LT t h.2) {j : Nat} {i : Int32} {x : Int32} {F : mh → Option (β × mh)} (e : i = nI j) (hj : j < 4) (g : ok (F (uI h (t + 11) j x)) Q) : ok (stA h (t + 11) i x F) Q := by
  obtain ⟨_, q⟩ := hL
  exact v0stA (tc11 q) e hj (by decide) g
theorem vT12A {β : Type} {h : mh} {Q : β → mh → Prop} {t : Nat} (hL : LT t h.2) {j : Nat} {i : Int32} {F : Int32 → Option (β × mh)} (e : i = nI j) (hj : j < 52) (g : ok (F (gI h (t + 12) j)) Q) : ok (ldA h (t + 12) 1 i F) Q := by
  obtain ⟨_, q⟩ := hL
  exact v0ldA (tc12 q) e hj (by decide) g
theorem vT12W {β : Type} {h : mh} {Q : β → mh → Prop} {t : Nat} (hL : LT t h.2) {j : Nat} {i : Int32} {x : Int32} {F : mh → Option (β × mh)} (e : i = nI j) (hj : j < 52) (g : ok (F (uI h (t + 12) j x)) Q) : ok (stA h (t + 12) i x F) Q := by
  obtain ⟨_, q⟩ := hL
  exact v0stA (tc12 q) e hj (by decide) g
theorem vT13A {β : Type} {h : mh} {Q : β → mh → Prop} {t : Nat} (hL : LT t h.2) {j : Nat} {i : Int32} {F : Int32 → Option (β × mh)} (e : i = nI j) (hj : j < 4) (g : ok (F (gI h (t + 13) j)) Q) : ok (ldA h (t + 13) 1 i F) Q := by
  obtain ⟨_, q⟩ := hL
  exact v0ldA (tc13 q) e hj (by decide) g
theorem vT13W {β : Type} {h : mh} {Q : β → mh → Prop} {t : Nat} (hL : LT t h.2) {j : Nat} {i : Int32} {x : Int32} {F : mh → Option (β × mh)} (e : i = nI j) (hj : j < 4) (g : ok (F (uI h (t + 13) j x)) Q) : ok (stA h (t + 13) i x F) Q := by
  obtain ⟨_, q⟩ := hL
  exact v0stA (tc13 q) e hj (by decide) g
theorem vT14A {β : Type} {h : mh} {Q : β → mh → Prop} {t : Nat} (hL : LT t h.2) {j : Nat} {i : Int32} {F : Int32 → Option (β × mh)} (e : i = nI j) (hj : j < 9) (g : ok (F (gI h (t + 14) j)) Q) : ok (ldA h (t + 14) 1 i F) Q := by
  obtain ⟨_, q⟩ := hL
  exact v0ldA (tc14 q) e hj (by decide) g
theorem vT14W {β : Type} {h : mh} {Q : β → mh → Prop} {t : Nat} (hL : LT t h.2) {j : Nat} {i : Int32} {x : Int32} {F : mh → Option (β × mh)} (e : i = nI j) (hj : j < 9) (g : ok (F (uI h (t + 14) j x)) Q) : ok (stA h (t + 14) i x F) Q := by
  obtain ⟨_, q⟩ := hL
  exact v0stA (tc14 q) e hj (by decide) g
theorem vT15A {β : Type} {h : mh} {Q : β → mh → Prop} {t : Nat} (hL : LT t h.2) {j : Nat} {i : Int32} {F : Int32 → Option (β × mh)} (e : i = nI j) (hj : j < 24) (g : ok (F (gI h (t + 15) j)) Q) : ok (ldA h (t + 15) 1 i F) Q := by
  obtain ⟨_, q⟩ := hL
  exact v0ldA (tc15 q) e hj (by decide) g
theorem vT15W {β : Type} {h : mh} {Q : β → mh → Prop} {t : Nat} (hL : LT t h.2) {j : Nat} {i : Int32} {x : Int32} {F : mh → Option (β × mh)} (e : i = nI j) (hj : j < 24) (g : ok (F (uI h (t + 15) j x)) Q) : ok (stA h (t + 15) i x F) Q := by
  obtain ⟨_, q⟩ := hL
  exact v0stA (tc15 q) e hj (by decide) g
theorem vNR0 {β : Type} {h : mh} {Q : β → mh → Prop} {n : Nat} (hn : n ∈ ngt) (hL : LM h.2) {F : Nat → Option (β × mh)} (g : ok (F (n + 1)) Q) : ok (ldR h n 3 0 F) Q := by
  obtain ⟨_, _, q⟩ := hL
  exact v0ldR (nc0 q hn) (nr0 q hn) g
theorem vNR1 {β : Type} {h : mh} {Q : β → mh → Prop} {n : Nat} (hn : n ∈ ngt) (hL : LM h.2) {F : Nat → Option (β × mh)} (g : ok (F (n + 2)) Q) : ok (ldR h n 3 1 F) Q := by
  obtain ⟨_, _, q⟩ := hL
  exact v0ldR (nc0 q hn) (nr1 q hn) g
theorem vNR2 {β : Type} {h : mh} {Q : β → mh → Prop} {n : Nat} (hn : n ∈ ngt) (hL : LM h.2) {F : Nat → Option (β × mh)} (g : ok (F (n + 3)) Q) : ok (ldR h n 3 2 F) Q := by
  obtain ⟨_, _, q⟩ := hL
  exact v0ldR (nc0 q hn) (nr2 q hn) g
theorem vNR3 {β : Type} {h : mh} {Q : β → mh → Prop} {n : Nat} (hn : n ∈ ngt) (hL : LM h.2) {F : Nat → Option (β × mh)} (g : ok (F (n + 4)) Q) : ok (ldR h n 3 3 F) Q := by
  obtain ⟨_, _, q⟩ := hL
  exact v0ldR (nc0 q hn) (nr3 q hn) g
theorem vNI {β : Type} {h : mh} {Q : β → mh → Prop} {n : Nat} (hn : n ∈ ngt) (hL : LM h.2) {k : Nat} {F : Int32 → Option (β × mh)} (g : ok (F (gI h n k)) Q) : ok (ldI h n 3 k F) Q := by
  obtain ⟨_, _, q⟩ := hL
  exact v0ldI (nc0 q hn) g
theorem vNS {β : Type} {h : mh} {Q : β → mh → Prop} {n : Nat} (hn : n ∈ ngt) (hL : LM h.2) {k : Nat} {x : Int32} {F : mh → Option (β × mh)} (g : ok (F (uI h n k x)) Q) : ok (stI h n 3 k x F) Q := by
  obtain ⟨_, _, q⟩ := hL
  exact v0stI (nc0 q hn) g
theorem vNZ {β : Type} {h : mh} {Q : β → mh → Prop} {n : Nat} (hn : n ∈ ngt) (hL : LM h.2) {k : Nat} {x : Int32} {F : mh → Option (β × mh)} (e : x = 0 ∨ x = 1) (g : ok (F (uI h n k x)) Q) : ok (stZ h n 3 k x F) Q := by
  obtain ⟨_, _, q⟩ := hL
  exact v0stZ (nc0 q hn) e g
theorem vNC {β : Type} {h : mh} {Q : β → mh → Prop} {n : Nat} (hn : n ∈ ngt) (hL : LM h.2) {X : Option (β × mh)} (g : ok X Q) : ok (ckO h n 3 X) Q := by
  obtain ⟨_, _, q⟩ := hL
  exact v0ck (nc0 q hn) g
theorem vN1A {β : Type} {h : mh} {Q : β → mh → Prop} {n : Nat} (hn : n ∈ ngt) (hL : LM h.2) {j : Nat} {i : Int32} {F : Int32 → Option (β × mh)} (e : i = nI j) (hj : j < 6) (g : ok (F (gI h (n + 1) j)) Q) : ok (ldA h (n + 1) 1 i F) Q := by
  obtain ⟨_, _, q⟩ := hL
  exact v0ldA (nc1 q hn) e hj (by decide) g
theorem vN1W {β : Type} {h : mh} {Q : β → mh → Prop} {n : Nat} (hn : n ∈ ngt) (hL : LM h.2) {j : Nat} {i : Int32} {x : Int32} {F : mh → Option (β × mh)} (e : i = nI j) (hj : j < 6) (g : ok (F (uI h (n + 1) j x)) Q) : ok (stA h (n + 1) i x F) Q := by
  obtain ⟨_, _, q⟩ := hL
  exact v0stA (nc1 q hn) e hj (by decide) g
theorem vN2A {β : Type} {h : mh} {Q : β → mh → Prop} {n : Nat} (hn : n ∈ ngt) (hL : LM h.2) {j : Nat} {i : Int32} {F : Int32 → Option (β × mh)} (e : i = nI j) (hj : j < 6) (g : ok (F (gI h (n + 2) j)) Q) : ok (ldA h (n + 2) 1 i F) Q := by
  obtain ⟨_, _, q⟩ := hL
  exact v0ldA (nc2 q hn) e hj (by decide) g
theorem vN2W {β : Type} {h : mh} {Q : β → mh → Prop} {n : Nat} (hn : n ∈ ngt) (hL : LM h.2) {j : Nat} {i : Int32} {x : Int32} {F : mh → Option (β × mh)} (e : i = nI j) (hj : j < 6) (g : ok (F (uI h (n + 2) j x)) Q) : ok (stA h (n + 2) i x F) Q := by
  obtain ⟨_, _, q⟩ := hL
  exact v0stA (nc2 q hn) e hj (by decide) g
theorem vN3A {β : Type} {h : mh} {Q : β → mh → Prop} {n : Nat} (hn : n ∈ ngt) (hL : LM h.2) {j : Nat} {i : Int32} {F : Int32 → Option (β × mh)} (e : i = nI j) (hj : j < 6) (g : ok (F (gI h (n + 3) j)) Q) : ok (ldA h (n + 3) 1 i F) Q := by
  obtain ⟨_, _, q⟩ := hL
  exact v0ldA (nc3 q hn) e hj (by decide) g
theorem vN3W {β : Type} {h : mh} {Q : β → mh → Prop} {n : Nat} (hn : n ∈ ngt) (hL : LM h.2) {j : Nat} {i : Int32} {x : Int32} {F : mh → Option (β × mh)} (e : i = nI j) (hj : j < 6) (g : ok (F (uI h (n + 3) j x)) Q) : ok (stA h (n + 3) i x F) Q := by
  obtain ⟨_, _, q⟩ := hL
  exact v0stA (nc3 q hn) e hj (by decide) g
theorem vN4A {β : Type} {h : mh} {Q : β → mh → Prop} {n : Nat} (hn : n ∈ ngt) (hL : LM h.2) {j : Nat} {i : Int32} {F : Int32 → Option (β × mh)} (e : i = nI j) (hj : j < 6) (g : ok (F (gI h (n + 4) j)) Q) : ok (ldA h (n + 4) 1 i F) Q := by
  obtain ⟨_, _, q⟩ := hL
  exact v0ldA (nc4 q hn) e hj (by decide) g
theorem vN4W {β : Type} {h : mh} {Q : β → mh → Prop} {n : Nat} (hn : n ∈ ngt) (hL : LM h.2) {j : Nat} {i : Int32} {x : Int32} {F : mh → Option (β × mh)} (e : i = nI j) (hj : j < 6) (g : ok (F (uI h (n + 4) j x)) Q) : ok (stA h (n + 4) i x F) Q := by
  obtain ⟨_, _, q⟩ := hL
  exact v0stA (nc4 q hn) e hj (by decide) g
theorem v49R0 {β : Type} {h : mh} {Q : β → mh → Prop} (hL : LM h.2) {F : Nat → Option (β × mh)} (g : ok (F (50)) Q) : ok (ldR h 49 4 0 F) Q := by
  obtain ⟨_, _, q⟩ := hL
  exact v0ldR (cl49 q) (rf49_0 q) g
theorem v49R1 {β : Type} {h : mh} {Q : β → mh → Prop} (hL : LM h.2) {F : Nat → Option (β × mh)} (g : ok (F (51)) Q) : ok (ldR h 49 4 1 F) Q := by
  obtain ⟨_, _, q⟩ := hL
  exact v0ldR (cl49 q) (rf49_1 q) g
theorem v49I {β : Type} {h : mh} {Q : β → mh → Prop} (hL : LM h.2) {k : Nat} {F : Int32 → Option (β × mh)} (g : ok (F (gI h 49 k)) Q) : ok (ldI h 49 4 k F) Q := by
  obtain ⟨_, _, q⟩ := hL
  exact v0ldI (cl49 q) g
theorem v49S {β : Type} {h : mh} {Q : β → mh → Prop} (hL : LM h.2) {k : Nat} {x : Int32} {F : mh → Option (β × mh)} (g : ok (F (uI h 49 k x)) Q) : ok (stI h 49 4 k x F) Q := by
  obtain ⟨_, _, q⟩ := hL
  exact v0stI (cl49 q) g
theorem v49Z {β : Type} {h : mh} {Q : β → mh → Prop} (hL : LM h.2) {k : Nat} {x : Int32} {F : mh → Option (β × mh)} (e : x = 0 ∨ x = 1) (g : ok (F (uI h 49 k x)) Q) : ok (stZ h 49 4 k x F) Q := by
  obtain ⟨_, _, q⟩ := hL
  exact v0stZ (cl49 q) e g
theorem v49C {β : Type} {h : mh} {Q : β → mh → Prop} (hL : LM h.2) {X : Option (β × mh)} (g : ok X Q) : ok (ckO h 49 4 X) Q := by
  obtain ⟨_, _, q⟩ := hL
  exact v0ck (cl49 q) g
theorem v50q : ∀ j, j < 5 → (50, j, 52 + 5 * j) ∈ rtb := by decide +kernel
theorem v50A {β : Type} {h : mh} {Q : β → mh → Prop} (hL : LM h.2) {j : Nat} {i : Int32} {F : Nat → Option (β × mh)} (e : i = nI j) (hj : j < 5) (g : ok (F (52 + 5 * j)) Q) : ok (ldQ h 50 i F) Q := by
  obtain ⟨_, _, q⟩ := hL
  exact v0ldQ (cl50 q) e hj (by decide) (q.2.2.2.1 _ (v50q j hj)) g
theorem v51A {β : Type} {h : mh} {Q : β → mh → Prop} (hL : LM h.2) {j : Nat} {i : Int32} {F : Int32 → Option (β × mh)} (e : i = nI j) (hj : j < 4) (g : ok (F (gI h 51 j)) Q) : ok (ldA h 51 1 i F) Q := by
  obtain ⟨_, _, q⟩ := hL
  exact v0ldA (cl51 q) e hj (by decide) g
theorem v51W {β : Type} {h : mh} {Q : β → mh → Prop} (hL : LM h.2) {j : Nat} {i : Int32} {x : Int32} {F : mh → Option (β × mh)} (e : i = nI j) (hj : j < 4) (g : ok (F (uI h 51 j x)) Q) : ok (stA h 51 i x F) Q := by
  obtain ⟨_, _, q⟩ := hL
  exact v0stA (cl51 q) e hj (by decide) g
theorem v77R0 {β : Type} {h : mh} {Q : β → mh → Prop} (hL : LM h.2) {F : Nat → Option (β × mh)} (g : ok (F (78)) Q) : ok (ldR h 77 2 0 F) Q := by
  obtain ⟨_, _, q⟩ := hL
  exact v0ldR (cl77 q) (rf77_0 q) g
theorem v77R3 {β : Type} {h : mh} {Q : β → mh → Prop} (hL : LM h.2) {F : Nat → Option (β × mh)} (g : ok (F (79)) Q) : ok (ldR h 77 2 3 F) Q := by
  obtain ⟨_, _, q⟩ := hL
  exact v0ldR (cl77 q) (rf77_3 q) g
theorem v77I {β : Type} {h : mh} {Q : β → mh → Prop} (hL : LM h.2) {k : Nat} {F : Int32 → Option (β × mh)} (g : ok (F (gI h 77 k)) Q) : ok (ldI h 77 2 k F) Q := by
  obtain ⟨_, _, q⟩ := hL
  exact v0ldI (cl77 q) g
theorem v77S {β : Type} {h : mh} {Q : β → mh → Prop} (hL : LM h.2) {k : Nat} {x : Int32} {F : mh → Option (β × mh)} (g : ok (F (uI h 77 k x)) Q) : ok (stI h 77 2 k x F) Q := by
  obtain ⟨_, _, q⟩ := hL
  exact v0stI (cl77 q) g
theorem v77Z {β : Type} {h : mh} {Q : β → mh → Prop} (hL : LM h.2) {k : Nat} {x : Int32} {F : mh → Option (β × mh)} (e : x = 0 ∨ x = 1) (g : ok (F (uI h 77 k x)) Q) : ok (stZ h 77 2 k x F) Q := by
  obtain ⟨_, _, q⟩ := hL
  exact v0stZ (cl77 q) e g
theorem v77C {β : Type} {h : mh} {Q : β → mh → Prop} (hL : LM h.2) {X : Option (β × mh)} (g : ok X Q) : ok (ckO h 77 2 X) Q := by
  obtain ⟨_, _, q⟩ := hL
  exact v0ck (cl77 q) g
theorem v78q : ∀ j, j < 40 → (78, j, 80 + 5 * j) ∈ rtb := by decide +kernel
theorem v78A {β : Type} {h : mh} {Q : β → mh → Prop} (hL : LM h.2) {j : Nat} {i : Int32} {F : Nat → Option (β × mh)} (e : i = nI j) (hj : j < 40) (g : ok (F (80 + 5 * j)) Q) : ok (ldQ h 78 i F) Q := by
  obtain ⟨_, _, q⟩ := hL
  exact v0ldQ (cl78 q) e hj (by decide) (q.2.2.2.1 _ (v78q j hj)) g
theorem v79q : ∀ j, j < 3 → (79, j, 280 + 5 * j) ∈ rtb := by decide +kernel
theorem v79A {β : Type} {h : mh} {Q : β → mh → Prop} (hL : LM h.2) {j : Nat} {i : Int32} {F : Nat → Option (β × mh)} (e : i = nI j) (hj : j < 3) (g : ok (F (280 + 5 * j)) Q) : ok (ldQ h 79 i F) Q := by
  obtain ⟨_, _, q⟩ := hL
  exact v0ldQ (cl79 q) e hj (by decide) (q.2.2.2.1 _ (v79q j hj)) g
theorem v295R0 {β : Type} {h : mh} {Q : β → mh → Prop} (hL : LM h.2) {F : Nat → Option (β × mh)} (g : ok (F (296)) Q) : ok (ldR h 295 8 0 F) Q := by
  obtain ⟨_, _, q⟩ := hL
  exact v0ldR (cl295 q) (rf295_0 q) g
theorem v295R1 {β : Type} {h : mh} {Q : β → mh → Prop} (hL : LM h.2) {F : Nat → Option (β × mh)} (g : ok (F (297)) Q) : ok (ldR h 295 8 1 F) Q := by
  obtain ⟨_, _, q⟩ := hL
  exact v0ldR (cl295 q) (rf295_1 q) g
theorem v295R2 {β : Type} {h : mh} {Q : β → mh → Prop} (hL : LM h.2) {F : Nat → Option (β × mh)} (g : ok (F (298)) Q) : ok (ldR h 295 8 2 F) Q := by
  obtain ⟨_, _, q⟩ := hL
  exact v0ldR (cl295 q) (rf295_2 q) g
theorem v295I {β : Type} {h : mh} {Q : β → mh → Prop} (hL : LM h.2) {k : Nat} {F : Int32 → Option (β × mh)} (g : ok (F (gI h 295 k)) Q) : ok (ldI h 295 8 k F) Q := by
  obtain ⟨_, _, q⟩ := hL
  exact v0ldI (cl295 q) g
theorem v295S {β : Type} {h : mh} {Q : β → mh → Prop} (hL : LM h.2) {k : Nat} {x : Int32} {F : mh → Option (β × mh)} (g : ok (F (uI h 295 k x)) Q) : ok (stI h 295 8 k x F) Q := by
  obtain ⟨_, _, q⟩ := hL
  exact v0stI (cl295 q) g
theorem v295Z {β : Type} {h : mh} {Q : β → mh → Prop} (hL : LM h.2) {k : Nat} {x : Int32} {F : mh → Option (β × mh)} (e : x = 0 ∨ x = 1) (g : ok (F (uI h 295 k x)) Q) : ok (stZ h 295 8 k x F) Q := by
  obtain ⟨_, _, q⟩ := hL
  exact v0stZ (cl295 q) e g
theorem v295C {β : Type} {h : mh} {Q : β → mh → Prop} (hL : LM h.2) {X : Option (β × mh)} (g : ok X Q) : ok (ckO h 295 8 X) Q := by
  obtain ⟨_, _, q⟩ := hL
  exact v0ck (cl295 q) g
theorem v296A {β : Type} {h : mh} {Q : β → mh → Prop} (hL : LM h.2) {j : Nat} {i : Int32} {F : Int32 → Option (β × mh)} (e : i = nI j) (hj : j < 20) (g : ok (F (gI h 296 j)) Q) : ok (ldA h 296 3 i F) Q := by
  obtain ⟨_, _, q⟩ := hL
  exact v0ldA (cl296 q) e hj (by decide) g
theorem v296W {β : Type} {h : mh} {Q : β → mh → Prop} (hL : LM h.2) {j : Nat} {i : Int32} {x : Int32} {F : mh → Option (β × mh)} (e : i = nI j) (hj : j < 20) (g : ok (F (uI h 296 j (x &&& 1))) Q) : ok (stY h 296 i x F) Q := by
  obtain ⟨_, _, q⟩ := hL
  exact v0stY (cl296 q) e hj (by decide) g
theorem v297A {β : Type} {h : mh} {Q : β → mh → Prop} (hL : LM h.2) {j : Nat} {i : Int32} {F : Int32 → Option (β × mh)} (e : i = nI j) (hj : j < 20) (g : ok (F (gI h 297 j)) Q) : ok (ldA h 297 1 i F) Q := by
  obtain ⟨_, _, q⟩ := hL
  exact v0ldA (cl297 q) e hj (by decide) g
theorem v297W {β : Type} {h : mh} {Q : β → mh → Prop} (hL : LM h.2) {j : Nat} {i : Int32} {x : Int32} {F : mh → Option (β × mh)} (e : i = nI j) (hj : j < 20) (g : ok (F (uI h 297 j x)) Q) : ok (stA h 297 i x F) Q := by
  obtain ⟨_, _, q⟩ := hL
  exact v0stA (cl297 q) e hj (by decide) g
theorem v298A {β : Type} {h : mh} {Q : β → mh → Prop} (hL : LM h.2) {j : Nat} {i : Int32} {F : Int32 → Option (β × mh)} (e : i = nI j) (hj : j < 20) (g : ok (F (gI h 298 j)) Q) : ok (ldA h 298 3 i F) Q := by
  obtain ⟨_, _, q⟩ := hL
  exact v0ldA (cl298 q) e hj (by decide) g
theorem v298W {β : Type} {h : mh} {Q : β → mh → Prop} (hL : LM h.2) {j : Nat} {i : Int32} {x : Int32} {F : mh → Option (β × mh)} (e : i = nI j) (hj : j < 20) (g : ok (F (uI h 298 j (x &&& 1))) Q) : ok (stY h 298 i x F) Q := by
  obtain ⟨_, _, q⟩ := hL
  exact v0stY (cl298 q) e hj (by decide) g
theorem v2R0 {β : Type} {h : mh} {Q : β → mh → Prop} (hL : LM h.2) {F : Nat → Option (β × mh)} (g : ok (F (3)) Q) : ok (ldR h 2 5 0 F) Q := by
  obtain ⟨_, _, q⟩ := hL
  exact v0ldR (cl2 q) (rf2_0 q) g
theorem v2R1 {β : Type} {h : mh} {Q : β → mh → Prop} (hL : LM h.2) {F : Nat → Option (β × mh)} (g : ok (F (5)) Q) : ok (ldR h 2 5 1 F) Q := by
  obtain ⟨_, _, q⟩ := hL
  exact v0ldR (cl2 q) (rf2_1 q) g
theorem v2I {β : Type} {h : mh} {Q : β → mh → Prop} (hL : LM h.2) {k : Nat} {F : Int32 → Option (β × mh)} (g : ok (F (gI h 2 k)) Q) : ok (ldI h 2 5 k F) Q := by
  obtain ⟨_, _, q⟩ := hL
  exact v0ldI (cl2 q) g
theorem v2S {β : Type} {h : mh} {Q : β → mh → Prop} (hL : LM h.2) {k : Nat} {x : Int32} {F : mh → Option (β × mh)} (g : ok (F (uI h 2 k x)) Q) : ok (stI h 2 5 k x F) Q := by
  obtain ⟨_, _, q⟩ := hL
  exact v0stI (cl2 q) g
theorem v2Z {β : Type} {h : mh} {Q : β → mh → Prop} (hL : LM h.2) {k : Nat} {x : Int32} {F : mh → Option (β × mh)} (e : x = 0 ∨ x = 1) (g : ok (F (uI h 2 k x)) Q) : ok (stZ h 2 5 k x F) Q := by
  obtain ⟨_, _, q⟩ := hL
  exact v0stZ (cl2 q) e g
theorem v2C {β : Type} {h : mh} {Q : β → mh → Prop} (hL : LM h.2) {X : Option (β × mh)} (g : ok X Q) : ok (ckO h 2 5 X) Q := by
  obtain ⟨_, _, q⟩ := hL
  exact v0ck (cl2 q) g
theorem v3R0 {β : Type} {h : mh} {Q : β → mh → Prop} (hL : LM h.2) {F : Nat → Option (β × mh)} (g : ok (F (4)) Q) : ok (ldR h 3 7 0 F) Q := by
  obtain ⟨_, _, q⟩ := hL
  exact v0ldR (cl3 q) (rf3_0 q) g
theorem v3I {β : Type} {h : mh} {Q : β → mh → Prop} (hL : LM h.2) {k : Nat} {F : Int32 → Option (β × mh)} (g : ok (F (gI h 3 k)) Q) : ok (ldI h 3 7 k F) Q := by
  obtain ⟨_, _, q⟩ := hL
  exact v0ldI (cl3 q) g
theorem v3S {β : Type} {h : mh} {Q : β → mh → Prop} (hL : LM h.2) {k : Nat} {x : Int32} {F : mh → Option (β × mh)} (g : ok (F (uI h 3 k x)) Q) : ok (stI h 3 7 k x F) Q := by
  obtain ⟨_, _, q⟩ := hL
  exact v0stI (cl3 q) g
theorem v3Z {β : Type} {h : mh} {Q : β → mh → Prop} (hL : LM h.2) {k : Nat} {x : Int32} {F : mh → Option (β × mh)} (e : x = 0 ∨ x = 1) (g : ok (F (uI h 3 k x)) Q) : ok (stZ h 3 7 k x F) Q := by
  obtain ⟨_, _, q⟩ := hL
  exact v0stZ (cl3 q) e g
theorem v3C {β : Type} {h : mh} {Q : β → mh → Prop} (hL : LM h.2) {X : Option (β × mh)} (g : ok X Q) : ok (ckO h 3 7 X) Q := by
  obtain ⟨_, _, q⟩ := hL
  exact v0ck (cl3 q) g
theorem v3L {β : Type} {h : mh} {Q : β → mh → Prop} (hL : LM h.2) {k : Nat} {F : Int64 → Option (β × mh)} (g : ok (F (gL h 3 k)) Q) : ok (ldL h 3 7 k F) Q := by
  obtain ⟨_, _, q⟩ := hL
  exact v0ldL (cl3 q) g
theorem v3M {β : Type} {h : mh} {Q : β → mh → Prop} (hL : LM h.2) {k : Nat} {x : Int64} {F : mh → Option (β × mh)} (g : ok (F (uL h 3 k x)) Q) : ok (stL h 3 7 k x F) Q := by
  obtain ⟨_, _, q⟩ := hL
  exact v0stL (cl3 q) g
theorem v4A {β : Type} {h : mh} {Q : β → mh → Prop} (hL : LM h.2) {j : Nat} {i : Int32} {F : Int64 → Option (β × mh)} (e : i = nI j) (hj : j < 22) (g : ok (F (gL h 4 j)) Q) : ok (ldJ h 4 i F) Q := by
  obtain ⟨_, _, q⟩ := hL
  exact v0ldJ (cl4 q) e hj (by decide) g
theorem v4W {β : Type} {h : mh} {Q : β → mh → Prop} (hL : LM h.2) {j : Nat} {i : Int32} {x : Int64} {F : mh → Option (β × mh)} (e : i = nI j) (hj : j < 22) (g : ok (F (uL h 4 j x)) Q) : ok (stJ h 4 i x F) Q := by
  obtain ⟨_, _, q⟩ := hL
  exact v0stJ (cl4 q) e hj (by decide) g
theorem v5R8 {β : Type} {h : mh} {Q : β → mh → Prop} (hL : LM h.2) {F : Nat → Option (β × mh)} (g : ok (F (6)) Q) : ok (ldR h 5 0 8 F) Q := by
  obtain ⟨_, _, q⟩ := hL
  exact v0ldR (cl5 q) (rf5_8 q) g
theorem v5I {β : Type} {h : mh} {Q : β → mh → Prop} (hL : LM h.2) {k : Nat} {F : Int32 → Option (β × mh)} (g : ok (F (gI h 5 k)) Q) : ok (ldI h 5 0 k F) Q := by
  obtain ⟨_, _, q⟩ := hL
  exact v0ldI (cl5 q) g
theorem v5S {β : Type} {h : mh} {Q : β → mh → Prop} (hL : LM h.2) {k : Nat} {x : Int32} {F : mh → Option (β × mh)} (g : ok (F (uI h 5 k x)) Q) : ok (stI h 5 0 k x F) Q := by
  obtain ⟨_, _, q⟩ := hL
  exact v0stI (cl5 q) g
theorem v5Z {β : Type} {h : mh} {Q : β → mh → Prop} (hL : LM h.2) {k : Nat} {x : Int32} {F : mh → Option (β × mh)} (e : x = 0 ∨ x = 1) (g : ok (F (uI h 5 k x)) Q) : ok (stZ h 5 0 k x F) Q := by
  obtain ⟨_, _, q⟩ := hL
  exact v0stZ (cl5 q) e g
theorem v5C {β : Type} {h : mh} {Q : β → mh → Prop} (hL : LM h.2) {X : Option (β × mh)} (g : ok X Q) : ok (ckO h 5 0 X) Q := by
  obtain ⟨_, _, q⟩ := hL
  exact v0ck (cl5 q) g
theorem v6A {β : Type} {h : mh} {Q : β → mh → Prop} (hL : LM h.2) {j : Nat} {i : Int32} {F : Int32 → Option (β × mh)} (e : i = nI j) (hj : j < 24) (g : ok (F (gI h 6 j)) Q) : ok (ldA h 6 1 i F) Q := by
  obtain ⟨_, _, q⟩ := hL
  exact v0ldA (cl6 q) e hj (by decide) g
theorem v6W {β : Type} {h : mh} {Q : β → mh → Prop} (hL : LM h.2) {j : Nat} {i : Int32} {x : Int32} {F : mh → Option (β × mh)} (e : i = nI j) (hj : j < 24) (g : ok (F (uI h 6 j x)) Q) : ok (stA h 6 i x F) Q := by
  obtain ⟨_, _, q⟩ := hL
  exact v0stA (cl6 q) e hj (by decide) g
