/-! THE LAW'S LOOP: if every call keeps S and is answered alike, the law answers 1 -/
/-- class and reference answer alike, one behind the other, and S is kept -/
def pr {β : Type} (S : mh → Prop) (A : Option (β × mh)) (B : mh → Option (β × mh)) : Prop := ∃ (r : β) (h1 h2 : mh), A = some (r, h1) ∧ B h1 = some (r, h2) ∧ (∃ t u, Ly t u h1) ∧ S h2
def Steps9 (S : mh → Prop) (fu : Nat) : Prop := (∀ (h : mh) (x0 : Int32) (x1 : Int32) (x2 : Int32) (x3 : Int32) (x4 : Int32), S h → pr S (fX9_feed fu 0 x0 x1 x2 x3 x4 h) (fun h1 => fX10_feed fu 299 x0 x1 x2 x3 x4 h1)) ∧
  (∀ (h : mh) (x0 : Int32), S h → pr S (fX9_back fu 0 x0 h) (fun h1 => fX10_back fu 299 x0 h1)) ∧
  (∀ (h : mh), S h → pr S (fX9_read fu 0 h) (fun h1 => fX10_read fu 299 h1)) ∧
  (∀ (h : mh), S h → pr S (fX9_place fu 0 h) (fun h1 => fX10_place fu 299 h1)) ∧
  (∀ (h : mh) (x0 : Int32) (x1 : Int32), S h → pr S (fX9_role fu 0 x0 x1 h) (fun h1 => fX10_role fu 299 x0 x1 h1)) ∧
  (∀ (h : mh) (x0 : Int32) (x1 : Int32), S h → pr S (fX9_listener fu 0 x0 x1 h) (fun h1 => fX10_listener fu 299 x0 x1 h1)) ∧
  (∀ (h : mh) (x0 : Int32) (x1 : Int32) (x2 : Int32), S h → pr S (fX9_tells fu 0 x0 x1 x2 h) (fun h1 => fX10_tells fu 299 x0 x1 x2 h1)) ∧
  (∀ (h : mh) (x0 : Int32), S h → pr S (fX9_announce fu 0 x0 h) (fun h1 => fX10_announce fu 299 x0 h1)) ∧
  (∀ (h : mh) (x0 : Int32) (x1 : Int32), S h → (x1 = 0 ∨ x1 = 1) → pr S (fX9_turn fu 0 x0 x1 h) (fun h1 => fX10_turn fu 299 x0 x1 h1)) ∧
  (∀ (h : mh) (x0 : Int32) (x1 : Int32), S h → pr S (fX9_inform fu 0 x0 x1 h) (fun h1 => fX10_inform fu 299 x0 x1 h1)) ∧
  (∀ (h : mh) (x0 : Int32) (x1 : Int32), S h → pr S (fX9_talk fu 0 x0 x1 h) (fun h1 => fX10_talk fu 299 x0 x1 h1)) ∧
  (∀ (h : mh) (x0 : Int32), S h → pr S (fX9_evenings fu 0 x0 h) (fun h1 => fX10_evenings fu 299 x0 h1)) ∧
  (∀ (h : mh), S h → pr S (fX9_undo fu 0 h) (fun h1 => fX10_undo fu 299 h1)) ∧
  (∀ (h : mh) (x0 : Int32) (x1 : Int32), S h → pr S (fX9_tonight fu 0 x0 x1 h) (fun h1 => fX10_tonight fu 299 x0 x1 h1)) ∧
  (∀ (h : mh) (x0 : Int32), S h → pr S (fX9_best fu 0 x0 h) (fun h1 => fX10_best fu 299 x0 h1)) ∧
  (∀ (h : mh) (x0 : Int32) (x1 : Int32), S h → pr S (fX9_plan fu 0 x0 x1 h) (fun h1 => fX10_plan fu 299 x0 x1 h1)) ∧
  (∀ (h : mh) (x0 : Int32), S h → pr S (fX9_star fu 0 x0 h) (fun h1 => fX10_star fu 299 x0 h1)) ∧
  (∀ (h : mh) (x0 : Int32), S h → pr S (fX9_credit fu 0 x0 h) (fun h1 => fX10_credit fu 299 x0 h1)) ∧
  (∀ (h : mh) (x0 : Int32), S h → pr S (fX9_missing fu 0 x0 h) (fun h1 => fX10_missing fu 299 x0 h1)) ∧
  (∀ (h : mh) (x0 : Int32), S h → pr S (fX9_holders fu 0 x0 h) (fun h1 => fX10_holders fu 299 x0 h1)) ∧
  (∀ (h : mh) (x0 : Int32), S h → pr S (fX9_rarest fu 0 x0 h) (fun h1 => fX10_rarest fu 299 x0 h1)) ∧
  (∀ (h : mh) (x0 : Int32) (x1 : Int32), S h → pr S (fX9_series fu 0 x0 x1 h) (fun h1 => fX10_series fu 299 x0 x1 h1)) ∧
  (∀ (h : mh) (x0 : Int32) (x1 : Int32), S h → pr S (fX9_longOf fu 0 x0 x1 h) (fun h1 => fX10_longOf fu 299 x0 x1 h1)) ∧
  (∀ (h : mh) (x0 : Int32), S h → pr S (fX9_callers fu 0 x0 h) (fun h1 => fX10_callers fu 299 x0 h1)) ∧
  (∀ (h : mh) (x0 : Int32), S h → pr S (fX9_sway fu 0 x0 h) (fun h1 => fX10_sway fu 299 x0 h1)) ∧
  (∀ (h : mh) (x0 : Int32) (x1 : Int32), S h → pr S (fX9_circle fu 0 x0 x1 h) (fun h1 => fX10_circle fu 299 x0 x1 h1)) ∧
  (∀ (h : mh), S h → pr S (fX9_doubles fu 0 h) (fun h1 => fX10_doubles fu 299 h1)) ∧
  (∀ (h : mh) (x0 : Int32), S h → pr S (fX9_faith fu 0 x0 h) (fun h1 => fX10_faith fu 299 x0 h1)) ∧
  (∀ (h : mh) (x0 : Int32), S h → pr S (fX9_never fu 0 x0 h) (fun h1 => fX10_never fu 299 x0 h1)) ∧
  (∀ (h : mh) (x0 : Int32), S h → pr S (fX9_apart fu 0 x0 h) (fun h1 => fX10_apart fu 299 x0 h1)) ∧
  (∀ (h : mh) (x0 : Int32) (x1 : Int32), S h → pr S (fX9_unlike fu 0 x0 x1 h) (fun h1 => fX10_unlike fu 299 x0 x1 h1)) ∧
  (∀ (h : mh) (x0 : Int32), S h → pr S (fX9_rumour fu 0 x0 h) (fun h1 => fX10_rumour fu 299 x0 h1)) ∧
  (∀ (h : mh) (x0 : Int32), S h → pr S (fX9_talks fu 0 x0 h) (fun h1 => fX10_talks fu 299 x0 h1)) ∧
  (∀ (h : mh) (x0 : Int32) (x1 : Int32) (x2 : Int32), S h → pr S (fX9_then fu 0 x0 x1 x2 h) (fun h1 => fX10_then fu 299 x0 x1 x2 h1)) ∧
  (∀ (h : mh) (x0 : Int32) (x1 : Int32), S h → pr S (fX9_quietIn fu 0 x0 x1 h) (fun h1 => fX10_quietIn fu 299 x0 x1 h1)) ∧
  (∀ (h : mh) (x0 : Int32) (x1 : Int32) (x2 : Int32) (x3 : Int32), S h → pr S (fX9_sure fu 0 x0 x1 x2 x3 h) (fun h1 => fX10_sure fu 299 x0 x1 x2 x3 h1)) ∧
  (∀ (h : mh) (x0 : Int32) (x1 : Int32), S h → (x1 = 0 ∨ x1 = 1) → pr S (fX9_tellFact fu 0 x0 x1 h) (fun h1 => fX10_tellFact fu 299 x0 x1 h1)) ∧
  (∀ (h : mh) (x0 : Int32) (x1 : Int32), S h → (x1 = 0 ∨ x1 = 1) → pr S (fX9_tellDone fu 0 x0 x1 h) (fun h1 => fX10_tellDone fu 299 x0 x1 h1)) ∧
  (∀ (h : mh), S h → pr S (fX9_forget fu 0 h) (fun h1 => fX10_forget fu 299 h1)) ∧
  (∀ (h : mh) (x0 : Int32) (x1 : Int32), S h → pr S (fX9_who fu 0 x0 x1 h) (fun h1 => fX10_who fu 299 x0 x1 h1)) ∧
  (∀ (h : mh) (x0 : Int32), S h → pr S (fX9_ask fu 0 x0 h) (fun h1 => fX10_ask fu 299 x0 h1)) ∧
  (∀ (h : mh) (x0 : Int32), S h → pr S (fX9_hold fu 0 x0 h) (fun h1 => fX10_hold fu 299 x0 h1)) ∧
  (∀ (h : mh) (x0 : Int32), S h → pr S (fX9_restore fu 0 x0 h) (fun h1 => fX10_restore fu 299 x0 h1)) ∧
  (∀ (h : mh) (x0 : Int32), S h → pr S (fX9_count fu 0 x0 h) (fun h1 => fX10_count fu 299 x0 h1))
def P9 (S : mh → Prop) (R : Option (Int32 × mh)) : Prop := ∃ h', R = some (1, h') ∧ S h'
theorem bd_s {γ δ : Type} {x : γ} {h1 : mh} {F : γ → mh → Option δ} : bd (some (x, h1)) F = F x h1 := rfl
theorem leaf9 {δ β : Type} [DecidableEq β] {S : mh → Prop} {P : Option δ → Prop} {h : mh} {A : Option (β × mh)} {B : mh → Option (β × mh)} {K : mh → Option δ} {Z : β → mh → Option δ} (h9 : 0 < gN h ∧ gS h 0 = (0, 9)) (hp : pr S A B) (hk : ∀ h2, S h2 → P (K h2)) : P (ckO h 0 9 (bd A (fun r h1 => ckO h1 299 10 (bd (B h1) (fun r2 h2 => if r = r2 then K h2 else Z r2 h2))))) := by
  obtain ⟨r, h1, h2, e1, e2, ⟨t, u, hL⟩, hs⟩ := hp
  rw [ckO_of h9, e1, bd_s, ckO_of (cl299 hL), e2, bd_s, if_pos rfl]
  exact hk h2 hs
theorem ldX_of {δ : Type} {n : Nat} {xs : Nat → Int32} {i : Int32} {F : Int32 → Option δ} (j : Nat) (e : i = nI j) (hj : j < n) (hn : n < 2 ^ 31) : ldX n xs i F = F (xs j) := by
  subst e
  unfold ldX
  rw [if_pos ⟨nI_pos (by omega), by rw [nI_clamp (by omega)]; exact hj⟩, nI_clamp (by omega)]
theorem nI_lit (j : Nat) (a : Nat) (x : Int32) (hx : x = nI a) : nI j + x = nI (j + a) := by rw [hx, nI_add]
set_option maxHeartbeats 4000000 in
set_option maxRecDepth 100000 in
theorem loop9 {S : mh → Prop} {fu L : Nat} {xs : Nat → Int32} (hL : L ≤ 3072) (hS : ∀ h, S h → ∃ t u, Ly t u h) (hst : Steps9 S fu) (h0 : mh) (hI0 : S h0) (hfu : 600 ≤ fu) : ∃ h', itr (bL_law_18 fu L xs () 0 299) fu ((0 : Int32), h0) = some (1, h') ∧ S h' := by
  obtain ⟨p0, p1, p2, p3, p4, p5, p6, p7, p8, p9, p10, p11, p12, p13, p14, p15, p16, p17, p18, p19, p20, p21, p22, p23, p24, p25, p26, p27, p28, p29, p30, p31, p32, p33, p34, p35, p36, p37, p38, p39, p40, p41, p42, p43⟩ := hst
  refine itr_up (I := fun j s => s.1 = nI (6 * j) ∧ S s.2) (P := P9 S) (n := L / 6) ?_ ?_ fu 0 _ (by omega) (by omega) ⟨rfl, hI0⟩
  · intro j s k hj hI hk
    obtain ⟨v3, h⟩ := s
    obtain ⟨hv, hs⟩ := hI
    dsimp only at hv hs
    obtain ⟨t, u, hLy⟩ := hS h hs
    have h9 := cl0 hLy
    have b0 : ∀ (F : Int32 → Option (Int32 × mh)), ldX L xs v3 F = F (xs (6 * j)) := fun F => ldX_of (6 * j) hv (by omega) (by omega)
    have b1 : ∀ (F : Int32 → Option (Int32 × mh)), ldX L xs (v3 + 1) F = F (xs (6 * j + 1)) := fun F => ldX_of (6 * j + 1) (by rw [hv]; exact nI_lit _ 1 _ rfl) (by omega) (by omega)
    have b2 : ∀ (F : Int32 → Option (Int32 × mh)), ldX L xs (v3 + 2) F = F (xs (6 * j + 2)) := fun F => ldX_of (6 * j + 2) (by rw [hv]; exact nI_lit _ 2 _ rfl) (by omega) (by omega)
    have b3 : ∀ (F : Int32 → Option (Int32 × mh)), ldX L xs (v3 + 3) F = F (xs (6 * j + 3)) := fun F => ldX_of (6 * j + 3) (by rw [hv]; exact nI_lit _ 3 _ rfl) (by omega) (by omega)
    have b4 : ∀ (F : Int32 → Option (Int32 × mh)), ldX L xs (v3 + 4) F = F (xs (6 * j + 4)) := fun F => ldX_of (6 * j + 4) (by rw [hv]; exact nI_lit _ 4 _ rfl) (by omega) (by omega)
    have b5 : ∀ (F : Int32 → Option (Int32 × mh)), ldX L xs (v3 + 5) F = F (xs (6 * j + 5)) := fun F => ldX_of (6 * j + 5) (by rw [hv]; exact nI_lit _ 5 _ rfl) (by omega) (by omega)
    have hgo : ∀ h2, S h2 → P9 S (fL_law_1494 fu L xs k () 0 299 v3 h2) := by
      intro h2 hs2
      exact hk (v3 + 6, h2) ⟨by show v3 + 6 = nI (6 * (j + 1)); rw [hv]; exact nI_lit _ 6 _ rfl, hs2⟩
    have hlt : ¬ Int32.ofNat L - 6 < v3 := by
      rw [hv]
      have e : Int32.ofNat L - 6 = nI (L - 6) := pk_sub (a := L) (b := 6) (by omega)
      rw [e]
      exact nI_nlt (by omega) (by omega)
    unfold bL_law_18
    simp only [if_neg hlt, b0, lt]
    generalize xs (6 * j) &&& 63 = c9
    by_cases q : c9 = 0
    · rw [if_pos q]
      simp only [b1, b2, b3, b4, b5]
      exact leaf9 (P := P9 S) h9 (p0 h _ _ _ _ _ hs) hgo
    rw [if_neg q]
    by_cases q : c9 = 1
    · rw [if_pos q]
      simp only [b1]
      exact leaf9 (P := P9 S) h9 (p1 h _ hs) hgo
    rw [if_neg q]
    by_cases q : c9 = 2
    · rw [if_pos q]
      exact leaf9 (P := P9 S) h9 (p2 h hs) hgo
    rw [if_neg q]
    by_cases q : c9 = 3
    · rw [if_pos q]
      exact leaf9 (P := P9 S) h9 (p3 h hs) hgo
    rw [if_neg q]
    by_cases q : c9 = 4
    · rw [if_pos q]
      simp only [b1, b2]
      exact leaf9 (P := P9 S) h9 (p4 h _ _ hs) hgo
    rw [if_neg q]
    by_cases q : c9 = 5
    · rw [if_pos q]
      simp only [b1, b2]
      exact leaf9 (P := P9 S) h9 (p5 h _ _ hs) hgo
    rw [if_neg q]
    by_cases q : c9 = 6
    · rw [if_pos q]
      simp only [b1, b2, b3]
      exact leaf9 (P := P9 S) h9 (p6 h _ _ _ hs) hgo
    rw [if_neg q]
    by_cases q : c9 = 7
    · rw [if_pos q]
      simp only [b1]
      exact leaf9 (P := P9 S) h9 (p7 h _ hs) hgo
    rw [if_neg q]
    by_cases q : c9 = 8
    · rw [if_pos q]
      simp only [b1, b2, fL_law_487, fL_law_509]
      by_cases z : xs (6 * j + 2) = 0
      · simp only [if_pos z]
        exact leaf9 (P := P9 S) h9 (p8 h _ 0 hs (Or.inl rfl)) hgo
      · simp only [if_neg z]
        exact leaf9 (P := P9 S) h9 (p8 h _ 1 hs (Or.inr rfl)) hgo
    rw [if_neg q]
    by_cases q : c9 = 9
    · rw [if_pos q]
      simp only [b1, b2]
      exact leaf9 (P := P9 S) h9 (p9 h _ _ hs) hgo
    rw [if_neg q]
    by_cases q : c9 = 10
    · rw [if_pos q]
      simp only [b1, b2]
      exact leaf9 (P := P9 S) h9 (p10 h _ _ hs) hgo
    rw [if_neg q]
    by_cases q : c9 = 11
    · rw [if_pos q]
      simp only [b1]
      exact leaf9 (P := P9 S) h9 (p11 h _ hs) hgo
    rw [if_neg q]
    by_cases q : c9 = 12
    · rw [if_pos q]
      exact leaf9 (P := P9 S) h9 (p12 h hs) hgo
    rw [if_neg q]
    by_cases q : c9 = 13
    · rw [if_pos q]
      simp only [b1, b2]
      exact leaf9 (P := P9 S) h9 (p13 h _ _ hs) hgo
    rw [if_neg q]
    by_cases q : c9 = 14
    · rw [if_pos q]
      simp only [b1]
      exact leaf9 (P := P9 S) h9 (p14 h _ hs) hgo
    rw [if_neg q]
    by_cases q : c9 = 15
    · rw [if_pos q]
      simp only [b1, b2]
      exact leaf9 (P := P9 S) h9 (p15 h _ _ hs) hgo
    rw [if_neg q]
    by_cases q : c9 = 16
    · rw [if_pos q]
      simp only [b1]
      exact leaf9 (P := P9 S) h9 (p16 h _ hs) hgo
    rw [if_neg q]
    by_cases q : c9 = 17
    · rw [if_pos q]
      simp only [b1]
      exact leaf9 (P := P9 S) h9 (p17 h _ hs) hgo
    rw [if_neg q]
    by_cases q : c9 = 18
    · rw [if_pos q]
      simp only [b1]
      exact leaf9 (P := P9 S) h9 (p18 h _ hs) hgo
    rw [if_neg q]
    by_cases q : c9 = 19
    · rw [if_pos q]
      simp only [b1]
      exact leaf9 (P := P9 S) h9 (p19 h _ hs) hgo
    rw [if_neg q]
    by_cases q : c9 = 20
    · rw [if_pos q]
      simp only [b1]
      exact leaf9 (P := P9 S) h9 (p20 h _ hs) hgo
    rw [if_neg q]
    by_cases q : c9 = 21
    · rw [if_pos q]
      simp only [b1, b2]
      exact leaf9 (P := P9 S) h9 (p21 h _ _ hs) hgo
    rw [if_neg q]
    by_cases q : c9 = 22
    · rw [if_pos q]
      simp only [b1, b2]
      exact leaf9 (P := P9 S) h9 (p22 h _ _ hs) hgo
    rw [if_neg q]
    by_cases q : c9 = 23
    · rw [if_pos q]
      simp only [b1]
      exact leaf9 (P := P9 S) h9 (p23 h _ hs) hgo
    rw [if_neg q]
    by_cases q : c9 = 24
    · rw [if_pos q]
      simp only [b1]
      exact leaf9 (P := P9 S) h9 (p24 h _ hs) hgo
    rw [if_neg q]
    by_cases q : c9 = 25
    · rw [if_pos q]
      simp only [b1, b2]
      exact leaf9 (P := P9 S) h9 (p25 h _ _ hs) hgo
    rw [if_neg q]
    by_cases q : c9 = 26
    · rw [if_pos q]
      exact leaf9 (P := P9 S) h9 (p26 h hs) hgo
    rw [if_neg q]
    by_cases q : c9 = 27
    · rw [if_pos q]
      simp only [b1]
      exact leaf9 (P := P9 S) h9 (p27 h _ hs) hgo
    rw [if_neg q]
    by_cases q : c9 = 28
    · rw [if_pos q]
      simp only [b1]
      exact leaf9 (P := P9 S) h9 (p28 h _ hs) hgo
    rw [if_neg q]
    by_cases q : c9 = 29
    · rw [if_pos q]
      simp only [b1]
      exact leaf9 (P := P9 S) h9 (p29 h _ hs) hgo
    rw [if_neg q]
    by_cases q : c9 = 30
    · rw [if_pos q]
      simp only [b1, b2]
      exact leaf9 (P := P9 S) h9 (p30 h _ _ hs) hgo
    rw [if_neg q]
    by_cases q : c9 = 31
    · rw [if_pos q]
      simp only [b1]
      exact leaf9 (P := P9 S) h9 (p31 h _ hs) hgo
    rw [if_neg q]
    by_cases q : c9 = 32
    · rw [if_pos q]
      simp only [b1]
      exact leaf9 (P := P9 S) h9 (p32 h _ hs) hgo
    rw [if_neg q]
    by_cases q : c9 = 33
    · rw [if_pos q]
      simp only [b1, b2, b3]
      exact leaf9 (P := P9 S) h9 (p33 h _ _ _ hs) hgo
    rw [if_neg q]
    by_cases q : c9 = 34
    · rw [if_pos q]
      simp only [b1, b2]
      exact leaf9 (P := P9 S) h9 (p34 h _ _ hs) hgo
    rw [if_neg q]
    by_cases q : c9 = 35
    · rw [if_pos q]
      simp only [b1, b2, b3, b4]
      exact leaf9 (P := P9 S) h9 (p35 h _ _ _ _ hs) hgo
    rw [if_neg q]
    by_cases q : c9 = 36
    · rw [if_pos q]
      simp only [b1, b2, fL_law_1277, fL_law_1299]
      by_cases z : xs (6 * j + 2) = 0
      · simp only [if_pos z]
        exact leaf9 (P := P9 S) h9 (p36 h _ 0 hs (Or.inl rfl)) hgo
      · simp only [if_neg z]
        exact leaf9 (P := P9 S) h9 (p36 h _ 1 hs (Or.inr rfl)) hgo
    rw [if_neg q]
    by_cases q : c9 = 37
    · rw [if_pos q]
      simp only [b1, b2, fL_law_1326, fL_law_1348]
      by_cases z : xs (6 * j + 2) = 0
      · simp only [if_pos z]
        exact leaf9 (P := P9 S) h9 (p37 h _ 0 hs (Or.inl rfl)) hgo
      · simp only [if_neg z]
        exact leaf9 (P := P9 S) h9 (p37 h _ 1 hs (Or.inr rfl)) hgo
    rw [if_neg q]
    by_cases q : c9 = 38
    · rw [if_pos q]
      exact leaf9 (P := P9 S) h9 (p38 h hs) hgo
    rw [if_neg q]
    by_cases q : c9 = 39
    · rw [if_pos q]
      simp only [b1, b2]
      exact leaf9 (P := P9 S) h9 (p39 h _ _ hs) hgo
    rw [if_neg q]
    by_cases q : c9 = 40
    · rw [if_pos q]
      simp only [b1]
      exact leaf9 (P := P9 S) h9 (p40 h _ hs) hgo
    rw [if_neg q]
    by_cases q : c9 = 41
    · rw [if_pos q]
      simp only [b1]
      exact leaf9 (P := P9 S) h9 (p41 h _ hs) hgo
    rw [if_neg q]
    by_cases q : c9 = 42
    · rw [if_pos q]
      simp only [b1]
      exact leaf9 (P := P9 S) h9 (p42 h _ hs) hgo
    rw [if_neg q]
    by_cases q : c9 = 43
    · rw [if_pos q]
      simp only [b1]
      exact leaf9 (P := P9 S) h9 (p43 h _ hs) hgo
    rw [if_neg q]
    exact hgo h hs
  · intro s k hI
    obtain ⟨v3, h⟩ := s
    obtain ⟨hv, hs⟩ := hI
    dsimp only at hv hs
    have hlt : Int32.ofNat L - 6 < v3 := by
      rw [hv]
      rcases Nat.lt_or_ge L 6 with q | q
      · exact (show nI L - nI 6 < nI (6 * (L / 6)) from by
          have e : 6 * (L / 6) = 0 := by omega
          rw [e, nI_0]
          exact pk_sneg (a := L) (b := 6) (by omega) q)
      · have e : Int32.ofNat L - 6 = nI (L - 6) := pk_sub (a := L) (b := 6) q
        rw [e]
        exact nI_lt (by omega) (by omega)
    unfold bL_law_18
    simp only [if_pos hlt]
    exact ⟨h, rfl, hs⟩
/-- the claim out of such a relation -/
theorem law_of {S : mh → Prop} (hS : ∀ h, S h → ∃ t u, Ly t u h) (hI0 : S hI) (hst : Steps9 S 5000) (L : Nat) (xs : Nat → Int32) (hL : L ≤ 3072) : LawP L xs := by
  obtain ⟨h', e, hs⟩ := loop9 (xs := xs) hL hS hst hI hI0 (by omega)
  obtain ⟨t, u, hLy⟩ := hS h' hs
  refine ⟨5000, h', ?_, by rw [hLy.1]; omega, by rw [hLy.2.1]; omega⟩
  have hq := init_eq
  unfold initR at hq
  unfold fL_law
  unfold newO at hq ⊢
  dsimp only at hq ⊢
  cases h1 : fX9_init 5000 (gN mh0) (nw mh0 (0, 9) (fnum 9)) with
  | none => rw [h1] at hq; cases hq
  | some q1 =>
    obtain ⟨u1, h3⟩ := q1
    rw [h1] at hq
    rw [bd_s] at hq ⊢
    cases h2 : fX10_init 5000 (gN h3) (nw h3 (0, 10) (fnum 10)) with
    | none => rw [h2] at hq; cases hq
    | some q2 =>
      obtain ⟨u2, h6⟩ := q2
      rw [h2] at hq
      rw [bd_s] at hq ⊢
      have hq := Option.some.inj hq
      have e1 : gN mh0 = 0 := (Prod.mk.inj (Prod.mk.inj hq).1).1
      have e2 : gN h3 = 299 := (Prod.mk.inj (Prod.mk.inj hq).1).2
      have e3 : h6 = hI := (Prod.mk.inj hq).2
      rw [e1, e2, e3]
      exact e
