/-! NIGHTS CHANGED: what an evening does, apart from cells; how cells follow -/
def setK (N : AN) (i v : Nat) : AN := (fun j => if j = i then v else kn N j, N.2)
def setB (N : AN) (i v : Nat) : AN := (N.1, fun j => if j = i then v else be N j, N.2.2)
def setH (N : AN) (i v : Nat) : AN := (N.1, N.2.1, fun j => if j = i then v else he N j, N.2.2.2)
def setQ (N : AN) (i v : Nat) : AN := (N.1, N.2.1, N.2.2.1, fun j => if j = i then v else qu N j, N.2.2.2.2)
def setOn (N : AN) (v : Nat) : AN := (N.1, N.2.1, N.2.2.1, N.2.2.2.1, v, N.2.2.2.2.2)
def setEv (N : AN) (v : Nat) : AN := (N.1, N.2.1, N.2.2.1, N.2.2.2.1, N.2.2.2.2.1, v, N.2.2.2.2.2.2)
def setAn (N : AN) (v : Option Nat) : AN := (N.1, N.2.1, N.2.2.1, N.2.2.2.1, N.2.2.2.2.1, N.2.2.2.2.2.1, v, N.2.2.2.2.2.2.2)
def setRu (N : AN) (v : Nat) : AN := (N.1, N.2.1, N.2.2.1, N.2.2.2.1, N.2.2.2.2.1, N.2.2.2.2.2.1, N.2.2.2.2.2.2.1, v)
theorem ngC_K {h : mh} {n i v : Nat} {N : AN} (q : ngC h n N) : ngC (uI h (n + 1) i (nI v)) n (setK N i v) := by
  obtain ⟨q1, q2, q3, q4, q5⟩ := q
  refine ⟨fun j hj => ?_, by rw [gI_ne (by omega)]; exact q2, by rw [gI_ne (by omega)]; exact q3, by rw [gI_ne (by omega)]; exact q4, by rw [gI_ne (by omega)]; exact q5⟩
  obtain ⟨a1, a2, a3, a4⟩ := q1 j hj
  refine ⟨?_, by rw [gI_ne (by omega)]; exact a2, by rw [gI_ne (by omega)]; exact a3, by rw [gI_ne (by omega)]; exact a4⟩
  show _ = nI (if j = i then v else kn N j)
  by_cases e : j = i
  · rw [gI_eq' ⟨rfl, e⟩, if_pos e]
  · rw [gI_ne (fun z => e z.2), if_neg e]
    exact a1
theorem ngC_B {h : mh} {n i v : Nat} {N : AN} (q : ngC h n N) : ngC (uI h (n + 2) i (nI v)) n (setB N i v) := by
  obtain ⟨q1, q2, q3, q4, q5⟩ := q
  refine ⟨fun j hj => ?_, by rw [gI_ne (by omega)]; exact q2, by rw [gI_ne (by omega)]; exact q3, by rw [gI_ne (by omega)]; exact q4, by rw [gI_ne (by omega)]; exact q5⟩
  obtain ⟨a1, a2, a3, a4⟩ := q1 j hj
  refine ⟨by rw [gI_ne (by omega)]; exact a1, ?_, by rw [gI_ne (by omega)]; exact a3, by rw [gI_ne (by omega)]; exact a4⟩
  show _ = nI (if j = i then v else be N j)
  by_cases e : j = i
  · rw [gI_eq' ⟨rfl, e⟩, if_pos e]
  · rw [gI_ne (fun z => e z.2), if_neg e]
    exact a2
theorem ngC_H {h : mh} {n i v : Nat} {N : AN} (q : ngC h n N) : ngC (uI h (n + 3) i (nI v)) n (setH N i v) := by
  obtain ⟨q1, q2, q3, q4, q5⟩ := q
  refine ⟨fun j hj => ?_, by rw [gI_ne (by omega)]; exact q2, by rw [gI_ne (by omega)]; exact q3, by rw [gI_ne (by omega)]; exact q4, by rw [gI_ne (by omega)]; exact q5⟩
  obtain ⟨a1, a2, a3, a4⟩ := q1 j hj
  refine ⟨by rw [gI_ne (by omega)]; exact a1, by rw [gI_ne (by omega)]; exact a2, ?_, by rw [gI_ne (by omega)]; exact a4⟩
  show _ = nI (if j = i then v else he N j)
  by_cases e : j = i
  · rw [gI_eq' ⟨rfl, e⟩, if_pos e]
  · rw [gI_ne (fun z => e z.2), if_neg e]
    exact a3
theorem ngC_Q {h : mh} {n i v : Nat} {N : AN} (q : ngC h n N) : ngC (uI h (n + 4) i (nI v)) n (setQ N i v) := by
  obtain ⟨q1, q2, q3, q4, q5⟩ := q
  refine ⟨fun j hj => ?_, by rw [gI_ne (by omega)]; exact q2, by rw [gI_ne (by omega)]; exact q3, by rw [gI_ne (by omega)]; exact q4, by rw [gI_ne (by omega)]; exact q5⟩
  obtain ⟨a1, a2, a3, a4⟩ := q1 j hj
  refine ⟨by rw [gI_ne (by omega)]; exact a1, by rw [gI_ne (by omega)]; exact a2, by rw [gI_ne (by omega)]; exact a3, ?_⟩
  show _ = nI (if j = i then v else qu N j)
  by_cases e : j = i
  · rw [gI_eq' ⟨rfl, e⟩, if_pos e]
  · rw [gI_ne (fun z => e z.2), if_neg e]
    exact a4
theorem ngC_fld {h : mh} {n k : Nat} {x : Int32} {N M : AN} (q : ngC h n N) (e1 : ∀ i, i < 6 → kn M i = kn N i ∧ be M i = be N i ∧ he M i = he N i ∧ qu M i = qu N i) (h4 : nI (on9 M) = if k = 4 then x else nI (on9 N)) (h5 : nI (ev9 M) = if k = 5 then x else nI (ev9 N)) (h6 : anC (an9 M) = if k = 6 then x else anC (an9 N)) (h7 : nI (ru9 M) = if k = 7 then x else nI (ru9 N)) : ngC (uI h n k x) n M := by
  obtain ⟨q1, q2, q3, q4, q5⟩ := q
  refine ⟨fun j hj => ?_, ?_, ?_, ?_, ?_⟩
  · obtain ⟨a1, a2, a3, a4⟩ := q1 j hj
    obtain ⟨b1, b2, b3, b4⟩ := e1 j hj
    rw [b1, b2, b3, b4]
    exact ⟨by rw [gI_ne (by omega)]; exact a1, by rw [gI_ne (by omega)]; exact a2, by rw [gI_ne (by omega)]; exact a3, by rw [gI_ne (by omega)]; exact a4⟩
  · rw [h4, gI_uI, q2]
    by_cases e : k = 4
    · rw [if_pos ⟨rfl, e.symm⟩, if_pos e]
    · rw [if_neg (fun z => e z.2.symm), if_neg e]
  · rw [h5, gI_uI, q3]
    by_cases e : k = 5
    · rw [if_pos ⟨rfl, e.symm⟩, if_pos e]
    · rw [if_neg (fun z => e z.2.symm), if_neg e]
  · rw [h6, gI_uI, q4]
    by_cases e : k = 6
    · rw [if_pos ⟨rfl, e.symm⟩, if_pos e]
    · rw [if_neg (fun z => e z.2.symm), if_neg e]
  · rw [h7, gI_uI, q5]
    by_cases e : k = 7
    · rw [if_pos ⟨rfl, e.symm⟩, if_pos e]
    · rw [if_neg (fun z => e z.2.symm), if_neg e]
theorem ngC_On {h : mh} {n v : Nat} {N : AN} (q : ngC h n N) : ngC (uI h n 4 (nI v)) n (setOn N v) := ngC_fld q (fun _ _ => ⟨rfl, rfl, rfl, rfl⟩) rfl rfl rfl rfl
theorem ngC_Ev {h : mh} {n v : Nat} {N : AN} (q : ngC h n N) : ngC (uI h n 5 (nI v)) n (setEv N v) := ngC_fld q (fun _ _ => ⟨rfl, rfl, rfl, rfl⟩) rfl rfl rfl rfl
theorem ngC_An {h : mh} {n : Nat} {v : Option Nat} {N : AN} (q : ngC h n N) : ngC (uI h n 6 (anC v)) n (setAn N v) := ngC_fld q (fun _ _ => ⟨rfl, rfl, rfl, rfl⟩) rfl rfl rfl rfl
theorem ngC_Ru {h : mh} {n v : Nat} {N : AN} (q : ngC h n N) : ngC (uI h n 7 (nI v)) n (setRu N v) := ngC_fld q (fun _ _ => ⟨rfl, rfl, rfl, rfl⟩) rfl rfl rfl rfl
theorem ngM_upd {h : mh} {a k : Nat} {x : Int32} {N M : AN} (q : ngM h a N) (e1 : ∀ i, i < 6 → nI (he M i) = (if i = k then x else nI (he N i)) ∧ nI (qu M i) = (if 6 + i = k then x else nI (qu N i)) ∧ nI (kn M i) = (if 12 + i = k then x else nI (kn N i)) ∧ nI (be M i) = (if 18 + i = k then x else nI (be N i)) ∧ (if (on9 M).testBit i then (1 : Int32) else 0) = (if 24 + i = k then x else if (on9 N).testBit i then 1 else 0)) (h5 : nI (ev9 M) = if 30 = k then x else nI (ev9 N)) (h6 : anM (an9 M) = if 31 = k then x else anM (an9 N)) (h7 : nI (ru9 M) = if 32 = k then x else nI (ru9 N)) : ngM (uI h a k x) a M := by
  obtain ⟨q1, q3, q4, q5⟩ := q
  have key : ∀ j, gI (uI h a k x) a j = if j = k then x else gI h a j := fun j => by
    rw [gI_uI]
    by_cases e : j = k
    · rw [if_pos ⟨rfl, e⟩, if_pos e]
    · rw [if_neg (fun z => e z.2), if_neg e]
  refine ⟨fun j hj => ?_, ?_, ?_, ?_⟩
  · obtain ⟨a1, a2, a3, a4, a5⟩ := q1 j hj
    obtain ⟨b1, b2, b3, b4, b5⟩ := e1 j hj
    rw [key, key, key, key, key, a1, a2, a3, a4, a5]
    exact ⟨b1.symm, b2.symm, b3.symm, b4.symm, b5.symm⟩
  · rw [key, q3, h5]
  · rw [key, q4, h6]
  · rw [key, q5, h7]
theorem ngM_K {h : mh} {a i v : Nat} {N : AN} (hi : i < 6) (q : ngM h a N) : ngM (uI h a (12 + i) (nI v)) a (setK N i v) := by
  refine ngM_upd q (fun j hj => ⟨?_, ?_, ?_, ?_, ?_⟩) ?_ ?_ ?_
  · exact (if_neg (by omega)).symm
  · exact (if_neg (by omega)).symm
  · show nI (if j = i then v else kn N j) = _
    by_cases e : j = i
    · rw [if_pos e, if_pos (by omega)]
    · rw [if_neg e, if_neg (by omega)]
  · exact (if_neg (by omega)).symm
  · exact (if_neg (by omega)).symm
  · exact (if_neg (by omega)).symm
  · exact (if_neg (by omega)).symm
  · exact (if_neg (by omega)).symm
theorem ngM_B {h : mh} {a i v : Nat} {N : AN} (hi : i < 6) (q : ngM h a N) : ngM (uI h a (18 + i) (nI v)) a (setB N i v) := by
  refine ngM_upd q (fun j hj => ⟨?_, ?_, ?_, ?_, ?_⟩) ?_ ?_ ?_
  · exact (if_neg (by omega)).symm
  · exact (if_neg (by omega)).symm
  · exact (if_neg (by omega)).symm
  · show nI (if j = i then v else be N j) = _
    by_cases e : j = i
    · rw [if_pos e, if_pos (by omega)]
    · rw [if_neg e, if_neg (by omega)]
  · exact (if_neg (by omega)).symm
  · exact (if_neg (by omega)).symm
  · exact (if_neg (by omega)).symm
  · exact (if_neg (by omega)).symm
theorem ngM_H {h : mh} {a i v : Nat} {N : AN} (hi : i < 6) (q : ngM h a N) : ngM (uI h a i (nI v)) a (setH N i v) := by
  refine ngM_upd q (fun j hj => ⟨?_, ?_, ?_, ?_, ?_⟩) ?_ ?_ ?_
  · show nI (if j = i then v else he N j) = _
    by_cases e : j = i
    · rw [if_pos e, if_pos e]
    · rw [if_neg e, if_neg e]
  · exact (if_neg (by omega)).symm
  · exact (if_neg (by omega)).symm
  · exact (if_neg (by omega)).symm
  · exact (if_neg (by omega)).symm
  · exact (if_neg (by omega)).symm
  · exact (if_neg (by omega)).symm
  · exact (if_neg (by omega)).symm
theorem ngM_Q {h : mh} {a i v : Nat} {N : AN} (hi : i < 6) (q : ngM h a N) : ngM (uI h a (6 + i) (nI v)) a (setQ N i v) := by
  refine ngM_upd q (fun j hj => ⟨?_, ?_, ?_, ?_, ?_⟩) ?_ ?_ ?_
  · exact (if_neg (by omega)).symm
  · show nI (if j = i then v else qu N j) = _
    by_cases e : j = i
    · rw [if_pos e, if_pos (by omega)]
    · rw [if_neg e, if_neg (by omega)]
  · exact (if_neg (by omega)).symm
  · exact (if_neg (by omega)).symm
  · exact (if_neg (by omega)).symm
  · exact (if_neg (by omega)).symm
  · exact (if_neg (by omega)).symm
  · exact (if_neg (by omega)).symm
theorem ngM_Ev {h : mh} {a v : Nat} {N : AN} (q : ngM h a N) : ngM (uI h a 30 (nI v)) a (setEv N v) := by
  refine ngM_upd q (fun j hj => ⟨?_, ?_, ?_, ?_, ?_⟩) ?_ ?_ ?_
  · exact (if_neg (by omega)).symm
  · exact (if_neg (by omega)).symm
  · exact (if_neg (by omega)).symm
  · exact (if_neg (by omega)).symm
  · exact (if_neg (by omega)).symm
  · rfl
  · rfl
  · rfl
theorem ngM_An {h : mh} {a : Nat} {v : Option Nat} {N : AN} (q : ngM h a N) : ngM (uI h a 31 (anM v)) a (setAn N v) := by
  refine ngM_upd q (fun j hj => ⟨?_, ?_, ?_, ?_, ?_⟩) ?_ ?_ ?_
  · exact (if_neg (by omega)).symm
  · exact (if_neg (by omega)).symm
  · exact (if_neg (by omega)).symm
  · exact (if_neg (by omega)).symm
  · exact (if_neg (by omega)).symm
  · rfl
  · rfl
  · rfl
theorem ngM_Ru {h : mh} {a v : Nat} {N : AN} (q : ngM h a N) : ngM (uI h a 32 (nI v)) a (setRu N v) := by
  refine ngM_upd q (fun j hj => ⟨?_, ?_, ?_, ?_, ?_⟩) ?_ ?_ ?_
  · exact (if_neg (by omega)).symm
  · exact (if_neg (by omega)).symm
  · exact (if_neg (by omega)).symm
  · exact (if_neg (by omega)).symm
  · exact (if_neg (by omega)).symm
  · rfl
  · rfl
  · rfl
/-- a cell that a night doesn't have -/
theorem ngC_o {h : mh} {n a k : Nat} {x : Int32} {N : AN} (ha : a < n ∨ n + 4 < a) (q : ngC h n N) : ngC (uI h a k x) n N := ngC_eo (S := fun b _ => b = a) (eo_uI eo_rf rfl) (fun b h1 h2 _ z => by omega) q
theorem ngM_o {h : mh} {b a k : Nat} {x : Int32} {N : AN} (ha : a ≠ b) (q : ngM h b N) : ngM (uI h a k x) b N := ngM_eo (S := fun c _ => c = a) (eo_uI eo_rf rfl) (fun _ z => ha z.symm) q
/-! sets as bits -/
def bitsU (p : Nat → Bool) : Nat → Nat
  | 0 => 0
  | i + 1 => if p i then bitsU p i ||| 2 ^ i else bitsU p i
theorem bitsU_lt (p : Nat → Bool) : ∀ n, bitsU p n < 2 ^ n
  | 0 => by show (0 : Nat) < 1; decide
  | n + 1 => by
    unfold bitsU
    have := bitsU_lt p n
    have h2 : 2 ^ n < 2 ^ (n + 1) := Nat.pow_lt_pow_right (by decide) (by omega)
    split
    · exact Nat.or_lt_two_pow (Nat.lt_trans this h2) h2
    · exact Nat.lt_trans this h2
theorem bitsU_256 (p : Nat → Bool) {n : Nat} (hn : n ≤ 8) : bitsU p n < 256 := Nat.lt_of_lt_of_le (bitsU_lt p n) (show 2 ^ n ≤ 2 ^ 8 from Nat.pow_le_pow_right (by decide) hn)
theorem bitsU_64 (p : Nat → Bool) {n : Nat} (hn : n ≤ 6) : bitsU p n < 64 := Nat.lt_of_lt_of_le (bitsU_lt p n) (show 2 ^ n ≤ 2 ^ 6 from Nat.pow_le_pow_right (by decide) hn)
theorem bitsU_tb (p : Nat → Bool) (i : Nat) : ∀ n, (bitsU p n).testBit i = (decide (i < n) && p i)
  | 0 => by
    show (0 : Nat).testBit i = _
    rw [Nat.zero_testBit, decide_eq_false (by omega), Bool.false_and]
  | n + 1 => by
    unfold bitsU
    have ih := bitsU_tb p i n
    rcases Nat.lt_trichotomy i n with q | q | q
    · have e : decide (i < n + 1) = decide (i < n) := by rw [decide_eq_true (by omega), decide_eq_true q]
      rw [e, ← ih]
      split
      · rw [Nat.testBit_or, Nat.testBit_two_pow_of_ne (by omega), Bool.or_false]
      · rfl
    · subst q
      rw [decide_eq_true (show i < i + 1 by omega), Bool.true_and]
      rw [decide_eq_false (by omega), Bool.false_and] at ih
      cases hp : p i
      · rw [if_neg (by decide), ih]
      · rw [if_pos rfl, Nat.testBit_or, Nat.testBit_two_pow_self, Bool.or_true]
    · rw [decide_eq_false (by omega), Bool.false_and]
      rw [decide_eq_false (by omega), Bool.false_and] at ih
      split
      · rw [Nat.testBit_or, ih, Nat.testBit_two_pow_of_ne (by omega), Bool.or_false]
      · exact ih
theorem bitsU_cg {p q : Nat → Bool} : ∀ {n : Nat}, (∀ i, i < n → p i = q i) → bitsU p n = bitsU q n
  | 0, _ => rfl
  | n + 1, e => by
    unfold bitsU
    rw [e n (by omega), bitsU_cg (fun i hi => e i (by omega))]
/-- a loop that gathers bits -/
theorem bits_loop {B : (Int32 × Int32 × mh → Option (Int32 × mh)) → Int32 × Int32 × mh → Option (Int32 × mh)} {n fu : Nat} {p : Nat → Bool} {V : mh → Prop} (hn : n ≤ 8) (hfu : 1000 ≤ fu)
    (hs : ∀ (i a : Nat) (h : mh) (k : Int32 × Int32 × mh → Option (Int32 × mh)) (Q : Int32 → mh → Prop), i < n → a < 256 → V h → (∀ h', V h' → ok (k (nI (if p i then a ||| 2 ^ i else a), nI (i + 1), h')) Q) → ok (B k (nI a, nI i, h)) Q)
    (he : ∀ (a : Nat) (h : mh) (k : Int32 × Int32 × mh → Option (Int32 × mh)), V h → ok (B k (nI a, nI n, h)) (fun x h' => V h' ∧ x = nI a))
    {h : mh} (hV : V h) : ok (itr B fu (0, 0, h)) (fun x h' => V h' ∧ x = nI (bitsU p n)) := by
  refine itr_up (I := fun j s => s.1 = nI (bitsU p j) ∧ s.2.1 = nI j ∧ V s.2.2) (P := fun R => ok R _) (n := n) ?_ ?_ fu 0 _ (by omega) (by omega) ⟨rfl, rfl, hV⟩
  · intro j s k hj hI hk
    obtain ⟨v, w, h1⟩ := s
    obtain ⟨e1, e2, q⟩ := hI
    dsimp only at e1 e2 q
    subst e1 e2
    exact hs j _ h1 k _ hj (bitsU_256 p (by omega)) q (fun h' q' => hk _ ⟨rfl, rfl, q'⟩)
  · intro s k hI
    obtain ⟨v, w, h1⟩ := s
    obtain ⟨e1, e2, q⟩ := hI
    dsimp only at e1 e2 q
    subst e1 e2
    exact he _ h1 k q
/-- a loop that adds -/
def sumU (f : Nat → Int32) : Nat → Int32
  | 0 => 0
  | i + 1 => sumU f i + f i
theorem sumU_cg {f g : Nat → Int32} : ∀ {n : Nat}, (∀ i, i < n → f i = g i) → sumU f n = sumU g n
  | 0, _ => rfl
  | n + 1, e => by
    unfold sumU
    rw [e n (by omega), sumU_cg (fun i hi => e i (by omega))]
theorem sumU_more {f : Nat → Int32} {n : Nat} : ∀ {d : Nat}, (∀ i, n ≤ i → i < n + d → f i = 0) → sumU f (n + d) = sumU f n
  | 0, _ => rfl
  | d + 1, e => by
    show sumU f (n + d) + f (n + d) = _
    rw [e (n + d) (by omega) (by omega), sumU_more (fun i h1 h2 => e i h1 (by omega)), Int32.add_zero]
theorem sum_loop {B : (Int32 × Int32 × mh → Option (Int32 × mh)) → Int32 × Int32 × mh → Option (Int32 × mh)} {n fu : Nat} {f : Nat → Int32} {V : mh → Prop} (b : Nat) (hn : n ≤ 99) (hfu : 1000 ≤ fu)
    (hs : ∀ (i : Nat) (a : Int32) (h : mh) (k : Int32 × Int32 × mh → Option (Int32 × mh)) (Q : Int32 → mh → Prop), i < n → V h → (∀ h', V h' → ok (k (a + f i, nI (b + i + 1), h')) Q) → ok (B k (a, nI (b + i), h)) Q)
    (he : ∀ (a : Int32) (h : mh) (k : Int32 × Int32 × mh → Option (Int32 × mh)), V h → ok (B k (a, nI (b + n), h)) (fun x h' => V h' ∧ x = a))
    {h : mh} (hV : V h) : ok (itr B fu (0, nI b, h)) (fun x h' => V h' ∧ x = sumU f n) := by
  refine itr_up (I := fun j s => s.1 = sumU f j ∧ s.2.1 = nI (b + j) ∧ V s.2.2) (P := fun R => ok R _) (n := n) ?_ ?_ fu 0 _ (by omega) (by omega) ⟨rfl, rfl, hV⟩
  · intro j s k hj hI hk
    obtain ⟨v, w, h1⟩ := s
    obtain ⟨e1, e2, q⟩ := hI
    dsimp only at e1 e2 q
    subst e1 e2
    exact hs j _ h1 k _ hj q (fun h' q' => hk _ ⟨rfl, rfl, q'⟩)
  · intro s k hI
    obtain ⟨v, w, h1⟩ := s
    obtain ⟨e1, e2, q⟩ := hI
    dsimp only at e1 e2 q
    subst e1 e2
    exact he _ h1 k q
