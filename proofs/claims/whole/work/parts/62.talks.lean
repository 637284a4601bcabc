/-! TALKS: the fewest talks are as many as the fewest others -/
def dgt (way k : Nat) : Nat := way / 36 ^ k % 36
def tlkK (K : Nat → Nat) (a b : Nat) : Nat → Nat := fun l => if l = a ∨ l = b then K a ||| K b else K l
/-- talks by the digits of a way, the highest first -/
def tkR (L way : Nat) : Nat → (Nat → Nat) → Option (Nat → Nat)
  | 0, K => some K
  | k + 1, K => if dgt way k / 6 < dgt way k % 6 ∧ dgt way k % 6 < L then tkR L way k (tlkK K (dgt way k / 6) (dgt way k % 6)) else none
def doF (ne L o way k : Nat) (K : Nat → Nat) : Bool := match tkR L way k K with
  | none => false
  | some K' => decide (ndn ne (K' o) = 0)
theorem dgt_add (x y j i : Nat) : dgt (x * 36 ^ (j + 1 + i) + y) j = dgt y j := by
  unfold dgt
  have e : x * 36 ^ (j + 1 + i) = 36 ^ j * (36 * (x * 36 ^ i)) := by
    rw [Nat.pow_add, Nat.pow_succ]
    simp only [Nat.mul_comm, Nat.mul_left_comm, Nat.mul_assoc]
  rw [e, Nat.mul_add_div (Nat.pow_pos (by decide)), Nat.mul_add_mod]
theorem tkR_add (L x y : Nat) : ∀ (k i : Nat) (K : Nat → Nat), tkR L (x * 36 ^ (k + i) + y) k K = tkR L y k K
  | 0, _, _ => rfl
  | k + 1, i, K => by
    unfold tkR
    rw [dgt_add x y k i]
    split
    · rw [show k + 1 + i = k + (1 + i) from by omega]
      exact tkR_add L x y k (1 + i) _
    · rfl
/-- what some know together -/
def uk (K : Nat → Nat) (R L : Nat) : Nat := orU (fun l => if R.testBit l then K l else 0) L
theorem uk_tb (K : Nat → Nat) (R L b : Nat) : (uk K R L).testBit b = true ↔ ∃ l, l < L ∧ R.testBit l = true ∧ (K l).testBit b = true := by
  unfold uk
  rw [orU_tb]
  constructor
  · rintro ⟨i, h, e⟩
    by_cases z : R.testBit i = true
    · rw [if_pos z] at e
      exact ⟨i, h, z, e⟩
    · rw [if_neg z, Nat.zero_testBit] at e
      cases e
  · rintro ⟨i, h, z, e⟩
    exact ⟨i, h, by rw [if_pos z]; exact e⟩
theorem pop_two : ∀ R, R < 64 → ∀ a, a < 6 → ∀ b, b < 6 → (R.testBit a || R.testBit b) = true → pop (R ||| 2 ^ a ||| 2 ^ b) 8 ≤ pop R 8 + 1 := by decide +kernel
theorem or64 : ∀ R, R < 64 → ∀ a, a < 6 → R ||| 2 ^ a < 64 := by decide +kernel
theorem tb_pow (a i : Nat) : (2 ^ a).testBit i = decide (a = i) := Nat.testBit_two_pow
theorem tk_src {L way : Nat} (hL : L ≤ 6) : ∀ (n : Nat) (K K' : Nat → Nat), tkR L way n K = some K' → ∀ R, R < 64 → ∃ R', R' < 64 ∧ pop R' 8 ≤ pop R 8 + n ∧ (∀ i, R.testBit i = true → R'.testBit i = true) ∧ ∀ b, (uk K' R L).testBit b = true → (uk K R' L).testBit b = true
  | 0, K, K', h, R, hR => by
    cases h
    exact ⟨R, hR, by omega, fun _ h => h, fun _ h => h⟩
  | n + 1, K, K', h, R, hR => by
    unfold tkR at h
    split at h
    · next hab =>
      obtain ⟨a, ha⟩ : ∃ a, dgt way n / 6 = a := ⟨_, rfl⟩
      obtain ⟨c, hc⟩ : ∃ c, dgt way n % 6 = c := ⟨_, rfl⟩
      rw [ha, hc] at h hab
      obtain ⟨R1, h1, h2, h3, h4⟩ := tk_src hL n _ K' h R hR
      by_cases z : (R1.testBit a || R1.testBit c) = true
      · refine ⟨R1 ||| 2 ^ a ||| 2 ^ c, or64 _ (or64 _ h1 a (by omega)) c (by omega), ?_, fun i hi => ?_, fun b hb => ?_⟩
        · have := pop_two R1 h1 a (by omega) c (by omega) z
          omega
        · rw [Nat.testBit_or, Nat.testBit_or, h3 i hi]
          rfl
        · obtain ⟨l, hl, e1, e2⟩ := (uk_tb _ _ _ _).mp (h4 b hb)
          refine (uk_tb _ _ _ _).mpr ?_
          unfold tlkK at e2
          split at e2
          · rw [Nat.testBit_or, Bool.or_eq_true] at e2
            rcases e2 with e2 | e2
            · refine ⟨a, by omega, ?_, e2⟩
              rw [Nat.testBit_or, Nat.testBit_or, tb_pow, decide_eq_true rfl, Bool.or_true, Bool.true_or]
            · refine ⟨c, by omega, ?_, e2⟩
              rw [Nat.testBit_or, tb_pow, decide_eq_true rfl, Bool.or_true]
          · refine ⟨l, hl, ?_, e2⟩
            rw [Nat.testBit_or, Nat.testBit_or, e1]
            rfl
      · refine ⟨R1, h1, by omega, h3, fun b hb => ?_⟩
        obtain ⟨l, hl, e1, e2⟩ := (uk_tb _ _ _ _).mp (h4 b hb)
        refine (uk_tb _ _ _ _).mpr ⟨l, hl, e1, ?_⟩
        unfold tlkK at e2
        rw [if_neg ?_] at e2
        · exact e2
        · intro w
          apply z
          rcases w with w | w
          · rw [← w, e1]
            rfl
          · rw [← w, e1, Bool.or_true]
    · cases h
theorem apU_min {p : Nat → Bool} : ∀ {n s : Nat}, s < n → p s = true → ∃ b, apU p n = some b ∧ pop b 8 ≤ pop s 8
  | 0, s, h, _ => by omega
  | n + 1, s, h, hp => by
    by_cases z : s = n
    · subst z
      show ∃ b, (match apU p s with | none => if p s then some s else none | some b => if p s && decide (pop s 8 < pop b 8) then some s else some b) = some b ∧ _
      cases e : apU p s with
      | none =>
        dsimp only
        rw [hp]
        exact ⟨s, rfl, Nat.le_refl _⟩
      | some b =>
        dsimp only
        rw [hp, Bool.true_and]
        by_cases w : pop s 8 < pop b 8
        · rw [decide_eq_true w]
          exact ⟨s, rfl, Nat.le_refl _⟩
        · rw [decide_eq_false w]
          exact ⟨b, rfl, by omega⟩
    · obtain ⟨b, e, hb⟩ := apU_min (p := p) (n := n) (s := s) (by omega) hp
      show ∃ b, (match apU p n with | none => if p n then some n else none | some b => if p n && decide (pop n 8 < pop b 8) then some n else some b) = some b ∧ _
      rw [e]
      dsimp only
      by_cases w : (p n && decide (pop n 8 < pop b 8)) = true
      · rw [if_pos w]
        rw [Bool.and_eq_true] at w
        have := of_decide_eq_true w.2
        exact ⟨n, rfl, by omega⟩
      · rw [if_neg w]
        exact ⟨b, rfl, hb⟩
theorem apU_sat {p : Nat → Bool} : ∀ {n b : Nat}, apU p n = some b → p b = true
  | 0, b, h => by cases h
  | n + 1, b, h => by
    have h : (match apU p n with | none => if p n then some n else none | some b => if p n && decide (pop n 8 < pop b 8) then some n else some b) = some b := h
    cases e : apU p n with
    | none =>
      rw [e] at h
      dsimp only at h
      split at h
      · next z =>
        cases h
        exact z
      · cases h
    | some b' =>
      rw [e] at h
      dsimp only at h
      split at h
      · next z =>
        cases h
        rw [Bool.and_eq_true] at z
        exact z.1
      · cases h
        exact apU_sat e
theorem sub0 {a b : Nat} : ndn a b = 0 ↔ ∀ i, a.testBit i = true → b.testBit i = true := by
  constructor
  · intro h i hi
    have := ndn_tb a b i
    rw [h, Nat.zero_testBit, hi, Bool.true_and] at this
    revert this
    cases b.testBit i <;> simp
  · intro h
    apply Nat.eq_of_testBit_eq
    intro i
    rw [ndn_tb, Nat.zero_testBit]
    cases e : a.testBit i
    · rfl
    · rw [h i e]
      rfl
theorem drop1 : ∀ R, R < 64 → ∀ o, o < 6 → R.testBit o = true → pop (ndn R (2 ^ o)) 8 + 1 = pop R 8 := by decide +kernel
theorem pop1 : ∀ o, o < 6 → pop (2 ^ o) 8 = 1 ∧ 2 ^ o < 64 := by decide +kernel
/-- talks that do are no fewer than others who do -/
theorem talk_ge {T : AT} {N : AN} {o n way : Nat} (hT : wfT T) (ho : o < nL9 T) (h : doF (ne9 T o) (nL9 T) o way n (kn N) = true) : ∃ b, ciV T N o = some b ∧ pop b 8 ≤ n := by
  have h6 := hT.2.1
  unfold doF at h
  cases e : tkR (nL9 T) way n (kn N) with
  | none =>
    rw [e] at h
    cases h
  | some K' =>
    rw [e] at h
    have h0 : ndn (ne9 T o) (K' o) = 0 := of_decide_eq_true h
    obtain ⟨p1, p2⟩ := pop1 o (by omega)
    obtain ⟨R, r1, r2, r3, r4⟩ := tk_src h6 n (kn N) K' e (2 ^ o) p2
    have ro : R.testBit o = true := r3 o (by rw [tb_pow, decide_eq_true rfl])
    have hd := drop1 R r1 o (by omega) ro
    -- those among the listeners alone
    have hin : ∃ s, s < 2 ^ nL9 T ∧ pop s 8 ≤ n ∧ cirB T N o s = true := by
      refine ⟨bitsU (fun i => (ndn R (2 ^ o)).testBit i) (nL9 T), bitsU_lt _ _, ?_, ?_⟩
      · have : pop (bitsU (fun i => (ndn R (2 ^ o)).testBit i) (nL9 T)) 8 ≤ pop (ndn R (2 ^ o)) 8 := by
          have e2 : bitsU (fun i => (ndn R (2 ^ o)).testBit i) (nL9 T) = ndn R (2 ^ o) &&& bitsU (fun i => (ndn R (2 ^ o)).testBit i) (nL9 T) := by
            apply Nat.eq_of_testBit_eq
            intro i
            rw [Nat.testBit_and, bitsU_tb]
            cases (ndn R (2 ^ o)).testBit i
            · rw [Bool.and_false, Bool.false_and]
            · rw [Bool.and_true, Bool.true_and]
          rw [e2]
          exact pop_and _ _ 8
        omega
      · unfold cirB togB
        have b0 : (bitsU (fun i => (ndn R (2 ^ o)).testBit i) (nL9 T)).testBit o = false := by
          rw [bitsU_tb, ndn_tb, tb_pow, decide_eq_true (rfl : o = o), Bool.not_true, Bool.and_false, Bool.and_false]
        rw [b0, Bool.not_false, Bool.true_and]
        refine decide_eq_true (sub0.mpr (fun i hi => ?_))
        have k1 := sub0.mp h0 i hi
        have k2 : (uk K' (2 ^ o) (nL9 T)).testBit i = true := (uk_tb _ _ _ _).mpr ⟨o, ho, by rw [tb_pow, decide_eq_true rfl], k1⟩
        obtain ⟨l, hl, e1, e2⟩ := (uk_tb _ _ _ _).mp (r4 i k2)
        rw [Nat.testBit_or, Bool.or_eq_true]
        by_cases z : l = o
        · subst z
          exact Or.inl e2
        · refine Or.inr ((uk_tb _ _ _ _).mpr ⟨l, hl, ?_, e2⟩)
          rw [bitsU_tb, decide_eq_true hl, ndn_tb, e1, tb_pow, decide_eq_false (fun w => z w.symm)]
          rfl
    obtain ⟨s, s1, s2, s3⟩ := hin
    obtain ⟨b, e1, e2⟩ := apU_min s1 s3
    exact ⟨b, e1, by omega⟩
/-- one who talks to all of a set -/
theorem ndn_lt2 {s l : Nat} (hs : s < 64) : ndn s (2 ^ l) < 64 := ndn_lt (n := 6) hs
theorem pick : ∀ s, s < 64 → 0 < pop s 8 → ∃ l, l < 6 ∧ s.testBit l = true := by decide +kernel
theorem talk_all {L o : Nat} (hL : L ≤ 6) (ho : o < L) : ∀ (m s : Nat) (K : Nat → Nat), s < 64 → (∀ l, s.testBit l = true → l < L) → s.testBit o = false → pop s 8 = m → ∃ way K', way < 36 ^ m ∧ tkR L way m K = some K' ∧ ∀ b, ((K o).testBit b = true ∨ (uk K s L).testBit b = true) → (K' o).testBit b = true
  | 0, s, K, hs, hl, h0, hp => by
    refine ⟨0, K, by decide, rfl, fun b hb => ?_⟩
    rcases hb with hb | hb
    · exact hb
    · obtain ⟨l, h1, e1, _⟩ := (uk_tb _ _ _ _).mp hb
      have z : ∀ s, s < 64 → pop s 8 = 0 → s = 0 := by decide +kernel
      rw [z s hs hp, Nat.zero_testBit] at e1
      cases e1
  | m + 1, s, K, hs, hl, h0, hp => by
    obtain ⟨l, l6, hsl⟩ := pick s hs (by omega)
    have hlL := hl l hsl
    have hlo : l ≠ o := fun z => by rw [z, h0] at hsl; cases hsl
    have hd := drop1 s hs l l6 hsl
    obtain ⟨a, c, hab, hac, hcL⟩ : ∃ a c, (a = l ∧ c = o ∨ a = o ∧ c = l) ∧ a < c ∧ c < L := by
      by_cases z : l < o
      · exact ⟨l, o, Or.inl ⟨rfl, rfl⟩, z, ho⟩
      · exact ⟨o, l, Or.inr ⟨rfl, rfl⟩, by omega, hlL⟩
    obtain ⟨way, K', w1, w2, w3⟩ := talk_all hL ho m (ndn s (2 ^ l)) (tlkK K a c) (ndn_lt2 hs) (fun i hi => hl i (by rw [ndn_tb, Bool.and_eq_true] at hi; exact hi.1)) (by rw [ndn_tb, h0, Bool.false_and]) (by omega)
    have dg : dgt ((6 * a + c) * 36 ^ m + way) m = 6 * a + c := by
      unfold dgt
      rw [Nat.mul_comm, Nat.mul_add_div (Nat.pow_pos (by decide)), Nat.div_eq_of_lt w1, Nat.add_zero, Nat.mod_eq_of_lt (by omega)]
    refine ⟨(6 * a + c) * 36 ^ m + way, K', ?_, ?_, fun b hb => w3 b ?_⟩
    · rw [Nat.pow_succ]
      have : (6 * a + c + 1) * 36 ^ m ≤ 36 * 36 ^ m := Nat.mul_le_mul_right _ (by omega)
      rw [Nat.add_mul, Nat.one_mul] at this
      rw [Nat.mul_comm (36 ^ m) 36]
      omega
    · unfold tkR
      rw [dg, show (6 * a + c) / 6 = a from by omega, show (6 * a + c) % 6 = c from by omega, if_pos ⟨hac, hcL⟩]
      have := tkR_add L (6 * a + c) way m 0 (tlkK K a c)
      rw [Nat.add_zero] at this
      rw [this]
      exact w2
    · have ko : ∀ b, ((K o).testBit b = true ∨ (K l).testBit b = true) → (tlkK K a c o).testBit b = true := fun b hb => by
        unfold tlkK
        rw [if_pos (by omega), Nat.testBit_or, Bool.or_eq_true]
        rcases hab with ⟨rfl, rfl⟩ | ⟨rfl, rfl⟩
        · exact hb.symm
        · exact hb
      rcases hb with hb | hb
      · exact Or.inl (ko b (Or.inl hb))
      · obtain ⟨i, hi, e1, e2⟩ := (uk_tb _ _ _ _).mp hb
        by_cases z : i = l
        · rw [z] at e2
          exact Or.inl (ko b (Or.inr e2))
        · refine Or.inr ((uk_tb _ _ _ _).mpr ⟨i, hi, ?_, ?_⟩)
          · rw [ndn_tb, e1, tb_pow, decide_eq_false (fun w => z w.symm)]
            rfl
          · have hio : i ≠ o := fun w => by rw [w, h0] at e1; cases e1
            unfold tlkK
            rw [if_neg (by omega)]
            exact e2
theorem talk_le {T : AT} {N : AN} {o b : Nat} (hT : wfT T) (ho : o < nL9 T) (h : ciV T N o = some b) : ∃ way, way < 36 ^ pop b 8 ∧ doF (ne9 T o) (nL9 T) o way (pop b 8) (kn N) = true := by
  have h6 := hT.2.1
  have hb := apU_lt _ _ b h
  have hs := apU_sat h
  have h64 := pw6 h6
  unfold cirB togB at hs
  rw [Bool.and_eq_true] at hs
  have b0 : b.testBit o = false := by
    have := hs.1
    revert this
    cases b.testBit o <;> simp
  obtain ⟨way, K', w1, w2, w3⟩ := talk_all h6 ho (pop b 8) b (kn N) (by omega) (fun l hl => Nat.lt_of_not_le (fun z => by
    rw [Nat.testBit_lt_two_pow (Nat.lt_of_lt_of_le hb (Nat.pow_le_pow_right (by decide) z))] at hl
    cases hl)) b0 rfl
  refine ⟨way, w1, ?_⟩
  unfold doF
  rw [w2]
  refine decide_eq_true (sub0.mpr (fun i hi => w3 i ?_))
  have := sub0.mp (of_decide_eq_true hs.2) i hi
  rw [Nat.testBit_or, Bool.or_eq_true] at this
  exact this
/-- what both answer -/
def tlV (a : Option Nat) : Int32 := match a with
  | none => -2
  | some b => if pop b 8 ≤ 3 then nI (pop b 8) else -2
theorem lgF_no {p : Nat → Bool} : ∀ {f i : Nat}, (∀ j, i ≤ j → j < i + f → p j = false) → lgF p f i = -2
  | 0, _, _ => rfl
  | f + 1, i, h => by
    unfold lgF
    rw [h i (Nat.le_refl _) (by omega), if_neg (by decide)]
    exact lgF_no (fun j h1 h2 => h j (by omega) (by omega))
theorem lgF_yes {p : Nat → Bool} {m : Nat} (hm : p m = true) : ∀ {f i : Nat}, i ≤ m → m < i + f → (∀ j, i ≤ j → j < m → p j = false) → lgF p f i = nI m
  | 0, i, h1, h2, _ => by omega
  | f + 1, i, h1, h2, h => by
    unfold lgF
    by_cases z : i = m
    · rw [z, hm, if_pos rfl]
    · rw [h i (Nat.le_refl _) (by omega), if_neg (by decide)]
      exact lgF_yes hm (by omega) (by omega) (fun j h1 h2 => h j (by omega) h2)
theorem tl_eq {T : AT} {N : AN} {o : Nat} (hT : wfT T) (ho : o < nL9 T) {ex : Nat → Bool} (hex : ∀ n, n < 4 → (ex n = true ↔ ∃ way, way < 36 ^ n ∧ doF (ne9 T o) (nL9 T) o way n (kn N) = true)) : lgF ex 4 0 = tlV (ciV T N o) := by
  unfold tlV
  have ge : ∀ n, n < 4 → ex n = true → ∃ b, ciV T N o = some b ∧ pop b 8 ≤ n := fun n hn e => by
    obtain ⟨way, _, h⟩ := (hex n hn).mp e
    exact talk_ge hT ho h
  cases e : ciV T N o with
  | none =>
    refine lgF_no (fun j _ h2 => ?_)
    rw [← Bool.not_eq_true]
    intro z
    obtain ⟨b, e2, _⟩ := ge j (by omega) z
    rw [e] at e2
    cases e2
  | some b =>
    dsimp only
    by_cases z : pop b 8 ≤ 3
    · rw [if_pos z]
      refine lgF_yes ((hex _ (by omega)).mpr (talk_le hT ho e)) (by omega) (by omega) (fun j _ h2 => ?_)
      rw [← Bool.not_eq_true]
      intro w
      obtain ⟨b', e2, h3⟩ := ge j (by omega) w
      rw [e] at e2
      cases e2
      omega
    · rw [if_neg z]
      refine lgF_no (fun j _ h2 => ?_)
      rw [← Bool.not_eq_true]
      intro w
      obtain ⟨b', e2, h3⟩ := ge j (by omega) w
      rw [e] at e2
      cases e2
      omega
