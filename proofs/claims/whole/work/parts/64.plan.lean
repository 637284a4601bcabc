/-! PLANS, apart from cells -/
/-- what is lacked by some -/
def lkV (T : AT) (N : AN) (W : Nat) : Nat := orU (fun l => if W.testBit l then lack T N l else 0) (nL9 T)
def enB (T : AT) (W : Nat) (N : AN) : Bool := decide (lkV T N W = 0)
def scan (g : Nat → Option (List Nat)) : Nat → Nat → Option (List Nat)
  | 0, _ => none
  | f + 1, r => match g r with
    | some ps => some (r :: ps)
    | none => scan g f (r + 1)
/-- the first row of roles that does -/
def rch (T : AT) (W : Nat) : Nat → AN → Option (List Nat)
  | 0, N => if enB T W N then some [] else none
  | m + 1, N => scan (fun r => if qu N r = 0 then rch T W m (pass T N (some r) false) else none) (nR T) 0
def fsM (T : AT) (W : Nat) (N : AN) : Nat → Nat → Option (Nat × List Nat)
  | 0, _ => none
  | f + 1, m => match rch T W m N with
    | some ps => some (m, ps)
    | none => fsM T W N f (m + 1)
theorem scan_none {g : Nat → Option (List Nat)} : ∀ {f j : Nat}, scan g f j = none → ∀ r, j ≤ r → r < j + f → g r = none
  | 0, j, _, r, h1, h2 => by omega
  | f + 1, j, h, r, h1, h2 => by
    unfold scan at h
    cases e : g j with
    | some ps =>
      rw [e] at h
      cases h
    | none =>
      rw [e] at h
      by_cases z : r = j
      · rw [z]
        exact e
      · exact scan_none h r (by omega) (by omega)
theorem scan_some {g : Nat → Option (List Nat)} : ∀ {f j : Nat} {qs : List Nat}, scan g f j = some qs → ∃ r ps, qs = r :: ps ∧ j ≤ r ∧ r < j + f ∧ g r = some ps ∧ ∀ r', j ≤ r' → r' < r → g r' = none
  | 0, j, qs, h => by cases h
  | f + 1, j, qs, h => by
    unfold scan at h
    cases e : g j with
    | some ps =>
      rw [e] at h
      cases h
      exact ⟨j, ps, rfl, Nat.le_refl _, by omega, e, fun r' h1 h2 => by omega⟩
    | none =>
      rw [e] at h
      obtain ⟨r, ps, h1, h2, h3, h4, h5⟩ := scan_some (f := f) (j := j + 1) h
      refine ⟨r, ps, h1, by omega, by omega, h4, fun r' q1 q2 => ?_⟩
      by_cases z : r' = j
      · rw [z]
        exact e
      · exact h5 r' (by omega) q2
theorem rch_len {T : AT} {W : Nat} : ∀ {m : Nat} {N : AN} {ps : List Nat}, rch T W m N = some ps → ps.length = m ∧ ∀ r ∈ ps, r < nR T
  | 0, N, ps, h => by
    unfold rch at h
    split at h
    · cases h
      exact ⟨rfl, fun r hr => by cases hr⟩
    · cases h
  | m + 1, N, ps, h => by
    unfold rch at h
    obtain ⟨r, qs, h1, h2, h3, h4, h5⟩ := scan_some h
    split at h4
    · obtain ⟨i1, i2⟩ := rch_len h4
      subst h1
      refine ⟨by rw [List.length_cons, i1], fun r' hr => ?_⟩
      rcases List.mem_cons.mp hr with rfl | hr
      · omega
      · exact i2 r' hr
    · cases h4
/-! what an evening can bring -/
theorem hearU_kn (T : AT) (N : AN) (r s i : Nat) : ∀ o, kn (hearU T N r s o) i = if i < o ∧ onB N i = true then (if trustB T N i r s then kn N i ||| s else kn N i) else kn N i
  | 0 => by
    rw [if_neg (by omega)]
    rfl
  | o + 1 => by
    have ih := hearU_kn T N r s i o
    unfold hearU
    split
    · next z =>
      show (if i = o then (if trustB T N o r s then kn N o ||| s else kn N o) else kn (hearU T N r s o) i) = _
      by_cases e : i = o
      · subst e
        rw [if_pos rfl, if_pos (show i < i + 1 ∧ onB N i = true from ⟨by omega, z⟩)]
      · rw [if_neg e, ih]
        by_cases w : i < o ∧ onB N i = true
        · rw [if_pos w, if_pos (show i < o + 1 ∧ onB N i = true from ⟨by omega, w.2⟩)]
        · rw [if_neg w, if_neg (fun v => w ⟨by omega, v.2⟩)]
    · next z =>
      rw [ih]
      by_cases w : i < o ∧ onB N i = true
      · rw [if_pos w, if_pos (show i < o + 1 ∧ onB N i = true from ⟨by omega, w.2⟩)]
      · rw [if_neg w, if_neg (fun v => ?_)]
        by_cases e : i = o
        · subst e
          exact z v.2
        · exact w ⟨by omega, v.2⟩
theorem rung_kn (T : AT) (M : AN) (r : Nat) (b : Bool) : kn (rungQ T M r b) = kn M ∧ on9 (rungQ T M r b) = on9 M := by
  unfold rungQ
  split <;> exact ⟨rfl, rfl⟩
theorem pass_kn (T : AT) (N : AN) (r i : Nat) : kn (pass T N (some r) false) i = if i < nL9 T ∧ onB N i = true then (if trustB T N i r (said T N r) then kn N i ||| said T N r else kn N i) else kn N i := by
  rw [← hearU_kn]
  show kn (endE (rungQ T (decQ (hearN T N r)) r (ringN T N r))) i = _
  show kn (rungQ T (decQ (hearN T N r)) r (ringN T N r)) i = _
  rw [(rung_kn T _ r _).1]
  rfl
theorem pass_on (T : AT) (N : AN) (r : Nat) : on9 (pass T N (some r) false) = on9 N := by
  show on9 (rungQ T (decQ (hearN T N r)) r (ringN T N r)) = _
  rw [(rung_kn T _ r _).2]
  exact (hearU_same T N r (said T N r) (nL9 T)).2.2.1
theorem saidU_kw (T : AT) (N : AN) (r b : Nat) : ∀ f, (saidU T N r f).testBit b = true → (kw T r).testBit b = true
  | 0, h => by
    rw [show saidU T N r 0 = 0 from rfl, Nat.zero_testBit] at h
    cases h
  | f + 1, h => by
    unfold saidU at h
    split at h
    · next z =>
      rw [Nat.testBit_or, Bool.or_eq_true] at h
      rcases h with h | h
      · exact saidU_kw T N r b f h
      · rw [tb_pow] at h
        have e := of_decide_eq_true h
        subst e
        unfold sayB at z
        rw [Bool.and_eq_true] at z
        exact z.1
    · exact saidU_kw T N r b f h
theorem pass_sub {T : AT} {N : AN} {r i b : Nat} (h : (kn (pass T N (some r) false) i).testBit b = true) : (kn N i).testBit b = true ∨ (onB N i = true ∧ (kw T r).testBit b = true) := by
  rw [pass_kn] at h
  split at h
  · next z =>
    split at h
    · rw [Nat.testBit_or, Bool.or_eq_true] at h
      rcases h with h | h
      · exact Or.inl h
      · exact Or.inr ⟨z.2, saidU_kw T N r b 8 h⟩
    · exact Or.inl h
  · exact Or.inl h
theorem lack_tb (T : AT) (N : AN) (l b : Nat) : (lack T N l).testBit b = ((ne9 T l).testBit b && !(kn N l).testBit b) := ndn_tb _ _ _
theorem lkV_tb (T : AT) (N : AN) (W b : Nat) : (lkV T N W).testBit b = true ↔ ∃ l, l < nL9 T ∧ W.testBit l = true ∧ (lack T N l).testBit b = true := uk_tb (lack T N) W (nL9 T) b
theorem en_false {T : AT} {N : AN} {W b : Nat} (h : (lkV T N W).testBit b = true) : enB T W N = false := by
  unfold enB
  refine decide_eq_false (fun z => ?_)
  rw [z, Nat.zero_testBit] at h
  cases h
/-- the last role must know all that is lacked -/
theorem last_no {T : AT} {N : AN} {W r : Nat} (h : ¬ ndn (lkV T N W) (kw T r) = 0) : rch T W 0 (pass T N (some r) false) = none := by
  obtain ⟨b, hb⟩ := Nat.exists_testBit_of_ne_zero h
  rw [ndn_tb, Bool.and_eq_true] at hb
  obtain ⟨l, hl, hW, hlk⟩ := (lkV_tb _ _ _ _).mp hb.1
  rw [lack_tb, Bool.and_eq_true] at hlk
  have : enB T W (pass T N (some r) false) = false := by
    refine en_false (b := b) ((lkV_tb _ _ _ _).mpr ⟨l, hl, hW, ?_⟩)
    rw [lack_tb, hlk.1, Bool.true_and]
    cases e : (kn (pass T N (some r) false) l).testBit b
    · rfl
    · rcases pass_sub e with q | q
      · have := hlk.2
        rw [q] at this
        cases this
      · have := hb.2
        rw [q.2] at this
        cases this
  unfold rch
  rw [this]
  rfl
/-- who lacks what no evening can bring -/
def hopB (T : AT) (N : AN) (l : Nat) : Bool := decide (¬ ndn (lack T N l) (if onB N l then orU (kw T) (nR T) else 0) = 0)
theorem hop_stays {T : AT} {N : AN} {l r : Nat} (hr : r < nR T) (h : hopB T N l = true) : hopB T (pass T N (some r) false) l = true := by
  unfold hopB at h ⊢
  have h := of_decide_eq_true h
  obtain ⟨b, hb⟩ := Nat.exists_testBit_of_ne_zero h
  rw [ndn_tb, Bool.and_eq_true, lack_tb, Bool.and_eq_true] at hb
  have eo : onB (pass T N (some r) false) l = onB N l := by
    unfold onB
    rw [pass_on]
  refine decide_eq_true (fun z => ?_)
  have : (ndn (lack T (pass T N (some r) false) l) (if onB (pass T N (some r) false) l then orU (kw T) (nR T) else 0)).testBit b = true := by
    rw [ndn_tb, lack_tb, eo, hb.1.1, hb.2, Bool.true_and, Bool.and_true]
    cases e : (kn (pass T N (some r) false) l).testBit b
    · rfl
    · rcases pass_sub e with q | q
      · have := hb.1.2
        rw [q] at this
        cases this
      · have := hb.2
        rw [q.1, if_pos rfl, (orU_tb b).mpr ⟨r, hr, q.2⟩] at this
        cases this
  rw [z, Nat.zero_testBit] at this
  cases this
theorem hop_none {T : AT} {W l : Nat} (hl : l < nL9 T) (hW : W.testBit l = true) : ∀ (m : Nat) (N : AN), hopB T N l = true → rch T W m N = none
  | 0, N, h => by
    unfold hopB at h
    have h := of_decide_eq_true h
    obtain ⟨b, hb⟩ := Nat.exists_testBit_of_ne_zero h
    rw [ndn_tb, Bool.and_eq_true] at hb
    unfold rch
    rw [en_false ((lkV_tb _ _ _ _).mpr ⟨l, hl, hW, hb.1⟩)]
    rfl
  | m + 1, N, h => by
    unfold rch
    cases e : scan (fun r => if qu N r = 0 then rch T W m (pass T N (some r) false) else none) (nR T) 0 with
    | none => rfl
    | some qs =>
      obtain ⟨r, ps, h1, h2, h3, h4, h5⟩ := scan_some e
      split at h4
      · rw [hop_none hl hW m _ (hop_stays (by omega) h)] at h4
        cases h4
      · cases h4
theorem fsM_hop {T : AT} {W l : Nat} {N : AN} (hl : l < nL9 T) (hW : W.testBit l = true) (h : hopB T N l = true) : ∀ f m, fsM T W N f m = none
  | 0, _ => rfl
  | f + 1, m => by
    unfold fsM
    rw [hop_none hl hW m N h]
    exact fsM_hop hl hW h f (m + 1)
/-! ways: so many to the digit, the first the highest -/
def wyR (T : AT) (way : Nat) : Nat → AN → Option AN
  | 0, N => some N
  | k + 1, N => if qu N (way / nR T ^ k % nR T) = 0 then wyR T way k (pass T N (some (way / nR T ^ k % nR T)) false) else none
def dwB (T : AT) (W way k : Nat) (N : AN) : Bool := match wyR T way k N with
  | none => false
  | some N' => enB T W N'
theorem dg_add {R : Nat} (hR : 0 < R) (x y j i : Nat) : (x * R ^ (j + 1 + i) + y) / R ^ j % R = y / R ^ j % R := by
  have e : x * R ^ (j + 1 + i) = R ^ j * (R * (x * R ^ i)) := by
    rw [Nat.pow_add, Nat.pow_succ]
    simp only [Nat.mul_comm, Nat.mul_left_comm, Nat.mul_assoc]
  rw [e, Nat.mul_add_div (Nat.pow_pos hR), Nat.mul_add_mod]
theorem wyR_add {T : AT} (hR : 0 < nR T) (x y : Nat) : ∀ (k i : Nat) (N : AN), wyR T (x * nR T ^ (k + i) + y) k N = wyR T y k N
  | 0, _, _ => rfl
  | k + 1, i, N => by
    unfold wyR
    rw [dg_add hR x y k i]
    split
    · rw [show k + 1 + i = k + (1 + i) from by omega]
      exact wyR_add hR x y k (1 + i) _
    · rfl
theorem dwB_s {T : AT} {W a w k : Nat} {N : AN} (ha : a < nR T) (hw : w < nR T ^ k) : dwB T W (a * nR T ^ k + w) (k + 1) N = if qu N a = 0 then dwB T W w k (pass T N (some a) false) else false := by
  have hR : 0 < nR T := by omega
  have dg : (a * nR T ^ k + w) / nR T ^ k % nR T = a := by
    rw [Nat.mul_comm, Nat.mul_add_div (Nat.pow_pos hR), Nat.div_eq_of_lt hw, Nat.add_zero, Nat.mod_eq_of_lt ha]
  unfold dwB
  rw [show wyR T (a * nR T ^ k + w) (k + 1) N = if qu N ((a * nR T ^ k + w) / nR T ^ k % nR T) = 0 then wyR T (a * nR T ^ k + w) k (pass T N (some ((a * nR T ^ k + w) / nR T ^ k % nR T)) false) else none from rfl, dg]
  by_cases z : qu N a = 0
  · rw [if_pos z, if_pos z]
    have := wyR_add hR a w k 0 (pass T N (some a) false)
    rw [Nat.add_zero] at this
    rw [this]
  · rw [if_neg z, if_neg z]
/-- the first way is the first row -/
theorem way_rch {T : AT} {W : Nat} : ∀ (n : Nat) (N : AN), (rch T W n N = none → ∀ w, w < nR T ^ n → dwB T W w n N = false) ∧ (∀ ps, rch T W n N = some ps → ∃ w, w < nR T ^ n ∧ dwB T W w n N = true ∧ (∀ w', w' < w → dwB T W w' n N = false) ∧ ∀ i, i < n → w / nR T ^ (n - 1 - i) % nR T = ps.getD i 0)
  | 0, N => by
    have e : ∀ w, dwB T W w 0 N = enB T W N := fun _ => rfl
    refine ⟨fun h w hw => ?_, fun ps h => ?_⟩
    · rw [e]
      unfold rch at h
      cases z : enB T W N
      · rfl
      · rw [z] at h
        cases h
    · unfold rch at h
      refine ⟨0, (by rw [Nat.pow_zero]; decide), ?_, fun w' hw => by omega, fun i hi => by omega⟩
      rw [e]
      cases z : enB T W N
      · rw [z] at h
        cases h
      · rfl
  | n + 1, N => by
    have dm : ∀ w, w < nR T ^ (n + 1) → ∃ a v, w = a * nR T ^ n + v ∧ a < nR T ∧ v < nR T ^ n := fun w hw => by
      rw [Nat.pow_succ] at hw
      have hp : 0 < nR T ^ n := Nat.pos_of_ne_zero (fun z => by rw [z, Nat.zero_mul] at hw; omega)
      exact ⟨w / nR T ^ n, w % nR T ^ n, by rw [Nat.mul_comm]; exact (Nat.div_add_mod _ _).symm, Nat.div_lt_of_lt_mul hw, Nat.mod_lt _ hp⟩
    refine ⟨fun h w hw => ?_, fun qs h => ?_⟩
    · obtain ⟨a, v, rfl, ha, hv⟩ := dm w hw
      rw [dwB_s ha hv]
      have := scan_none (show scan _ _ 0 = none from h) a (by omega) (by omega)
      by_cases z : qu N a = 0
      · rw [if_pos z] at this ⊢
        exact (way_rch n _).1 this v hv
      · rw [if_neg z]
    · obtain ⟨r, ps, rfl, h2, h3, h4, h5⟩ := scan_some (show scan _ _ 0 = some qs from h)
      have hr : r < nR T := by omega
      have hR : 0 < nR T := by omega
      by_cases z : qu N r = 0
      · rw [if_pos z] at h4
        obtain ⟨w, w1, w2, w3, w4⟩ := (way_rch n _).2 ps h4
        refine ⟨r * nR T ^ n + w, ?_, ?_, fun w' hw' => ?_, fun i hi => ?_⟩
        · rw [Nat.pow_succ]
          have : (r + 1) * nR T ^ n ≤ nR T * nR T ^ n := Nat.mul_le_mul_right _ hr
          rw [Nat.add_mul, Nat.one_mul] at this
          rw [Nat.mul_comm (nR T ^ n) (nR T)]
          omega
        · rw [dwB_s hr w1, if_pos z]
          exact w2
        · have hlt : w' < nR T ^ (n + 1) := by
            rw [Nat.pow_succ]
            have : (r + 1) * nR T ^ n ≤ nR T * nR T ^ n := Nat.mul_le_mul_right _ hr
            rw [Nat.add_mul, Nat.one_mul] at this
            rw [Nat.mul_comm (nR T ^ n) (nR T)]
            omega
          obtain ⟨a, v, rfl, ha, hv⟩ := dm w' hlt
          rw [dwB_s ha hv]
          rcases Nat.lt_trichotomy a r with q | q | q
          · have := h5 a (by omega) q
            by_cases y : qu N a = 0
            · rw [if_pos y] at this ⊢
              exact (way_rch n _).1 this v hv
            · rw [if_neg y]
          · subst q
            rw [if_pos z]
            exact w3 v (by omega)
          · exfalso
            have : (r + 1) * nR T ^ n ≤ a * nR T ^ n := Nat.mul_le_mul_right _ q
            rw [Nat.add_mul, Nat.one_mul] at this
            omega
        · match i with
          | 0 =>
            show (r * nR T ^ n + w) / nR T ^ n % nR T = r
            rw [Nat.mul_comm, Nat.mul_add_div (Nat.pow_pos hR), Nat.div_eq_of_lt w1, Nat.add_zero, Nat.mod_eq_of_lt hr]
          | i + 1 =>
            show (r * nR T ^ n + w) / nR T ^ (n - (i + 1)) % nR T = ps.getD i 0
            rw [← w4 i (by omega), show n - 1 - i = n - (i + 1) from by omega]
            have := dg_add hR r w (n - (i + 1)) i
            rw [show n - (i + 1) + 1 + i = n from by omega] at this
            exact this
      · rw [if_neg z] at h4
        cases h4
/-- the answer -/
def plV (a : Option (Nat × List Nat)) (x : Int32) : Int32 := match a with
  | none => -2
  | some (m, ps) => if x = -1 then nI m else if nI m ≤ x then -1 else nI (ps.getD x.toNatClampNeg 0)
