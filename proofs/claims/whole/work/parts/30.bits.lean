/-! BITS: sets of up to 8 things as numbers below 256 (fa_and, fa_or, fa_xor began as rows of the kit's laws) -/
theorem fa_and (a b : Nat) : nI a &&& nI b = nI (a &&& b) := by
  apply Int32.toBitVec_inj.1
  show BitVec.ofNat 32 a &&& BitVec.ofNat 32 b = BitVec.ofNat 32 (a &&& b)
  apply BitVec.eq_of_getLsbD_eq
  intro i hi
  simp [hi]
theorem fa_or (a b : Nat) : nI a ||| nI b = nI (a ||| b) := by
  apply Int32.toBitVec_inj.1
  show BitVec.ofNat 32 a ||| BitVec.ofNat 32 b = BitVec.ofNat 32 (a ||| b)
  apply BitVec.eq_of_getLsbD_eq
  intro i hi
  simp [hi]
theorem fa_xor (a b : Nat) : nI a ^^^ nI b = nI (a ^^^ b) := by
  apply Int32.toBitVec_inj.1
  show BitVec.ofNat 32 a ^^^ BitVec.ofNat 32 b = BitVec.ofNat 32 (a ^^^ b)
  apply BitVec.eq_of_getLsbD_eq
  intro i hi
  simp [hi]
theorem shl1 : ∀ f, f < 8 → (1 : Int32) <<< (nI f &&& 31) = nI (2 ^ f) := by decide +kernel
theorem tbC : ∀ j, j < 256 → ∀ i, i < 8 → ((ush (nI j) (nI i) &&& 1 = 0) ↔ j.testBit i = false) := by decide +kernel
theorem tbM : ∀ j, j < 256 → ∀ i, i < 8 → (((nI j >>> (nI i &&& 31)) &&& 1 = 0) ↔ j.testBit i = false) := by decide +kernel
theorem tbM1 : ∀ j, j < 256 → ∀ i, i < 8 → (((nI j >>> (nI i &&& 31)) &&& 1 = 1) ↔ j.testBit i = true) := by decide +kernel
theorem tbM2 : ∀ j, j < 256 → ∀ i, i < 8 → ((nI j >>> (nI i &&& 31)) &&& 1 = if j.testBit i then 1 else 0) := by decide +kernel
/-- how many -/
def pop (j : Nat) : Nat → Nat
  | 0 => 0
  | n + 1 => pop j n + (if j.testBit n then 1 else 0)
def bc (x : Int32) : Int32 :=
  let x1 := x - (ush x 1 &&& 1431655765)
  let x2 := (x1 &&& 858993459) + (ush x1 2 &&& 858993459)
  let x3 := (x2 + ush x2 4) &&& 252645135
  let x4 := x3 + ush x3 8
  let x5 := x4 + ush x4 16
  x5 &&& 63
theorem bc_pop : ∀ j, j < 256 → bc (nI j) = nI (pop j 8) := by decide +kernel
theorem bitC {fu j : Nat} {h : mh} (hj : j < 256) : fJ6_bitCount_0f7a4 fu (nI j) h = some (nI (pop j 8), h) := by
  rw [← bc_pop j hj]
  rfl
theorem bitM {fu j : Nat} {h : mh} (hfu : 100 ≤ fu) (hj : j < 256) : fX10_bits fu (nI j) h = some (nI (pop j 8), h) := by
  unfold fX10_bits
  refine itr_up (I := fun i s => s = (nI (pop j i), nI i, h)) (P := fun R => R = some (nI (pop j 8), h)) (n := 8) ?_ ?_ fu 0 _ (by omega) (by omega) rfl
  · intro i s k hi hI hk
    subst hI
    unfold bX10_bits_4
    dsimp only
    rw [if_neg (show ¬ (8 : Int32) ≤ nI i from nI_ge (b := 8) hi (by omega))]
    dsimp only [lt]
    refine hk _ ?_
    have e : nI (pop j i) + (if j.testBit i then 1 else 0 : Int32) = nI (pop j (i + 1)) := by
      show _ = nI (pop j i + (if j.testBit i then 1 else 0))
      cases j.testBit i
      · exact Int32.add_zero _
      · exact nI_1 _
    rw [tbM2 j hj i hi, nI_1, e]
  · intro s k hI
    subst hI
    unfold bX10_bits_4
    dsimp only
    rw [if_pos (by decide)]
    rfl
theorem holdsC {fu j i : Nat} {h : mh} (hj : j < 256) (hi : i < 8) : fX9_holds fu (nI j) (nI i) h = some ((if j.testBit i then 1 else 0), h) := by
  unfold fX9_holds
  cases hb : j.testBit i
  · rw [if_pos ((tbC j hj i hi).mpr hb)]
    rfl
  · rw [if_neg (fun q => by rw [(tbC j hj i hi).mp q] at hb; cases hb)]
    rfl
/-- a set with one more in it -/
theorem or_bit {m f : Nat} (hf : f < 8) : nI m ||| ((1 : Int32) <<< (nI f &&& 31)) = nI (m ||| 2 ^ f) := by rw [shl1 f hf, fa_or]
theorem or_lt {a b : Nat} (ha : a < 256) (hb : b < 256) : a ||| b < 256 := Nat.or_lt_two_pow (n := 8) ha hb
