section EVK
variable {β : Type} {lf : β → Option Value} {G : gx} {y : MethodName} {cc : ByteArray} {nL : Nat} {rt : Option FieldType} {d : Nat} {h0 : mh} {pc : Nat} {ls : List (Nat × Value)} {st : List Value} {h : mh}
theorem ev_ite {cond : Prop} [Decidable cond] {X Y : Option (β × mh)} (k1 : cond → Ev lf G y cc nL rt d h0 pc ls st h X) (k2 : ¬ cond → Ev lf G y cc nL rt d h0 pc ls st h Y) : Ev lf G y cc nL rt d h0 pc ls st h (if cond then X else Y) := by
  by_cases hc : cond
  · rw [if_pos hc]; exact k1 hc
  · rw [if_neg hc]; exact k2 hc
theorem ev_lk {dflt off : Int} {ps : Array (Int × Int)} {w tgt : Nat} {x : Int32} {Y : Option (β × mh)} (hd : decode cc pc = .ok (.lookupswitch dflt ps, w)) (hp : (ps.toList.zip (ps.toList.drop 1)).all (fun (a, next) => a.1 < next.1) = true) (ho : Op.lookupswitch.offset ps.toList dflt x.toInt = off) (ht : (pc : Int) + off = (tgt : Int)) (k : Ev lf G y cc nL rt d h0 tgt ls st h Y) : Ev lf G y cc nL rt d h0 pc ls (.int x :: st) h Y := by
  refine ev_step ?_ k
  intro p e R s m args below meth cd Q H locs cells slots lA hcx hS hl k
  exact lv_lookup hcx.1 hcx.2.1 hd hp ho ht (k _ hl)
theorem lk_2 {x : Int32} {a b c : Int} (h0 : ¬ x = 0) (h1 : ¬ x = 1) : Op.lookupswitch.offset #[((0 : Int), a), (1, b)].toList c x.toInt = c := by
  have e0 : ¬ x.toInt = 0 := fun h => h0 (Int32.toInt_inj.mp (by rw [h]; rfl))
  have e1 : ¬ x.toInt = 1 := fun h => h1 (Int32.toInt_inj.mp (by rw [h]; rfl))
  have f0 : ¬ (0 : Int) = x.toInt := fun h => e0 h.symm
  have f1 : ¬ (1 : Int) = x.toInt := fun h => e1 h.symm
  simp [Op.lookupswitch.offset, e0, e1, f0, f1]
def mx9 (x y : Int32) : Int32 := if x < y then y else x
def mn9 (x y : Int32) : Int32 := if y < x then y else x
theorem ev_mmax {idx : Nat} {x z : Int32} {Y : Option (β × mh)} (hw : Cond.methodLink y.cls idx Lib.Math.max.name ∈ gws ∧ Cond.static Lib.Math.max.name ∈ gws ∧ Cond.initialized "java/lang/Math" ∈ gws ∧ Cond.code Lib.Math.max.name Lib.Math.max.code 2 (some .int) ∈ gws) (hd1 : 1 ≤ d) (hst : (st.map fun v => v.category).sum ≤ 40) (hd : decode cc pc = .ok (.invokestatic idx, 3)) (k : Ev lf G y cc nL rt d h0 (pc + 3) ls (.int (mx9 x z) :: st) h Y) : Ev lf G y cc nL rt d h0 pc ls (.int z :: .int x :: st) h Y := by
  intro b h' hr
  obtain ⟨k1, k2, k3⟩ := k b h' hr
  refine ⟨k1, k2, fun p e R s m args below meth c Q hx hz hR1 hR2 ht H locs lA i1 i2 hrel hl => ?_⟩
  have hx' := hx
  obtain ⟨x1, x2, x3, x4, x5, x6, x7, x8, -⟩ := hx'
  exact va_mmax x1 x2 (x3.trans hl.1.symm) x4 (x5 _ hw.1) (x5 _ hw.2.1) (x5 _ hw.2.2.1) (x5 _ hw.2.2.2) (by omega) (by omega) (by omega) (by omega) hd (k3 p e R s m args below meth c Q hx hz hR1 hR2 ht H locs lA i1 i2 hrel hl)
theorem ev_mmin {idx : Nat} {x z : Int32} {Y : Option (β × mh)} (hw : Cond.methodLink y.cls idx Lib.Math.min.name ∈ gws ∧ Cond.static Lib.Math.min.name ∈ gws ∧ Cond.initialized "java/lang/Math" ∈ gws ∧ Cond.code Lib.Math.min.name Lib.Math.min.code 2 (some .int) ∈ gws) (hd1 : 1 ≤ d) (hst : (st.map fun v => v.category).sum ≤ 40) (hd : decode cc pc = .ok (.invokestatic idx, 3)) (k : Ev lf G y cc nL rt d h0 (pc + 3) ls (.int (mn9 x z) :: st) h Y) : Ev lf G y cc nL rt d h0 pc ls (.int z :: .int x :: st) h Y := by
  intro b h' hr
  obtain ⟨k1, k2, k3⟩ := k b h' hr
  refine ⟨k1, k2, fun p e R s m args below meth c Q hx hz hR1 hR2 ht H locs lA i1 i2 hrel hl => ?_⟩
  have hx' := hx
  obtain ⟨x1, x2, x3, x4, x5, x6, x7, x8, -⟩ := hx'
  exact va_mmin x1 x2 (x3.trans hl.1.symm) x4 (x5 _ hw.1) (x5 _ hw.2.1) (x5 _ hw.2.2.1) (x5 _ hw.2.2.2) (by omega) (by omega) (by omega) (by omega) hd (k3 p e R s m args below meth c Q hx hz hR1 hR2 ht H locs lA i1 i2 hrel hl)
end EVK
theorem mm_X9_306 : Cond.methodLink RX9 306 Lib.Math.max.name ∈ gws ∧ Cond.static Lib.Math.max.name ∈ gws ∧ Cond.initialized "java/lang/Math" ∈ gws ∧ Cond.code Lib.Math.max.name Lib.Math.max.code 2 (some .int) ∈ gws := ⟨wi 758 (by decide +kernel) rfl, wi 515 (by decide +kernel) rfl, wi 17 (by decide +kernel) rfl, wi 516 (by decide +kernel) rfl⟩
theorem mm_X9_311 : Cond.methodLink RX9 311 Lib.Math.min.name ∈ gws ∧ Cond.static Lib.Math.min.name ∈ gws ∧ Cond.initialized "java/lang/Math" ∈ gws ∧ Cond.code Lib.Math.min.name Lib.Math.min.code 2 (some .int) ∈ gws := ⟨wi 757 (by decide +kernel) rfl, wi 518 (by decide +kernel) rfl, wi 17 (by decide +kernel) rfl, wi 519 (by decide +kernel) rfl⟩
theorem mm_X0_96 : Cond.methodLink RX0 96 Lib.Math.max.name ∈ gws ∧ Cond.static Lib.Math.max.name ∈ gws ∧ Cond.initialized "java/lang/Math" ∈ gws ∧ Cond.code Lib.Math.max.name Lib.Math.max.code 2 (some .int) ∈ gws := ⟨wi 615 (by decide +kernel) rfl, wi 515 (by decide +kernel) rfl, wi 17 (by decide +kernel) rfl, wi 516 (by decide +kernel) rfl⟩
theorem mm_X0_104 : Cond.methodLink RX0 104 Lib.Math.min.name ∈ gws ∧ Cond.static Lib.Math.min.name ∈ gws ∧ Cond.initialized "java/lang/Math" ∈ gws ∧ Cond.code Lib.Math.min.name Lib.Math.min.code 2 (some .int) ∈ gws := ⟨wi 628 (by decide +kernel) rfl, wi 518 (by decide +kernel) rfl, wi 17 (by decide +kernel) rfl, wi 519 (by decide +kernel) rfl⟩
theorem mm_X2_35 : Cond.methodLink RX2 35 Lib.Math.min.name ∈ gws ∧ Cond.static Lib.Math.min.name ∈ gws ∧ Cond.initialized "java/lang/Math" ∈ gws ∧ Cond.code Lib.Math.min.name Lib.Math.min.code 2 (some .int) ∈ gws := ⟨wi 851 (by decide +kernel) rfl, wi 518 (by decide +kernel) rfl, wi 17 (by decide +kernel) rfl, wi 519 (by decide +kernel) rfl⟩
theorem mm_X6_170 : Cond.methodLink RX6 170 Lib.Math.max.name ∈ gws ∧ Cond.static Lib.Math.max.name ∈ gws ∧ Cond.initialized "java/lang/Math" ∈ gws ∧ Cond.code Lib.Math.max.name Lib.Math.max.code 2 (some .int) ∈ gws := ⟨wi 896 (by decide +kernel) rfl, wi 515 (by decide +kernel) rfl, wi 17 (by decide +kernel) rfl, wi 516 (by decide +kernel) rfl⟩
