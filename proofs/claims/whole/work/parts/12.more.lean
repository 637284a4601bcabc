section EVK
variable {β : Type} {lf : β → Option Value} {G : gx} {y : MethodName} {cc : ByteArray} {nL : Nat} {rt : Option FieldType} {d : Nat} {h0 : mh} {pc : Nat} {ls : List (Nat × Value)} {st : List Value} {h : mh}
theorem ev_ite {cond : Prop} [Decidable cond] {X Y : Option (β × mh)} (k1 : cond → Ev lf G y cc nL rt d h0 pc ls st h X) (k2 : ¬ cond → Ev lf G y cc nL rt d h0 pc ls st h Y) : Ev lf G y cc nL rt d h0 pc ls st h (if cond then X else Y) := by
  by_cases hc : cond
  · rw [if_pos hc]; exact k1 hc
  · rw [if_neg hc]; exact k2 hc
theorem ev_lk {dflt off : Int} {ps : Array (Int × Int)} {w tgt : Nat} {x : Int32} {Y : Option (β × mh)} (hd : decode cc pc = .ok (.lookupswitch dflt ps, w)) (hp : (ps.toList.zip (ps.toList.drop 1)).all (fun (a, next) => a.1 < next.1) = true) (ho : Op.lookupswitch.offset ps.toList dflt x.toInt = off) (ht : (pc : Int) + off = (tgt : Int)) (k : Ev lf G y cc nL rt d h0 tgt ls st h Y) : Ev lf G y cc nL rt d h0 pc ls (.int x :: st) h Y := by
  refine ev_step ?_ k
  intro p e R s m args below meth cd Q H locs cells slots lA hcx hS hl k
  exact lv_lookup hcx.1 hcx.2.1 hd hp ho ht (k _ hl)
theorem lk_2 {x : Int32} {a b c : Int} (h0 : ¬ x = 0) (h1 : ¬ x = 1) : Op.lookupswitch.offset #[((0 : Int), a), (1, b)].toList c x.toInt = c := by
  have e0 : ¬ x.toInt = 0 := fun h => h0 (Int32.toInt_inj.mp (by rw [h]; rfl))
  have e1 : ¬ x.toInt = 1 := fun h => h1 (Int32.toInt_inj.mp (by rw [h]; rfl))
  have f0 : ¬ (0 : Int) = x.toInt := fun h => e0 h.symm
  have f1 : ¬ (1 : Int) = x.toInt := fun h => e1 h.symm
  simp [Op.lookupswitch.offset, e0, e1, f0, f1]
end EVK
