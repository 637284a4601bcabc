/-! NEW CELLS, CONTRACTS, CALLS -/
def newO {δ : Type} (h : mh) (ci : Nat) (F : Nat → mh → Option δ) : Option δ := F (gN h) (nw h (0, ci) (fnum ci))
def newA {δ : Type} (h : mh) (t : Nat) (n : Int32) (F : Nat → mh → Option δ) : Option δ := if ¬ n < 0 ∧ n.toNatClampNeg ≤ 100000 then F (gN h) (nw h (t, n.toNatClampNeg) n.toNatClampNeg) else none
def cpA {δ : Type} (h : mh) (a : Nat) (sp : Int32) (b : Nat) (dp n : Int32) (F : mh → Option δ) : Option δ :=
  if (a < gN h ∧ (gS h a).1 = 1) ∧ (b < gN h ∧ (gS h b).1 = 1) ∧ ¬ sp < 0 ∧ ¬ dp < 0 ∧ ¬ n < 0 ∧ sp.toNatClampNeg + n.toNatClampNeg ≤ (gS h a).2 ∧ dp.toNatClampNeg + n.toNatClampNeg ≤ (gS h b).2 then F (uA h b (va_cpy (gI h a) (gI h b) sp.toNatClampNeg dp.toNatClampNeg n.toNatClampNeg)) else none
theorem cl_nw {G : gx} {h : mh} {sh : Nat × Nat} {w b : Nat} (hb : b < gN h) : cl_of G (nw h sh w) b = cl_of G h b := by
  have hn : b ≠ gN h := Nat.ne_of_lt hb
  exact cl_congr (by simp [gS, nw, hn]) (by funext j; simp [gI, nw, hn]) (by funext j; simp [gL, nw, hn]) (by funext j; simp [gR, nw, hn])
/-- a class that an instruction of own makes -/
def nk (own : String) (idx ci : Nat) : Prop := ∃ r : vw_C, vwCl[ci]? = some r ∧ fnum ci = r.2.2 ∧ (∀ j, j < r.2.2 → parseFieldDescriptor (r.2.1 j).2.2.1 = some (fty ci j)) ∧ (∀ w ∈ u_ws r.1 r.2.1 r.2.2, w ∈ gws) ∧ (∀ j, j < r.2.2 → fty ci j ≠ .float ∧ fty ci j ≠ .double) ∧ Cond.classLink own idx r.1 ∈ gws ∧ Cond.instantiable r.1 r.2.2 ∈ gws ∧ Cond.initialized r.1 ∈ gws
theorem nw_dflt {G : gx} {h : mh} {ci j w : Nat} {t : FieldType} (h1 : t ≠ .float) (h2 : t ≠ .double) : defaultValue t = fv G (nw h (0, ci) w) (gN h) (ik t) j := by
  cases t <;> first | exact absurd rfl h1 | exact absurd rfl h2 | simp [defaultValue, fv, ik, gI, gL, gR, nw, va_rf]
section EVN
variable {β : Type} {lf : β → Option Value} {G : gx} {y : MethodName} {cc : ByteArray} {nL : Nat} {rt : Option FieldType} {d : Nat} {h0 : mh} {pc : Nat} {ls : List (Nat × Value)} {st : List Value} {h : mh}
/-- a new cell lies behind the others -/
theorem wx_new {q : Nat} {e1 : va_E} {h2 : mh} {p : Program} {l : Launch} {e : Env} {R : Room} {s : State} {m : MethodId} {args : Array Value} {below : List Frame} {meth : Method} {c : Code} {Q : State → Prop} {H1 : Heap} {locs : List Loc} {slots : Nat} {g : Nat → JFrame}
    (hP : va_P (gD G) vwCl (wo G h ++ [(q, e1)]) H1) (hD : va_D (bA G) (wo G h ++ [(q, e1)])) (hS : va_S (bA G) s.heap H1 locs) (hz : s.heap.size = gB G + gN h0) (i1 : gN h0 ≤ gN h)
    (hn : gN h2 = gN h + 1) (he : e1 = cl_of G h2 (gN h)) (ho : ∀ b, b < gN h → cl_of G h2 b = cl_of G h b)
    (k : rel G h2 s H1 locs → W p l e R s m args below meth c H1 locs (gN h2 - gN h0) slots Q (g (gB G + gN h))) : W p l e R s m args below meth c H1 locs (gN h - gN h0 + 1) slots Q (g q) := by
  intro T hT X
  have hl : (wo G h).length = gN h := by simp [wo]
  have hat : (wo G h ++ [(q, e1)])[gN h]? = some (q, e1) := by rw [List.getElem?_append_right (by omega), hl, Nat.sub_self]; rfl
  have h1 := X.heapSize
  rw [hT, hz] at h1
  have h3 : q < H1.size := (hP _ _ hat).lt
  have h4 : gB G ≤ q := hD.2 _ _ hat
  have h5 : ¬ q < gB G + gN h := by
    intro hq
    have hi : q - gB G < gN h := by omega
    have hw : (wo G h ++ [(q, e1)])[q - gB G]? = some (gB G + (q - gB G), cl_of G h (q - gB G)) := by rw [List.getElem?_append_left (by omega), wo_get hi]
    have := hD.1 _ _ _ _ hw hat (by show gB G + (q - gB G) = q; omega)
    omega
  have hq : q = gB G + gN h := by omega
  subst hq
  have hn1 : gN h - gN h0 + 1 = gN h2 - gN h0 := by omega
  rw [hn1] at X
  refine k ⟨?_, hS⟩ T hT X
  rw [← wo_push hn he ho]
  exact hP
theorem bA_of (hz : ∃ n, n = gN h0 ∧ True) {s : State} (hs : s.heap.size = gB G + gN h0) : ∀ q, s.heap.size ≤ q → bA G q := fun q hq => by
  unfold bA
  omega
theorem ev_new {idx ci : Nat} {F : Nat → mh → Option (β × mh)} (hk : nk y.cls idx ci) (hd : decode cc pc = .ok (.new idx, 3)) (kk : ∀ (a : Nat) (h2 : mh), Ev lf G y cc nL rt d h0 (pc + 3) ls (.ref (gB G + a) :: st) h2 (F a h2)) : Ev lf G y cc nL rt d h0 pc ls st h (newO h ci F) := by
  intro b h' hr
  unfold newO at hr
  obtain ⟨k1, k2, k3⟩ := kk _ _ b h' hr
  have e1 : gN (nw h (0, ci) (fnum ci)) = gN h + 1 := rfl
  have e2 : gM (nw h (0, ci) (fnum ci)) = gM h + fnum ci := rfl
  rw [e1] at k1
  rw [e2] at k2
  refine ⟨by omega, by omega, fun p e R s m args below meth c Q hx hz hR1 hR2 ht H locs lA i1 i2 hrel hl => ?_⟩
  obtain ⟨⟨C, T, N⟩, n1, n2, n3, n4, n5, n6, n7, n8⟩ := hk
  dsimp only at n2 n3 n4 n5 n6 n7 n8
  have hfs : ∀ j, j < N → defaultValue (fty ci j) = vp_V (flds G (nw h (0, ci) (fnum ci)) (gN h) ci) j := by
    intro j hj
    unfold vp_V
    rw [List.getD_eq_getElem?_getD, flds_at (by rw [n2]; exact hj)]
    exact nw_dflt (n5 j hj).1 (n5 j hj).2
  refine va_new (ci := ci) (C := C) (T := T) (N := N) (fs := flds G (nw h (0, ci) (fnum ci)) (gN h) ci) hx.1 hx.2.1 hx.2.2.2.2.1 n4 (fty ci) n3 hx.2.2.2.1 (hx.2.2.2.2.1 _ n6) (hx.2.2.2.2.1 _ n7) (hx.2.2.2.2.1 _ n8) hx.2.2.2.2.2.1.1 hrel.1 (A := bA G) wo_D hrel.2 (bA_of ⟨_, rfl, trivial⟩ hz) n1 hfs (by omega) (by rw [n2] at k2; omega) hd (fun q H1 hP hD hS => ?_)
  have hm : gM h - gM h0 + N = gM (nw h (0, ci) (fnum ci)) - gM h0 := by rw [e2, n2]; omega
  rw [hm]
  refine wx_new (h2 := nw h (0, ci) (fnum ci)) (g := fun q => F0 m (pc + 3) lA (.ref q :: st)) hP hD hS hz i1 rfl ?_ (fun b hb => cl_nw hb) (fun hr2 => k3 p e R s m args below meth c Q hx hz hR1 hR2 ht H1 locs lA (by rw [e1]; omega) (by rw [e2]; omega) hr2 hl)
  rw [cl_obj (ci := ci) (by simp [gS, nw])]
theorem ev_newa {t : Nat} {n : Int32} {at9 : ArrayType} {ty : FieldType} {F : Nat → mh → Option (β × mh)} (hw : Cond.arrayClass (newarray.typeOf at9) ∈ gws) (hty : newarray.typeOf at9 = ty) (ht9 : (t, ty) = (1, .int) ∨ (t, ty) = (2, .byte) ∨ (t, ty) = (3, .boolean) ∨ (t, ty) = (4, .long)) (hd : decode cc pc = .ok (.newarray at9, 2)) (kk : ∀ (a : Nat) (h2 : mh), Ev lf G y cc nL rt d h0 (pc + 2) ls (.ref (gB G + a) :: st) h2 (F a h2)) : Ev lf G y cc nL rt d h0 pc ls (.int n :: st) h (newA h t n F) := by
  intro b h' hr
  unfold newA at hr
  split at hr
  · rename_i hc
    obtain ⟨k1, k2, k3⟩ := kk _ _ b h' hr
    have e1 : gN (nw h (t, n.toNatClampNeg) n.toNatClampNeg) = gN h + 1 := rfl
    have e2 : gM (nw h (t, n.toNatClampNeg) n.toNatClampNeg) = gM h + n.toNatClampNeg := rfl
    rw [e1] at k1
    rw [e2] at k2
    refine ⟨by omega, by omega, fun p e R s m args below meth c Q hx hz hR1 hR2 ht H locs lA i1 i2 hrel hl => ?_⟩
    have hK := hx.2.2.2.2.2.1.1
    have hm : gM h - gM h0 + n.toNatClampNeg = gM (nw h (t, n.toNatClampNeg) n.toNatClampNeg) - gM h0 := by rw [e2]; omega
    have fin : ∀ (q : Nat) (a0 : vp_A) (j : Nat) (cA : ClassId) (H1 : Heap), (tyl G)[j]? = some (gA G j, ty) → va_RA s cA ty → va_RA s (gA G j) ty → (∀ C, ty ≠ .object C) → Sum.inl (gA G j, a0) = cl_of G (nw h (t, n.toNatClampNeg) n.toNatClampNeg) (gN h) → va_P (gD G) vwCl (wo G h ++ [(q, .inl (cA, a0))]) H1 → va_D (bA G) (wo G h ++ [(q, .inl (cA, a0))]) → va_S (bA G) s.heap H1 locs → W p (gl G) e R s m args below meth c H1 locs (gN h - gN h0 + 1) (gM h - gM h0 + n.toNatClampNeg) Q (F0 m (pc + 2) lA (.ref q :: st)) := by
      intro q a0 j cA H1 _ r1 r2 hno hcl hP hD hS
      have hA : cA = gA G j := by
        cases ty with
        | object C => exact absurd rfl (hno C)
        | _ => exact Option.some.inj (r1.symm.trans r2)
      subst hA
      rw [hm]
      exact wx_new (h2 := nw h (t, n.toNatClampNeg) n.toNatClampNeg) (g := fun q => F0 m (pc + 2) lA (.ref q :: st)) hP hD hS hz i1 rfl hcl (fun b hb => cl_nw hb) (fun hr2 => k3 p e R s m args below meth c Q hx hz hR1 hR2 ht H1 locs lA (by rw [e1]; omega) (by rw [e2]; omega) hr2 hl)
    have hAll : ∀ q, s.heap.size ≤ q → bA G q := bA_of ⟨_, rfl, trivial⟩ hz
    have hcells : gN h - gN h0 + 1 ≤ R.cells := by omega
    have hslots : gM h - gM h0 + n.toNatClampNeg ≤ R.slots := by omega
    rcases ht9 with q9 | q9 | q9 | q9 <;> (have q1 := congrArg Prod.fst q9; have q2 := congrArg Prod.snd q9; dsimp only at q1 q2; subst q1; subst q2)
    · refine va_newa (a0 := (n.toNatClampNeg, .inl (fun _ => 0))) hx.1 hx.2.1 (hx.2.2.2.2.1 _ hw) hty hK hrel.1 (A := bA G) wo_D hrel.2 hAll (fun _ => rfl) hc.1 rfl (by simp [componentBytes]; omega) hcells hslots hd (fun q cA H1 hK1 hP hD hS => ?_)
      refine fin q _ 0 cA H1 rfl (hK1.2 5 _ rfl).2 (hK.2 0 _ rfl).2 (fun C h => by cases h) ?_ hP hD hS
      rw [cl_int (by simp [gS, nw])]
      simp [gS, nw]
      funext j
      simp [gI, nw]
    · refine va_newa (a0 := (n.toNatClampNeg, .inl (fun _ => 0))) hx.1 hx.2.1 (hx.2.2.2.2.1 _ hw) hty hK hrel.1 (A := bA G) wo_D hrel.2 hAll (fun _ => rfl) hc.1 rfl (by simp [componentBytes]; omega) hcells hslots hd (fun q cA H1 hK1 hP hD hS => ?_)
      refine fin q _ 1 cA H1 rfl (hK1.2 5 _ rfl).2 (hK.2 1 _ rfl).2 (fun C h => by cases h) ?_ hP hD hS
      rw [cl_byte (by simp [gS, nw])]
      simp [gS, nw]
      funext j
      simp [gI, nw]
    · refine va_newa (a0 := (n.toNatClampNeg, .inl (fun _ => 0))) hx.1 hx.2.1 (hx.2.2.2.2.1 _ hw) hty hK hrel.1 (A := bA G) wo_D hrel.2 hAll (fun _ => rfl) hc.1 rfl (by simp [componentBytes]; omega) hcells hslots hd (fun q cA H1 hK1 hP hD hS => ?_)
      refine fin q _ 2 cA H1 rfl (hK1.2 5 _ rfl).2 (hK.2 2 _ rfl).2 (fun C h => by cases h) ?_ hP hD hS
      rw [cl_bool (by simp [gS, nw])]
      simp [gS, nw]
      funext j
      simp [gI, nw]
    · refine va_newa (a0 := (n.toNatClampNeg, .inr (.inl (fun _ => 0)))) hx.1 hx.2.1 (hx.2.2.2.2.1 _ hw) hty hK hrel.1 (A := bA G) wo_D hrel.2 hAll (fun _ => rfl) hc.1 rfl (by simp [componentBytes]; omega) hcells hslots hd (fun q cA H1 hK1 hP hD hS => ?_)
      refine fin q _ 3 cA H1 rfl (hK1.2 5 _ rfl).2 (hK.2 3 _ rfl).2 (fun C h => by cases h) ?_ hP hD hS
      rw [cl_long (by simp [gS, nw])]
      simp [gS, nw]
      funext j
      simp [gL, nw]
  · cases hr
end EVN
