/-! HEAP ROWS. Each reads or writes the small heap behind a look at the shape; what isn't there: none -/
/-- a field of a class of ours, as an instruction of 'own' names it (by the pool's number): class ci, field k -/
def fk (own : String) (idx ci k : Nat) : Prop := ∃ r : vw_C, vwCl[ci]? = some r ∧ k < r.2.2 ∧ fnum ci = r.2.2 ∧ (∀ j, j < r.2.2 → parseFieldDescriptor (r.2.1 j).2.2.1 = some (fty ci j)) ∧ (r.2.1 k).1 = r.1 ∧ (∀ w ∈ u_ws r.1 r.2.1 r.2.2, w ∈ gws) ∧
  (∀ a, a < r.2.2 → ∀ b, b < r.2.2 → a ≠ b → (r.2.1 a).2.1 ≠ (r.2.1 b).2.1) ∧ (Cond.fieldLink own idx r.1 (r.2.1 k).2.1 (r.2.1 k).2.2.1 ∈ gws ∨ ∃ host, Cond.fieldLinkNest own idx r.1 (r.2.1 k).2.1 (r.2.1 k).2.2.1 host ∈ nws)
/-- .. that may be written there -/
def fw (y : MethodName) (idx ci k : Nat) : Prop := fk y.cls idx ci k ∧ ∀ r : vw_C, vwCl[ci]? = some r → (r.2.1 k).2.2.2 = false ∨ (y.name = "<init>" ∧ r.1 = y.cls ∧ Cond.fieldLink y.cls idx r.1 (r.2.1 k).2.1 (r.2.1 k).2.2.1 ∈ gws)
def ldI {δ : Type} (h : mh) (a ci k : Nat) (F : Int32 → Option δ) : Option δ := if a < gN h ∧ gS h a = (0, ci) then F (gI h a k) else none
def ldL {δ : Type} (h : mh) (a ci k : Nat) (F : Int64 → Option δ) : Option δ := if a < gN h ∧ gS h a = (0, ci) then F (gL h a k) else none
def ldR {δ : Type} (h : mh) (a ci k : Nat) (F : Nat → Option δ) : Option δ := if a < gN h ∧ gS h a = (0, ci) then (gR h a k).bind F else none
def stI {δ : Type} (h : mh) (a ci k : Nat) (x : Int32) (F : mh → Option δ) : Option δ := if a < gN h ∧ gS h a = (0, ci) then F (uI h a k x) else none
def stZ {δ : Type} (h : mh) (a ci k : Nat) (x : Int32) (F : mh → Option δ) : Option δ := if (a < gN h ∧ gS h a = (0, ci)) ∧ (x = 0 ∨ x = 1) then F (uI h a k x) else none
def stL {δ : Type} (h : mh) (a ci k : Nat) (x : Int64) (F : mh → Option δ) : Option δ := if a < gN h ∧ gS h a = (0, ci) then F (uL h a k x) else none
def stR {δ : Type} (h : mh) (a ci k q : Nat) (F : mh → Option δ) : Option δ := if a < gN h ∧ gS h a = (0, ci) then F (uR h a k (some q)) else none
/-- a row's place: (kind, length), an index in it -/
def rin (h : mh) (a t : Nat) (i : Int32) : Prop := a < gN h ∧ (gS h a).1 = t ∧ ¬ i < 0 ∧ i.toNatClampNeg < (gS h a).2
def ldA {δ : Type} (h : mh) (a t : Nat) (i : Int32) (F : Int32 → Option δ) : Option δ := if a < gN h ∧ (gS h a).1 = t ∧ ¬ i < 0 ∧ i.toNatClampNeg < (gS h a).2 then F (gI h a i.toNatClampNeg) else none
def ldJ {δ : Type} (h : mh) (a : Nat) (i : Int32) (F : Int64 → Option δ) : Option δ := if a < gN h ∧ (gS h a).1 = 4 ∧ ¬ i < 0 ∧ i.toNatClampNeg < (gS h a).2 then F (gL h a i.toNatClampNeg) else none
def ldQ {δ : Type} (h : mh) (a : Nat) (i : Int32) (F : Nat → Option δ) : Option δ := if a < gN h ∧ (gS h a).1 = 5 ∧ ¬ i < 0 ∧ i.toNatClampNeg < (gS h a).2 then (gR h a i.toNatClampNeg).bind F else none
def stA {δ : Type} (h : mh) (a : Nat) (i x : Int32) (F : mh → Option δ) : Option δ := if a < gN h ∧ (gS h a).1 = 1 ∧ ¬ i < 0 ∧ i.toNatClampNeg < (gS h a).2 then F (uI h a i.toNatClampNeg x) else none
def stB {δ : Type} (h : mh) (a : Nat) (i x : Int32) (F : mh → Option δ) : Option δ := if a < gN h ∧ (gS h a).1 = 2 ∧ ¬ i < 0 ∧ i.toNatClampNeg < (gS h a).2 then F (uI h a i.toNatClampNeg x.toInt8.toInt32) else none
def stY {δ : Type} (h : mh) (a : Nat) (i x : Int32) (F : mh → Option δ) : Option δ := if a < gN h ∧ (gS h a).1 = 3 ∧ ¬ i < 0 ∧ i.toNatClampNeg < (gS h a).2 then F (uI h a i.toNatClampNeg (x &&& 1)) else none
def stJ {δ : Type} (h : mh) (a : Nat) (i : Int32) (x : Int64) (F : mh → Option δ) : Option δ := if a < gN h ∧ (gS h a).1 = 4 ∧ ¬ i < 0 ∧ i.toNatClampNeg < (gS h a).2 then F (uL h a i.toNatClampNeg x) else none
def stQ {δ : Type} (h : mh) (a : Nat) (i : Int32) (q : Nat) (F : mh → Option δ) : Option δ := if (a < gN h ∧ (gS h a).1 = 5 ∧ ¬ i < 0 ∧ i.toNatClampNeg < (gS h a).2) ∧ q < gN h ∧ gS h q = (0, 3) then F (uR h a i.toNatClampNeg (some q)) else none
def len {δ : Type} (h : mh) (a : Nat) (F : Int32 → Option δ) : Option δ := if a < gN h ∧ 1 ≤ (gS h a).1 ∧ (gS h a).1 ≤ 5 then F (Int32.ofNat (gS h a).2) else none
def dvI {δ : Type} (x y : Int32) (F : Int32 → Option δ) : Option δ := if ¬ y = 0 then F (x / y) else none
def rmI {δ : Type} (x y : Int32) (F : Int32 → Option δ) : Option δ := if ¬ y = 0 then F (x - x / y * y) else none
theorem gS_uI {h : mh} {a k b : Nat} {x : Int32} : gS (uI h a k x) b = gS h b := rfl
theorem cl_uI {G : gx} {h : mh} {a k b : Nat} {x : Int32} (hb : b ≠ a) : cl_of G (uI h a k x) b = cl_of G h b := cl_congr rfl (by funext j; simp [gI, uI, hb]) rfl rfl
theorem cl_uL {G : gx} {h : mh} {a k b : Nat} {x : Int64} (hb : b ≠ a) : cl_of G (uL h a k x) b = cl_of G h b := cl_congr rfl rfl (by funext j; simp [gL, uL, hb]) rfl
theorem cl_uR {G : gx} {h : mh} {a k b : Nat} {x : Option Nat} (hb : b ≠ a) : cl_of G (uR h a k x) b = cl_of G h b := cl_congr rfl rfl rfl (by funext j; simp [gR, uR, hb])
theorem cl_uA {G : gx} {h : mh} {a b : Nat} {f : Nat → Int32} (hb : b ≠ a) : cl_of G (uA h a f) b = cl_of G h b := cl_congr rfl (by funext j; simp [gI, uA, hb]) rfl rfl
theorem cl_obj {G : gx} {h : mh} {a ci : Nat} (hs : gS h a = (0, ci)) : cl_of G h a = .inr (ci, flds G h a ci) := by
  unfold cl_of
  rw [hs]
  rfl
theorem flds_at {G : gx} {h : mh} {a ci k : Nat} (hk : k < fnum ci) : (flds G h a ci)[k]? = some (fv G h a (ik (fty ci k)) k) := by
  simp [flds, List.getElem?_map, List.getElem?_range hk]
theorem flds_set {G : gx} {h h' : mh} {a ci k : Nat} {v : Value} (hv : v = fv G h' a (ik (fty ci k)) k) (ho : ∀ j, j ≠ k → fv G h' a (ik (fty ci j)) j = fv G h a (ik (fty ci j)) j) : (flds G h a ci).set k v = flds G h' a ci := by
  subst hv
  apply List.ext_getElem?
  intro i
  by_cases hi : i < fnum ci
  · by_cases hik : i = k
    · subst hik
      rw [List.getElem?_set_self (by simpa [flds] using hi), flds_at hi]
    · rw [List.getElem?_set_ne (Ne.symm hik), flds_at hi, flds_at hi, ho i hik]
  · rw [List.getElem?_eq_none (by simpa [flds] using hi), List.getElem?_eq_none (by simpa [flds] using hi)]
theorem fv_uI_ne {G : gx} {h : mh} {a k j t : Nat} {x : Int32} (hj : j ≠ k) : fv G (uI h a k x) a t j = fv G h a t j := by
  unfold fv gI gL gR uI
  simp [hj]
theorem fv_uL_ne {G : gx} {h : mh} {a k j t : Nat} {x : Int64} (hj : j ≠ k) : fv G (uL h a k x) a t j = fv G h a t j := by
  unfold fv gI gL gR uL
  simp [hj]
theorem fv_uR_ne {G : gx} {h : mh} {a k j t : Nat} {x : Option Nat} (hj : j ≠ k) : fv G (uR h a k x) a t j = fv G h a t j := by
  unfold fv gI gL gR uR
  simp [hj]
section EVH
variable {β : Type} {lf : β → Option Value} {G : gx} {y : MethodName} {cc : ByteArray} {nL : Nat} {rt : Option FieldType} {d : Nat} {h0 : mh} {pc : Nat} {ls : List (Nat × Value)} {st : List Value} {h : mh}
/-- the getfield at its bottom -/
theorem wx_get {idx ci k a : Nat} (hf : fk y.cls idx ci k) (ha : a < gN h) (hs : gS h a = (0, ci)) (hd : decode cc pc = .ok (.getfield idx, 3))
    {p : Program} {e : Env} {R : Room} {s : State} {m : MethodId} {args : Array Value} {below : List Frame} {meth : Method} {c : Code} {Q : State → Prop} {H : Heap} {locs : List Loc} {cells slots : Nat} {lA : Array Slot} (hx : cx G y cc nL rt d p R s m args meth c) (hrel : rel G h s H locs)
    (kk : W p (gl G) e R s m args below meth c H locs cells slots Q (F0 m (pc + 3) lA (fv G h a (ik (fty ci k)) k :: st))) : W p (gl G) e R s m args below meth c H locs cells slots Q (F0 m pc lA (.ref (gB G + a) :: st)) := by
  obtain ⟨⟨C, T, N⟩, h1, h2, h3, h4, h5, h6, h7, h8⟩ := hf
  obtain ⟨x1, x2, x3, x4, x5, x6, -⟩ := hx
  have he : (wo G h)[a]? = some (gB G + a, .inr (ci, flds G h a ci)) := by rw [wo_get ha, cl_obj hs]
  have hv : (flds G h a ci)[k]? = some (fv G h a (ik (fty ci k)) k) := flds_at (by rw [h3]; exact h2)
  rcases h8 with h8 | ⟨host, h8⟩
  · exact va_get x1 x2 x5 h6 x4 x6.1 hrel.1 a he h1 k h2 (x5 _ h8) (fun x hx => by rw [← h5]; exact hx) hv hd kk
  · exact va_getN x1 x2 x5 h6 x4 x6.1 hrel.1 a he h1 k h2 (va_Nw.use (nws_on h8) (x6.2.1 _ h8)) (fun x hx => by rw [← h5]; exact hx) hv hd kk
theorem ev_getI {idx ci k a : Nat} {F : Int32 → Option (β × mh)} (hf : fk y.cls idx ci k) (hi : ik (fty ci k) = 0) (hd : decode cc pc = .ok (.getfield idx, 3)) (kk : ∀ x : Int32, Ev lf G y cc nL rt d h0 (pc + 3) ls (.int x :: st) h (F x)) : Ev lf G y cc nL rt d h0 pc ls (.ref (gB G + a) :: st) h (ldI h a ci k F) := by
  intro b h' hr
  unfold ldI at hr
  split at hr
  · rename_i hc
    obtain ⟨k1, k2, k3⟩ := kk _ b h' hr
    refine ⟨k1, k2, fun p e R s m args below meth c Q hx hz hR1 hR2 ht H locs lA i1 i2 hrel hl => ?_⟩
    refine wx_get hf hc.1 hc.2 hd hx hrel ?_
    rw [hi]
    exact k3 p e R s m args below meth c Q hx hz hR1 hR2 ht H locs lA i1 i2 hrel hl
  · cases hr
theorem ev_getL {idx ci k a : Nat} {F : Int64 → Option (β × mh)} (hf : fk y.cls idx ci k) (hi : ik (fty ci k) = 1) (hd : decode cc pc = .ok (.getfield idx, 3)) (kk : ∀ x : Int64, Ev lf G y cc nL rt d h0 (pc + 3) ls (.long x :: st) h (F x)) : Ev lf G y cc nL rt d h0 pc ls (.ref (gB G + a) :: st) h (ldL h a ci k F) := by
  intro b h' hr
  unfold ldL at hr
  split at hr
  · rename_i hc
    obtain ⟨k1, k2, k3⟩ := kk _ b h' hr
    refine ⟨k1, k2, fun p e R s m args below meth c Q hx hz hR1 hR2 ht H locs lA i1 i2 hrel hl => ?_⟩
    refine wx_get hf hc.1 hc.2 hd hx hrel ?_
    rw [hi]
    exact k3 p e R s m args below meth c Q hx hz hR1 hR2 ht H locs lA i1 i2 hrel hl
  · cases hr
theorem ev_getR {idx ci k a : Nat} {F : Nat → Option (β × mh)} (hf : fk y.cls idx ci k) (hi : ik (fty ci k) = 2) (hd : decode cc pc = .ok (.getfield idx, 3)) (kk : ∀ x : Nat, Ev lf G y cc nL rt d h0 (pc + 3) ls (.ref (gB G + x) :: st) h (F x)) : Ev lf G y cc nL rt d h0 pc ls (.ref (gB G + a) :: st) h (ldR h a ci k F) := by
  intro b h' hr
  unfold ldR at hr
  split at hr
  · rename_i hc
    cases hg : gR h a k with
    | none => rw [hg] at hr; cases hr
    | some q =>
      rw [hg] at hr
      obtain ⟨k1, k2, k3⟩ := kk q b h' hr
      refine ⟨k1, k2, fun p e R s m args below meth c Q hx hz hR1 hR2 ht H locs lA i1 i2 hrel hl => ?_⟩
      refine wx_get hf hc.1 hc.2 hd hx hrel ?_
      rw [hi]
      have e1 : fv G h a 2 k = .ref (gB G + q) := by unfold fv; rw [hg]; rfl
      rw [e1]
      exact k3 p e R s m args below meth c Q hx hz hR1 hR2 ht H locs lA i1 i2 hrel hl
  · cases hr
/-- the putfield at its bottom -/
theorem wx_put {idx ci k a : Nat} {v : Value} {h2 : mh} (hf : fw y idx ci k) (ha : a < gN h) (hs : gS h a = (0, ci)) (hd : decode cc pc = .ok (.putfield idx, 3)) (hnw : narrow (fty ci k) v = v) (hfit : fits (fty ci k) v = true)
    (e1 : gN h2 = gN h) (e2 : ∀ b, b ≠ a → cl_of G h2 b = cl_of G h b) (e3 : gS h2 a = (0, ci)) (e4 : v = fv G h2 a (ik (fty ci k)) k) (e5 : ∀ j, j ≠ k → fv G h2 a (ik (fty ci j)) j = fv G h a (ik (fty ci j)) j)
    {p : Program} {e : Env} {R : Room} {s : State} {m : MethodId} {args : Array Value} {below : List Frame} {meth : Method} {c : Code} {Q : State → Prop} {H : Heap} {locs : List Loc} {cells slots : Nat} {lA : Array Slot} (hx : cx G y cc nL rt d p R s m args meth c) (hrel : rel G h s H locs)
    (kk : ∀ (H1 : Heap) (locs1 : List Loc), rel G h2 s H1 locs1 → W p (gl G) e R s m args below meth c H1 locs1 cells slots Q (F0 m (pc + 3) lA st)) : W p (gl G) e R s m args below meth c H locs cells slots Q (F0 m pc lA (v :: .ref (gB G + a) :: st)) := by
  obtain ⟨hk, hfw⟩ := hf
  obtain ⟨⟨C, T, N⟩, h1, h2', h3, h4, h5, h6, h7, h8⟩ := hk
  obtain ⟨x1, x2, x3, x4, x5, x6, -, -, x9, -⟩ := hx
  have he : (wo G h)[a]? = some (gB G + a, .inr (ci, flds G h a ci)) := by rw [wo_get ha, cl_obj hs]
  have hl : k < (flds G h a ci).length := by simp [flds, h3]; exact h2'
  have hset : (wo G h).set a (gB G + a, .inr (ci, (flds G h a ci).set k v)) = wo G h2 := wo_set e1 (by rw [cl_obj e3, flds_set e4 e5]) e2
  have hD : va_D (bA G) (wo G h) := wo_D
  have fin : ∀ (H1 : Heap) (locs1 : List Loc), va_P (gD G) vwCl ((wo G h).set a (gB G + a, .inr (ci, (flds G h a ci).set k v))) H1 → va_D (bA G) ((wo G h).set a (gB G + a, .inr (ci, (flds G h a ci).set k v))) → va_S (bA G) s.heap H1 locs1 → W p (gl G) e R s m args below meth c H1 locs1 cells slots Q (F0 m (pc + 3) lA st) := by
    intro H1 locs1 hP _ hS
    rw [hset] at hP
    exact kk H1 locs1 ⟨hP, hS⟩
  rcases hfw _ h1 with hfin | ⟨f1, f2, f3⟩
  · rcases h8 with h8 | ⟨host, h8⟩
    · exact va_put x1 x2 x5 h6 (fty ci) h4 h7 x4 x6.1 hrel.1 hD hrel.2 a he h1 k h2' (x5 _ h8) (fun x hx => by rw [← h5]; exact hx) hfin (h4 k h2') hnw hfit hl hd fin
    · exact va_putN x1 x2 x5 h6 (fty ci) h4 h7 x4 x6.1 hrel.1 hD hrel.2 a he h1 k h2' (va_Nw.use (nws_on h8) (x6.2.1 _ h8)) (fun x hx => by rw [← h5]; exact hx) hfin (h4 k h2') hnw hfit hl hd fin
  · cases hfin : (T k).2.2.2 with
    | false =>
      exact va_put x1 x2 x5 h6 (fty ci) h4 h7 x4 x6.1 hrel.1 hD hrel.2 a he h1 k h2' (x5 _ f3) (fun x hx => by rw [← h5]; exact hx) hfin (h4 k h2') hnw hfit hl hd fin
    | true =>
      exact va_putF x1 x2 x5 h6 (fty ci) h4 h7 x4 x6.1 hrel.1 hD hrel.2 a he h1 k h2' (x5 _ f3) (fun x hx => by rw [← h5]; exact hx) hfin (x9 f1) (h5.trans f2) (h4 k h2') hnw hfit hl hd fin
theorem ev_putI {idx ci k a : Nat} {x : Int32} {F : mh → Option (β × mh)} (hf : fw y idx ci k) (hi : fty ci k = .int) (hd : decode cc pc = .ok (.putfield idx, 3)) (kk : ∀ h2 : mh, Ev lf G y cc nL rt d h0 (pc + 3) ls st h2 (F h2)) : Ev lf G y cc nL rt d h0 pc ls (.int x :: .ref (gB G + a) :: st) h (stI h a ci k x F) := by
  intro b h' hr
  unfold stI at hr
  split at hr
  · rename_i hc
    obtain ⟨k1, k2, k3⟩ := kk _ b h' hr
    refine ⟨k1, k2, fun p e R s m args below meth c Q hx hz hR1 hR2 ht H locs lA i1 i2 hrel hl => ?_⟩
    exact wx_put (h2 := uI h a k x) hf hc.1 hc.2 hd (by rw [hi]; rfl) (by rw [hi]; rfl) rfl (fun b hb => cl_uI hb) hc.2 (by rw [hi]; simp [fv, ik, gI, uI]) (fun j hj => fv_uI_ne hj) hx hrel (fun H1 locs1 hr1 => k3 p e R s m args below meth c Q hx hz hR1 hR2 ht H1 locs1 lA i1 i2 hr1 hl)
  · cases hr
theorem ev_putZ {idx ci k a : Nat} {x : Int32} {F : mh → Option (β × mh)} (hf : fw y idx ci k) (hi : fty ci k = .boolean) (hd : decode cc pc = .ok (.putfield idx, 3)) (kk : ∀ h2 : mh, Ev lf G y cc nL rt d h0 (pc + 3) ls st h2 (F h2)) : Ev lf G y cc nL rt d h0 pc ls (.int x :: .ref (gB G + a) :: st) h (stZ h a ci k x F) := by
  intro b h' hr
  unfold stZ at hr
  split at hr
  · rename_i hc
    obtain ⟨k1, k2, k3⟩ := kk _ b h' hr
    refine ⟨k1, k2, fun p e R s m args below meth c Q hx hz hR1 hR2 ht H locs lA i1 i2 hrel hl => ?_⟩
    exact wx_put (h2 := uI h a k x) hf hc.1.1 hc.1.2 hd (by rw [hi]; rcases hc.2 with q | q <;> rw [q] <;> rfl) (by rw [hi]; rcases hc.2 with q | q <;> rw [q] <;> rfl) rfl (fun b hb => cl_uI hb) hc.1.2 (by rw [hi]; simp [fv, ik, gI, uI]) (fun j hj => fv_uI_ne hj) hx hrel (fun H1 locs1 hr1 => k3 p e R s m args below meth c Q hx hz hR1 hR2 ht H1 locs1 lA i1 i2 hr1 hl)
  · cases hr
theorem ev_putL {idx ci k a : Nat} {x : Int64} {F : mh → Option (β × mh)} (hf : fw y idx ci k) (hi : fty ci k = .long) (hd : decode cc pc = .ok (.putfield idx, 3)) (kk : ∀ h2 : mh, Ev lf G y cc nL rt d h0 (pc + 3) ls st h2 (F h2)) : Ev lf G y cc nL rt d h0 pc ls (.long x :: .ref (gB G + a) :: st) h (stL h a ci k x F) := by
  intro b h' hr
  unfold stL at hr
  split at hr
  · rename_i hc
    obtain ⟨k1, k2, k3⟩ := kk _ b h' hr
    refine ⟨k1, k2, fun p e R s m args below meth c Q hx hz hR1 hR2 ht H locs lA i1 i2 hrel hl => ?_⟩
    exact wx_put (h2 := uL h a k x) hf hc.1 hc.2 hd (by rw [hi]; rfl) (by rw [hi]; rfl) rfl (fun b hb => cl_uL hb) hc.2 (by rw [hi]; simp [fv, ik, gL, uL]) (fun j hj => fv_uL_ne hj) hx hrel (fun H1 locs1 hr1 => k3 p e R s m args below meth c Q hx hz hR1 hR2 ht H1 locs1 lA i1 i2 hr1 hl)
  · cases hr
theorem ev_putR {idx ci k a q : Nat} {F : mh → Option (β × mh)} (hf : fw y idx ci k) (hi : (∃ n, fty ci k = .object n) ∨ ∃ t, fty ci k = .array t) (hd : decode cc pc = .ok (.putfield idx, 3)) (kk : ∀ h2 : mh, Ev lf G y cc nL rt d h0 (pc + 3) ls st h2 (F h2)) : Ev lf G y cc nL rt d h0 pc ls (.ref (gB G + q) :: .ref (gB G + a) :: st) h (stR h a ci k q F) := by
  intro b h' hr
  unfold stR at hr
  split at hr
  · rename_i hc
    obtain ⟨k1, k2, k3⟩ := kk _ b h' hr
    refine ⟨k1, k2, fun p e R s m args below meth c Q hx hz hR1 hR2 ht H locs lA i1 i2 hrel hl => ?_⟩
    exact wx_put (h2 := uR h a k (some q)) hf hc.1 hc.2 hd (by rcases hi with ⟨n, hi⟩ | ⟨t, hi⟩ <;> rw [hi] <;> rfl) (by rcases hi with ⟨n, hi⟩ | ⟨t, hi⟩ <;> rw [hi] <;> rfl) rfl (fun b hb => cl_uR hb) hc.2 (by rcases hi with ⟨n, hi⟩ | ⟨t, hi⟩ <;> rw [hi] <;> simp [fv, ik, gR, uR, va_rf]) (fun j hj => fv_uR_ne hj) hx hrel (fun H1 locs1 hr1 => k3 p e R s m args below meth c Q hx hz hR1 hR2 ht H1 locs1 lA i1 i2 hr1 hl)
  · cases hr
end EVH
