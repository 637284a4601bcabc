/-! WHAT A METHOD'S BODY DOES, said of the small heap. cx: what holds all through a body; rel: the heap holds the small heap; Rt: what a return wants; Ev: from here the body comes to the answer that Rs says -/
def cx (G : gx) (y : MethodName) (cc : ByteArray) (nL : Nat) (rt : Option FieldType) (d : Nat) (p : Program) (R : Room) (s : State) (m : MethodId) (args : Array Value) (meth : Method) (c : Code) : Prop :=
  p.tables.exec = Jvm.exec ∧ c.code = cc ∧ c.maxLocals = nL ∧ s.vm.findClass y.cls = some m.cls ∧ (∀ w ∈ gws, w.before args s = true) ∧ GF G s ∧ d ≤ R.frames ∧ 64 * d ≤ R.locals ∧ (y.name = "<init>" → meth.name = "<init>") ∧ meth.sig.returnType = rt ∧ meth.locks = false
def rel (G : gx) (h : mh) (s : State) (H : Heap) (locs : List Loc) : Prop := va_P (gD G) vwCl (wo G h) H ∧ va_S (bA G) s.heap H locs
/-- a return instruction that answers v -/
def ro (rt : Option FieldType) (cc : ByteArray) (pc : Nat) (v : Option Value) (st : List Value) : Prop :=
  (∃ (ty : FieldType) (x : Int32), rt = some ty ∧ decode cc pc = .ok (.ireturn, 1) ∧ v = some (.int x) ∧ st = [.int x] ∧ narrow ty (.int x) = .int x) ∨
  (∃ x : Int64, rt = some .long ∧ decode cc pc = .ok (.lreturn, 1) ∧ v = some (.long x) ∧ st = [.long x]) ∨
  (∃ (ty : FieldType) (a : Nat), rt = some ty ∧ ((∃ n, ty = .object n) ∨ ∃ t, ty = .array t) ∧ decode cc pc = .ok (.areturn, 1) ∧ v = some (.ref a) ∧ st = [.ref a]) ∨
  (rt = none ∧ decode cc pc = .ok (.return_, 1) ∧ v = none ∧ st = [])
def Rt (G : gx) (cc : ByteArray) (rt : Option FieldType) (h0 h' : mh) (v : Option Value) (p : Program) (e : Env) (R : Room) (s : State) (m : MethodId) (args : Array Value) (below : List Frame) (meth : Method) (c : Code) (Q : State → Prop) : Prop :=
  ∀ (H : Heap) (locs : List Loc) (lA : Array Slot) (pc : Nat) (st : List Value), rel G h' s H locs → ro rt cc pc v st → W p (gl G) e R s m args below meth c H locs (gN h' - gN h0) (gM h' - gM h0) Q (F0 m pc lA st)
def Ev {β : Type} (lf : β → Option Value) (G : gx) (y : MethodName) (cc : ByteArray) (nL : Nat) (rt : Option FieldType) (d : Nat) (h0 : mh) (pc : Nat) (ls : List (Nat × Value)) (st : List Value) (h : mh) (Rs : Option (β × mh)) : Prop :=
  ∀ (b : β) (h' : mh), Rs = some (b, h') → gN h ≤ gN h' ∧ gM h ≤ gM h' ∧
    ∀ (p : Program) (e : Env) (R : Room) (s : State) (m : MethodId) (args : Array Value) (below : List Frame) (meth : Method) (c : Code) (Q : State → Prop),
      cx G y cc nL rt d p R s m args meth c → s.heap.size = gB G + gN h0 → gN h' - gN h0 ≤ R.cells → gM h' - gM h0 ≤ R.slots → Rt G cc rt h0 h' (lf b) p e R s m args below meth c Q →
      ∀ (H : Heap) (locs : List Loc) (lA : Array Slot), gN h0 ≤ gN h → gM h0 ≤ gM h → rel G h s H locs → lv_has lA nL ls → W p (gl G) e R s m args below meth c H locs (gN h - gN h0) (gM h - gM h0) Q (F0 m pc lA st)
/-- one step that leaves the heap -/
def ev_S (G : gx) (y : MethodName) (cc : ByteArray) (nL : Nat) (rt : Option FieldType) (d : Nat) (pc : Nat) (ls : List (Nat × Value)) (st : List Value) (pc' : Nat) (ls' : List (Nat × Value)) (st' : List Value) : Prop :=
  ∀ (p : Program) (e : Env) (R : Room) (s : State) (m : MethodId) (args : Array Value) (below : List Frame) (meth : Method) (c : Code) (Q : State → Prop) (H : Heap) (locs : List Loc) (cells slots : Nat) (lA : Array Slot),
    cx G y cc nL rt d p R s m args meth c → va_S (bA G) s.heap H locs → lv_has lA nL ls → (∀ lA' : Array Slot, lv_has lA' nL ls' → W p (gl G) e R s m args below meth c H locs cells slots Q (F0 m pc' lA' st')) → W p (gl G) e R s m args below meth c H locs cells slots Q (F0 m pc lA st)
/-- a branch -/
def ev_B (G : gx) (y : MethodName) (cc : ByteArray) (nL : Nat) (rt : Option FieldType) (d : Nat) (pc : Nat) (st : List Value) (cond : Prop) (pc1 pc2 : Nat) (st' : List Value) : Prop :=
  ∀ (p : Program) (e : Env) (R : Room) (s : State) (m : MethodId) (args : Array Value) (below : List Frame) (meth : Method) (c : Code) (Q : State → Prop) (H : Heap) (locs : List Loc) (cells slots : Nat) (lA : Array Slot),
    cx G y cc nL rt d p R s m args meth c → (cond → W p (gl G) e R s m args below meth c H locs cells slots Q (F0 m pc1 lA st')) → (¬ cond → W p (gl G) e R s m args below meth c H locs cells slots Q (F0 m pc2 lA st')) → W p (gl G) e R s m args below meth c H locs cells slots Q (F0 m pc lA st)
section EVR
variable {β γ : Type} {lf : β → Option Value} {G : gx} {y : MethodName} {cc : ByteArray} {nL : Nat} {rt : Option FieldType} {d : Nat} {h0 : mh} {pc pc' pc1 pc2 : Nat} {ls ls' : List (Nat × Value)} {st st' : List Value} {h : mh} {Rs R1 R2 : Option (β × mh)}
theorem ev_step (hs : ev_S G y cc nL rt d pc ls st pc' ls' st') (k : Ev lf G y cc nL rt d h0 pc' ls' st' h Rs) : Ev lf G y cc nL rt d h0 pc ls st h Rs := by
  intro b h' hr
  obtain ⟨k1, k2, k3⟩ := k b h' hr
  refine ⟨k1, k2, fun p e R s m args below meth c Q hc hz hR1 hR2 ht H locs lA i1 i2 hrel hl => ?_⟩
  exact hs p e R s m args below meth c Q H locs _ _ lA hc hrel.2 hl (fun lA' hl' => k3 p e R s m args below meth c Q hc hz hR1 hR2 ht H locs lA' i1 i2 hrel hl')
theorem ev_br {cond : Prop} [Decidable cond] (hs : ev_B G y cc nL rt d pc st cond pc1 pc2 st') (kt : cond → Ev lf G y cc nL rt d h0 pc1 ls st' h R1) (kf : ¬ cond → Ev lf G y cc nL rt d h0 pc2 ls st' h R2) : Ev lf G y cc nL rt d h0 pc ls st h (if cond then R1 else R2) := by
  intro b h' hr
  by_cases hc : cond
  · rw [if_pos hc] at hr
    obtain ⟨k1, k2, k3⟩ := kt hc b h' hr
    refine ⟨k1, k2, fun p e R s m args below meth c Q hx hz hR1 hR2 ht H locs lA i1 i2 hrel hl => ?_⟩
    exact hs p e R s m args below meth c Q H locs _ _ lA hx (fun _ => k3 p e R s m args below meth c Q hx hz hR1 hR2 ht H locs lA i1 i2 hrel hl) (fun q => absurd hc q)
  · rw [if_neg hc] at hr
    obtain ⟨k1, k2, k3⟩ := kf hc b h' hr
    refine ⟨k1, k2, fun p e R s m args below meth c Q hx hz hR1 hR2 ht H locs lA i1 i2 hrel hl => ?_⟩
    exact hs p e R s m args below meth c Q H locs _ _ lA hx (fun q => absurd q hc) (fun _ => k3 p e R s m args below meth c Q hx hz hR1 hR2 ht H locs lA i1 i2 hrel hl)
/-- fewer locals, in any order -/
theorem ev_sub (ks : List Nat) (hl : lv_pick ls ks = ls') (k : Ev lf G y cc nL rt d h0 pc ls' st h Rs) : Ev lf G y cc nL rt d h0 pc ls st h Rs := by
  intro b h' hr
  obtain ⟨k1, k2, k3⟩ := k b h' hr
  exact ⟨k1, k2, fun p e R s m args below meth c Q hx hz hR1 hR2 ht H locs lA i1 i2 hrel hh => k3 p e R s m args below meth c Q hx hz hR1 hR2 ht H locs lA i1 i2 hrel (lv_sub hh ks hl)⟩
theorem wx_size {h0 : mh} {p : Program} {l : Launch} {e : Env} {R : Room} {s : State} {m : MethodId} {args : Array Value} {below : List Frame} {meth : Method} {c : Code} {Q : State → Prop} {H : Heap} {locs : List Loc} {slots : Nat} {g : JFrame} (hrel : rel G h s H locs) (hz : s.heap.size = gB G + gN h0) (i1 : gN h0 ≤ gN h)
    (k : H.size = gB G + gN h → W p l e R s m args below meth c H locs (gN h - gN h0) slots Q g) : W p l e R s m args below meth c H locs (gN h - gN h0) slots Q g := by
  intro T hT X
  refine k ?_ T hT X
  have h1 := X.heapSize
  rw [hT, hz] at h1
  have h2 : gB G + gN h ≤ H.size := by
    rcases Nat.eq_or_lt_of_le i1 with q | q
    · rw [← q, ← hz]; exact hrel.2.1
    · have h3 := (hrel.1 (gN h - 1) _ (wo_get (by omega))).lt
      dsimp only at h3
      omega
  omega
theorem ev_none : Ev lf G y cc nL rt d h0 pc ls st h none := fun _ _ h => by cases h
/-- a value gets a name -/
def lt {α δ : Type} (v : α) (F : α → δ) : δ := F v
theorem ev_let {α : Type} {v : α} {F : α → Option (β × mh)} (k : Ev lf G y cc nL rt d h0 pc ls st h (F v)) : Ev lf G y cc nL rt d h0 pc ls st h (lt v F) := k
end EVR
/-- the answers' kinds -/
def lI (x : Int32) : Option Value := some (.int x)
def lL (x : Int64) : Option Value := some (.long x)
def lR (G : gx) (a : Nat) : Option Value := some (.ref (gB G + a))
def lV (_ : Unit) : Option Value := none
def lS (G : gx) (a : Nat) : Option Value := some (.ref (gK G a))
section EVS
variable {G : gx} {y : MethodName} {cc : ByteArray} {nL : Nat} {rt : Option FieldType} {d : Nat} {pc : Nat} {ls ls' : List (Nat × Value)} {st : List Value}
theorem st_iconst {n : Int} {v : Int32} (hd : decode cc pc = .ok (.iconst n, 1)) (hv : Int32.ofInt n = v) : ev_S G y cc nL rt d pc ls st (pc + 1) ls (.int v :: st) := fun _ _ _ _ _ _ _ _ _ _ _ _ _ _ _ hc _ hl k => lv_iconst hc.1 hc.2.1 hd hv (k _ hl)
theorem st_bipush {n : Int} {v : Int32} (hd : decode cc pc = .ok (.bipush n, 2)) (hv : (Int8.ofInt n).toInt32 = v) : ev_S G y cc nL rt d pc ls st (pc + 2) ls (.int v :: st) := fun _ _ _ _ _ _ _ _ _ _ _ _ _ _ _ hc _ hl k => lv_bipush hc.1 hc.2.1 hd hv (k _ hl)
theorem st_sipush {n : Int} {v : Int32} (hd : decode cc pc = .ok (.sipush n, 3)) (hv : (Int16.ofInt n).toInt32 = v) : ev_S G y cc nL rt d pc ls st (pc + 3) ls (.int v :: st) := fun _ _ _ _ _ _ _ _ _ _ _ _ _ _ _ hc _ hl k => lv_sipush hc.1 hc.2.1 hd hv (k _ hl)
theorem st_lconst {n : Fin 2} {v : Int64} (hd : decode cc pc = .ok (.lconst n, 1)) (hv : Int64.ofNat (n : Nat) = v) : ev_S G y cc nL rt d pc ls st (pc + 1) ls (.long v :: st) := fun _ _ _ _ _ _ _ _ _ _ _ _ _ _ _ hc _ hl k => lv_lconst hc.1 hc.2.1 hd hv (k _ hl)
theorem st_ldc {i : Nat} {v : Int32} (hd : decode cc pc = .ok (.ldc i, 2)) (hw : Cond.constant y.cls i v ∈ gws) : ev_S G y cc nL rt d pc ls st (pc + 2) ls (.int v :: st) := fun _ _ _ _ _ _ _ _ _ _ _ _ _ _ _ hc _ hl k => lv_ldc hc.1 hc.2.1 hc.2.2.2.1 (hc.2.2.2.2.1 _ hw) hd (k _ hl)
theorem st_ldcw {i : Nat} {v : Int32} (hd : decode cc pc = .ok (.ldc_w i, 3)) (hw : Cond.constant y.cls i v ∈ gws) : ev_S G y cc nL rt d pc ls st (pc + 3) ls (.int v :: st) := fun _ _ _ _ _ _ _ _ _ _ _ _ _ _ _ hc _ hl k => lv_ldcw hc.1 hc.2.1 hc.2.2.2.1 (hc.2.2.2.2.1 _ hw) hd (k _ hl)
theorem st_ldc2 {i : Nat} {v : Int64} (hd : decode cc pc = .ok (.ldc2_w i, 3)) (hw : Cond.constantLong y.cls i v ∈ gws) : ev_S G y cc nL rt d pc ls st (pc + 3) ls (.long v :: st) := fun _ _ _ _ _ _ _ _ _ _ _ _ _ _ _ hc _ hl k => lv_ldc2 hc.1 hc.2.1 hc.2.2.2.1 (hc.2.2.2.2.1 _ hw) hd (k _ hl)
theorem st_ldcs {i j : Nat} {tx : String} (hd : decode cc pc = .ok (.ldc i, 2)) (hw : (y.cls, i, tx, j) ∈ sref) : ev_S G y cc nL rt d pc ls st (pc + 2) ls (.ref (gK G j) :: st) := fun _ _ _ _ _ _ _ _ _ _ _ _ _ _ _ hc _ hl k => va_ldcS hc.1 hc.2.1 hc.2.2.2.1 (hc.2.2.2.2.2.1.2.2.2.2.1 _ hw) hd (k _ hl)
theorem st_iload_n {q : Fin 4} {i j : Nat} {x : Int32} (hd : decode cc pc = .ok (.iload_n q, 1)) (hi : (q : Nat) = i) (hj : ls[j]? = some (i, .int x)) : ev_S G y cc nL rt d pc ls st (pc + 1) ls (.int x :: st) := fun _ _ _ _ _ _ _ _ _ _ _ _ _ _ _ hc _ hl k => lv_iload_n hc.1 hc.2.1 hd hi (lv_at hl j hj) (k _ hl)
theorem st_iload {i j : Nat} {x : Int32} (hd : decode cc pc = .ok (.iload i, 2)) (hj : ls[j]? = some (i, .int x)) : ev_S G y cc nL rt d pc ls st (pc + 2) ls (.int x :: st) := fun _ _ _ _ _ _ _ _ _ _ _ _ _ _ _ hc _ hl k => lv_iload hc.1 hc.2.1 hd (lv_at hl j hj) (k _ hl)
theorem st_lload_n {q : Fin 4} {i j : Nat} {x : Int64} (hd : decode cc pc = .ok (.lload_n q, 1)) (hi : (q : Nat) = i) (hj : ls[j]? = some (i, .long x)) : ev_S G y cc nL rt d pc ls st (pc + 1) ls (.long x :: st) := fun _ _ _ _ _ _ _ _ _ _ _ _ _ _ _ hc _ hl k => lv_lload_n hc.1 hc.2.1 hd hi (lv_at hl j hj) (k _ hl)
theorem st_lload {i j : Nat} {x : Int64} (hd : decode cc pc = .ok (.lload i, 2)) (hj : ls[j]? = some (i, .long x)) : ev_S G y cc nL rt d pc ls st (pc + 2) ls (.long x :: st) := fun _ _ _ _ _ _ _ _ _ _ _ _ _ _ _ hc _ hl k => lv_lload hc.1 hc.2.1 hd (lv_at hl j hj) (k _ hl)
theorem st_aload_n {q : Fin 4} {i j x : Nat} (hd : decode cc pc = .ok (.aload_n q, 1)) (hi : (q : Nat) = i) (hj : ls[j]? = some (i, .ref x)) : ev_S G y cc nL rt d pc ls st (pc + 1) ls (.ref x :: st) := fun _ _ _ _ _ _ _ _ _ _ _ _ _ _ _ hc _ hl k => lv_aload_n hc.1 hc.2.1 hd hi (lv_at hl j hj) (k _ hl)
theorem st_aload {i j x : Nat} (hd : decode cc pc = .ok (.aload i, 2)) (hj : ls[j]? = some (i, .ref x)) : ev_S G y cc nL rt d pc ls st (pc + 2) ls (.ref x :: st) := fun _ _ _ _ _ _ _ _ _ _ _ _ _ _ _ hc _ hl k => lv_aload hc.1 hc.2.1 hd (lv_at hl j hj) (k _ hl)
theorem st_istore_n {q : Fin 4} {i : Nat} {x : Int32} (hd : decode cc pc = .ok (.istore_n q, 1)) (hi : (q : Nat) = i) (hn : i < nL) (hl' : (i, Value.int x) :: ls.filter (fun q => !(q.1 == i) && !(q.1 + 1 == i && q.2.category == 2)) = ls') : ev_S G y cc nL rt d pc ls (.int x :: st) (pc + 1) ls' st := fun _ _ _ _ _ _ _ _ _ _ _ _ _ _ _ hc _ hl k => lv_istore_n hc.1 hc.2.1 hd hi hl hn hl' k
theorem st_istore {i : Nat} {x : Int32} (hd : decode cc pc = .ok (.istore i, 2)) (hn : i < nL) (hl' : (i, Value.int x) :: ls.filter (fun q => !(q.1 == i) && !(q.1 + 1 == i && q.2.category == 2)) = ls') : ev_S G y cc nL rt d pc ls (.int x :: st) (pc + 2) ls' st := fun _ _ _ _ _ _ _ _ _ _ _ _ _ _ _ hc _ hl k => lv_istore hc.1 hc.2.1 hd hl hn hl' k
theorem st_lstore_n {q : Fin 4} {i : Nat} {x : Int64} (hd : decode cc pc = .ok (.lstore_n q, 1)) (hi : (q : Nat) = i) (hn : i + 1 < nL) (hl' : (i, Value.long x) :: ls.filter (fun q => !(q.1 == i) && (!(q.1 == i + 1) && !(q.1 + 1 == i && q.2.category == 2))) = ls') : ev_S G y cc nL rt d pc ls (.long x :: st) (pc + 1) ls' st := fun _ _ _ _ _ _ _ _ _ _ _ _ _ _ _ hc _ hl k => lv_lstore_n hc.1 hc.2.1 hd hi hl hn hl' k
theorem st_lstore {i : Nat} {x : Int64} (hd : decode cc pc = .ok (.lstore i, 2)) (hn : i + 1 < nL) (hl' : (i, Value.long x) :: ls.filter (fun q => !(q.1 == i) && (!(q.1 == i + 1) && !(q.1 + 1 == i && q.2.category == 2))) = ls') : ev_S G y cc nL rt d pc ls (.long x :: st) (pc + 2) ls' st := fun _ _ _ _ _ _ _ _ _ _ _ _ _ _ _ hc _ hl k => lv_lstore hc.1 hc.2.1 hd hl hn hl' k
theorem st_astore_n {q : Fin 4} {i x : Nat} (hd : decode cc pc = .ok (.astore_n q, 1)) (hi : (q : Nat) = i) (hn : i < nL) (hl' : (i, Value.ref x) :: ls.filter (fun q => !(q.1 == i) && !(q.1 + 1 == i && q.2.category == 2)) = ls') : ev_S G y cc nL rt d pc ls (.ref x :: st) (pc + 1) ls' st := fun _ _ _ _ _ _ _ _ _ _ _ _ _ _ _ hc _ hl k => lv_astore_n hc.1 hc.2.1 hd hi hl hn hl' k
theorem st_astore {i x : Nat} (hd : decode cc pc = .ok (.astore i, 2)) (hn : i < nL) (hl' : (i, Value.ref x) :: ls.filter (fun q => !(q.1 == i) && !(q.1 + 1 == i && q.2.category == 2)) = ls') : ev_S G y cc nL rt d pc ls (.ref x :: st) (pc + 2) ls' st := fun _ _ _ _ _ _ _ _ _ _ _ _ _ _ _ hc _ hl k => lv_astore hc.1 hc.2.1 hd hl hn hl' k
theorem st_iinc {i j : Nat} {n : Int} {x v : Int32} (hd : decode cc pc = .ok (.iinc i n, 3)) (hj : ls[j]? = some (i, .int x)) (hv : x + Int32.ofInt n = v) (hn : i < nL) (hl' : (i, Value.int v) :: ls.filter (fun q => !(q.1 == i) && !(q.1 + 1 == i && q.2.category == 2)) = ls') : ev_S G y cc nL rt d pc ls st (pc + 3) ls' st := fun _ _ _ _ _ _ _ _ _ _ _ _ _ _ _ hc _ hl k => lv_iinc hc.1 hc.2.1 hd hl hj hv hn hl' k
theorem st_iadd {a b : Int32} (hd : decode cc pc = .ok (.iadd, 1)) : ev_S G y cc nL rt d pc ls (.int b :: .int a :: st) (pc + 1) ls (.int (a + b) :: st) := fun _ _ _ _ _ _ _ _ _ _ _ _ _ _ _ hc _ hl k => lv_iadd hc.1 hc.2.1 hd (k _ hl)
theorem st_isub {a b : Int32} (hd : decode cc pc = .ok (.isub, 1)) : ev_S G y cc nL rt d pc ls (.int b :: .int a :: st) (pc + 1) ls (.int (a - b) :: st) := fun _ _ _ _ _ _ _ _ _ _ _ _ _ _ _ hc _ hl k => lv_isub hc.1 hc.2.1 hd (k _ hl)
theorem st_imul {a b : Int32} (hd : decode cc pc = .ok (.imul, 1)) : ev_S G y cc nL rt d pc ls (.int b :: .int a :: st) (pc + 1) ls (.int (a * b) :: st) := fun _ _ _ _ _ _ _ _ _ _ _ _ _ _ _ hc _ hl k => lv_imul hc.1 hc.2.1 hd (k _ hl)
theorem st_iand {a b : Int32} (hd : decode cc pc = .ok (.iand, 1)) : ev_S G y cc nL rt d pc ls (.int b :: .int a :: st) (pc + 1) ls (.int (a &&& b) :: st) := fun _ _ _ _ _ _ _ _ _ _ _ _ _ _ _ hc _ hl k => lv_iand hc.1 hc.2.1 hd (k _ hl)
theorem st_ior {a b : Int32} (hd : decode cc pc = .ok (.ior, 1)) : ev_S G y cc nL rt d pc ls (.int b :: .int a :: st) (pc + 1) ls (.int (a ||| b) :: st) := fun _ _ _ _ _ _ _ _ _ _ _ _ _ _ _ hc _ hl k => lv_ior hc.1 hc.2.1 hd (k _ hl)
theorem st_ixor {a b : Int32} (hd : decode cc pc = .ok (.ixor, 1)) : ev_S G y cc nL rt d pc ls (.int b :: .int a :: st) (pc + 1) ls (.int (a ^^^ b) :: st) := fun _ _ _ _ _ _ _ _ _ _ _ _ _ _ _ hc _ hl k => lv_ixor hc.1 hc.2.1 hd (k _ hl)
theorem st_ineg {a : Int32} (hd : decode cc pc = .ok (.ineg, 1)) : ev_S G y cc nL rt d pc ls (.int a :: st) (pc + 1) ls (.int (-a) :: st) := fun _ _ _ _ _ _ _ _ _ _ _ _ _ _ _ hc _ hl k => lv_ineg hc.1 hc.2.1 hd (k _ hl)
theorem st_ishl {a b : Int32} (hd : decode cc pc = .ok (.ishl, 1)) : ev_S G y cc nL rt d pc ls (.int b :: .int a :: st) (pc + 1) ls (.int (a <<< (b &&& 31)) :: st) := fun _ _ _ _ _ _ _ _ _ _ _ _ _ _ _ hc _ hl k => lv_ishl hc.1 hc.2.1 hd (k _ hl)
theorem st_ishr {a b : Int32} (hd : decode cc pc = .ok (.ishr, 1)) : ev_S G y cc nL rt d pc ls (.int b :: .int a :: st) (pc + 1) ls (.int (a >>> (b &&& 31)) :: st) := fun _ _ _ _ _ _ _ _ _ _ _ _ _ _ _ hc _ hl k => lv_ishr hc.1 hc.2.1 hd (k _ hl)
/-- the shift down by zeros -/
def ush (a b : Int32) : Int32 := (a.toUInt32 >>> (b.toUInt32 &&& Int32.toUInt32 31)).toInt32
theorem st_iushr {a b : Int32} (hd : decode cc pc = .ok (.iushr, 1)) : ev_S G y cc nL rt d pc ls (.int b :: .int a :: st) (pc + 1) ls (.int (ush a b) :: st) := fun _ _ _ _ _ _ _ _ _ _ _ _ _ _ _ hc _ hl k => lv_iushr hc.1 hc.2.1 hd rfl (k _ hl)
theorem st_ladd {a b : Int64} (hd : decode cc pc = .ok (.ladd, 1)) : ev_S G y cc nL rt d pc ls (.long b :: .long a :: st) (pc + 1) ls (.long (a + b) :: st) := fun _ _ _ _ _ _ _ _ _ _ _ _ _ _ _ hc _ hl k => lv_ladd hc.1 hc.2.1 hd (k _ hl)
theorem st_lmul {a b : Int64} (hd : decode cc pc = .ok (.lmul, 1)) : ev_S G y cc nL rt d pc ls (.long b :: .long a :: st) (pc + 1) ls (.long (a * b) :: st) := fun _ _ _ _ _ _ _ _ _ _ _ _ _ _ _ hc _ hl k => lv_lmul hc.1 hc.2.1 hd (k _ hl)
theorem st_lcmp {a b : Int64} (hd : decode cc pc = .ok (.lcmp, 1)) : ev_S G y cc nL rt d pc ls (.long b :: .long a :: st) (pc + 1) ls (.int (lg_cmp a b) :: st) := fun _ _ _ _ _ _ _ _ _ _ _ _ _ _ _ hc _ hl k => W.lcmp hc.1 hc.2.1 hd (k _ hl)
theorem st_i2l {a : Int32} (hd : decode cc pc = .ok (.i2l, 1)) : ev_S G y cc nL rt d pc ls (.int a :: st) (pc + 1) ls (.long a.toInt64 :: st) := fun _ _ _ _ _ _ _ _ _ _ _ _ _ _ _ hc _ hl k => lv_i2l hc.1 hc.2.1 hd rfl (k _ hl)
theorem st_i2b {a : Int32} (hd : decode cc pc = .ok (.i2b, 1)) : ev_S G y cc nL rt d pc ls (.int a :: st) (pc + 1) ls (.int a.toInt8.toInt32 :: st) := fun _ _ _ _ _ _ _ _ _ _ _ _ _ _ _ hc _ hl k => lv_i2b hc.1 hc.2.1 hd rfl (k _ hl)
theorem st_i2c {a : Int32} (hd : decode cc pc = .ok (.i2c, 1)) : ev_S G y cc nL rt d pc ls (.int a :: st) (pc + 1) ls (.int (a.toUInt32 % 65536).toInt32 :: st) := fun _ _ _ _ _ _ _ _ _ _ _ _ _ _ _ hc _ hl k => lv_i2c hc.1 hc.2.1 hd rfl (k _ hl)
theorem st_dup {v : Value} (hd : decode cc pc = .ok (.dup, 1)) (hv : v.category = 1) : ev_S G y cc nL rt d pc ls (v :: st) (pc + 1) ls (v :: v :: st) := fun _ _ _ _ _ _ _ _ _ _ _ _ _ _ _ hc _ hl k => lv_dup hc.1 hc.2.1 hd hv (k _ hl)
theorem st_dup2 {v w : Value} (hd : decode cc pc = .ok (.dup2, 1)) (hv : v.category = 1) (hw : w.category = 1) : ev_S G y cc nL rt d pc ls (v :: w :: st) (pc + 1) ls (v :: w :: v :: w :: st) := fun _ _ _ _ _ _ _ _ _ _ _ _ _ _ _ hc _ hl k => lv_dup2_11 hc.1 hc.2.1 hd hv hw (k _ hl)
theorem st_pop {v : Value} (hd : decode cc pc = .ok (.pop, 1)) (hv : v.category = 1) : ev_S G y cc nL rt d pc ls (v :: st) (pc + 1) ls st := fun _ _ _ _ _ _ _ _ _ _ _ _ _ _ _ hc _ hl k => lv_pop hc.1 hc.2.1 hd hv (k _ hl)
theorem st_goto {off : Int} {tgt : Nat} (hd : decode cc pc = .ok (.goto off, 3)) (ht : (pc : Int) + off = (tgt : Int)) : ev_S G y cc nL rt d pc ls st tgt ls st := fun _ _ _ _ _ _ _ _ _ _ _ _ _ _ _ hc _ hl k => lv_goto hc.1 hc.2.1 hd ht (k _ hl)
theorem br_icmp_eq {a b : Int32} {off : Int} {tgt : Nat} (hd : decode cc pc = .ok (.if_icmp .eq off, 3)) (ht : (pc : Int) + off = (tgt : Int)) : ev_B G y cc nL rt d pc (.int b :: .int a :: st) (a = b) tgt (pc + 3) st := fun _ _ _ _ _ _ _ _ _ _ _ _ _ _ _ hc k1 k2 => lv_icmp_eq hc.1 hc.2.1 hd ht k1 k2
theorem br_icmp_ne {a b : Int32} {off : Int} {tgt : Nat} (hd : decode cc pc = .ok (.if_icmp .ne off, 3)) (ht : (pc : Int) + off = (tgt : Int)) : ev_B G y cc nL rt d pc (.int b :: .int a :: st) (a = b) (pc + 3) tgt st := fun _ _ _ _ _ _ _ _ _ _ _ _ _ _ _ hc k1 k2 => lv_icmp_ne hc.1 hc.2.1 hd ht k2 k1
theorem br_icmp_lt {a b : Int32} {off : Int} {tgt : Nat} (hd : decode cc pc = .ok (.if_icmp .lt off, 3)) (ht : (pc : Int) + off = (tgt : Int)) : ev_B G y cc nL rt d pc (.int b :: .int a :: st) (a < b) tgt (pc + 3) st := fun _ _ _ _ _ _ _ _ _ _ _ _ _ _ _ hc k1 k2 => lv_icmp_lt hc.1 hc.2.1 hd ht k1 k2
theorem br_icmp_ge {a b : Int32} {off : Int} {tgt : Nat} (hd : decode cc pc = .ok (.if_icmp .ge off, 3)) (ht : (pc : Int) + off = (tgt : Int)) : ev_B G y cc nL rt d pc (.int b :: .int a :: st) (b ≤ a) tgt (pc + 3) st := fun _ _ _ _ _ _ _ _ _ _ _ _ _ _ _ hc k1 k2 => lv_icmp_ge hc.1 hc.2.1 hd ht k1 k2
theorem br_icmp_gt {a b : Int32} {off : Int} {tgt : Nat} (hd : decode cc pc = .ok (.if_icmp .gt off, 3)) (ht : (pc : Int) + off = (tgt : Int)) : ev_B G y cc nL rt d pc (.int b :: .int a :: st) (b < a) tgt (pc + 3) st := fun _ _ _ _ _ _ _ _ _ _ _ _ _ _ _ hc k1 k2 => lv_icmp_gt hc.1 hc.2.1 hd ht k1 k2
theorem br_icmp_le {a b : Int32} {off : Int} {tgt : Nat} (hd : decode cc pc = .ok (.if_icmp .le off, 3)) (ht : (pc : Int) + off = (tgt : Int)) : ev_B G y cc nL rt d pc (.int b :: .int a :: st) (a ≤ b) tgt (pc + 3) st := fun _ _ _ _ _ _ _ _ _ _ _ _ _ _ _ hc k1 k2 => lv_icmp_le hc.1 hc.2.1 hd ht k1 k2
theorem br_if_eq {a : Int32} {off : Int} {tgt : Nat} (hd : decode cc pc = .ok (.ifCond .eq off, 3)) (ht : (pc : Int) + off = (tgt : Int)) : ev_B G y cc nL rt d pc (.int a :: st) (a = 0) tgt (pc + 3) st := fun _ _ _ _ _ _ _ _ _ _ _ _ _ _ _ hc k1 k2 => lv_if_eq hc.1 hc.2.1 hd ht k1 k2
theorem br_if_ne {a : Int32} {off : Int} {tgt : Nat} (hd : decode cc pc = .ok (.ifCond .ne off, 3)) (ht : (pc : Int) + off = (tgt : Int)) : ev_B G y cc nL rt d pc (.int a :: st) (a = 0) (pc + 3) tgt st := fun _ _ _ _ _ _ _ _ _ _ _ _ _ _ _ hc k1 k2 => lv_if_ne hc.1 hc.2.1 hd ht k2 k1
theorem br_if_lt {a : Int32} {off : Int} {tgt : Nat} (hd : decode cc pc = .ok (.ifCond .lt off, 3)) (ht : (pc : Int) + off = (tgt : Int)) : ev_B G y cc nL rt d pc (.int a :: st) (a < 0) tgt (pc + 3) st := fun _ _ _ _ _ _ _ _ _ _ _ _ _ _ _ hc k1 k2 => lv_if_lt hc.1 hc.2.1 hd ht k1 k2
theorem br_if_ge {a : Int32} {off : Int} {tgt : Nat} (hd : decode cc pc = .ok (.ifCond .ge off, 3)) (ht : (pc : Int) + off = (tgt : Int)) : ev_B G y cc nL rt d pc (.int a :: st) (0 ≤ a) tgt (pc + 3) st := fun _ _ _ _ _ _ _ _ _ _ _ _ _ _ _ hc k1 k2 => lv_if_ge hc.1 hc.2.1 hd ht k1 k2
theorem br_if_gt {a : Int32} {off : Int} {tgt : Nat} (hd : decode cc pc = .ok (.ifCond .gt off, 3)) (ht : (pc : Int) + off = (tgt : Int)) : ev_B G y cc nL rt d pc (.int a :: st) (0 < a) tgt (pc + 3) st := fun _ _ _ _ _ _ _ _ _ _ _ _ _ _ _ hc k1 k2 => lv_if_gt hc.1 hc.2.1 hd ht k1 k2
theorem br_if_le {a : Int32} {off : Int} {tgt : Nat} (hd : decode cc pc = .ok (.ifCond .le off, 3)) (ht : (pc : Int) + off = (tgt : Int)) : ev_B G y cc nL rt d pc (.int a :: st) (a ≤ 0) tgt (pc + 3) st := fun _ _ _ _ _ _ _ _ _ _ _ _ _ _ _ hc k1 k2 => lv_if_le hc.1 hc.2.1 hd ht k1 k2
end EVS
