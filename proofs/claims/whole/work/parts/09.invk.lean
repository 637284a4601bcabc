/-! CALLS: Iv says that the instruction at pc calls y' with av, the rest st staying on the stack; ev_call goes on behind it -/
def Iv (G : gx) (y : MethodName) (cc : ByteArray) (nL : Nat) (rt : Option FieldType) (d : Nat) (pc : Nat) (h : mh) (y' : MethodName) (cc' : ByteArray) (nL' : Nat) (rt' : Option FieldType) (av st0 st : List Value) : Prop :=
  ∀ (p : Program) (e : Env) (R : Room) (s : State) (m : MethodId) (args : Array Value) (below : List Frame) (meth : Method) (c : Code) (H : Heap) (locs : List Loc) (cells slots : Nat) (lA : Array Slot) (rm : Room) (mc ms : Nat) (Pc : Array Value → State → Prop) (Qc : Array Value → State → Outcome → State → Prop) (free : Addr → Prop),
    cx G y cc nL rt d p R s m args meth c → rel G h s H locs → lA.size = nL → Met (gl G) y' (.code y' cc' nL' rt' :: gws) rm Pc Qc mc ms free → rm.cells = mc → rm.slots = ms → rm.frames + 1 ≤ R.frames → 8 + (nL' + 11) + rm.locals ≤ R.locals → FrameBlind Pc → (∀ U : State, U.heap = H → s.WarmedH U.vm → Pc av.toArray U) → (cells + mc ≤ R.cells ∧ slots + ms ≤ R.slots) →
    va_Run p (gl G) e R s m args below meth c H locs cells slots mc ms (F0 m pc lA st0) st (Qc av.toArray) free
def bd {γ δ : Type} (R1 : Option (γ × mh)) (F : γ → mh → Option δ) : Option δ := match R1 with
  | some (x, h1) => F x h1
  | none => none
section EVC
variable {β γ : Type} {lf : β → Option Value} {lf' : γ → Option Value} {G : gx} {y y' : MethodName} {cc cc' : ByteArray} {nL nL' : Nat} {rt rt' : Option FieldType} {d d' : Nat} {h0 : mh} {pc idx : Nat} {ls : List (Nat × Value)} {st st0 av : List Value} {h : mh}
theorem ev_call {R1 : Option (γ × mh)} {F : γ → mh → Option (β × mh)} (hv : Iv G y cc nL rt d pc h y' cc' nL' rt' av st0 st) (hC : Ct lf' G y' cc' nL' rt' d' av h R1) (hd1 : d' + 1 ≤ d) (hn : nL' ≤ 40) (kk : ∀ (x : γ) (h1 : mh), Ev lf G y cc nL rt d h0 (pc + 3) ls ((lf' x).toList ++ st) h1 (F x h1)) : Ev lf G y cc nL rt d h0 pc ls st0 h (bd R1 F) := by
  intro b h' hr
  cases hR : R1 with
  | none => rw [hR] at hr; cases hr
  | some q =>
    obtain ⟨x, h1⟩ := q
    rw [hR] at hr
    obtain ⟨c1, c2, hM⟩ := hC x h1 hR
    obtain ⟨k1, k2, k3⟩ := kk x h1 b h' hr
    refine ⟨by omega, by omega, fun p e R s m args below meth c Q hx hz hR1 hR2 ht H locs lA i1 i2 hrel hl => ?_⟩
    refine wx_size hrel hz i1 (fun hsz => ?_)
    have x7 := hx.2.2.2.2.2.2.1
    have x8 := hx.2.2.2.2.2.2.2.1
    have hrun := hv p e R s m args below meth c H locs (gN h - gN h0) (gM h - gM h0) lA _ _ _ _ _ _ hx hrel hl.1 hM rfl rfl (by show d' + 1 ≤ R.frames; omega) (by show 8 + (nL' + 11) + 64 * d' ≤ R.locals; omega)
      (fun a U g mk q => ⟨q.1, q.2.1, q.2.2.1, q.2.2.2.same rfl rfl⟩)
      (fun U hU hW => ⟨rfl, by rw [hU]; exact hsz, by rw [hU]; exact hrel.1, hx.2.2.2.2.2.1.enter hW (by rw [hU]; exact hrel.2)⟩) ⟨by omega, by omega⟩
    intro T hT X
    obtain ⟨v, st₀, t, T', L, f0, X', hL, f1, f2, ⟨hv1, hP1, hF1⟩, hgo⟩ := hrun T hT X
    have hv2 : v = lf' x := Outcome.returned.inj hv1
    subst hv2
    have z1 : gN h - gN h0 + (gN h1 - gN h) = gN h1 - gN h0 := by omega
    have z2 : gM h - gM h0 + (gM h1 - gM h) = gM h1 - gM h0 := by omega
    rw [z1, z2] at X'
    have hS1 : va_S (bA G) s.heap T'.heap (locs ++ L) := by
      obtain ⟨s1, s2, s3⟩ := hrel.2
      obtain ⟨t1, t2⟩ := hF1
      rw [f0] at t1 t2
      refine ⟨by rw [f1]; exact Nat.le_trans s1 t1, fun q h1 h2 => by rw [f1, t2 q (Nat.lt_of_lt_of_le h1 s1) h2]; exact s2 q h1 h2, fun q hq => ?_⟩
      rcases List.mem_append.mp hq with r | r
      · exact s3 q r
      · exact hL q r
    obtain ⟨t9, a1, b1⟩ := k3 p e R s m args below meth c Q hx hz hR1 hR2 ht T'.heap (locs ++ L) lA (by omega) (by omega) ⟨by rw [f1]; exact hP1, hS1⟩ hl T' rfl X'
    exact ⟨t9, hgo t9 a1, b1⟩
/-- a method as the tables name it -/
def mk9 (y' : MethodName) (cc' : ByteArray) (nL' : Nat) (rt' : Option FieldType) (n : Nat) : Prop := Cond.code y' cc' nL' rt' ∈ gws ∧ Cond.initialized y'.cls ∈ gws ∧ (y'.cls ≠ "java/lang/invoke/MethodHandle" ∧ y'.cls ≠ "java/lang/invoke/VarHandle") ∧ (parseMethodDescriptor y'.desc).map (fun d => d.parameters.length) = some n
def lk9 (own : String) (idx : Nat) (y' : MethodName) : Prop := Cond.methodLink own idx y' ∈ gws ∨ ∃ host, Cond.methodLinkNest own idx y' host ∈ nws
theorem good_cons {Ts : List Cond} (h1 : Cond.code y' cc' nL' rt' ∈ Ts) (h2 : ∀ w ∈ gws, w ∈ Ts) : GoodIn Ts (.code y' cc' nL' rt' :: gws) := by
  intro w hw
  rcases List.mem_cons.mp hw with rfl | hw
  · exact ⟨h1, good_of_word rfl⟩
  · exact gws_good h2 w hw
theorem len_of {n : Nat} (h : (parseMethodDescriptor y'.desc).map (fun d => d.parameters.length) = some n) : ∀ sig, parseMethodDescriptor y'.desc = some sig → n = sig.parameters.length := by
  intro sig hs
  rw [hs] at h
  exact (Option.some.inj h).symm
theorem mon0 {m : MethodId} {lA : Array Slot} {st st1 : List Value} (h : (st.map fun v => v.category).sum ≤ 8) : 2 * (F0 m pc lA st1).monitorRoom + (st.map fun v => v.category).sum ≤ 8 := by
  have e0 : (F0 m pc lA st1).monitorRoom = 0 := rfl
  rw [e0]
  omega
theorem iv_S {As : List Value} {n : Nat} (hm : mk9 y' cc' nL' rt' n) (hk : lk9 y.cls idx y') (hs : Cond.static y' ∈ gws) (hn : As.length = n) (hst : (st.map fun v => v.category).sum ≤ 8) (hs0 : st0 = As.reverse ++ st) (hd : decode cc pc = .ok (.invokestatic idx, 3)) : Iv G y cc nL rt d pc h y' cc' nL' rt' As st0 st := by
  intro p e R s m args below meth c H locs cells slots lA rm mc ms Pc Qc free hx hrel hA hM r1 r2 r3 r4 hbl hPc hf
  obtain ⟨x1, x2, x3, x4, x5, x6, -⟩ := hx
  obtain ⟨m1, m2, m3, m4⟩ := hm
  rcases hk with hk | ⟨host, hk⟩
  · exact va_runS (Ts := gws) ⟨x1, x2, x3, x4, x5⟩ hM ⟨⟨r1, r2, r3, r4, pay_in x5 (good_cons m1 (fun w h => h)), List.mem_cons_self, x5 _ m1, x5 _ m2, m3, len_of m4, x5 _ hk⟩, x5 _ hs⟩ ⟨hbl, hPc⟩ rfl hn hA hs0 (mon0 hst) hd hf
  · exact va_runSN (Ts := gws) ⟨x1, x2, x3, x4, x5⟩ hM ⟨⟨⟨r1, r2, r3, r4, pay_in x5 (good_cons m1 (fun w h => h)), List.mem_cons_self⟩, x5 _ m1, x5 _ m2, m3, len_of m4, va_Nw.use (nws_on hk) (x6.2.1 _ hk)⟩, x5 _ hs, trivial⟩ ⟨hbl, hPc⟩ rfl hn hA hs0 (mon0 hst) hd hf
theorem iv_I {As : List Value} {n a : Nat} (hm : mk9 y' cc' nL' none n) (hk : lk9 y.cls idx y') (hs : Cond.instanceMethod y' ∈ gws) (hi : y'.name = "<init>") (hn : As.length = n) (hst : (st.map fun v => v.category).sum ≤ 8) (hs0 : st0 = As.reverse ++ .ref a :: st) (hd : decode cc pc = .ok (.invokespecial idx, 3)) : Iv G y cc nL rt d pc h y' cc' nL' none (.ref a :: As) st0 st := by
  intro p e R s m args below meth c H locs cells slots lA rm mc ms Pc Qc free hx hrel hA hM r1 r2 r3 r4 hbl hPc hf
  obtain ⟨x1, x2, x3, x4, x5, x6, -⟩ := hx
  obtain ⟨m1, m2, m3, m4⟩ := hm
  rcases hk with hk | ⟨host, hk⟩
  · exact va_runI (Ts := gws) ⟨x1, x2, x3, x4, x5⟩ hM ⟨⟨r1, r2, r3, r4, pay_in x5 (good_cons m1 (fun w h => h)), List.mem_cons_self, x5 _ m1, x5 _ m2, m3, len_of m4, x5 _ hk⟩, hi, x5 _ hs⟩ ⟨hbl, hPc⟩ rfl hn hA hs0 (mon0 hst) hd hf
  · exact va_runIN (Ts := gws) ⟨x1, x2, x3, x4, x5⟩ hM ⟨⟨⟨r1, r2, r3, r4, pay_in x5 (good_cons m1 (fun w h => h)), List.mem_cons_self⟩, x5 _ m1, x5 _ m2, m3, len_of m4, va_Nw.use (nws_on hk) (x6.2.1 _ hk)⟩, hi, x5 _ hs⟩ ⟨hbl, hPc⟩ rfl hn hA hs0 (mon0 hst) hd hf
/-- a receiver of class ci -/
theorem iv_V {As : List Value} {n a ci : Nat} {r : vw_C} (hr : vwCl[ci]? = some r) (hm : mk9 y' cc' nL' rt' n) (hk : lk9 y.cls idx y') (hs : Cond.instanceMethod y' ∈ gws) (hse : Cond.selects r.1 y' y' ∈ gws) (ha : a < gN h) (hS : gS h a = (0, ci)) (hn : As.length = n) (hst : (st.map fun v => v.category).sum ≤ 8) (hs0 : st0 = As.reverse ++ .ref (gB G + a) :: st) (hd : decode cc pc = .ok (.invokevirtual idx, 3)) : Iv G y cc nL rt d pc h y' cc' nL' rt' (.ref (gB G + a) :: As) st0 st := by
  intro p e R s m args below meth c H locs cells slots lA rm mc ms Pc Qc free hx hrel hA hM r1 r2 r3 r4 hbl hPc hf
  obtain ⟨x1, x2, x3, x4, x5, x6, -⟩ := hx
  obtain ⟨m1, m2, m3, m4⟩ := hm
  have hrecv := va_recv (q0 := a) x6.1 hrel.1 hr (by rw [wo_get ha, cl_obj hS])
  rcases hk with hk | ⟨host, hk⟩
  · exact va_runV (Ts := gws) ⟨x1, x2, x3, x4, x5⟩ hM ⟨⟨r1, r2, r3, r4, pay_in x5 (good_cons m1 (fun w h => h)), List.mem_cons_self, x5 _ m1, x5 _ m2, m3, len_of m4, x5 _ hk⟩, x5 _ hs, x5 _ hse⟩ ⟨hbl, hrecv, hPc⟩ rfl hn hA hs0 (mon0 hst) hd hf
  · exact va_runVN (Ts := gws) ⟨x1, x2, x3, x4, x5⟩ hM ⟨⟨⟨r1, r2, r3, r4, pay_in x5 (good_cons m1 (fun w h => h)), List.mem_cons_self⟩, x5 _ m1, x5 _ m2, m3, len_of m4, va_Nw.use (nws_on hk) (x6.2.1 _ hk)⟩, x5 _ hs, x5 _ hse⟩ ⟨hbl, hrecv, hPc⟩ rfl hn hA hs0 (mon0 hst) hd hf
def ckO {δ : Type} (h : mh) (a ci : Nat) (X : Option δ) : Option δ := if a < gN h ∧ gS h a = (0, ci) then X else none
theorem ev_ck {a ci : Nat} {X : Option (β × mh)} (k : a < gN h → gS h a = (0, ci) → Ev lf G y cc nL rt d h0 pc ls st h X) : Ev lf G y cc nL rt d h0 pc ls st h (ckO h a ci X) := by
  intro b h' hr
  unfold ckO at hr
  split at hr
  · rename_i hc
    exact k hc.1 hc.2 b h' hr
  · cases hr
end EVC
