/-! rows of Nights are made; System.arraycopy; Object's constructor; CONTRACTS AND CALLS -/
section EVM
variable {β : Type} {lf : β → Option Value} {G : gx} {y : MethodName} {cc : ByteArray} {nL : Nat} {rt : Option FieldType} {d : Nat} {h0 : mh} {pc : Nat} {ls : List (Nat × Value)} {st : List Value} {h : mh}
theorem ev_newq {idx : Nat} {n : Int32} {F : Nat → mh → Option (β × mh)} (hw : Cond.classLink y.cls idx "VoiceTonight$Night" ∈ gws) (hd : decode cc pc = .ok (.anewarray idx, 3)) (kk : ∀ (a : Nat) (h2 : mh), Ev lf G y cc nL rt d h0 (pc + 3) ls (.ref (gB G + a) :: st) h2 (F a h2)) : Ev lf G y cc nL rt d h0 pc ls (.int n :: st) h (newA h 5 n F) := by
  intro b h' hr
  unfold newA at hr
  split at hr
  · rename_i hc
    obtain ⟨k1, k2, k3⟩ := kk _ _ b h' hr
    have e1 : gN (nw h (5, n.toNatClampNeg) n.toNatClampNeg) = gN h + 1 := rfl
    have e2 : gM (nw h (5, n.toNatClampNeg) n.toNatClampNeg) = gM h + n.toNatClampNeg := rfl
    rw [e1] at k1
    rw [e2] at k2
    refine ⟨by omega, by omega, fun p e R s m args below meth c Q hx hz hR1 hR2 ht H locs lA i1 i2 hrel hl => ?_⟩
    have hK := hx.2.2.2.2.2.1.1
    have hm : gM h - gM h0 + n.toNatClampNeg = gM (nw h (5, n.toNatClampNeg) n.toNatClampNeg) - gM h0 := by rw [e2]; omega
    refine va_newq hx.1 hx.2.1 hx.2.2.2.1 (hx.2.2.2.2.1 _ hw) hx.2.2.2.2.2.1.2.2.1 hK hrel.1 (A := bA G) wo_D hrel.2 (bA_of ⟨_, rfl, trivial⟩ hz) hc.1 rfl (by omega) (by omega) (by omega) hd (fun q cA H1 hK1 hP hD hS => ?_)
    have hA : cA = gA G 4 := by
      obtain ⟨_, _, _, _, _, r1⟩ := (hK1.2 5 _ rfl).2
      obtain ⟨_, _, _, _, _, r2⟩ := (hK.2 4 _ rfl).2
      exact Option.some.inj (r1.symm.trans r2)
    subst hA
    rw [hm]
    refine wx_new (h2 := nw h (5, n.toNatClampNeg) n.toNatClampNeg) (g := fun q => F0 m (pc + 3) lA (.ref q :: st)) hP hD hS hz i1 rfl ?_ (fun b hb => cl_nw hb) (fun hr2 => k3 p e R s m args below meth c Q hx hz hR1 hR2 ht H1 locs lA (by rw [e1]; omega) (by rw [e2]; omega) hr2 hl)
    rw [cl_nig (by simp [gS, nw])]
    simp [gS, nw]
    funext j
    simp [gR, nw]
  · cases hr
theorem ev_copy {idx a b9 : Nat} {sp dp n : Int32} {F : mh → Option (β × mh)} (hw : Cond.methodLink y.cls idx arraycopyName ∈ gws ∧ Cond.native arraycopyName ∈ gws ∧ Cond.static arraycopyName ∈ gws ∧ Cond.initialized "java/lang/System" ∈ gws) (hd1 : 1 ≤ d) (hst : (st.map fun v => v.category).sum + (nativeFrameWords "java/lang/System" "arraycopy" 5 + 11) ≤ 64) (hd : decode cc pc = .ok (.invokestatic idx, 3)) (kk : ∀ h2 : mh, Ev lf G y cc nL rt d h0 (pc + 3) ls st h2 (F h2)) :
    Ev lf G y cc nL rt d h0 pc ls (.int n :: .int dp :: .ref (gB G + b9) :: .int sp :: .ref (gB G + a) :: st) h (cpA h a sp b9 dp n F) := by
  intro b h' hr
  unfold cpA at hr
  split at hr
  · rename_i hc
    obtain ⟨⟨c1, c2⟩, ⟨c3, c4⟩, c5, c6, c7, c8, c9⟩ := hc
    obtain ⟨k1, k2, k3⟩ := kk _ b h' hr
    refine ⟨k1, k2, fun p e R s m args below meth c Q hx hz hR1 hR2 ht H locs lA i1 i2 hrel hl => ?_⟩
    have hx' := hx
    obtain ⟨x1, x2, x3, x4, x5, x6, x7, x8, -⟩ := hx'
    have w1 := x5 _ hw.1
    refine va_copyi x1 x2 (x3.trans hl.1.symm) x4 w1 (x5 _ hw.2.1) (x5 _ hw.2.2.1) (x5 _ hw.2.2.2) x6.1 hrel.1 (A := bA G) wo_D hrel.2 a b9 0 0 (by rw [wo_get c1, cl_int c2]) (by rw [wo_get c3, cl_int c4]) rfl rfl rfl c5 c6 c7 c8 c9 (fun _ _ => rfl) (by omega) (by omega) hd (fun H1 locs1 hP _ hS => ?_)
    have e1 : va_cpy (gI h a) (gI h b9) sp.toNatClampNeg dp.toNatClampNeg n.toNatClampNeg = gI (uA h b9 (va_cpy (gI h a) (gI h b9) sp.toNatClampNeg dp.toNatClampNeg n.toNatClampNeg)) b9 := by
      funext j
      simp [gI, uA]
    rw [wo_set (h := h) (h' := uA h b9 (va_cpy (gI h a) (gI h b9) sp.toNatClampNeg dp.toNatClampNeg n.toNatClampNeg)) rfl (by rw [cl_int (h := uA h b9 (va_cpy (gI h a) (gI h b9) sp.toNatClampNeg dp.toNatClampNeg n.toNatClampNeg)) c4, ← e1]; rfl) (fun b hb => cl_uA hb)] at hP
    exact k3 p e R s m args below meth c Q hx hz hR1 hR2 ht H1 locs1 lA i1 i2 ⟨hP, hS⟩ hl
  · cases hr
theorem st_objinit {idx a : Nat} (hw : Cond.methodLink y.cls idx objectInit ∈ gws ∧ Cond.instanceMethod objectInit ∈ gws ∧ Cond.code objectInit ⟨#[0xb1]⟩ 1 none ∈ gws) (hd1 : 1 ≤ d) (hst : (st.map fun v => v.category).sum ≤ 20) (hd : decode cc pc = .ok (.invokespecial idx, 3)) : ev_S G y cc nL rt d pc ls (.ref a :: st) (pc + 3) ls st := by
  intro p e R s m args below meth c Q H locs cells slots lA hx hS hl k
  obtain ⟨x1, x2, x3, x4, x5, x6, x7, x8, -⟩ := hx
  refine W.objInit x1 x2 x4 (x5 _ hw.1) (x5 _ hw.2.1) (x5 _ hw.2.2) rfl (by rw [x3]; exact hl.1) rfl hd (by omega) ?_ (k _ hl)
  have e0 : (F0 m pc lA (.ref a :: st)).monitorRoom = 0 := rfl
  rw [e0]
  omega
end EVM
/-- a method's contract over the small heap: called with av over h it answers as Rs says; d frames deep at most -/
def Ct {β : Type} (lf : β → Option Value) (G : gx) (y : MethodName) (cc : ByteArray) (nL : Nat) (rt : Option FieldType) (d : Nat) (av : List Value) (h : mh) (Rs : Option (β × mh)) : Prop :=
  ∀ (b : β) (h' : mh), Rs = some (b, h') → gN h ≤ gN h' ∧ gM h ≤ gM h' ∧ Met (gl G) y (.code y cc nL rt :: gws) { frames := d, cells := gN h' - gN h, slots := gM h' - gM h, locals := 64 * d }
    (va_Pc av (fun U => U.heap.size = gB G + gN h ∧ va_P (gD G) vwCl (wo G h) U.heap ∧ GF G U)) (fun _ st oc t => oc = .returned (lf b) ∧ va_P (gD G) vwCl (wo G h') t.heap ∧ va_F (bA G) st t) (gN h' - gN h) (gM h' - gM h) (bA G)
theorem ct_of {β : Type} {lf : β → Option Value} {G : gx} {y : MethodName} {cc : ByteArray} {nL : Nat} {rt : Option FieldType} {d : Nat} {av : List Value} {h : mh} {Rs : Option (β × mh)} (hy : plainName y.cls = true) (hl : (lg_sl av).length ≤ nL) (k : Ev lf G y cc nL rt d h 0 (lv_args 0 av) [] h Rs) : Ct lf G y cc nL rt d av h Rs := by
  intro b h' hr
  obtain ⟨k1, k2, k3⟩ := k b h' hr
  refine ⟨k1, k2, Met.ofW (cc := cc) (maxL := nL) (ret := rt) hy rfl ?_⟩
  intro p e s m args below meth c s₁ B hml hv
  obtain ⟨rfl, hz, hP, hG⟩ := hv
  rw [lg_entry_eq]
  have hts := atoms_spec (ws := .code y cc nL rt :: gws) B.pre
  have hlocks := B.notSynchronized
  have K := k3 p e (headSpec (.code y cc nL rt :: gws) { frames := d, cells := gN h' - gN h, slots := gM h' - gM h, locals := 64 * d }).room s m av.toArray below meth c (MQ below (fun _ st oc t => oc = .returned (lf b) ∧ va_P (gD G) vwCl (wo G h') t.heap ∧ va_F (bA G) st t) av.toArray s (gN h' - gN h) (gM h' - gM h) (bA G))
    ⟨B.exec, B.bytes, hml, findClass_of_methodNamed B.named, fun w hw => hts w (List.mem_cons_of_mem _ hw), hG, Nat.le_refl _, Nat.le_refl _, (fun hn => (name_of_methodNamed B.named B.method).1.trans hn), B.returns, hlocks⟩ hz (Nat.le_refl _) (Nat.le_refl _) ?_ s.heap [] _ (Nat.le_refl _) (Nat.le_refl _) ⟨hP, va_S.rf⟩ (lv_entry av hl)
  · rw [Nat.sub_self, Nat.sub_self] at K
    exact K
  · intro H locs lA pc st hrel hro
    have hq : ∀ t : State, t.heap = H → s.WarmedH t.vm → (Outcome.returned (lf b) = .returned (lf b) ∧ va_P (gD G) vwCl (wo G h') t.heap ∧ va_F (bA G) s t) := fun t ht _ => ⟨rfl, by rw [ht]; exact hrel.1, hrel.2.F ht⟩
    rcases hro with ⟨ty, x, r1, r2, r3, r4, r5⟩ | ⟨x, r1, r2, r3, r4⟩ | ⟨ty, a, r1, r0, r2, r3, r4⟩ | ⟨r1, r2, r3, r4⟩
    · subst r4
      rw [r3] at hq ⊢
      exact W.zret B.exec B.bytes (B.returns.trans r1) r5 hq hrel.2.2.2 r2
    · subst r4
      rw [r3] at hq ⊢
      exact W.lret B.exec B.bytes (B.returns.trans r1) hq hrel.2.2.2 r2
    · subst r4
      rw [r3] at hq ⊢
      exact W.aret B.exec B.bytes (B.returns.trans r1) r0 (Or.inr ⟨a, rfl⟩) hq hrel.2.2.2 r2
    · subst r4
      rw [r3] at hq ⊢
      exact W.vret B.exec B.bytes (B.returns.trans r1) hq hrel.2.2.2 r2
