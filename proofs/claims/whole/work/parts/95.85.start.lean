/-! THE CLAIM OUT OF ONE WALK OF THE LAW'S BODY. Your part is whole_start (and what it stands on); all else here is the same for every law, but numbers. -/
def R_law : String := "VoiceTonightLaw"
def lw_P (b : Addr) (xs : List Int32) (args : Array Value) (s : State) : Prop := args = #[.ref b] ∧ s.IntsAt b xs ∧ xs.length ≤ 3072 ∧ (Jvm.Cond.and given_1 narrow_1).before args s = true
def lw_Q (_ : Array Value) (s : State) (o : Outcome) (t : State) : Prop := o = .returned (some (.int 1)) ∧ Framed s o t [] 600000 7302250
def lw_Z (below : List Frame) (a : Array Value) (s : State) : State → Prop := fun t => ∃ o, t.status = .running ∧ Ended t below o ∧ lw_Q a s o t
/-- the law's own end, with 1 on the stack, nothing written that was there before, its room as the claim has it -/
theorem lw_ret {p : Program} {l : Launch} {e : Env} {s : State} {m : MethodId} {below : List Frame} {meth : Method} {c : Code} {b : Nat} (hx : p.tables.exec = Jvm.exec) (hb : c.code = code) (hr : meth.sig.returnType = ret) (hlocks : meth.locks = false) {pc : Nat} {H : Heap} {ls : Array Slot} (hdg : decode code pc = .ok (.ireturn, 1)) : W p l e room_1 s m #[Value.ref b] below meth c H [] 600000 7302250 (lw_Z below #[Value.ref b] s) (F0 m pc ls [.int 1]) := by
  intro T hT X
  obtain ⟨fs, hret, hrun, hended, hW, hframe⟩ := X.leave (v := some (.int 1)) (hlocks := hlocks) (fun h => by rw [hr] at h; cases h)
  have hmeth' : T.vm.method? m = some meth := X.method'
  refine ⟨T.setFrames fs, ?_, .returned (some (.int 1)), hrun, hended, rfl, ⟨_, rfl⟩, hW, hframe⟩
  jvm_step X.here [X.here.top, hx, hb, hdg, hmeth', hr, ret, narrow_b1]
  (try refine ⟨rfl, ?_⟩); (try refine ⟨rfl, ?_⟩)
  first | (intro acts; rw [hret _ acts rfl rfl rfl]) | rw [hret _ _ rfl rfl rfl]
  exact Steps.refl _
/-- what holds at the law's entry: the machine, the code, the tables' words (any of lw_tbl by 'hts w (by decide +kernel)'), the script of L ints xs at the cell b, what the Statement gives of the start (any of its parts by flat_of_before) -/
def lw_At (p : Program) (s : State) (m : MethodId) (meth : Method) (c : Code) (b L : Nat) (xs : Nat → Int32) : Prop :=
  p.tables.exec = Jvm.exec ∧ c.code = code ∧ meth.sig.returnType = ret ∧ c.maxLocals = 4 ∧ s.vm.findClass R_law = some m.cls ∧ (∀ w ∈ lw_tbl, w.before #[Value.ref b] s = true) ∧ va_X b L xs s s.heap ∧ b < s.heap.size ∧ meth.locks = false ∧ (Jvm.Cond.and given_1 narrow_1).before #[Value.ref b] s = true
/-! THE LAW'S BODY, out of a statement about the small heap alone -/
def stm (i : Nat) : Term := match i with
  | 0 => .string "VoiceTonight$Tokens" 36
  | 1 => .string "VoiceTonight$Tokens" 71
  | 2 => .string "VoiceTonight$Reader" 104
  | 3 => .string "VoiceTonight$Reader" 106
  | 4 => .string "VoiceTonight$Reader" 108
  | _ => .string "VoiceTonight$Reader" 110
def flt1 : List Cond := flatC (Jvm.Cond.and given_1 narrow_1)
theorem s_ex : ∀ i : Nat, i < 6 → Cond.exactly (stm i) "java/lang/String" ∈ flt1 := by decide +kernel
theorem s_co : ∀ i : Nat, i < 6 → Cond.eq (.field (stm i) "java/lang/String" "coder" "B") (.int 0) ∈ flt1 := by decide +kernel
theorem s_ar : ∀ i : Nat, i < 6 → Cond.arrayOf (.field (stm i) "java/lang/String" "value" "[B") .byte ∈ flt1 := by decide +kernel
theorem s_le : ∀ i : Nat, i < 6 → Cond.eq (.length (.field (stm i) "java/lang/String" "value" "[B")) (.int (Int32.ofNat (slen.getD i 0))) ∈ flt1 := by decide +kernel
theorem s_e0 : ∀ j : Nat, j < 22 → Cond.eq (.elem (.field (stm 0) "java/lang/String" "value" "[B") (.int (Int32.ofNat (0 + j)))) (.int ((sbyt.getD 0 []).getD (0 + j) 0)) ∈ flt1 := by decide +kernel
theorem s_e22 : ∀ j : Nat, j < 22 → Cond.eq (.elem (.field (stm 0) "java/lang/String" "value" "[B") (.int (Int32.ofNat (22 + j)))) (.int ((sbyt.getD 0 []).getD (22 + j) 0)) ∈ flt1 := by decide +kernel
theorem s_e44 : ∀ j : Nat, j < 22 → Cond.eq (.elem (.field (stm 0) "java/lang/String" "value" "[B") (.int (Int32.ofNat (44 + j)))) (.int ((sbyt.getD 0 []).getD (44 + j) 0)) ∈ flt1 := by decide +kernel
theorem s_e66 : ∀ j : Nat, j < 22 → Cond.eq (.elem (.field (stm 0) "java/lang/String" "value" "[B") (.int (Int32.ofNat (66 + j)))) (.int ((sbyt.getD 0 []).getD (66 + j) 0)) ∈ flt1 := by decide +kernel
theorem s_e88 : ∀ j : Nat, j < 22 → Cond.eq (.elem (.field (stm 0) "java/lang/String" "value" "[B") (.int (Int32.ofNat (88 + j)))) (.int ((sbyt.getD 0 []).getD (88 + j) 0)) ∈ flt1 := by decide +kernel
theorem s_e110 : ∀ j : Nat, j < 21 → Cond.eq (.elem (.field (stm 0) "java/lang/String" "value" "[B") (.int (Int32.ofNat (110 + j)))) (.int ((sbyt.getD 0 []).getD (110 + j) 0)) ∈ flt1 := by decide +kernel
theorem s_eR : ∀ i : Nat, i < 5 → ∀ j : Nat, j < slen.getD (i + 1) 0 → Cond.eq (.elem (.field (stm (i + 1)) "java/lang/String" "value" "[B") (.int (Int32.ofNat j))) (.int ((sbyt.getD (i + 1) []).getD j 0)) ∈ flt1 := by decide +kernel
theorem s_el : ∀ i : Nat, i < 6 → ∀ j : Nat, j < slen.getD i 0 → Cond.eq (.elem (.field (stm i) "java/lang/String" "value" "[B") (.int (Int32.ofNat j))) (.int ((sbyt.getD i []).getD j 0)) ∈ flt1 := fun i hi j hj => by
  cases i with
  | succ i => exact s_eR i (by omega) j hj
  | zero =>
    have hj : j < 131 := hj
    by_cases z0 : j < 22
    · have q := s_e0 (j - 0) (by omega)
      rw [show 0 + (j - 0) = j from by omega] at q
      exact q
    by_cases z22 : j < 44
    · have q := s_e22 (j - 22) (by omega)
      rw [show 22 + (j - 22) = j from by omega] at q
      exact q
    by_cases z44 : j < 66
    · have q := s_e44 (j - 44) (by omega)
      rw [show 44 + (j - 44) = j from by omega] at q
      exact q
    by_cases z66 : j < 88
    · have q := s_e66 (j - 66) (by omega)
      rw [show 66 + (j - 66) = j from by omega] at q
      exact q
    by_cases z88 : j < 110
    · have q := s_e88 (j - 88) (by omega)
      rw [show 88 + (j - 88) = j from by omega] at q
      exact q
    have q := s_e110 (j - 110) (by omega)
    rw [show 110 + (j - 110) = j from by omega] at q
    exact q
theorem s_ne : ∀ i : Nat, i < 6 → ∀ j : Nat, j < 6 → i ≠ j → (Cond.not (Cond.eq (stm i) (stm j)) ∈ flt1 ∨ Cond.not (Cond.eq (stm j) (stm i)) ∈ flt1) := by decide +kernel
theorem s_cs : Cond.eq (.static "java/lang/String" "COMPACT_STRINGS" "Z") (.int 1) ∈ flt1 := by decide +kernel
theorem s_fm : Cond.isRef (.static "jdk/internal/util/Preconditions" "SIOOBE_FORMATTER" "Ljava/util/function/BiFunction;") ∈ flt1 := by decide +kernel
theorem cls_ok : ∀ (k : Nat) (q : vw_C), vwCl[k]? = some q → (∀ w ∈ u_ws q.1 q.2.1 q.2.2, w ∈ gws) ∧ Cond.instantiable q.1 q.2.2 ∈ gws := fun k q h => match k, h with
  | 0, h => by cases h; exact ⟨uX0, wi 125 (by decide +kernel) rfl⟩
  | 1, h => by cases h; exact ⟨uX1, wi 196 (by decide +kernel) rfl⟩
  | 2, h => by cases h; exact ⟨uX2, wi 357 (by decide +kernel) rfl⟩
  | 3, h => by cases h; exact ⟨uX3, wi 292 (by decide +kernel) rfl⟩
  | 4, h => by cases h; exact ⟨uX4, wi 340 (by decide +kernel) rfl⟩
  | 5, h => by cases h; exact ⟨uX5, wi 30 (by decide +kernel) rfl⟩
  | 6, h => by cases h; exact ⟨uX6, wi 190 (by decide +kernel) rfl⟩
  | 7, h => by cases h; exact ⟨uX7, wi 36 (by decide +kernel) rfl⟩
  | 8, h => by cases h; exact ⟨uX8, wi 383 (by decide +kernel) rfl⟩
  | 9, h => by cases h; exact ⟨uX9, wi 22 (by decide +kernel) rfl⟩
  | 10, h => by cases h; exact ⟨uX10, wi 1123 (by decide +kernel) rfl⟩
  | k + 11, h => by simp [vwCl] at h
theorem ref_of {args : Array Value} {s : State} {t : Term} (h : (Cond.isRef t).before args s = true) : ∃ v : Value, (v = .null ∨ ∃ a, v = .ref a) ∧ t.eval args s none [] s = some v := by
  cases hv : t.eval args s none [] s with
  | none => simp [Cond.before, Cond.holds, Cond.value, hv] at h
  | some v =>
    refine ⟨v, ?_, rfl⟩
    simp only [Cond.before, Cond.holds, Cond.value, hv] at h
    cases v <;> simp_all
set_option maxHeartbeats 4000000 in
set_option maxRecDepth 100000 in
theorem start_of {p : Program} {e : Env} {s : State} {m : MethodId} {below : List Frame} {meth : Method} {c : Code} (l : Launch) {b L : Nat} {xs : Nat → Int32} (C0 : lw_At p s m meth c b L xs) (HL : LawP L xs) : W p l e room_1 s m #[Value.ref b] below meth c s.heap [] 0 0 (lw_Z below #[Value.ref b] s) (entryFrame m ([Value.ref b] : List Value).toArray 4) := by
  obtain ⟨hx, hb, hr, hml, hown, hts, hX, hbl, hlocks, hgv⟩ := C0
  have hg : ∀ w ∈ gws, w.before #[Value.ref b] s = true := fun w hw => hts w (List.mem_filter.mp hw).1
  have hfl := flat_of_before _ hgv
  have hA : ∀ a : Nat, a < s.heap.size → ¬ (fun q : Nat => s.heap.size ≤ q) a := fun a h => Nat.not_le.mpr h
  have h0 : ∀ k : Nat, ∃ z : ClassId × (Nat → Nat), ∀ q : vw_C, vwCl[k]? = some q → u_Kn s q.1 q.2.1 q.2.2 z.1 z.2 := by
    intro k
    cases hk : vwCl[k]? with
    | none => exact ⟨(0, fun _ => 0), fun q h => by cases h⟩
    | some r =>
      obtain ⟨g1, g2⟩ := cls_ok k r hk
      obtain ⟨cC, iS, h⟩ := u_known (C := r.1) (T := r.2.1) (N := r.2.2) (n := r.2.2) hg g1 (hg _ g2)
      exact ⟨(cC, iS), fun q hq => by cases hq; exact h⟩
  obtain ⟨f, hf⟩ := Classical.axiomOfChoice h0
  have ar : ∀ ty : FieldType, (Cond.arrayClass ty).before #[Value.ref b] s = true → ∃ cA : ClassId, ArrOfT s cA ty ∧ s.vm.findClass ("[" ++ ty.toString) = some cA := by
    intro ty h
    obtain ⟨cA, kA, comp, h1, h2, h3⟩ := Cond.arrayClass_spec h
    exact ⟨cA, fun n z => ⟨fun k h => (by cases h), kA, h2, comp, h3⟩, h1⟩
  obtain ⟨cI, aI, rI⟩ := ar .int (hg _ ac_int)
  obtain ⟨cB, aB, rB⟩ := ar .byte (hg _ ac_byte)
  obtain ⟨cZ, aZ, rZ⟩ := ar .boolean (hg _ ac_boolean)
  obtain ⟨cJ, aJ, rJ⟩ := ar .long (hg _ ac_long)
  have hov : (Cond.arrayOver (.object "VoiceTonight$Night")).before #[Value.ref b] s = true := (hts _ (List.mem_append_right _ (List.mem_of_getElem? (i := 346) (by decide +kernel))))
  obtain ⟨comp, cN, kN, o1, o2, o3, o4, o5⟩ := Cond.arrayOver_spec hov
  obtain ⟨sK, sV, hS, hE⟩ := vk_Sof (args := #[Value.ref b]) (s := s) (N := 6) (tm := stm) (len := slen) (byt := sbyt) (A := fun q : Nat => s.heap.size ≤ q) (by decide) (fun i hi => hfl _ (s_ex i hi)) (fun i hi => hfl _ (s_co i hi)) (fun i hi => hfl _ (s_ar i hi)) (fun i hi => hfl _ (s_le i hi)) (fun i hi j hj => hfl _ (s_el i hi j hj)) (fun i j hi hj hn => (s_ne i hi j hj hn).imp (fun h => hfl _ h) (fun h => hfl _ h)) hA
  obtain ⟨fv, fv1, fv2⟩ := ref_of (hfl _ s_fm)
  obtain ⟨fu, h', hLaw, hn, hm⟩ := HL
  let G : gx := ((fun k => (f k).1, fun k => (f k).2), (fun j => match j with | 0 => cI | 1 => cB | 2 => cZ | 3 => cJ | _ => cN), s.heap.size, sK, sV, l, b, L, xs)
  have hK : va_K (gD G) vwCl (tyl G) s := by
    refine ⟨fun k q hq => hf k q hq, fun k q hq => ?_⟩
    match k, hq with
    | 0, hq => cases hq; exact ⟨aI, rI⟩
    | 1, hq => cases hq; exact ⟨aB, rB⟩
    | 2, hq => cases hq; exact ⟨aZ, rZ⟩
    | 3, hq => cases hq; exact ⟨aJ, rJ⟩
    | 4, hq => cases hq; exact ⟨fun n z => ⟨fun k h => (by cases h), kN, o3, comp, o4⟩, kN, comp, o3, o4, o1, o5⟩
    | k + 5, hq => simp [tyl] at hq
  have hGF : GF G s := by
    refine ⟨hK, fun w hw => va_Nw.of (nws_on hw) (hts w (List.mem_filter.mp hw).1), va_AO.of hov, hS, fun q hq => ?_, ?_, ⟨fv, fv1, ?_⟩, hX, hbl⟩
    · simp only [sref, List.mem_cons, List.not_mem_nil, or_false] at hq
      rcases hq with rfl | rfl | rfl | rfl | rfl | rfl

      · exact vk_R.of (hts _ (List.mem_append_right _ (List.mem_of_getElem? (i := 44) (by decide +kernel)))) (hE 0 (by decide))
      · exact vk_R.of (hts _ (List.mem_append_right _ (List.mem_of_getElem? (i := 498) (by decide +kernel)))) (hE 1 (by decide))
      · exact vk_R.of (hts _ (List.mem_append_right _ (List.mem_of_getElem? (i := 636) (by decide +kernel)))) (hE 2 (by decide))
      · exact vk_R.of (hts _ (List.mem_append_right _ (List.mem_of_getElem? (i := 637) (by decide +kernel)))) (hE 3 (by decide))
      · exact vk_R.of (hts _ (List.mem_append_right _ (List.mem_of_getElem? (i := 638) (by decide +kernel)))) (hE 4 (by decide))
      · exact vk_R.of (hts _ (List.mem_append_right _ (List.mem_of_getElem? (i := 639) (by decide +kernel)))) (hE 5 (by decide))
    · exact va_Zof (hts _ (List.mem_append_right _ (List.mem_of_getElem? (i := 54) (by decide +kernel)))) (hts _ (List.mem_append_right _ (List.mem_of_getElem? (i := 4) (by decide +kernel)))) (va_eqi (hfl _ s_cs)) hA
    · exact va_Zof (hts _ (List.mem_append_right _ (List.mem_of_getElem? (i := 70) (by decide +kernel)))) (hts _ (List.mem_append_right _ (List.mem_of_getElem? (i := 6) (by decide +kernel)))) fv2 hA
  have K := tL_law G fu () mh0 1 h' hLaw
  obtain ⟨-, -, k3⟩ := K
  rw [lg_entry_eq]
  refine k3 p e room_1 s m #[Value.ref b] below meth c (lw_Z below #[Value.ref b] s) ⟨hx, hb, hml, hown, hg, hGF, Nat.le_of_ble_eq_true rfl, Nat.le_of_ble_eq_true rfl, fun hn => absurd hn (by decide), hr, hlocks⟩ rfl (Nat.le_trans (Nat.sub_le _ _) hn) (Nat.le_trans (Nat.sub_le _ _) hm) ?_ s.heap [] _ (Nat.le_refl _) (Nat.le_refl _) ⟨fun k q hq => by simp [wo, mh0, gN] at hq, va_S.rf⟩ (lv_entry [Value.ref b] (n := 4) (Nat.le_of_ble_eq_true rfl))
  · intro H locs lA pc st hrel hro
    rcases hro with ⟨ty, x, r1, r2, r3, r4, r5⟩ | ⟨x, r1, r2, r3, r4⟩ | ⟨ty, a, r1, r0, r2, r3, r4⟩ | ⟨r1, r2, r3, r4⟩
    · subst r4
      have e1 : x = 1 := by
        have := Option.some.inj r3
        injection this with h
        exact h.symm
      subst e1
      refine va_forget (fun q hq => hrel.2.2.2 q hq) ?_
      refine W.widen (k := 600000) (n := 7302250) (Nat.le_trans (Nat.sub_le _ _) hn) (Nat.le_trans (Nat.sub_le _ _) hm) ?_
      exact lw_ret hx hb hr hlocks r2
    · cases r3
    · cases r3
    · cases r3
