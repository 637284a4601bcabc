/-! TEXT CONSTANTS: their value row, coder, bytes; the static that says they are compact; the bounds' formatter -/
def ckS {δ : Type} (j : Nat) (X : Option δ) : Option δ := if j < 6 then X else none
def lenS {δ : Type} (j : Nat) (F : Int32 → Option δ) : Option δ := if j < 6 then F (Int32.ofNat (slen.getD j 0)) else none
def ldS {δ : Type} (j : Nat) (i : Int32) (F : Int32 → Option δ) : Option δ := if j < 6 ∧ ¬ i < 0 ∧ i.toNatClampNeg < slen.getD j 0 then F ((sbyt.getD j []).getD i.toNatClampNeg 0) else none
section EVX
variable {β : Type} {lf : β → Option Value} {G : gx} {y y' : MethodName} {cc cc' : ByteArray} {nL nL' : Nat} {rt rt' : Option FieldType} {d : Nat} {h0 : mh} {pc idx j : Nat} {ls : List (Nat × Value)} {st st0 : List Value} {h : mh}
theorem st_gsC (hk : Cond.fieldLink y.cls idx "java/lang/String" "COMPACT_STRINGS" "Z" ∈ gws) (hd : decode cc pc = .ok (.getstatic idx, 3)) : ev_S G y cc nL rt d pc ls st (pc + 3) ls (.int 1 :: st) := fun _ _ _ _ _ _ _ _ _ _ _ _ _ _ _ hc hS hl k => va_gets hc.1 hc.2.1 hc.2.2.2.2.2.1.2.2.2.2.2.1 hS hc.2.2.2.1 (hc.2.2.2.2.1 _ hk) (fun _ h => h) hd (k _ hl)
theorem ev_gsF {Y : Option (β × mh)} (hk : Cond.fieldLink y.cls idx "jdk/internal/util/Preconditions" "SIOOBE_FORMATTER" "Ljava/util/function/BiFunction;" ∈ gws) (hd : decode cc pc = .ok (.getstatic idx, 3)) (kk : ∀ v : Value, v.category = 1 → Ev lf G y cc nL rt d h0 (pc + 3) ls (v :: st) h Y) : Ev lf G y cc nL rt d h0 pc ls st h Y := by
  intro b h' hr
  obtain ⟨k1, k2, -⟩ := kk .null rfl b h' hr
  refine ⟨k1, k2, fun p e R s m args below meth c Q hx hz hR1 hR2 ht H locs lA i1 i2 hrel hl => ?_⟩
  obtain ⟨v, hv, hZ⟩ := hx.2.2.2.2.2.1.2.2.2.2.2.2.1
  obtain ⟨-, -, k3⟩ := kk v (by rcases hv with q | ⟨a, q⟩ <;> rw [q] <;> rfl) b h' hr
  exact va_gets hx.1 hx.2.1 hZ hrel.2 hx.2.2.2.1 (hx.2.2.2.2.1 _ hk) (fun _ h => h) hd (k3 p e R s m args below meth c Q hx hz hR1 hR2 ht H locs lA i1 i2 hrel hl)
theorem st_sval (hj : j < 6) (hk : Cond.fieldLink y.cls idx "java/lang/String" "value" "[B" ∈ gws) (hd : decode cc pc = .ok (.getfield idx, 3)) : ev_S G y cc nL rt d pc ls (.ref (gK G j) :: st) (pc + 3) ls (.ref (gV G j) :: st) := fun _ _ _ _ _ _ _ _ _ _ _ _ _ _ _ hc hS hl k => vk_getf hc.1 hc.2.1 (hc.2.2.2.2.2.1.2.2.2.1.1 j hj).2.2.1 hS hc.2.2.2.1 (hc.2.2.2.2.1 _ hk) (fun _ h => h) hd (k _ hl)
theorem st_scod (hj : j < 6) (hk : Cond.fieldLink y.cls idx "java/lang/String" "coder" "B" ∈ gws) (hd : decode cc pc = .ok (.getfield idx, 3)) : ev_S G y cc nL rt d pc ls (.ref (gK G j) :: st) (pc + 3) ls (.int 0 :: st) := fun _ _ _ _ _ _ _ _ _ _ _ _ _ _ _ hc hS hl k => vk_getf hc.1 hc.2.1 (hc.2.2.2.2.2.1.2.2.2.1.1 j hj).2.1 hS hc.2.2.2.1 (hc.2.2.2.2.1 _ hk) (fun _ h => h) hd (k _ hl)
theorem ev_cks {X : Option (β × mh)} (k : j < 6 → Ev lf G y cc nL rt d h0 pc ls st h X) : Ev lf G y cc nL rt d h0 pc ls st h (ckS j X) := by
  intro b h' hr
  unfold ckS at hr
  split at hr
  · rename_i hc
    exact k hc b h' hr
  · cases hr
theorem ev_lenS {F : Int32 → Option (β × mh)} (hd : decode cc pc = .ok (.arraylength, 1)) (kk : ∀ x : Int32, Ev lf G y cc nL rt d h0 (pc + 1) ls (.int x :: st) h (F x)) : Ev lf G y cc nL rt d h0 pc ls (.ref (gV G j) :: st) h (lenS j F) := by
  intro b h' hr
  unfold lenS at hr
  split at hr
  · rename_i hc
    obtain ⟨k1, k2, k3⟩ := kk _ b h' hr
    refine ⟨k1, k2, fun p e R s m args below meth c Q hx hz hR1 hR2 ht H locs lA i1 i2 hrel hl => ?_⟩
    exact va_tlen hx.1 hx.2.1 (hx.2.2.2.2.2.1.2.2.2.1.1 j hc).2.2.2 hrel.2 rfl hd (k3 p e R s m args below meth c Q hx hz hR1 hR2 ht H locs lA i1 i2 hrel hl)
  · cases hr
theorem ev_ldS {i : Int32} {F : Int32 → Option (β × mh)} (hd : decode cc pc = .ok (.baload, 1)) (kk : ∀ x : Int32, Ev lf G y cc nL rt d h0 (pc + 1) ls (.int x :: st) h (F x)) : Ev lf G y cc nL rt d h0 pc ls (.int i :: .ref (gV G j) :: st) h (ldS j i F) := by
  intro b h' hr
  unfold ldS at hr
  split at hr
  · rename_i hc
    obtain ⟨k1, k2, k3⟩ := kk _ b h' hr
    refine ⟨k1, k2, fun p e R s m args below meth c Q hx hz hR1 hR2 ht H locs lA i1 i2 hrel hl => ?_⟩
    exact va_tb hx.1 hx.2.1 (hx.2.2.2.2.2.1.2.2.2.1.1 j hc.1).2.2.2 hrel.2 (in_of hc.2.1 hc.2.2) rfl hd (k3 p e R s m args below meth c Q hx hz hR1 hR2 ht H locs lA i1 i2 hrel hl)
  · cases hr
theorem iv_VS {As : List Value} {n : Nat} (hm : mk9 y' cc' nL' rt' n) (hk : lk9 y.cls idx y') (hs : Cond.instanceMethod y' ∈ gws) (hse : Cond.selects "java/lang/String" y' y' ∈ gws) (hj : j < 6) (hn : As.length = n) (hst : (st.map fun v => v.category).sum ≤ 8) (hs0 : st0 = As.reverse ++ .ref (gK G j) :: st) (hd : decode cc pc = .ok (.invokevirtual idx, 3)) : Iv G y cc nL rt d pc h y' cc' nL' rt' (.ref (gK G j) :: As) st0 st := by
  intro p e R s m args below meth c H locs cells slots lA rm mc ms Pc Qc free hx hrel hA hM r1 r2 r3 r4 hbl hPc hf
  obtain ⟨x1, x2, x3, x4, x5, x6, -⟩ := hx
  obtain ⟨m1, m2, m3, m4⟩ := hm
  have hrecv := vk_recv (i := j) x6.2.2.2.1 hj hrel.2
  rcases hk with hk | ⟨host, hk⟩
  · exact va_runV (Ts := gws) ⟨x1, x2, x3, x4, x5⟩ hM ⟨⟨r1, r2, r3, r4, pay_in x5 (good_cons m1 (fun w h => h)), List.mem_cons_self, x5 _ m1, x5 _ m2, m3, len_of m4, x5 _ hk⟩, x5 _ hs, x5 _ hse⟩ ⟨hbl, hrecv, hPc⟩ rfl hn hA hs0 (mon0 hst) hd hf
  · exact va_runVN (Ts := gws) ⟨x1, x2, x3, x4, x5⟩ hM ⟨⟨⟨r1, r2, r3, r4, pay_in x5 (good_cons m1 (fun w h => h)), List.mem_cons_self⟩, x5 _ m1, x5 _ m2, m3, len_of m4, va_Nw.use (nws_on hk) (x6.2.1 _ hk)⟩, x5 _ hs, x5 _ hse⟩ ⟨hbl, hrecv, hPc⟩ rfl hn hA hs0 (mon0 hst) hd hf
/-- the script -/
theorem st_scl (hd : decode cc pc = .ok (.arraylength, 1)) : ev_S G y cc nL rt d pc ls (.ref (gs G).1 :: st) (pc + 1) ls (.int (Int32.ofNat (gs G).2.1) :: st) := fun _ _ _ s _ _ _ _ _ _ _ _ _ _ _ hc hS hl k => va_slen hc.1 hc.2.1 hc.2.2.2.2.2.1.2.2.2.2.2.2.2.1 (by obtain ⟨scr, q, -⟩ := hc.2.2.2.2.2.1.2.2.2.2.2.2.2.1; exact (Array.getElem?_eq_some_iff.mp q).1) (Nat.not_le.mpr hc.2.2.2.2.2.1.2.2.2.2.2.2.2.2) hS hd (k _ hl)
def ldX {δ : Type} (n : Nat) (xs : Nat → Int32) (i : Int32) (F : Int32 → Option δ) : Option δ := if ¬ i < 0 ∧ i.toNatClampNeg < n then F (xs i.toNatClampNeg) else none
theorem ev_ldX {i : Int32} {F : Int32 → Option (β × mh)} (hd : decode cc pc = .ok (.iaload, 1)) (kk : ∀ x : Int32, Ev lf G y cc nL rt d h0 (pc + 1) ls (.int x :: st) h (F x)) : Ev lf G y cc nL rt d h0 pc ls (.int i :: .ref (gs G).1 :: st) h (ldX (gs G).2.1 (gs G).2.2 i F) := by
  intro b h' hr
  unfold ldX at hr
  split at hr
  · rename_i hc
    obtain ⟨k1, k2, k3⟩ := kk _ b h' hr
    refine ⟨k1, k2, fun p e R s m args below meth c Q hx hz hR1 hR2 ht H locs lA i1 i2 hrel hl => ?_⟩
    exact va_sld hx.1 hx.2.1 hx.2.2.2.2.2.1.2.2.2.2.2.2.2.1 (by obtain ⟨scr, q, -⟩ := hx.2.2.2.2.2.1.2.2.2.2.2.2.2.1; exact (Array.getElem?_eq_some_iff.mp q).1) (Nat.not_le.mpr hx.2.2.2.2.2.1.2.2.2.2.2.2.2.2) hrel.2 (in_of hc.1 hc.2) hd (k3 p e R s m args below meth c Q hx hz hR1 hR2 ht H locs lA i1 i2 hrel hl)
  · cases hr
end EVX
