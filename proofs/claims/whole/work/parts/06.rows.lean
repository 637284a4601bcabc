/-! ROWS OF NUMBERS AND OF NIGHTS, divisions, new cells, System.arraycopy -/
theorem cl_int {G : gx} {h : mh} {a : Nat} (hs : (gS h a).1 = 1) : cl_of G h a = .inl (gA G 0, (gS h a).2, .inl (gI h a)) := by
  unfold cl_of
  rw [hs]
  rfl
theorem cl_byte {G : gx} {h : mh} {a : Nat} (hs : (gS h a).1 = 2) : cl_of G h a = .inl (gA G 1, (gS h a).2, .inl (gI h a)) := by
  unfold cl_of
  rw [hs]
  rfl
theorem cl_bool {G : gx} {h : mh} {a : Nat} (hs : (gS h a).1 = 3) : cl_of G h a = .inl (gA G 2, (gS h a).2, .inl (gI h a)) := by
  unfold cl_of
  rw [hs]
  rfl
theorem cl_long {G : gx} {h : mh} {a : Nat} (hs : (gS h a).1 = 4) : cl_of G h a = .inl (gA G 3, (gS h a).2, .inr (.inl (gL h a))) := by
  unfold cl_of
  rw [hs]
  rfl
theorem cl_nig {G : gx} {h : mh} {a : Nat} (hs : (gS h a).1 = 5) : cl_of G h a = .inl (gA G 4, (gS h a).2, .inr (.inr (.inr (.inr (fun k => (gR h a k).map (fun q => gB G + q)))))) := by
  unfold cl_of
  rw [hs]
  rfl
theorem upd_uI {h : mh} {a k : Nat} {x : Int32} : upd (gI h a) k x = gI (uI h a k x) a := by
  funext j
  simp [upd, gI, uI]
theorem upd_uL {h : mh} {a k : Nat} {x : Int64} : vp_updL (gL h a) k x = gL (uL h a k x) a := by
  funext j
  simp [vp_updL, gL, uL]
section EVA
variable {β : Type} {lf : β → Option Value} {G : gx} {y : MethodName} {cc : ByteArray} {nL : Nat} {rt : Option FieldType} {d : Nat} {h0 : mh} {pc : Nat} {ls : List (Nat × Value)} {st : List Value} {h : mh}
theorem in_of {i : Int32} {n : Nat} (h1 : ¬ i < 0) (h2 : i.toNatClampNeg < n) : vp_in i n := by
  intro q
  rcases q with q | q
  · exact h1 q
  · omega
theorem ev_ldi {a : Nat} {i : Int32} {F : Int32 → Option (β × mh)} (hd : decode cc pc = .ok (.iaload, 1)) (kk : ∀ x : Int32, Ev lf G y cc nL rt d h0 (pc + 1) ls (.int x :: st) h (F x)) : Ev lf G y cc nL rt d h0 pc ls (.int i :: .ref (gB G + a) :: st) h (ldA h a 1 i F) := by
  intro b h' hr
  unfold ldA at hr
  split at hr
  · rename_i hc
    obtain ⟨k1, k2, k3⟩ := kk _ b h' hr
    refine ⟨k1, k2, fun p e R s m args below meth c Q hx hz hR1 hR2 ht H locs lA i1 i2 hrel hl => ?_⟩
    exact va_iald hx.1 hx.2.1 hx.2.2.2.2.2.1.1 hrel.1 a 0 (by rw [wo_get hc.1, cl_int hc.2.1]) rfl (in_of hc.2.2.1 hc.2.2.2) hd (k3 p e R s m args below meth c Q hx hz hR1 hR2 ht H locs lA i1 i2 hrel hl)
  · cases hr
theorem ev_ldb {a : Nat} {i : Int32} {F : Int32 → Option (β × mh)} (hd : decode cc pc = .ok (.baload, 1)) (kk : ∀ x : Int32, Ev lf G y cc nL rt d h0 (pc + 1) ls (.int x :: st) h (F x)) : Ev lf G y cc nL rt d h0 pc ls (.int i :: .ref (gB G + a) :: st) h (ldA h a 2 i F) := by
  intro b h' hr
  unfold ldA at hr
  split at hr
  · rename_i hc
    obtain ⟨k1, k2, k3⟩ := kk _ b h' hr
    refine ⟨k1, k2, fun p e R s m args below meth c Q hx hz hR1 hR2 ht H locs lA i1 i2 hrel hl => ?_⟩
    exact va_bald hx.1 hx.2.1 hx.2.2.2.2.2.1.1 hrel.1 a 1 (by rw [wo_get hc.1, cl_byte hc.2.1]) rfl (in_of hc.2.2.1 hc.2.2.2) hd (k3 p e R s m args below meth c Q hx hz hR1 hR2 ht H locs lA i1 i2 hrel hl)
  · cases hr
theorem ev_ldz {a : Nat} {i : Int32} {F : Int32 → Option (β × mh)} (hd : decode cc pc = .ok (.baload, 1)) (kk : ∀ x : Int32, Ev lf G y cc nL rt d h0 (pc + 1) ls (.int x :: st) h (F x)) : Ev lf G y cc nL rt d h0 pc ls (.int i :: .ref (gB G + a) :: st) h (ldA h a 3 i F) := by
  intro b h' hr
  unfold ldA at hr
  split at hr
  · rename_i hc
    obtain ⟨k1, k2, k3⟩ := kk _ b h' hr
    refine ⟨k1, k2, fun p e R s m args below meth c Q hx hz hR1 hR2 ht H locs lA i1 i2 hrel hl => ?_⟩
    exact va_zald hx.1 hx.2.1 hx.2.2.2.2.2.1.1 hrel.1 a 2 (by rw [wo_get hc.1, cl_bool hc.2.1]) rfl (in_of hc.2.2.1 hc.2.2.2) hd (k3 p e R s m args below meth c Q hx hz hR1 hR2 ht H locs lA i1 i2 hrel hl)
  · cases hr
theorem ev_ldj {a : Nat} {i : Int32} {F : Int64 → Option (β × mh)} (hd : decode cc pc = .ok (.laload, 1)) (kk : ∀ x : Int64, Ev lf G y cc nL rt d h0 (pc + 1) ls (.long x :: st) h (F x)) : Ev lf G y cc nL rt d h0 pc ls (.int i :: .ref (gB G + a) :: st) h (ldJ h a i F) := by
  intro b h' hr
  unfold ldJ at hr
  split at hr
  · rename_i hc
    obtain ⟨k1, k2, k3⟩ := kk _ b h' hr
    refine ⟨k1, k2, fun p e R s m args below meth c Q hx hz hR1 hR2 ht H locs lA i1 i2 hrel hl => ?_⟩
    exact va_lald hx.1 hx.2.1 hx.2.2.2.2.2.1.1 hrel.1 a 3 (by rw [wo_get hc.1, cl_long hc.2.1]) rfl (in_of hc.2.2.1 hc.2.2.2) hd (k3 p e R s m args below meth c Q hx hz hR1 hR2 ht H locs lA i1 i2 hrel hl)
  · cases hr
theorem ev_ldq {a : Nat} {i : Int32} {F : Nat → Option (β × mh)} (hd : decode cc pc = .ok (.aaload, 1)) (kk : ∀ x : Nat, Ev lf G y cc nL rt d h0 (pc + 1) ls (.ref (gB G + x) :: st) h (F x)) : Ev lf G y cc nL rt d h0 pc ls (.int i :: .ref (gB G + a) :: st) h (ldQ h a i F) := by
  intro b h' hr
  unfold ldQ at hr
  split at hr
  · rename_i hc
    cases hg : gR h a i.toNatClampNeg with
    | none => rw [hg] at hr; cases hr
    | some q =>
      rw [hg] at hr
      obtain ⟨k1, k2, k3⟩ := kk q b h' hr
      refine ⟨k1, k2, fun p e R s m args below meth c Q hx hz hR1 hR2 ht H locs lA i1 i2 hrel hl => ?_⟩
      refine va_aldq hx.1 hx.2.1 hx.2.2.2.2.2.1.1 hrel.1 a 4 (by rw [wo_get hc.1, cl_nig hc.2.1]) rfl (in_of hc.2.2.1 hc.2.2.2) hd ?_
      rw [hg]
      exact k3 p e R s m args below meth c Q hx hz hR1 hR2 ht H locs lA i1 i2 hrel hl
  · cases hr
theorem ev_sti {a : Nat} {i x : Int32} {F : mh → Option (β × mh)} (hd : decode cc pc = .ok (.iastore, 1)) (kk : ∀ h2 : mh, Ev lf G y cc nL rt d h0 (pc + 1) ls st h2 (F h2)) : Ev lf G y cc nL rt d h0 pc ls (.int x :: .int i :: .ref (gB G + a) :: st) h (stA h a i x F) := by
  intro b h' hr
  unfold stA at hr
  split at hr
  · rename_i hc
    obtain ⟨k1, k2, k3⟩ := kk _ b h' hr
    refine ⟨k1, k2, fun p e R s m args below meth c Q hx hz hR1 hR2 ht H locs lA i1 i2 hrel hl => ?_⟩
    refine va_iast hx.1 hx.2.1 hx.2.2.2.2.2.1.1 hrel.1 (A := bA G) wo_D hrel.2 a 0 (by rw [wo_get hc.1, cl_int hc.2.1]) rfl (in_of hc.2.2.1 hc.2.2.2) hd (fun H1 locs1 hP _ hS => ?_)
    rw [wo_set (h := h) (h' := uI h a i.toNatClampNeg x) rfl (by rw [cl_int (h := uI h a i.toNatClampNeg x) hc.2.1, upd_uI]; rfl) (fun b hb => cl_uI hb)] at hP
    exact k3 p e R s m args below meth c Q hx hz hR1 hR2 ht H1 locs1 lA i1 i2 ⟨hP, hS⟩ hl
  · cases hr
theorem ev_stb {a : Nat} {i x : Int32} {F : mh → Option (β × mh)} (hd : decode cc pc = .ok (.bastore, 1)) (kk : ∀ h2 : mh, Ev lf G y cc nL rt d h0 (pc + 1) ls st h2 (F h2)) : Ev lf G y cc nL rt d h0 pc ls (.int x :: .int i :: .ref (gB G + a) :: st) h (stB h a i x F) := by
  intro b h' hr
  unfold stB at hr
  split at hr
  · rename_i hc
    obtain ⟨k1, k2, k3⟩ := kk _ b h' hr
    refine ⟨k1, k2, fun p e R s m args below meth c Q hx hz hR1 hR2 ht H locs lA i1 i2 hrel hl => ?_⟩
    refine va_bast hx.1 hx.2.1 hx.2.2.2.2.2.1.1 hrel.1 (A := bA G) wo_D hrel.2 a 1 (by rw [wo_get hc.1, cl_byte hc.2.1]) rfl (in_of hc.2.2.1 hc.2.2.2) hd (fun H1 locs1 hP _ hS => ?_)
    rw [vp_nar_byte] at hP
    rw [wo_set (h := h) (h' := uI h a i.toNatClampNeg x.toInt8.toInt32) rfl (by rw [cl_byte (h := uI h a i.toNatClampNeg x.toInt8.toInt32) hc.2.1, upd_uI]; rfl) (fun b hb => cl_uI hb)] at hP
    exact k3 p e R s m args below meth c Q hx hz hR1 hR2 ht H1 locs1 lA i1 i2 ⟨hP, hS⟩ hl
  · cases hr
theorem ev_stz {a : Nat} {i x : Int32} {F : mh → Option (β × mh)} (hd : decode cc pc = .ok (.bastore, 1)) (kk : ∀ h2 : mh, Ev lf G y cc nL rt d h0 (pc + 1) ls st h2 (F h2)) : Ev lf G y cc nL rt d h0 pc ls (.int x :: .int i :: .ref (gB G + a) :: st) h (stY h a i x F) := by
  intro b h' hr
  unfold stY at hr
  split at hr
  · rename_i hc
    obtain ⟨k1, k2, k3⟩ := kk _ b h' hr
    refine ⟨k1, k2, fun p e R s m args below meth c Q hx hz hR1 hR2 ht H locs lA i1 i2 hrel hl => ?_⟩
    refine va_zast hx.1 hx.2.1 hx.2.2.2.2.2.1.1 hrel.1 (A := bA G) wo_D hrel.2 a 2 (by rw [wo_get hc.1, cl_bool hc.2.1]) rfl (in_of hc.2.2.1 hc.2.2.2) hd (fun H1 locs1 hP _ hS => ?_)
    have e1 : vp_nar .boolean x = x &&& 1 := rfl
    rw [e1] at hP
    rw [wo_set (h := h) (h' := uI h a i.toNatClampNeg (x &&& 1)) rfl (by rw [cl_bool (h := uI h a i.toNatClampNeg (x &&& 1)) hc.2.1, upd_uI]; rfl) (fun b hb => cl_uI hb)] at hP
    exact k3 p e R s m args below meth c Q hx hz hR1 hR2 ht H1 locs1 lA i1 i2 ⟨hP, hS⟩ hl
  · cases hr
theorem ev_stj {a : Nat} {i : Int32} {x : Int64} {F : mh → Option (β × mh)} (hd : decode cc pc = .ok (.lastore, 1)) (kk : ∀ h2 : mh, Ev lf G y cc nL rt d h0 (pc + 1) ls st h2 (F h2)) : Ev lf G y cc nL rt d h0 pc ls (.long x :: .int i :: .ref (gB G + a) :: st) h (stJ h a i x F) := by
  intro b h' hr
  unfold stJ at hr
  split at hr
  · rename_i hc
    obtain ⟨k1, k2, k3⟩ := kk _ b h' hr
    refine ⟨k1, k2, fun p e R s m args below meth c Q hx hz hR1 hR2 ht H locs lA i1 i2 hrel hl => ?_⟩
    refine va_last hx.1 hx.2.1 hx.2.2.2.2.2.1.1 hrel.1 (A := bA G) wo_D hrel.2 a 3 (by rw [wo_get hc.1, cl_long hc.2.1]) rfl (in_of hc.2.2.1 hc.2.2.2) hd (fun H1 locs1 hP _ hS => ?_)
    rw [wo_set (h := h) (h' := uL h a i.toNatClampNeg x) rfl (by rw [cl_long (h := uL h a i.toNatClampNeg x) hc.2.1, upd_uL]; rfl) (fun b hb => cl_uL hb)] at hP
    exact k3 p e R s m args below meth c Q hx hz hR1 hR2 ht H1 locs1 lA i1 i2 ⟨hP, hS⟩ hl
  · cases hr
theorem ev_stq {a q : Nat} {i : Int32} {F : mh → Option (β × mh)} (hd : decode cc pc = .ok (.aastore, 1)) (kk : ∀ h2 : mh, Ev lf G y cc nL rt d h0 (pc + 1) ls st h2 (F h2)) : Ev lf G y cc nL rt d h0 pc ls (.ref (gB G + q) :: .int i :: .ref (gB G + a) :: st) h (stQ h a i q F) := by
  intro b h' hr
  unfold stQ at hr
  split at hr
  · rename_i hc
    obtain ⟨hc, hq1, hq2⟩ := hc
    obtain ⟨k1, k2, k3⟩ := kk _ b h' hr
    refine ⟨k1, k2, fun p e R s m args below meth c Q hx hz hR1 hR2 ht H locs lA i1 i2 hrel hl => ?_⟩
    refine va_astq (r := (RX3, TX3, 8)) (ci := 3) (qk := q) hx.1 hx.2.1 hx.2.2.2.2.2.1.1 hrel.1 (A := bA G) wo_D hrel.2 a 4 (by rw [wo_get hc.1, cl_nig hc.2.1]) rfl (by rw [wo_get hq1, cl_obj hq2]) rfl (in_of hc.2.2.1 hc.2.2.2) hd (fun H1 locs1 hP _ hS => ?_)
    have e1 : va_up (fun k => (gR h a k).map (fun q => gB G + q)) i.toNatClampNeg (some (gB G + q)) = fun k => (gR (uR h a i.toNatClampNeg (some q)) a k).map (fun q => gB G + q) := by
      funext j
      by_cases hj : j = i.toNatClampNeg <;> simp [va_up, gR, uR, hj]
    rw [e1] at hP
    rw [wo_set (h := h) (h' := uR h a i.toNatClampNeg (some q)) rfl (by rw [cl_nig (h := uR h a i.toNatClampNeg (some q)) hc.2.1]; rfl) (fun b hb => cl_uR hb)] at hP
    exact k3 p e R s m args below meth c Q hx hz hR1 hR2 ht H1 locs1 lA i1 i2 ⟨hP, hS⟩ hl
  · cases hr
theorem ev_len {a : Nat} {F : Int32 → Option (β × mh)} (hd : decode cc pc = .ok (.arraylength, 1)) (kk : ∀ x : Int32, Ev lf G y cc nL rt d h0 (pc + 1) ls (.int x :: st) h (F x)) : Ev lf G y cc nL rt d h0 pc ls (.ref (gB G + a) :: st) h (len h a F) := by
  intro b h' hr
  unfold len at hr
  split at hr
  · rename_i hc
    obtain ⟨k1, k2, k3⟩ := kk _ b h' hr
    refine ⟨k1, k2, fun p e R s m args below meth c Q hx hz hR1 hR2 ht H locs lA i1 i2 hrel hl => ?_⟩
    have kk := k3 p e R s m args below meth c Q hx hz hR1 hR2 ht H locs lA i1 i2 hrel hl
    have h5 : (gS h a).1 = 1 ∨ (gS h a).1 = 2 ∨ (gS h a).1 = 3 ∨ (gS h a).1 = 4 ∨ (gS h a).1 = 5 := by omega
    rcases h5 with q | q | q | q | q
    · exact va_alen hx.1 hx.2.1 hx.2.2.2.2.2.1.1 hrel.1 a 0 (by rw [wo_get hc.1, cl_int q]) rfl rfl hd kk
    · exact va_alen hx.1 hx.2.1 hx.2.2.2.2.2.1.1 hrel.1 a 1 (by rw [wo_get hc.1, cl_byte q]) rfl rfl hd kk
    · exact va_alen hx.1 hx.2.1 hx.2.2.2.2.2.1.1 hrel.1 a 2 (by rw [wo_get hc.1, cl_bool q]) rfl rfl hd kk
    · exact va_alen hx.1 hx.2.1 hx.2.2.2.2.2.1.1 hrel.1 a 3 (by rw [wo_get hc.1, cl_long q]) rfl rfl hd kk
    · exact va_alen hx.1 hx.2.1 hx.2.2.2.2.2.1.1 hrel.1 a 4 (by rw [wo_get hc.1, cl_nig q]) rfl rfl hd kk
  · cases hr
theorem ev_div {x z : Int32} {F : Int32 → Option (β × mh)} (hd : decode cc pc = .ok (.idiv, 1)) (kk : ∀ v : Int32, Ev lf G y cc nL rt d h0 (pc + 1) ls (.int v :: st) h (F v)) : Ev lf G y cc nL rt d h0 pc ls (.int z :: .int x :: st) h (dvI x z F) := by
  intro b h' hr
  unfold dvI at hr
  split at hr
  · rename_i hc
    obtain ⟨k1, k2, k3⟩ := kk _ b h' hr
    refine ⟨k1, k2, fun p e R s m args below meth c Q hx hz hR1 hR2 ht H locs lA i1 i2 hrel hl => ?_⟩
    exact lv_idiv hx.1 hx.2.1 hd hc (k3 p e R s m args below meth c Q hx hz hR1 hR2 ht H locs lA i1 i2 hrel hl)
  · cases hr
theorem ev_rem {x z : Int32} {F : Int32 → Option (β × mh)} (hd : decode cc pc = .ok (.irem, 1)) (kk : ∀ v : Int32, Ev lf G y cc nL rt d h0 (pc + 1) ls (.int v :: st) h (F v)) : Ev lf G y cc nL rt d h0 pc ls (.int z :: .int x :: st) h (rmI x z F) := by
  intro b h' hr
  unfold rmI at hr
  split at hr
  · rename_i hc
    obtain ⟨k1, k2, k3⟩ := kk _ b h' hr
    refine ⟨k1, k2, fun p e R s m args below meth c Q hx hz hR1 hR2 ht H locs lA i1 i2 hrel hl => ?_⟩
    exact lv_irem hx.1 hx.2.1 hd hc (k3 p e R s m args below meth c Q hx hz hR1 hR2 ht H locs lA i1 i2 hrel hl)
  · cases hr
/-- the returns -/
def rtI (x : Int32) (h : mh) : Option (Int32 × mh) := some (x, h)
def rtZ (x : Int32) (h : mh) : Option (Int32 × mh) := if x = 0 ∨ x = 1 then some (x, h) else none
theorem ev_iret {x : Int32} (hd : decode cc pc = .ok (.ireturn, 1)) : Ev lI G y cc nL (some .int) d h0 pc ls [.int x] h (rtI x h) := by
  intro b h' hr
  cases hr
  exact ⟨Nat.le_refl _, Nat.le_refl _, fun p e R s m args below meth c Q hx hz hR1 hR2 ht H locs lA i1 i2 hrel hl => ht H locs lA pc _ hrel (Or.inl ⟨.int, x, rfl, hd, rfl, rfl, rfl⟩)⟩
theorem ev_zret {x : Int32} (hd : decode cc pc = .ok (.ireturn, 1)) : Ev lI G y cc nL (some .boolean) d h0 pc ls [.int x] h (rtZ x h) := by
  intro b h' hr
  unfold rtZ at hr
  split at hr
  · rename_i hc
    cases hr
    exact ⟨Nat.le_refl _, Nat.le_refl _, fun p e R s m args below meth c Q hx hz hR1 hR2 ht H locs lA i1 i2 hrel hl => ht H locs lA pc _ hrel (Or.inl ⟨.boolean, x, rfl, hd, rfl, rfl, by rcases hc with q | q <;> rw [q] <;> rfl⟩)⟩
  · cases hr
/-- a return of a narrow type (byte, char), where the answer fits -/
def rtN (ty : FieldType) (x : Int32) (h : mh) : Option (Int32 × mh) := if vp_nar ty x = x then some (x, h) else none
theorem ev_nret {x : Int32} {ty : FieldType} (hty : narrow ty (.int x) = .int (vp_nar ty x)) (hd : decode cc pc = .ok (.ireturn, 1)) : Ev lI G y cc nL (some ty) d h0 pc ls [.int x] h (rtN ty x h) := by
  intro b h' hr
  unfold rtN at hr
  split at hr
  · rename_i hc
    cases hr
    exact ⟨Nat.le_refl _, Nat.le_refl _, fun p e R s m args below meth c Q hx hz hR1 hR2 ht H locs lA i1 i2 hrel hl => ht H locs lA pc _ hrel (Or.inl ⟨ty, x, rfl, hd, rfl, rfl, by rw [hty, hc]⟩)⟩
  · cases hr
def rtL (x : Int64) (h : mh) : Option (Int64 × mh) := some (x, h)
theorem ev_lret {x : Int64} (hd : decode cc pc = .ok (.lreturn, 1)) : Ev lL G y cc nL (some .long) d h0 pc ls [.long x] h (rtL x h) := by
  intro b h' hr
  cases hr
  exact ⟨Nat.le_refl _, Nat.le_refl _, fun p e R s m args below meth c Q hx hz hR1 hR2 ht H locs lA i1 i2 hrel hl => ht H locs lA pc _ hrel (Or.inr (Or.inl ⟨x, rfl, hd, rfl, rfl⟩))⟩
def rtR (a : Nat) (h : mh) : Option (Nat × mh) := some (a, h)
theorem ev_aret {a : Nat} {ty : FieldType} (hty : (∃ n, ty = .object n) ∨ ∃ t, ty = .array t) (hd : decode cc pc = .ok (.areturn, 1)) : Ev (lR G) G y cc nL (some ty) d h0 pc ls [.ref (gB G + a)] h (rtR a h) := by
  intro b h' hr
  cases hr
  exact ⟨Nat.le_refl _, Nat.le_refl _, fun p e R s m args below meth c Q hx hz hR1 hR2 ht H locs lA i1 i2 hrel hl => ht H locs lA pc _ hrel (Or.inr (Or.inr (Or.inl ⟨ty, _, rfl, hty, hd, rfl, rfl⟩)))⟩
theorem ev_sret {a : Nat} {ty : FieldType} (hty : (∃ n, ty = .object n) ∨ ∃ t, ty = .array t) (hd : decode cc pc = .ok (.areturn, 1)) : Ev (lS G) G y cc nL (some ty) d h0 pc ls [.ref (gK G a)] h (rtR a h) := by
  intro b h' hr
  cases hr
  exact ⟨Nat.le_refl _, Nat.le_refl _, fun p e R s m args below meth c Q hx hz hR1 hR2 ht H locs lA i1 i2 hrel hl => ht H locs lA pc _ hrel (Or.inr (Or.inr (Or.inl ⟨ty, _, rfl, hty, hd, rfl, rfl⟩)))⟩
def rtV (h : mh) : Option (Unit × mh) := some ((), h)
theorem ev_vret (hd : decode cc pc = .ok (.return_, 1)) : Ev lV G y cc nL none d h0 pc ls [] h (rtV h) := by
  intro b h' hr
  cases hr
  exact ⟨Nat.le_refl _, Nat.le_refl _, fun p e R s m args below meth c Q hx hz hR1 hR2 ht H locs lA i1 i2 hrel hl => ht H locs lA pc _ hrel (Or.inr (Or.inr (Or.inr ⟨rfl, hd, rfl, rfl⟩)))⟩
end EVA
