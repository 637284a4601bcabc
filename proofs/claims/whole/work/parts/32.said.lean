/-! WHAT IS SAID, in both -/
theorem txM_eo {S : Nat → Nat → Prop} {h h1 : mh} {l : Nat} {T : AT} (o : eo S h h1) (hs : ∀ a, 309 ≤ a → a ≤ 329 → ∀ k, ¬ S a k) (q : txM h l T) : txM h1 l T := by
  obtain ⟨q1, q2, q3, q4, q5, q6, q7, q8⟩ := q
  refine ⟨by rw [o.2 _ _ (hs _ (by decide) (by decide) _)]; exact q1, by rw [o.2 _ _ (hs _ (by decide) (by decide) _)]; exact q2, fun r hr => ⟨by rw [o.2 _ _ (hs _ (by decide) (by decide) _)]; exact (q3 r hr).1, by rw [o.2 _ _ (hs _ (by decide) (by decide) _)]; exact (q3 r hr).2⟩, fun r hr => ⟨by rw [o.2 _ _ (hs _ (by decide) (by decide) _)]; exact (q4 r hr).1, by rw [o.2 _ _ (hs _ (by decide) (by decide) _)]; exact (q4 r hr).2⟩, by rw [o.2 _ _ (hs _ (by decide) (by decide) _)]; exact q5, by rw [o.2 _ _ (hs _ (by decide) (by decide) _)]; exact q6, by rw [o.2 _ _ (hs _ (by decide) (by decide) _)]; exact q7, fun k hk => ?_⟩
  have := q8 k hk
  revert this
  cases lw9 T k with
  | none =>
    intro q
    show gI h1 321 _ = gI h1 322 _
    rw [o.2 _ _ (hs _ (by decide) (by decide) _), o.2 _ _ (hs _ (by decide) (by decide) _)]
    exact q
  | some A =>
    obtain ⟨ts, e⟩ := A
    intro ⟨f, r1, r2, r3, r4⟩
    exact ⟨f, r1, by rw [o.2 _ _ (hs _ (by decide) (by decide) _)]; exact r2, by rw [o.2 _ _ (hs _ (by decide) (by decide) _)]; exact r3, brsL_eo o (fun a h1 h2 => hs a (by omega) (by omega)) r4⟩
theorem ngM_eo {S : Nat → Nat → Prop} {h h1 : mh} {a : Nat} {N : AN} (o : eo S h h1) (hs : ∀ k, ¬ S a k) (q : ngM h a N) : ngM h1 a N := by
  obtain ⟨q1, q2, q3, q4⟩ := q
  refine ⟨fun i hi => ?_, by rw [o.2 _ _ (hs _)]; exact q2, by rw [o.2 _ _ (hs _)]; exact q3, by rw [o.2 _ _ (hs _)]; exact q4⟩
  rw [o.2 _ _ (hs _), o.2 _ _ (hs _), o.2 _ _ (hs _), o.2 _ _ (hs _), o.2 _ _ (hs _)]
  exact q1 i hi
theorem txC_eo {S : Nat → Nat → Prop} {h h1 : mh} {t : Nat} {T : AT} (o : eo S h h1) (hs : ∀ a, t ≤ a → a ≤ t + 13 → a ≠ t + 9 → ∀ k, ¬ S a k) (q : txC h t T) : txC h1 t T := by
  obtain ⟨q1, q2, q3, q4, q5, q6, q7, q8⟩ := q
  refine ⟨by rw [o.2 _ _ (hs _ (by omega) (by omega) (by omega) _)]; exact q1, by rw [o.2 _ _ (hs _ (by omega) (by omega) (by omega) _)]; exact q2, fun r hr => ⟨by rw [o.2 _ _ (hs _ (by omega) (by omega) (by omega) _)]; exact (q3 r hr).1, by rw [o.2 _ _ (hs _ (by omega) (by omega) (by omega) _)]; exact (q3 r hr).2⟩, fun r hr => ⟨by rw [o.2 _ _ (hs _ (by omega) (by omega) (by omega) _)]; exact (q4 r hr).1, by rw [o.2 _ _ (hs _ (by omega) (by omega) (by omega) _)]; exact (q4 r hr).2⟩, by rw [o.2 _ _ (hs _ (by omega) (by omega) (by omega) _)]; exact q5, by rw [o.2 _ _ (hs _ (by omega) (by omega) (by omega) _)]; exact q6, by rw [o.2 _ _ (hs _ (by omega) (by omega) (by omega) _)]; exact q7, fun k hk => ?_⟩
  have := q8 k hk
  revert this
  cases lw9 T k with
  | none =>
    intro q
    show gI h1 (t + 13) _ = 0
    rw [o.2 _ _ (hs _ (by omega) (by omega) (by omega) _)]
    exact q
  | some A =>
    obtain ⟨ts, e⟩ := A
    intro ⟨r0, r1, s, r2, r3⟩
    exact ⟨r0, by rw [o.2 _ _ (hs _ (by omega) (by omega) (by omega) _)]; exact r1, s, by rw [o.2 _ _ (hs _ (by omega) (by omega) (by omega) _)]; exact r2, prtC_eo o (hs _ (by omega) (by omega) (by omega)) (hs _ (by omega) (by omega) (by omega)) r3⟩
theorem ngC_eo {S : Nat → Nat → Prop} {h h1 : mh} {n : Nat} {N : AN} (o : eo S h h1) (hs : ∀ a, n ≤ a → a ≤ n + 4 → ∀ k, ¬ S a k) (q : ngC h n N) : ngC h1 n N := by
  obtain ⟨q1, q2, q3, q4, q5⟩ := q
  refine ⟨fun i hi => ?_, by rw [o.2 _ _ (hs _ (by omega) (by omega) _)]; exact q2, by rw [o.2 _ _ (hs _ (by omega) (by omega) _)]; exact q3, by rw [o.2 _ _ (hs _ (by omega) (by omega) _)]; exact q4, by rw [o.2 _ _ (hs _ (by omega) (by omega) _)]; exact q5⟩
  rw [o.2 _ _ (hs _ (by omega) (by omega) _), o.2 _ _ (hs _ (by omega) (by omega) _), o.2 _ _ (hs _ (by omega) (by omega) _), o.2 _ _ (hs _ (by omega) (by omega) _)]
  exact q1 i hi
/-- what the reference's methods about a night find: the text, the night in the row -/
def MC (t u l : Nat) (T : AT) (N : AN) (h : mh) : Prop := Ly t u h ∧ l < 2 ∧ gI h 299 18 = nI l ∧ txM h l T ∧ ngM h 334 N ∧ wfT T ∧ wfN T N
/-- the variables, the pile, whether it broke -/
def sV (a k : Nat) : Prop := a = 331 ∨ a = 332 ∨ (a = 299 ∧ k = 50)
theorem MC_eo {S : Nat → Nat → Prop} {t u l : Nat} {T : AT} {N : AN} {h h1 : mh} (o : eo S h h1) (hs : ∀ a k, S a k → a = 331 ∨ a = 332 ∨ (a = 299 ∧ (k = 50 ∨ k = 53 ∨ k = 54 ∨ k = 57)) ∨ a = 335 ∨ a = 336) (q : MC t u l T N h) : MC t u l T N h1 := by
  obtain ⟨q1, q2, q3, q4, q5, q6, q7⟩ := q
  refine ⟨Ly_eo q1 o, q2, by rw [o.2 _ _ (fun z => by have := hs _ _ z; omega)]; exact q3, txM_eo o (fun a h1 h2 k z => by have := hs _ _ z; omega) q4, ngM_eo o (fun k z => by have := hs _ _ z; omega) q5, q6, q7⟩
theorem looksM {t u l fu r : Nat} {T : AT} {N : AN} {h : mh} (hM : MC t u l T N h) (hfu : 1000 ≤ fu) (hr : r < nR T) :
    ok (fX10_looks fu 299 (nI r) h) (fun _ h' => eo (fun a _ => a = 331) h h' ∧ ∀ i, i < 9 → gI h' 331 i = if i = 0 then nI (fa T r) else if i = 1 then nI (he N r) else if i = 3 then nI (ev9 N) else 0) := by
  have hr6 : r < 6 := Nat.lt_of_lt_of_le hr hM.2.2.2.2.2.1.1
  unfold fX10_looks
  refine itr_up (I := fun j s => s.1 = nI j ∧ eo (fun a _ => a = 331) h s.2 ∧ ∀ i, i < j → gI s.2 331 i = 0) (P := fun R => ok R _) (n := 9) ?_ ?_ fu 0 _ (by omega) (by omega) ⟨rfl, eo_rf, fun i hi => by omega⟩
  · intro j s k hj hI hk
    obtain ⟨v2, h1⟩ := s
    obtain ⟨e2, o, hz⟩ := hI
    dsimp only at e2 o hz
    subst e2
    have hL1 := Ly_eo hM.1 o
    unfold bX10_looks_2
    dsimp only
    rw [if_neg (show ¬ (9 : Int32) ≤ nI j from nI_ge (b := 9) hj (by omega)), ldR_of (cl299 hL1) (rf299_48 hL1), stA_of (cl331 hL1) (inr_nI hj (by omega)), nI_clamp (by omega)]
    refine hk _ ⟨nI_1 _, eo_uI o rfl, fun i hi => ?_⟩
    rw [gI_uI]
    split
    · rfl
    · exact hz i (by omega)
  · intro s k hI
    obtain ⟨v2, h1⟩ := s
    obtain ⟨e2, o, hz⟩ := hI
    dsimp only at e2 o hz
    subst e2
    have hM1 : MC t u l T N h1 := MC_eo o (fun a k q => Or.inl q) hM
    have hL1 := hM1.1
    obtain ⟨_, hl, hlv, htx, hng, _, _⟩ := hM1
    unfold bX10_looks_2
    dsimp only
    rw [if_pos (by decide)]
    unfold fX10_looks_21
    have ei : (6 : Int32) * nI l + nI r = nI (6 * l + r) := by rw [show (6 : Int32) = nI 6 from rfl, pk_mul, nI_add]
    rw [ldR_of (cl299 hL1) (rf299_48 hL1), ldR_of (cl299 hL1) (rf299_25 hL1), ldI_of (cl299 hL1), hlv, ei, ldA_of (cl311 hL1) (inr_nI (by omega) (by omega)), nI_clamp (by omega), (htx.2.2.1 r hr).2, stA_of (cl331 hL1) (show inr 0 9 from ⟨by decide, by decide⟩), sb_cl0]
    have hL2 : Ly t u (uI h1 331 0 (nI (fa T r))) := Ly_uI hL1
    have g1 : gI (uI h1 331 0 (nI (fa T r))) 334 r = nI (he N r) := by rw [gI_uI, if_neg (by omega)]; exact (hng.1 r hr6).1
    rw [ldR_of (cl299 hL2) (rf299_48 hL2), ldR_of (cl299 hL2) (rf299_52 hL2), ldA_of (cl334 hL2) (inr_nI (by omega) (by omega)), nI_clamp (by omega), g1, stA_of (cl331 hL2) (show inr 1 9 from ⟨by decide, by decide⟩)]
    have hL3 : Ly t u (uI (uI h1 331 0 (nI (fa T r))) 331 (1 : Int32).toNatClampNeg (nI (he N r))) := Ly_uI hL2
    have g2 : gI (uI (uI h1 331 0 (nI (fa T r))) 331 (1 : Int32).toNatClampNeg (nI (he N r))) 334 (30 : Int32).toNatClampNeg = nI (ev9 N) := by
      rw [gI_uI, if_neg (by omega), gI_uI, if_neg (by omega)]
      exact hng.2.1
    rw [ldR_of (cl299 hL3) (rf299_48 hL3), ldR_of (cl299 hL3) (rf299_52 hL3), ldA_of (cl334 hL3) (show inr 30 33 from ⟨by decide, by decide⟩), g2, stA_of (cl331 hL3) (show inr 3 9 from ⟨by decide, by decide⟩)]
    refine ok_some ⟨eo_uI (eo_uI (eo_uI o rfl) rfl) rfl, fun i hi => ?_⟩
    rw [gI_uI, gI_uI, gI_uI, hz i hi, show (3 : Int32).toNatClampNeg = 3 from by decide, show (1 : Int32).toNatClampNeg = 1 from by decide]
    rcases (show i = 0 ∨ i = 1 ∨ i = 2 ∨ i = 3 ∨ 4 ≤ i by omega) with rfl | rfl | rfl | rfl | q
    · rfl
    · rfl
    · rfl
    · rfl
    · rw [if_neg (by omega), if_neg (by omega), if_neg (by omega), if_neg (by omega), if_neg (by omega), if_neg (by omega)]
set_option maxHeartbeats 1000000 in
/-- the reference's saidBy -/
theorem saidM {t u l fu r : Nat} {T : AT} {N : AN} {h : mh} (hM : MC t u l T N h) (hfu : 1000 ≤ fu) (hr : r < nR T) :
    ok (fX10_saidBy fu 299 (nI r) h) (fun x h' => eo sV h h' ∧ x = nI (said T N r)) := by
  have hr6 : r < 6 := Nat.lt_of_lt_of_le hr hM.2.2.2.2.2.1.1
  unfold fX10_saidBy
  refine itr_up (I := fun j s => s.1 = nI (saidU T N r j) ∧ s.2.1 = nI j ∧ eo sV h s.2.2) (P := fun R => ok R _) (n := 8) ?_ ?_ fu 0 _ (by omega) (by omega) ⟨rfl, rfl, eo_rf⟩
  · intro j s k hj hI hk
    obtain ⟨v2, v3, h1⟩ := s
    obtain ⟨e2, e3, o⟩ := hI
    dsimp only at e2 e3 o
    subst e2 e3
    have hM1 : MC t u l T N h1 := MC_eo o (fun a k q => by unfold sV at q; omega) hM
    have hL1 := hM1.1
    obtain ⟨_, hl, hlv, htx, hng, hwT, _⟩ := id hM1
    unfold bX10_saidBy_4
    dsimp only
    have ei : (6 : Int32) * nI l + nI r = nI (6 * l + r) := by rw [show (6 : Int32) = nI 6 from rfl, pk_mul, nI_add]
    have hkw := (hwT.2.2.1 r hr).1
    rw [if_neg (show ¬ (8 : Int32) ≤ nI j from nI_ge (b := 8) hj (by omega)), ldR_of (cl299 hL1) (rf299_24 hL1), ldI_of (cl299 hL1), hlv, ei, ldA_of (cl310 hL1) (inr_nI (by omega) (by omega)), nI_clamp (by omega), (htx.2.2.1 r hr).1]
    cases hb : (kw T r).testBit j
    · rw [if_pos ((tbM _ hkw j hj).mpr hb)]
      unfold fX10_saidBy_69
      refine hk _ ⟨?_, nI_1 _, o⟩
      show _ = nI (if sayB T N r j then _ else _)
      unfold sayB
      rw [hb]
      rfl
    · rw [if_neg (fun q => by rw [(tbM _ hkw j hj).mp q] at hb; cases hb), ckO_of (cl299 hL1)]
      refine ok_bd (ok_mono (looksM hM1 hfu hr) (fun _ h4 hq => ?_))
      obtain ⟨o4, hv⟩ := hq
      have hL4 := Ly_eo hL1 o4
      rw [ldR_of (cl299 hL4) (rf299_48 hL4), stA_of (cl331 hL4) (show inr 2 9 from ⟨by decide, by decide⟩)]
      have hL5 : Ly t u (uI h4 331 (2 : Int32).toNatClampNeg (nI j)) := Ly_uI hL4
      rw [ldR_of (cl299 hL5) (rf299_48 hL5), stA_of (cl331 hL5) (show inr 7 9 from ⟨by decide, by decide⟩)]
      generalize hh6 : uI (uI h4 331 (2 : Int32).toNatClampNeg (nI j)) 331 (7 : Int32).toNatClampNeg (nI r) = h6
      have o6 : eo (fun a _ => a = 331) h1 h6 := by rw [← hh6]; exact eo_uI (eo_uI o4 rfl) rfl
      have hM6 : MC t u l T N h6 := MC_eo o6 (fun a k q => Or.inl q) hM1
      have hL6 := hM6.1
      rw [ckO_of (cl299 hL6)]
      have hv6 : ∀ i, i < 9 → gI h6 331 i = vsS T N r j i := by
        intro i hi
        rw [← hh6, gI_uI, gI_uI, hv i hi, show (7 : Int32).toNatClampNeg = 7 from by decide, show (2 : Int32).toNatClampNeg = 2 from by decide]
        unfold vsS
        rcases (show i = 0 ∨ i = 1 ∨ i = 2 ∨ i = 3 ∨ i = 4 ∨ i = 5 ∨ i = 6 ∨ i = 7 ∨ i = 8 by omega) with rfl | rfl | rfl | rfl | rfl | rfl | rfl | rfl | rfl <;> rfl
      refine ok_bd (ok_mono (tellM (k := 0) (d := 1) hL6 hfu hM6.2.1 hM6.2.2.1 (by decide) (hM6.2.2.2.1.2.2.2.2.2.2.2 0 (by decide))) (fun x h9 hq => ?_))
      obtain ⟨o9, hx⟩ := hq
      rw [vlL_cg hv6 (lawM_wf (hM6.2.2.2.1.2.2.2.2.2.2.2 0 (by decide)))] at hx
      have o19 : eo sV h h9 := eo_tr o (eo_tr (eo_mono o6 (fun a k q => Or.inl q)) (eo_mono o9 (fun a k q => by unfold sT at q; unfold sV; omega)))
      by_cases hx0 : x ≤ 0
      · rw [if_pos hx0]
        unfold fX10_saidBy_69
        refine hk _ ⟨?_, nI_1 _, o19⟩
        show _ = nI (if sayB T N r j then _ else _)
        have e : sayB T N r j = false := by
          unfold sayB
          rw [← hx, decide_eq_false (Int32.not_lt.mpr hx0)]
          exact Bool.and_false _
        rw [e]
        rfl
      · rw [if_neg hx0]
        dsimp only [lt]
        unfold fX10_saidBy_69
        refine hk _ ⟨?_, nI_1 _, o19⟩
        show _ = nI (if sayB T N r j then _ else _)
        have e : sayB T N r j = true := by
          unfold sayB
          rw [← hx, hb, decide_eq_true (Int32.not_le.mp hx0)]
          rfl
        rw [e, or_bit hj]
        rfl
  · intro s k hI
    obtain ⟨v2, v3, h1⟩ := s
    obtain ⟨e2, e3, o⟩ := hI
    dsimp only at e2 e3 o
    subst e2 e3
    unfold bX10_saidBy_4
    dsimp only
    rw [if_pos (by decide)]
    exact ok_some ⟨o, rfl⟩
