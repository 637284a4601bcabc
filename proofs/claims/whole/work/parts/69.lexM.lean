/-! THE REFERENCE'S TOKENS -/
theorem LM_uL {h : mh} {a k : Nat} {v : Int64} (q : LM h.2) : LM (uL h a k v).2 := LM_eL (S := fun _ _ => True) (SL := fun _ _ => True) (h := h) ⟨rfl, fun _ _ z => absurd trivial z, fun _ _ z => absurd trivial z⟩ q
def tpM (B : Nat → Nat) (n : Nat) (h : mh) : Prop := n ≤ 2000 ∧ gI h 299 4 = nI n ∧ ∀ i, i < n → B i < 256 ∧ gI h 301 i = byN (B i)
theorem tpM_eL {S SL : Nat → Nat → Prop} {B : Nat → Nat} {n : Nat} {h h1 : mh} (p : eL S SL h h1) (hs : ∀ k, ¬ S 301 k) (h4 : ¬ S 299 4) (q : tpM B n h) : tpM B n h1 := ⟨q.1, by rw [p.2.1 _ _ h4]; exact q.2.1, fun i hi => ⟨(q.2.2 i hi).1, by rw [p.2.1 _ _ (hs i)]; exact (q.2.2 i hi).2⟩⟩
theorem byteM {fu n i : Nat} {B : Nat → Nat} {h : mh} (hL : LM h.2) (hb : tpM B n h) (hi : i ≤ 5000) : fX10_byteAt fu 299 (nI i) h = some (if i < n then nI (B i) else 0, h) := by
  have hn := hb.1
  refine ok_eq ?_
  unfold fX10_byteAt
  repeat (first | with_reducible apply v_lt | ((with_reducible apply w_MR); exact hL; rfl) | ((with_reducible apply w_lv); exact hL; assumption) | ((with_reducible apply vMI); exact hL) | ((with_reducible apply vMS); exact hL) | ((with_reducible apply vMC); exact hL) | ((with_reducible apply vMZ); exact hL; (first | exact Or.inl rfl | exact Or.inr rfl | exact b2i_01 _ | assumption)) | ((first | with_reducible apply w_MA | with_reducible apply w_MW | with_reducible apply w_MY | with_reducible apply w_MB | with_reducible apply w_MJ | with_reducible apply w_MK); exact hL; rfl; rfl; rfl; (first | with_reducible rfl | with_reducible exact ixo _ | with_reducible exact ixoc _ _ | with_reducible exact ixom _ _ _ | with_reducible exact ixop _ _ | with_reducible exact ixod _ _ | assumption); omega))
  rw [hb.2.1]
  by_cases z : i < n
  · refine v_ie (nI_ge z (by omega)) ?_
    repeat (first | with_reducible apply v_lt | ((with_reducible apply w_MR); exact hL; rfl) | ((with_reducible apply w_lv); exact hL; assumption) | ((with_reducible apply vMI); exact hL) | ((with_reducible apply vMS); exact hL) | ((with_reducible apply vMC); exact hL) | ((with_reducible apply vMZ); exact hL; (first | exact Or.inl rfl | exact Or.inr rfl | exact b2i_01 _ | assumption)) | ((first | with_reducible apply w_MA | with_reducible apply w_MW | with_reducible apply w_MY | with_reducible apply w_MB | with_reducible apply w_MJ | with_reducible apply w_MK); exact hL; rfl; rfl; rfl; (first | with_reducible rfl | with_reducible exact ixo _ | with_reducible exact ixoc _ _ | with_reducible exact ixom _ _ _ | with_reducible exact ixop _ _ | with_reducible exact ixod _ _ | assumption); omega))
    rw [(hb.2.2 i z).2, (by_all _ (hb.2.2 i z).1).1, if_pos z]
    exact v_rI ⟨rfl, rfl⟩
  · rw [if_neg z]
    exact v_it (nI_le (by omega) (by omega)) (v_rI ⟨rfl, rfl⟩)
theorem letM {fu n : Nat} {h : mh} (hn : n < 256) : fX10_isLetter fu (nI n) h = some (b2i (lt9 n), h) := by
  refine ok_eq ?_
  unfold fX10_isLetter
  exact v_rg (nb_all n hn).1 (fun e => v_rZ (Or.inl rfl) ⟨by rw [e]; rfl, rfl⟩) (fun e => v_rZ (Or.inr rfl) ⟨by rw [e]; rfl, rfl⟩)
theorem digM {fu n : Nat} {h : mh} (hn : n < 256) : fX10_isDigit fu (nI n) h = some (b2i (dg9 n), h) := by
  refine ok_eq ?_
  unfold fX10_isDigit
  exact v_rg (nb_all n hn).2.1 (fun e => v_rZ (Or.inl rfl) ⟨by rw [e]; rfl, rfl⟩) (fun e => v_rZ (Or.inr rfl) ⟨by rw [e]; rfl, rfl⟩)
/-- the byte at a place, 0 behind the end -/
def bAt (B : Nat → Nat) (n i : Nat) : Nat := if i < n then B i else 0
theorem bAt_lt {B : Nat → Nat} {n i : Nat} {h : mh} (hb : tpM B n h) : bAt B n i < 256 := by
  unfold bAt
  split
  · next z => exact (hb.2.2 i z).1
  · decide
theorem byteM' {fu n i : Nat} {B : Nat → Nat} {h : mh} (hL : LM h.2) (hb : tpM B n h) (hi : i ≤ 5000) : fX10_byteAt fu 299 (nI i) h = some (nI (bAt B n i), h) := by
  rw [byteM hL hb hi]
  unfold bAt
  split <;> rfl
theorem end_P {P : Nat → Bool} {B : Nat → Nat} {n e : Nat} (h0 : P 0 = false) (h : ¬ (e < n ∧ P (B e) = true)) : P (bAt B n e) = false := by
  unfold bAt
  split
  · next z =>
    rw [← Bool.not_eq_true]
    exact fun w => h ⟨z, w⟩
  · exact h0
/-- what a token looks like in the reference's rows -/
def tkM (h : mh) (i : Nat) (q : Tk) : Prop := gI h 302 i = soM (tkK q) ∧ gI h 303 i = nI (tkP q) ∧ (tkK q = 23 → gI h 304 i = nI (tkV q)) ∧ (tkK q = 22 → gL h 305 i = lN (cod 27 (tkN q)))
def sOn (c a k : Nat) : Prop := (a = 299 ∧ k = 10) ∨ (302 ≤ a ∧ a ≤ 304 ∧ k = c)
def lOn (c a k : Nat) : Prop := a = 305 ∧ k = c
theorem tokM {fu c : Nat} {k p v : Int32} {w : Int64} {h : mh} (hL : LM h.2) (hc : c ≤ 400) (h1 : gI h 299 10 = nI c) : ok (fX10_token fu 299 k p v w h) (fun _ h' => eL (sOn c) (lOn c) h h' ∧ gI h' 299 10 = nI (c + 1) ∧ gI h' 302 c = k ∧ gI h' 303 c = p ∧ gI h' 304 c = v ∧ gL h' 305 c = w) := by
  unfold fX10_token
  repeat (first | with_reducible apply v_lt | ((with_reducible apply w_MR); exact hL; rfl) | ((with_reducible apply w_lv); exact hL; assumption) | ((with_reducible apply vMI); exact hL) | ((with_reducible apply vMS); exact hL) | ((with_reducible apply vMC); exact hL) | ((with_reducible apply vMZ); exact hL; (first | exact Or.inl rfl | exact Or.inr rfl | exact b2i_01 _ | assumption)) | ((first | with_reducible apply w_MA | with_reducible apply w_MW | with_reducible apply w_MY | with_reducible apply w_MB | with_reducible apply w_MJ | with_reducible apply w_MK); exact hL; rfl; rfl; rfl; (first | with_reducible rfl | with_reducible exact ixo _ | with_reducible exact ixoc _ _ | with_reducible exact ixom _ _ _ | with_reducible exact ixop _ _ | with_reducible exact ixod _ _ | assumption); omega))
  rw [gI_uL, gI_ne (by omega), gI_ne (by omega), gI_ne (by omega), h1, nI_1]
  refine v_rV ⟨eL_uI (eL_uL (eL_uI (eL_uI (eL_uI eL_rf (Or.inr ⟨by omega, by omega, rfl⟩)) (Or.inr ⟨by omega, by omega, rfl⟩)) (Or.inr ⟨by omega, by omega, rfl⟩)) ⟨rfl, rfl⟩) (Or.inl ⟨rfl, rfl⟩), gI_eq, ?_, ?_, ?_, ?_⟩
  · rw [gI_ne (by omega), gI_uL, gI_ne (by omega), gI_ne (by omega), gI_eq]
  · rw [gI_ne (by omega), gI_uL, gI_ne (by omega), gI_eq]
  · rw [gI_ne (by omega), gI_uL, gI_eq]
  · rw [gL_uI, gL_eq]
def wdM (h : mh) : Prop := ∀ i, i < 22 → gL h 306 i = lN (cod 27 (wl.getD i []))
/-- behind a token: it stands in its row, and the next place is e -/
def aft (h : mh) (c e : Nat) (q : Tk) (v1 : Int32) (h' : mh) : Prop := v1 = nI e ∧ eL (sOn c) (lOn c) h h' ∧ gI h' 299 10 = nI (c + 1) ∧ tkM h' c q
theorem wix_lt {l : List Nat} {j : Nat} (hj : j < 22) (e : wl.getD j [] = l) : wix l = j := wix_at hj (fun q hq z => by
  have := wl_inj q (by omega) j hj (z.trans e.symm)
  omega) e
set_option maxHeartbeats 1000000 in
theorem letsM {fu n p c : Nat} {B : Nat → Nat} {x : Int32} {h : mh} {k7 : Int32 × mh → Option (Unit × mh)} {Q : Unit → mh → Prop} (hfu : 5000 ≤ fu) (hL : LM h.2) (hw : wdM h) (hb : tpM B n h) (hp : p < n) (hc : c ≤ 400) (h1 : gI h 299 10 = nI c)
    (hk : ∀ v1 h', aft h c (rE lt9 B n p) (if 8 < rE lt9 B n p - p then 99 else wix (lls B p (rE lt9 B n p - p)), p, 0, lls B p (rE lt9 B n p - p)) v1 h' → ok (k7 (v1, h')) Q) : ok (itr (bX10_cut_85 fu k7 299 (nI p) x) fu (0, 0, h)) Q := by
  obtain ⟨r1, r2⟩ := runs_nat (P := lt9) (B := B) (Nat.le_of_lt hp) hb.1
  have r3 := rE_run (P := lt9) (B := B) (Nat.le_of_lt hp)
  have r4 := rE_end (P := lt9) (B := B) (n := n) (n - p) p (Nat.le_refl _)
  obtain ⟨e, he⟩ : ∃ e, e = rE lt9 B n p := ⟨_, rfl⟩
  rw [← he] at r1 r2 r3 r4 hk
  obtain ⟨m, hm⟩ : ∃ m, m = e - p := ⟨_, rfl⟩
  rw [← hm] at r1 r3 hk
  have hn := hb.1
  refine itr_up (I := fun j s => s = (nI j, lN (cod 27 (lls B p (min j 8))), h)) (P := fun R => ok R Q) (n := m) ?_ ?_ fu 0 _ (by omega) (by omega) rfl
  · intro j s k hj hI hk2
    subst hI
    obtain ⟨b1, b2⟩ := r3 j hj
    obtain ⟨b3, b4⟩ := hb.2.2 (p + j) b1
    have b5 : bAt B n (p + j) = B (p + j) := if_pos b1
    unfold bX10_cut_85
    dsimp only
    repeat (first | with_reducible apply v_lt | ((with_reducible apply w_MR); exact hL; rfl) | ((with_reducible apply w_lv); exact hL; assumption) | ((with_reducible apply vMI); exact hL) | ((with_reducible apply vMS); exact hL) | ((with_reducible apply vMC); exact hL) | ((with_reducible apply vMZ); exact hL; (first | exact Or.inl rfl | exact Or.inr rfl | exact b2i_01 _ | assumption)) | ((first | with_reducible apply w_MA | with_reducible apply w_MW | with_reducible apply w_MY | with_reducible apply w_MB | with_reducible apply w_MJ | with_reducible apply w_MK); exact hL; rfl; rfl; rfl; (first | with_reducible rfl | with_reducible exact ixo _ | with_reducible exact ixoc _ _ | with_reducible exact ixom _ _ _ | with_reducible exact ixop _ _ | with_reducible exact ixod _ _ | assumption); omega))
    rw [nI_add]
    refine v_eq (byteM' hL hb (by omega)) ?_
    rw [b5]
    refine v_eq (letM b3) ?_
    rw [b2]
    refine v_ie (by decide) ?_
    by_cases z : 8 ≤ j
    · refine v_it (show nI 8 ≤ nI j from nI_le z (by omega)) ?_
      unfold fX10_cut_118
      rw [nI_1]
      refine hk2 _ ?_
      rw [Nat.min_eq_right z, Nat.min_eq_right (by omega)]
    · refine v_ie (show ¬ nI 8 ≤ nI j from nI_ge (by omega) (by omega)) ?_
      repeat (first | with_reducible apply v_lt | ((with_reducible apply w_MR); exact hL; rfl) | ((with_reducible apply w_lv); exact hL; assumption) | ((with_reducible apply vMI); exact hL) | ((with_reducible apply vMS); exact hL) | ((with_reducible apply vMC); exact hL) | ((with_reducible apply vMZ); exact hL; (first | exact Or.inl rfl | exact Or.inr rfl | exact b2i_01 _ | assumption)) | ((first | with_reducible apply w_MA | with_reducible apply w_MW | with_reducible apply w_MY | with_reducible apply w_MB | with_reducible apply w_MJ | with_reducible apply w_MK); exact hL; rfl; rfl; rfl; (first | with_reducible rfl | with_reducible exact ixo _ | with_reducible exact ixoc _ _ | with_reducible exact ixom _ _ _ | with_reducible exact ixop _ _ | with_reducible exact ixod _ _ | assumption); omega))
      refine v_eq (byteM' hL hb (by omega)) ?_
      rw [b5]
      refine v_eq (x := lN (cod 27 (lls B p (j + 1)))) (h1 := h) ?_ ?_
      · unfold fX10_appends
        rw [if_neg (let_all _ b3 b2).2, (let_all _ b3 b2).1, lN_app7, Nat.min_eq_left (by omega), show lls B p (j + 1) = lls B p j ++ [B (p + j) - 96] from rfl, cod_snoc]
        rfl
      · unfold fX10_cut_118
        rw [nI_1]
        refine hk2 _ ?_
        rw [Nat.min_eq_left (by omega)]
  · intro s k hI
    subst hI
    unfold bX10_cut_85
    dsimp only
    repeat (first | with_reducible apply v_lt | ((with_reducible apply w_MR); exact hL; rfl) | ((with_reducible apply w_lv); exact hL; assumption) | ((with_reducible apply vMI); exact hL) | ((with_reducible apply vMS); exact hL) | ((with_reducible apply vMC); exact hL) | ((with_reducible apply vMZ); exact hL; (first | exact Or.inl rfl | exact Or.inr rfl | exact b2i_01 _ | assumption)) | ((first | with_reducible apply w_MA | with_reducible apply w_MW | with_reducible apply w_MY | with_reducible apply w_MB | with_reducible apply w_MJ | with_reducible apply w_MK); exact hL; rfl; rfl; rfl; (first | with_reducible rfl | with_reducible exact ixo _ | with_reducible exact ixoc _ _ | with_reducible exact ixom _ _ _ | with_reducible exact ixop _ _ | with_reducible exact ixod _ _ | assumption); omega))
    rw [nI_add, r1]
    refine v_eq (byteM' hL hb (by omega)) ?_
    refine v_eq (letM (bAt_lt hb)) ?_
    rw [end_P rfl r4]
    refine v_it rfl ?_
    have fin : ∀ kd : Nat, kd = (if 8 < m then 99 else wix (lls B p m)) → ok (fX10_cut_179 fu k7 299 (nI p) x (nI m) (lN (cod 27 (lls B p (min m 8)))) (soM kd) h) Q := by
      intro kd hkd
      unfold fX10_cut_179
      repeat (first | with_reducible apply v_lt | ((with_reducible apply w_MR); exact hL; rfl) | ((with_reducible apply w_lv); exact hL; assumption) | ((with_reducible apply vMI); exact hL) | ((with_reducible apply vMS); exact hL) | ((with_reducible apply vMC); exact hL) | ((with_reducible apply vMZ); exact hL; (first | exact Or.inl rfl | exact Or.inr rfl | exact b2i_01 _ | assumption)) | ((first | with_reducible apply w_MA | with_reducible apply w_MW | with_reducible apply w_MY | with_reducible apply w_MB | with_reducible apply w_MJ | with_reducible apply w_MK); exact hL; rfl; rfl; rfl; (first | with_reducible rfl | with_reducible exact ixo _ | with_reducible exact ixoc _ _ | with_reducible exact ixom _ _ _ | with_reducible exact ixop _ _ | with_reducible exact ixod _ _ | assumption); omega))
      refine v_bd (tokM hL hc h1) (fun _ h2 hq => ?_)
      obtain ⟨q1, q2, q3, q4, q5, q6⟩ := hq
      rw [nI_add, r1]
      show ok (k7 (nI e, h2)) Q
      refine hk _ _ ⟨rfl, q1, q2, ?_, q4, fun w => ?_, fun w => ?_⟩
      · rw [q3, hkd]
        rfl
      · have w : (if 8 < m then 99 else wix (lls B p m)) = 23 := w
        have w1 := wix_le (lls B p m)
        split at w <;> omega
      · have w : (if 8 < m then 99 else wix (lls B p m)) = 22 := w
        split at w
        · omega
        · next z =>
          rw [q6, Nat.min_eq_left (by omega)]
          rfl
    unfold fX10_cut_124
    by_cases z : 8 < m
    · refine v_ie (show ¬ nI m ≤ nI 8 from nI_ge z (by omega)) ?_
      unfold fX10_cut_135
      refine v_it (show nI 8 < nI m from nI_lt z (by omega)) ?_
      exact fin 99 (by rw [if_pos z])
    · refine v_it (show nI m ≤ nI 8 from nI_le (by omega) (by omega)) ?_
      unfold fX10_cut_135
      refine v_ie (show ¬ nI 8 < nI m from nI_nlt (by omega) (by omega)) ?_
      have okq : okl (lls B p m) := lls_ok (fun i hi => (r3 i hi).2)
      have hcd : cod 27 (lls B p m) < 2 ^ 41 := by
        have c1 := cod_lt (R := 27) (by omega) m B p okq
        have c2 : 27 ^ m ≤ 27 ^ 8 := Nat.pow_le_pow_right (by omega) (by omega)
        have c3 : 27 ^ 8 < 2 ^ 41 := by decide
        omega
      rw [Nat.min_eq_left (by omega)] at fin ⊢
      refine loop3 (n := 22) (I := fun j v h' => h' = h ∧ v = if wix (lls B p m) < j then nI (20 + wix (lls B p m)) else 1) (by omega) (by omega) ⟨rfl, by rw [if_neg (by omega)]⟩ ?_ ?_
      · intro v h' k hI
        obtain ⟨rfl, rfl⟩ := hI
        unfold bX10_cut_146
        dsimp only
        refine v_it (show nI 22 ≤ nI 22 from nI_le (by omega) (by omega)) ?_
        have := fin (wix (lls B p m)) (by rw [if_neg z])
        have w1 := wix_le (lls B p m)
        have e9 : soM (wix (lls B p m)) = if wix (lls B p m) < 22 then nI (20 + wix (lls B p m)) else 1 := by
          obtain ⟨q, hq⟩ : ∃ q, q = wix (lls B p m) := ⟨_, rfl⟩
          rw [← hq] at w1 ⊢
          by_cases z2 : q < 22
          · unfold soM
            rw [if_pos z2, if_pos z2]
          · have : q = 22 := by omega
            subst this
            rfl
        rw [e9] at this
        exact this
      · intro j v h' k hj hI hk3
        obtain ⟨rfl, rfl⟩ := hI
        unfold bX10_cut_146
        dsimp only
        refine v_ie (show ¬ nI 22 ≤ nI j from nI_ge hj (by omega)) ?_
        repeat (first | with_reducible apply v_lt | ((with_reducible apply w_MR); exact hL; rfl) | ((with_reducible apply w_lv); exact hL; assumption) | ((with_reducible apply vMI); exact hL) | ((with_reducible apply vMS); exact hL) | ((with_reducible apply vMC); exact hL) | ((with_reducible apply vMZ); exact hL; (first | exact Or.inl rfl | exact Or.inr rfl | exact b2i_01 _ | assumption)) | ((first | with_reducible apply w_MA | with_reducible apply w_MW | with_reducible apply w_MY | with_reducible apply w_MB | with_reducible apply w_MJ | with_reducible apply w_MK); exact hL; rfl; rfl; rfl; (first | with_reducible rfl | with_reducible exact ixo _ | with_reducible exact ixoc _ _ | with_reducible exact ixom _ _ _ | with_reducible exact ixop _ _ | with_reducible exact ixod _ _ | assumption); omega))
        rw [hw j hj]
        refine v_if (fun w => ?_) (fun w => ?_)
        · have w1 := wix_lt hj ((word_eq (Or.inr rfl) hj okq hcd).mp ((lg0 _ _).mp w))
          unfold fX10_cut_173
          refine hk3 _ _ ⟨rfl, ?_⟩
          rw [w1, if_pos (by omega)]
          exact nI_add 20 j
        · unfold fX10_cut_173
          refine hk3 _ _ ⟨rfl, ?_⟩
          by_cases e1 : wix (lls B p m) < j
          · rw [if_pos e1, if_pos (by omega)]
          · by_cases e2 : wix (lls B p m) = j
            · refine absurd ((lg0 _ _).mpr ((word_eq (Or.inr rfl) hj okq hcd).mpr ?_)) w
              rw [← e2]
              exact wix_is (by omega)
            · rw [if_neg e1, if_neg (by omega)]
theorem nI_mul10' (a b : Nat) (hb : 48 ≤ b) : 10 * nI a + nI b - 48 = nI (10 * a + (b - 48)) := by
  rw [Int32.mul_comm, nI_mul10, show (48 : Int32) = nI 48 from rfl, pk_sub (by omega)]
  congr 1
  omega
set_option maxHeartbeats 1000000 in
theorem digsM {fu n p c : Nat} {B : Nat → Nat} {x : Int32} {h : mh} {k7 : Int32 × mh → Option (Unit × mh)} {Q : Unit → mh → Prop} (hfu : 5000 ≤ fu) (hL : LM h.2) (hb : tpM B n h) (hp : p < n) (hc : c ≤ 400) (h1 : gI h 299 10 = nI c)
    (hk : ∀ v1 h', aft h c (rE dg9 B n p) (if 4 < rE dg9 B n p - p then 99 else 23, p, dvl B p (rE dg9 B n p - p), []) v1 h' → ok (k7 (v1, h')) Q) : ok (itr (bX10_cut_208 fu k7 299 (nI p) x) fu (0, 0, h)) Q := by
  obtain ⟨r1, r2⟩ := runs_nat (P := dg9) (B := B) (Nat.le_of_lt hp) hb.1
  have r3 := rE_run (P := dg9) (B := B) (Nat.le_of_lt hp)
  have r4 := rE_end (P := dg9) (B := B) (n := n) (n - p) p (Nat.le_refl _)
  obtain ⟨e, he⟩ : ∃ e, e = rE dg9 B n p := ⟨_, rfl⟩
  rw [← he] at r1 r2 r3 r4 hk
  obtain ⟨m, hm⟩ : ∃ m, m = e - p := ⟨_, rfl⟩
  rw [← hm] at r1 r3 hk
  have hn := hb.1
  refine itr_up (I := fun j s => s = (nI j, nI (dvl B p (min j 4)), h)) (P := fun R => ok R Q) (n := m) ?_ ?_ fu 0 _ (by omega) (by omega) rfl
  · intro j s k hj hI hk2
    subst hI
    obtain ⟨b1, b2⟩ := r3 j hj
    obtain ⟨b3, b4⟩ := hb.2.2 (p + j) b1
    have b5 : bAt B n (p + j) = B (p + j) := if_pos b1
    unfold bX10_cut_208
    dsimp only
    repeat (first | with_reducible apply v_lt | ((with_reducible apply w_MR); exact hL; rfl) | ((with_reducible apply w_lv); exact hL; assumption) | ((with_reducible apply vMI); exact hL) | ((with_reducible apply vMS); exact hL) | ((with_reducible apply vMC); exact hL) | ((with_reducible apply vMZ); exact hL; (first | exact Or.inl rfl | exact Or.inr rfl | exact b2i_01 _ | assumption)) | ((first | with_reducible apply w_MA | with_reducible apply w_MW | with_reducible apply w_MY | with_reducible apply w_MB | with_reducible apply w_MJ | with_reducible apply w_MK); exact hL; rfl; rfl; rfl; (first | with_reducible rfl | with_reducible exact ixo _ | with_reducible exact ixoc _ _ | with_reducible exact ixom _ _ _ | with_reducible exact ixop _ _ | with_reducible exact ixod _ _ | assumption); omega))
    rw [nI_add]
    refine v_eq (byteM' hL hb (by omega)) ?_
    rw [b5]
    refine v_eq (digM b3) ?_
    rw [b2]
    refine v_ie (by decide) ?_
    by_cases z : 4 ≤ j
    · refine v_it (show nI 4 ≤ nI j from nI_le z (by omega)) ?_
      unfold fX10_cut_244
      rw [nI_1]
      refine hk2 _ ?_
      rw [Nat.min_eq_right z, Nat.min_eq_right (by omega)]
    · refine v_ie (show ¬ nI 4 ≤ nI j from nI_ge (by omega) (by omega)) ?_
      repeat (first | with_reducible apply v_lt | ((with_reducible apply w_MR); exact hL; rfl) | ((with_reducible apply w_lv); exact hL; assumption) | ((with_reducible apply vMI); exact hL) | ((with_reducible apply vMS); exact hL) | ((with_reducible apply vMC); exact hL) | ((with_reducible apply vMZ); exact hL; (first | exact Or.inl rfl | exact Or.inr rfl | exact b2i_01 _ | assumption)) | ((first | with_reducible apply w_MA | with_reducible apply w_MW | with_reducible apply w_MY | with_reducible apply w_MB | with_reducible apply w_MJ | with_reducible apply w_MK); exact hL; rfl; rfl; rfl; (first | with_reducible rfl | with_reducible exact ixo _ | with_reducible exact ixoc _ _ | with_reducible exact ixom _ _ _ | with_reducible exact ixop _ _ | with_reducible exact ixod _ _ | assumption); omega))
      refine v_eq (byteM' hL hb (by omega)) ?_
      rw [b5, nI_mul10' _ _ (of_decide_eq_true b2).1]
      show ok (fX10_cut_244 fu k7 k 299 (nI p) x (nI j) (nI (10 * dvl B p (min j 4) + (B (p + j) - 48))) h) Q
      unfold fX10_cut_244
      rw [nI_1]
      refine hk2 _ ?_
      rw [Nat.min_eq_left (by omega), Nat.min_eq_left (by omega)]
      rfl
  · intro s k hI
    subst hI
    unfold bX10_cut_208
    dsimp only
    repeat (first | with_reducible apply v_lt | ((with_reducible apply w_MR); exact hL; rfl) | ((with_reducible apply w_lv); exact hL; assumption) | ((with_reducible apply vMI); exact hL) | ((with_reducible apply vMS); exact hL) | ((with_reducible apply vMC); exact hL) | ((with_reducible apply vMZ); exact hL; (first | exact Or.inl rfl | exact Or.inr rfl | exact b2i_01 _ | assumption)) | ((first | with_reducible apply w_MA | with_reducible apply w_MW | with_reducible apply w_MY | with_reducible apply w_MB | with_reducible apply w_MJ | with_reducible apply w_MK); exact hL; rfl; rfl; rfl; (first | with_reducible rfl | with_reducible exact ixo _ | with_reducible exact ixoc _ _ | with_reducible exact ixom _ _ _ | with_reducible exact ixop _ _ | with_reducible exact ixod _ _ | assumption); omega))
    rw [nI_add, r1]
    refine v_eq (byteM' hL hb (by omega)) ?_
    refine v_eq (digM (bAt_lt hb)) ?_
    rw [end_P rfl r4]
    refine v_it rfl ?_
    have fin : ∀ kd : Nat, kd = (if 4 < m then 99 else 23) → ok (fX10_cut_261 fu k7 299 (nI p) x (nI m) (nI (dvl B p (min m 4))) 299 (soM kd) h) Q := by
      intro kd hkd
      unfold fX10_cut_261
      repeat (first | with_reducible apply v_lt | ((with_reducible apply w_MR); exact hL; rfl) | ((with_reducible apply w_lv); exact hL; assumption) | ((with_reducible apply vMI); exact hL) | ((with_reducible apply vMS); exact hL) | ((with_reducible apply vMC); exact hL) | ((with_reducible apply vMZ); exact hL; (first | exact Or.inl rfl | exact Or.inr rfl | exact b2i_01 _ | assumption)) | ((first | with_reducible apply w_MA | with_reducible apply w_MW | with_reducible apply w_MY | with_reducible apply w_MB | with_reducible apply w_MJ | with_reducible apply w_MK); exact hL; rfl; rfl; rfl; (first | with_reducible rfl | with_reducible exact ixo _ | with_reducible exact ixoc _ _ | with_reducible exact ixom _ _ _ | with_reducible exact ixop _ _ | with_reducible exact ixod _ _ | assumption); omega))
      refine v_bd (tokM hL hc h1) (fun _ h2 hq => ?_)
      obtain ⟨q1, q2, q3, q4, q5, q6⟩ := hq
      rw [nI_add, r1]
      show ok (k7 (nI e, h2)) Q
      refine hk _ _ ⟨rfl, q1, q2, ?_, q4, fun w => ?_, fun w => ?_⟩
      · rw [q3, hkd]
        rfl
      · have w : (if 4 < m then 99 else 23) = 23 := w
        split at w
        · omega
        · next z =>
          rw [q5, Nat.min_eq_left (by omega)]
          rfl
      · have w : (if 4 < m then 99 else 23) = 22 := w
        split at w <;> omega
    unfold fX10_cut_250
    by_cases z : 4 < m
    · refine v_ie (show ¬ nI m ≤ nI 4 from nI_ge z (by omega)) ?_
      exact fin 99 (by rw [if_pos z])
    · refine v_it (show nI m ≤ nI 4 from nI_le (by omega) (by omega)) ?_
      exact fin 23 (by rw [if_neg z])
theorem s_all : ∀ n, n < 256 → ((nI n = 59 ↔ n = 59) ∧ (nI n = 61 ↔ n = 61) ∧ (nI n = 40 ↔ n = 40) ∧ (nI n = 41 ↔ n = 41) ∧ (nI n = 43 ↔ n = 43) ∧ (nI n = 45 ↔ n = 45) ∧ (nI n = 42 ↔ n = 42) ∧ (nI n = 47 ↔ n = 47) ∧ (nI n = 60 ↔ n = 60)) := by decide +kernel
set_option maxHeartbeats 1000000 in
theorem signM {fu b c p : Nat} {y : Int32} {h : mh} (hL : LM h.2) (hb : b < 256) (hc : c ≤ 400) (h1 : gI h 299 10 = nI c) : ok (fX10_sign fu 299 (nI p) (nI b) y h) (fun x h' => x = 1 ∧ eL (sOn c) (lOn c) h h' ∧ gI h' 299 10 = nI (c + 1) ∧ tkM h' c (if sg9 b then b else 99, p, 0, [])) := by
  obtain ⟨s1, s2, s3, s4, s5, s6, s7, s8, s9⟩ := s_all b hb
  have fin : ∀ v, v = soM (if sg9 b then b else 99) → ok (fX10_sign_95 fu 299 (nI p) (nI b) y v h) (fun x h' => x = 1 ∧ eL (sOn c) (lOn c) h h' ∧ gI h' 299 10 = nI (c + 1) ∧ tkM h' c (if sg9 b then b else 99, p, 0, [])) := by
    intro v hv
    unfold fX10_sign_95
    repeat (first | with_reducible apply v_lt | ((with_reducible apply w_MR); exact hL; rfl) | ((with_reducible apply w_lv); exact hL; assumption) | ((with_reducible apply vMI); exact hL) | ((with_reducible apply vMS); exact hL) | ((with_reducible apply vMC); exact hL) | ((with_reducible apply vMZ); exact hL; (first | exact Or.inl rfl | exact Or.inr rfl | exact b2i_01 _ | assumption)) | ((first | with_reducible apply w_MA | with_reducible apply w_MW | with_reducible apply w_MY | with_reducible apply w_MB | with_reducible apply w_MJ | with_reducible apply w_MK); exact hL; rfl; rfl; rfl; (first | with_reducible rfl | with_reducible exact ixo _ | with_reducible exact ixoc _ _ | with_reducible exact ixom _ _ _ | with_reducible exact ixop _ _ | with_reducible exact ixod _ _ | assumption); omega))
    refine v_bd (tokM hL hc h1) (fun _ h2 hq => ?_)
    obtain ⟨q1, q2, q3, q4, q5, q6⟩ := hq
    have sgk := sg_all2 _ hb
    exact v_rI ⟨rfl, q1, q2, by rw [q3, hv]; rfl, q4, fun w => absurd w sgk.2.1, fun w => absurd w sgk.2.2⟩
  by_cases e1 : b = 59
  · subst e1
    exact fin 4 rfl
  by_cases e2 : b = 61
  · subst e2
    exact fin 5 rfl
  by_cases e3 : b = 40
  · subst e3
    exact fin 6 rfl
  by_cases e4 : b = 41
  · subst e4
    exact fin 7 rfl
  by_cases e5 : b = 43
  · subst e5
    exact fin 8 rfl
  by_cases e6 : b = 45
  · subst e6
    exact fin 9 rfl
  by_cases e7 : b = 42
  · subst e7
    exact fin 10 rfl
  by_cases e8 : b = 47
  · subst e8
    exact fin 15 rfl
  by_cases e9 : b = 60
  · subst e9
    exact fin 13 rfl
  have h9 : sg9 b = false := decide_eq_false (by omega)
  unfold fX10_sign
  refine v_ie (fun w => e1 (s1.mp w)) (v_ie (fun w => e2 (s2.mp w)) (v_ie (fun w => e3 (s3.mp w)) (v_ie (fun w => e4 (s4.mp w)) ?_)))
  unfold fX10_sign_43
  refine v_ie (fun w => e5 (s5.mp w)) ?_
  unfold fX10_sign_55
  refine v_ie (fun w => e6 (s6.mp w)) ?_
  unfold fX10_sign_65
  refine v_ie (fun w => e7 (s7.mp w)) ?_
  unfold fX10_sign_75
  refine v_ie (fun w => e8 (s8.mp w)) ?_
  unfold fX10_sign_85
  refine v_ie (fun w => e9 (s9.mp w)) ?_
  exact fin 3 (by rw [h9]; rfl)
/-- all tokens up to the end stand in the rows -/
def allM (B : Nat → Nat) (n : Nat) (h : mh) : Prop := ∀ i, i ≤ 400 → (∀ j, j < i → tkK (tk B n j) ≠ 98) → tkM h i (tk B n i)
def sCu (a k : Nat) : Prop := (a = 299 ∧ k = 10) ∨ (302 ≤ a ∧ a ≤ 304)
def lCu (a _k : Nat) : Prop := a = 305
theorem eL_On {c : Nat} {h h1 : mh} (p : eL (sOn c) (lOn c) h h1) : eL sCu lCu h h1 := eL_mono p (fun a k q => by unfold sOn at q; unfold sCu; omega) (fun a k q => q.1)
theorem tkM_On {c i : Nat} {h h1 : mh} {q : Tk} (p : eL (sOn c) (lOn c) h h1) (hi : i < c) (w : tkM h i q) : tkM h1 i q := by
  obtain ⟨w1, w2, w3, w4⟩ := w
  have f : ∀ a, a ≠ 299 → gI h1 a i = gI h a i := fun a ha => p.2.1 _ _ (fun z => by unfold sOn at z; omega)
  have g9 : gL h1 305 i = gL h 305 i := p.2.2 _ _ (fun z => by unfold lOn at z; omega)
  exact ⟨by rw [f _ (by omega)]; exact w1, by rw [f _ (by omega)]; exact w2, fun z => by rw [f _ (by omega)]; exact w3 z, fun z => by rw [g9]; exact w4 z⟩
theorem tk_at {B : Nat → Nat} {n c p : Nat} (hp : p < n) (hb : bl9 (B p) = false) (e : rE bl9 B n p = rE bl9 B n (pos B n c)) : tk B n c = (tkAt B n p).1 ∧ pos B n (c + 1) = (tkAt B n p).2 := by
  have e0 : rE bl9 B n p = p := rE_0 (fun z => by rw [hb] at z; cases z.2)
  have e1 : tkNx B n (pos B n c) = some (tkAt B n p) := by
    unfold tkNx
    rw [← e, e0, if_pos hp]
  constructor
  · unfold tk
    rw [e1]
  · show (match tkNx B n (pos B n c) with | some (_, e) => e | none => pos B n c) = _
    rw [e1]
theorem tk_end {B : Nat → Nat} {n c p : Nat} (hp : n ≤ p) (e : rE bl9 B n p = rE bl9 B n (pos B n c)) : tk B n c = (98, n, 0, []) := by
  have e0 : rE bl9 B n p = p := rE_0 (by omega)
  have e1 : tkNx B n (pos B n c) = none := by
    unfold tkNx
    rw [← e, e0, if_neg (by omega)]
  unfold tk
  rw [e1]
theorem bl_all : ∀ n, n < 256 → (nI n = 9 ∨ nI n = 10 ∨ nI n = 13 ∨ nI n = 32 ↔ bl9 n = true) := fun n hn => (nb_all n hn).2.2
set_option maxHeartbeats 1000000 in
theorem cutM {fu n : Nat} {B : Nat → Nat} {h : mh} (hfu : 5000 ≤ fu) (hL : LM h.2) (hw : wdM h) (hb : tpM B n h) : ok (fX10_cut fu 299 h) (fun _ h' => eL sCu lCu h h' ∧ allM B n h') := by
  have hn := hb.1
  unfold fX10_cut
  repeat (first | with_reducible apply v_lt | ((with_reducible apply w_MR); exact hL; rfl) | ((with_reducible apply w_lv); exact hL; assumption) | ((with_reducible apply vMI); exact hL) | ((with_reducible apply vMS); exact hL) | ((with_reducible apply vMC); exact hL) | ((with_reducible apply vMZ); exact hL; (first | exact Or.inl rfl | exact Or.inr rfl | exact b2i_01 _ | assumption)) | ((first | with_reducible apply w_MA | with_reducible apply w_MW | with_reducible apply w_MY | with_reducible apply w_MB | with_reducible apply w_MJ | with_reducible apply w_MK); exact hL; rfl; rfl; rfl; (first | with_reducible rfl | with_reducible exact ixo _ | with_reducible exact ixoc _ _ | with_reducible exact ixom _ _ _ | with_reducible exact ixop _ _ | with_reducible exact ixod _ _ | assumption); omega))
  have o1 : eL sCu lCu h (uI h 299 10 0) := eL_uI eL_rf (Or.inl ⟨rfl, rfl⟩)
  refine itr_ms (I := fun s => ∃ p c, s.1 = nI p ∧ p ≤ n ∧ c ≤ 401 ∧ gI s.2 299 10 = nI c ∧ eL sCu lCu h s.2 ∧ rE bl9 B n p = rE bl9 B n (pos B n c) ∧ ∀ i, i < c → tkM s.2 i (tk B n i)) (P := fun R => ok R _) (fun s => n - s.1.toNatClampNeg) ?_ fu _ (by dsimp only; omega) ⟨0, 0, rfl, Nat.zero_le _, by omega, gI_eq, o1, rfl, fun i hi => absurd hi (Nat.not_lt_zero i)⟩
  intro s k hI hk
  obtain ⟨w, h2⟩ := s
  obtain ⟨p, c, e1, hp, hc, a1, o2, a2, a3⟩ := hI
  dsimp only at e1 a1 o2 a3 hk
  subst e1
  rw [nI_clamp (by omega)] at hk
  have hL2 := LM_eL o2 hL
  have hb2 := tpM_eL o2 (fun k z => by unfold sCu at z; omega) (fun z => by unfold sCu at z; omega) hb
  have hw2 : wdM h2 := fun i hi => by rw [o2.2.2 _ _ (fun z => by unfold lCu at z; omega)]; exact hw i hi
  unfold bX10_cut_7
  dsimp only
  repeat (first | with_reducible apply v_lt | ((with_reducible apply w_MR); exact hL2; rfl) | ((with_reducible apply w_lv); exact hL2; assumption) | ((with_reducible apply vMI); exact hL2) | ((with_reducible apply vMS); exact hL2) | ((with_reducible apply vMC); exact hL2) | ((with_reducible apply vMZ); exact hL2; (first | exact Or.inl rfl | exact Or.inr rfl | exact b2i_01 _ | assumption)) | ((first | with_reducible apply w_MA | with_reducible apply w_MW | with_reducible apply w_MY | with_reducible apply w_MB | with_reducible apply w_MJ | with_reducible apply w_MK); exact hL2; rfl; rfl; rfl; (first | with_reducible rfl | with_reducible exact ixo _ | with_reducible exact ixoc _ _ | with_reducible exact ixom _ _ _ | with_reducible exact ixop _ _ | with_reducible exact ixod _ _ | assumption); omega))
  rw [a1]
  by_cases z : 400 < c
  · refine v_it (show nI 400 < nI c from nI_lt z (by omega)) (v_rV ⟨o2, fun i hi _ => a3 i (by omega)⟩)
  · refine v_ie (show ¬ nI 400 < nI c from nI_nlt (by omega) (by omega)) ?_
    repeat (first | with_reducible apply v_lt | ((with_reducible apply w_MR); exact hL2; rfl) | ((with_reducible apply w_lv); exact hL2; assumption) | ((with_reducible apply vMI); exact hL2) | ((with_reducible apply vMS); exact hL2) | ((with_reducible apply vMC); exact hL2) | ((with_reducible apply vMZ); exact hL2; (first | exact Or.inl rfl | exact Or.inr rfl | exact b2i_01 _ | assumption)) | ((first | with_reducible apply w_MA | with_reducible apply w_MW | with_reducible apply w_MY | with_reducible apply w_MB | with_reducible apply w_MJ | with_reducible apply w_MK); exact hL2; rfl; rfl; rfl; (first | with_reducible rfl | with_reducible exact ixo _ | with_reducible exact ixoc _ _ | with_reducible exact ixom _ _ _ | with_reducible exact ixop _ _ | with_reducible exact ixod _ _ | assumption); omega))
    refine v_eq (byteM' hL2 hb2 (by omega)) ?_
    repeat (first | with_reducible apply v_lt | ((with_reducible apply w_MR); exact hL2; rfl) | ((with_reducible apply w_lv); exact hL2; assumption) | ((with_reducible apply vMI); exact hL2) | ((with_reducible apply vMS); exact hL2) | ((with_reducible apply vMC); exact hL2) | ((with_reducible apply vMZ); exact hL2; (first | exact Or.inl rfl | exact Or.inr rfl | exact b2i_01 _ | assumption)) | ((first | with_reducible apply w_MA | with_reducible apply w_MW | with_reducible apply w_MY | with_reducible apply w_MB | with_reducible apply w_MJ | with_reducible apply w_MK); exact hL2; rfl; rfl; rfl; (first | with_reducible rfl | with_reducible exact ixo _ | with_reducible exact ixoc _ _ | with_reducible exact ixom _ _ _ | with_reducible exact ixop _ _ | with_reducible exact ixod _ _ | assumption); omega))
    rw [hb2.2.1]
    by_cases zp : p < n
    · refine v_it (nI_lt zp (by omega)) ?_
      have b5 : bAt B n p = B p := if_pos zp
      have b3 := (hb2.2.2 p zp).1
      rw [b5]
      refine four_if (bl_all _ b3) (fun e => ?_) (fun e => ?_)
      · unfold fX10_cut_67 fX10_cut_291
        rw [nI_1]
        refine hk _ ⟨p + 1, c, rfl, by omega, hc, a1, o2, ?_, a3⟩ (by dsimp only; rw [nI_clamp (by omega)]; omega)
        rw [← a2, rE_s zp e]
      · obtain ⟨t1, t2⟩ := tk_at zp e a2
        have fin : ∀ v1 h', aft h2 c (tkAt B n p).2 (tkAt B n p).1 v1 h' → ok (k (v1, h')) (fun _ h' => eL sCu lCu h h' ∧ allM B n h') := by
          intro v1 h' q
          obtain ⟨rfl, q2, q3, q4⟩ := q
          have q5 := tkAt_end (B := B) zp
          refine hk _ ⟨(tkAt B n p).2, c + 1, rfl, q5.2, by omega, q3, eL_tr o2 (eL_On q2), by rw [t2], fun i hi => ?_⟩ (by dsimp only; rw [nI_clamp (by omega)]; omega)
          by_cases ei : i = c
          · rw [ei, t1]
            exact q4
          · exact tkM_On q2 (by omega) (a3 i (by omega))
        unfold tkAt at fin
        refine v_eq (letM b3) ?_
        cases l1 : lt9 (B p) with
        | true =>
          rw [l1] at fin
          refine v_ie (by decide) ?_
          exact letsM hfu hL2 hw2 hb2 zp (by omega) a1 fin
        | false =>
          rw [l1] at fin
          refine v_it rfl ?_
          refine v_eq (digM b3) ?_
          cases l2 : dg9 (B p) with
          | true =>
            rw [l2] at fin
            refine v_ie (by decide) ?_
            exact digsM hfu hL2 hb2 zp (by omega) a1 fin
          | false =>
            rw [l2] at fin
            refine v_it rfl ?_
            repeat (first | with_reducible apply v_lt | ((with_reducible apply w_MR); exact hL2; rfl) | ((with_reducible apply w_lv); exact hL2; assumption) | ((with_reducible apply vMI); exact hL2) | ((with_reducible apply vMS); exact hL2) | ((with_reducible apply vMC); exact hL2) | ((with_reducible apply vMZ); exact hL2; (first | exact Or.inl rfl | exact Or.inr rfl | exact b2i_01 _ | assumption)) | ((first | with_reducible apply w_MA | with_reducible apply w_MW | with_reducible apply w_MY | with_reducible apply w_MB | with_reducible apply w_MJ | with_reducible apply w_MK); exact hL2; rfl; rfl; rfl; (first | with_reducible rfl | with_reducible exact ixo _ | with_reducible exact ixoc _ _ | with_reducible exact ixom _ _ _ | with_reducible exact ixop _ _ | with_reducible exact ixod _ _ | assumption); omega))
            rw [nI_1]
            refine v_eq (byteM' hL2 hb2 (by omega)) ?_
            repeat (first | with_reducible apply v_lt | ((with_reducible apply w_MR); exact hL2; rfl) | ((with_reducible apply w_lv); exact hL2; assumption) | ((with_reducible apply vMI); exact hL2) | ((with_reducible apply vMS); exact hL2) | ((with_reducible apply vMC); exact hL2) | ((with_reducible apply vMZ); exact hL2; (first | exact Or.inl rfl | exact Or.inr rfl | exact b2i_01 _ | assumption)) | ((first | with_reducible apply w_MA | with_reducible apply w_MW | with_reducible apply w_MY | with_reducible apply w_MB | with_reducible apply w_MJ | with_reducible apply w_MK); exact hL2; rfl; rfl; rfl; (first | with_reducible rfl | with_reducible exact ixo _ | with_reducible exact ixoc _ _ | with_reducible exact ixom _ _ _ | with_reducible exact ixop _ _ | with_reducible exact ixod _ _ | assumption); omega))
            refine v_bd (signM hL2 b3 (by omega) a1) (fun x h3 hq => ?_)
            obtain ⟨rfl, q1, q2, q3⟩ := hq
            rw [nI_1]
            exact fin _ _ ⟨rfl, q1, q2, q3⟩
    · refine v_ie (nI_nlt (by omega) (by omega)) ?_
      have t1 := tk_end (by omega) a2
      unfold fX10_cut_31
      repeat (first | with_reducible apply v_lt | ((with_reducible apply w_MR); exact hL2; rfl) | ((with_reducible apply w_lv); exact hL2; assumption) | ((with_reducible apply vMI); exact hL2) | ((with_reducible apply vMS); exact hL2) | ((with_reducible apply vMC); exact hL2) | ((with_reducible apply vMZ); exact hL2; (first | exact Or.inl rfl | exact Or.inr rfl | exact b2i_01 _ | assumption)) | ((first | with_reducible apply w_MA | with_reducible apply w_MW | with_reducible apply w_MY | with_reducible apply w_MB | with_reducible apply w_MJ | with_reducible apply w_MK); exact hL2; rfl; rfl; rfl; (first | with_reducible rfl | with_reducible exact ixo _ | with_reducible exact ixoc _ _ | with_reducible exact ixom _ _ _ | with_reducible exact ixop _ _ | with_reducible exact ixod _ _ | assumption); omega))
      refine v_bd (tokM hL2 (by omega) a1) (fun _ h3 hq => ?_)
      obtain ⟨q1, q2, q3, q4, q5, q6⟩ := hq
      refine v_rV ⟨eL_tr o2 (eL_On q1), fun i hi hno => ?_⟩
      by_cases ei : i < c
      · exact tkM_On q1 ei (a3 i ei)
      · by_cases ec : i = c
        · rw [ec, t1]
          exact ⟨q3, q4.trans hb2.2.1, fun w => absurd w (show ¬ (98 : Nat) = 23 by decide), fun w => absurd w (show ¬ (98 : Nat) = 22 by decide)⟩
        · exact absurd (by rw [t1]; rfl) (hno c (by omega))
