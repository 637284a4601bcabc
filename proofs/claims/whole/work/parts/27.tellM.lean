/-! A LAW: ifs and a last part; what it tells; the reference's lawTells -/
abbrev Lw : Type := Option (List (Pf × Pf × Pf) × Pf)
def lawv (vars : Nat → Int32) : List (Pf × Pf × Pf) → Pf → Int32
  | [], e => (vlP vars e).getD 0
  | (a, b, c) :: ts, e => match vlP vars a, vlP vars b with
    | some x, some y => if x < y then (vlP vars c).getD 0 else lawv vars ts e
    | _, _ => 0
def vlL (vars : Nat → Int32) (d : Int32) : Lw → Int32
  | none => d
  | some (ts, e) => lawv vars ts e
def segM (h : mh) (c0 : Nat) (e : Pf) : Prop := ∀ (i : Nat) (k : Nat) (v : Int32), e[i]? = some (k, v) → gI h 328 (c0 + i) = nI k ∧ gI h 329 (c0 + i) = v
/-- the branches from f on -/
def brsM (h : mh) : Nat → List (Pf × Pf × Pf) → Pf → Prop
  | f, [], e => f < 260 ∧ gI h 323 f = 0 ∧ ∃ c0, c0 + e.length ≤ 840 ∧ gI h 326 f = nI c0 ∧ gI h 327 f = nI (c0 + e.length) ∧ segM h c0 e ∧ wfP e 0
  | f, (a, b, c) :: ts, e => (f < 260 ∧ gI h 323 f = 1 ∧ ∃ c0, c0 + a.length + b.length + c.length ≤ 840 ∧ gI h 324 f = nI c0 ∧ gI h 325 f = nI (c0 + a.length) ∧ gI h 326 f = nI (c0 + a.length + b.length) ∧ gI h 327 f = nI (c0 + a.length + b.length + c.length) ∧ segM h c0 a ∧ segM h (c0 + a.length) b ∧ segM h (c0 + a.length + b.length) c ∧ wfP a 0 ∧ wfP b 0 ∧ wfP c 0) ∧ brsM h (f + 1) ts e
/-- alike where the branches and the code of side l lie -/
def sdM (l : Nat) (h h1 : mh) : Prop := (∀ a j, 323 ≤ a → a ≤ 327 → 130 * l ≤ j → j < 130 * l + 130 → gI h1 a j = gI h a j) ∧ (∀ a j, 328 ≤ a → a ≤ 329 → 420 * l ≤ j → j < 420 * l + 420 → gI h1 a j = gI h a j)
/-- the branches from f on, all of them and their code on side l -/
def brsL (h : mh) (l f : Nat) (ts : List (Pf × Pf × Pf)) (e : Pf) : Prop := ∀ h1, sdM l h h1 → brsM h1 f ts e
theorem brsL_M {h : mh} {l f : Nat} {ts : List (Pf × Pf × Pf)} {e : Pf} (q : brsL h l f ts e) : brsM h f ts e := q h ⟨fun _ _ _ _ _ _ => rfl, fun _ _ _ _ _ _ => rfl⟩
theorem brsL_sd {h h1 : mh} {l f : Nat} {ts : List (Pf × Pf × Pf)} {e : Pf} (s : sdM l h h1) (q : brsL h l f ts e) : brsL h1 l f ts e := fun h2 s2 => q h2 ⟨fun a j a1 a2 a3 a4 => (s2.1 a j a1 a2 a3 a4).trans (s.1 a j a1 a2 a3 a4), fun a j a1 a2 a3 a4 => (s2.2 a j a1 a2 a3 a4).trans (s.2 a j a1 a2 a3 a4)⟩
theorem brsL_eo {S : Nat → Nat → Prop} {h h1 : mh} {l f : Nat} {ts : List (Pf × Pf × Pf)} {e : Pf} (o : eo S h h1) (hs : ∀ a, 323 ≤ a → a ≤ 329 → ∀ k, ¬ S a k) (q : brsL h l f ts e) : brsL h1 l f ts e := brsL_sd ⟨fun a j a1 a2 _ _ => o.2 _ _ (hs a a1 (by omega) j), fun a j a1 a2 _ _ => o.2 _ _ (hs a (by omega) a2 j)⟩ q
def lawM (h : mh) (l k : Nat) (A : Lw) : Prop := match A with
  | none => gI h 321 (4 * l + k) = gI h 322 (4 * l + k)
  | some (ts, e) => ∃ f, f + ts.length < 260 ∧ gI h 321 (4 * l + k) = nI f ∧ gI h 322 (4 * l + k) = nI (f + ts.length + 1) ∧ brsL h l f ts e
theorem segM_eo {S : Nat → Nat → Prop} {h h1 : mh} {c0 : Nat} {e : Pf} (o : eo S h h1) (h8 : ∀ k, ¬ S 328 k) (h9 : ∀ k, ¬ S 329 k) (s : segM h c0 e) : segM h1 c0 e := fun i k v q => by
  rw [o.2 _ _ (h8 _), o.2 _ _ (h9 _)]
  exact s i k v q
theorem brsM_eo {S : Nat → Nat → Prop} {h h1 : mh} (o : eo S h h1) (hs : ∀ a, 323 ≤ a → a ≤ 329 → ∀ k, ¬ S a k) : ∀ {f : Nat} {ts : List (Pf × Pf × Pf)} {e : Pf}, brsM h f ts e → brsM h1 f ts e
  | f, [], e, ⟨q0, q1, c0, q2, q3, q4, q5, q6⟩ => ⟨q0, by rw [o.2 _ _ (hs _ (by decide) (by decide) _)]; exact q1, c0, q2, by rw [o.2 _ _ (hs _ (by decide) (by decide) _)]; exact q3, by rw [o.2 _ _ (hs _ (by decide) (by decide) _)]; exact q4, segM_eo o (hs _ (by decide) (by decide)) (hs _ (by decide) (by decide)) q5, q6⟩
  | f, (a, b, c) :: ts, e, ⟨⟨q0, q1, c0, q2, q3, q4, q5, q6, q7, q8, q9, r1, r2, r3⟩, q⟩ => ⟨⟨q0, by rw [o.2 _ _ (hs _ (by decide) (by decide) _)]; exact q1, c0, q2, by rw [o.2 _ _ (hs _ (by decide) (by decide) _)]; exact q3, by rw [o.2 _ _ (hs _ (by decide) (by decide) _)]; exact q4, by rw [o.2 _ _ (hs _ (by decide) (by decide) _)]; exact q5, by rw [o.2 _ _ (hs _ (by decide) (by decide) _)]; exact q6, segM_eo o (hs _ (by decide) (by decide)) (hs _ (by decide) (by decide)) q7, segM_eo o (hs _ (by decide) (by decide)) (hs _ (by decide) (by decide)) q8, segM_eo o (hs _ (by decide) (by decide)) (hs _ (by decide) (by decide)) q9, r1, r2, r3⟩, brsM_eo o hs q⟩
theorem nST {a k : Nat} (h : 323 ≤ a) (h' : a ≤ 331) : ¬ sT a k := by
  unfold sT
  omega
/-- the part that is told -/
theorem partM {t u fu : Nat} {h : mh} {c0 f : Nat} {e : Pf} {va vb vc : Int32} (hL : Ly t u h) (hfu : 1000 ≤ fu) (hf : f < 260) (hc : c0 + e.length ≤ 840) (h6 : gI h 326 f = nI c0) (h7 : gI h 327 f = nI (c0 + e.length)) (hs : segM h c0 e) (hw : wfP e 0) (hb : gI h 299 50 = 0) :
    ok (fX10_lawTells_119 fu 299 va vb vc (nI f) h) (fun r h' => eo sT h h' ∧ r = (vlP (gI h 331) e).getD 0) := by
  unfold fX10_lawTells_119
  rw [ldR_of (cl299 hL) (rf299_41 hL), ldA_of (cl326 hL) (inr_nI hf (by omega)), nI_clamp (by omega), h6, ldR_of (cl299 hL) (rf299_42 hL), ldA_of (cl327 hL) (inr_nI hf (by omega)), nI_clamp (by omega), h7, ckO_of (cl299 hL)]
  refine ok_bd (ok_mono (termM hL hfu rfl hc hs hw) (fun x h1 hq => ?_))
  obtain ⟨o, hq⟩ := hq
  have hL1 := Ly_eo hL o
  rw [ldI_of (cl299 hL1)]
  rcases hq with ⟨v, q1, q2, q3⟩ | ⟨q1, q2, q3⟩
  · rw [q3, hb, if_pos rfl]
    exact ok_some ⟨o, by rw [q1, q2]; rfl⟩
  · rw [q3, if_neg (by decide)]
    exact ok_some ⟨o, by rw [q1]; rfl⟩
set_option maxHeartbeats 1000000 in
theorem brsM_loop {t u fu : Nat} {va vb vc : Int32} {at9 l9 : Nat} {e : Pf} (hfu : 1000 ≤ fu) (hat : at9 < 8) (hvc : vc = nI at9) : ∀ (ts : List (Pf × Pf × Pf)) (n f : Nat) (h : mh), Ly t u h → ts.length < n → f + ts.length < 260 → gI h 322 at9 = nI (f + ts.length + 1) → gI h 299 50 = 0 → brsM h f ts e →
    ok (itr (bX10_lawTells_39 fu 299 va vb vc) n (nI f, h)) (fun r h' => eo sT h h' ∧ r = lawv (gI h 331) ts e) := by
  intro ts
  induction ts with
  | nil =>
    intro n f h hL hn hf h2 hb hB
    obtain ⟨n, rfl⟩ : ∃ m, n = m + 1 := ⟨n - 1, by simp at hn; omega⟩
    rw [itr_s]
    unfold bX10_lawTells_39
    dsimp only
    obtain ⟨q0, q1, c0, q2, q3, q4, q5, q6⟩ := hB
    rw [hvc, ldR_of (cl299 hL) (rf299_36 hL), ldA_of (cl322 hL) (inr_nI hat (by omega)), nI_clamp (by omega), h2, if_neg (nI_ge (by simp) (by simp at hf ⊢; omega)), ldR_of (cl299 hL) (rf299_38 hL), ldA_of (cl323 hL) (inr_nI q0 (by omega)), nI_clamp (by omega), q1, if_pos rfl]
    exact partM hL hfu q0 q2 q3 q4 q5 q6 hb
  | cons p ts ih =>
    obtain ⟨a, b, c⟩ := p
    intro n f h hL hn hf h2 hb hB
    simp only [List.length_cons] at hn hf h2
    obtain ⟨n, rfl⟩ : ∃ m, n = m + 1 := ⟨n - 1, by omega⟩
    rw [itr_s]
    generalize hK : itr (bX10_lawTells_39 fu 299 va vb vc) n = kk
    unfold bX10_lawTells_39
    dsimp only
    obtain ⟨⟨q0, q1, c0, q2, q3, q4, q5, q6, q7, q8, q9, r1, r2, r3⟩, hB'⟩ := hB
    rw [hvc, ldR_of (cl299 hL) (rf299_36 hL), ldA_of (cl322 hL) (inr_nI hat (by omega)), nI_clamp (by omega), h2, if_neg (nI_ge (by omega) (by omega)), ldR_of (cl299 hL) (rf299_38 hL), ldA_of (cl323 hL) (inr_nI q0 (by omega)), nI_clamp (by omega), q1, if_neg (by decide), ldR_of (cl299 hL) (rf299_39 hL), ldA_of (cl324 hL) (inr_nI q0 (by omega)), nI_clamp (by omega), q3, ldR_of (cl299 hL) (rf299_40 hL), ldA_of (cl325 hL) (inr_nI q0 (by omega)), nI_clamp (by omega), q4, ckO_of (cl299 hL)]
    refine ok_bd (ok_mono (termM hL hfu rfl (by omega) q7 r1) (fun x h1 hq => ?_))
    obtain ⟨o1, hq1⟩ := hq
    have hL1 := Ly_eo hL o1
    have k5 : gI h1 325 f = nI (c0 + a.length) := by rw [o1.2 _ _ (nST (by decide) (by decide))]; exact q4
    have k6 : gI h1 326 f = nI (c0 + a.length + b.length) := by rw [o1.2 _ _ (nST (by decide) (by decide))]; exact q5
    rw [ldR_of (cl299 hL1) (rf299_40 hL1), ldA_of (cl325 hL1) (inr_nI q0 (by omega)), nI_clamp (by omega), k5, ldR_of (cl299 hL1) (rf299_41 hL1), ldA_of (cl326 hL1) (inr_nI q0 (by omega)), nI_clamp (by omega), k6, ckO_of (cl299 hL1)]
    refine ok_bd (ok_mono (termM hL1 hfu rfl (by omega) (segM_eo o1 (fun k => nST (by decide) (by decide)) (fun k => nST (by decide) (by decide)) q8) r2) (fun y h2' hq => ?_))
    obtain ⟨o2, hq2⟩ := hq
    have hL2 := Ly_eo hL1 o2
    have o12 := eo_tr o1 o2
    have hv1 : gI h1 331 = gI h 331 := by funext q; exact o1.2 _ _ (nST (by decide) (by decide))
    have hv2 : gI h2' 331 = gI h 331 := by funext q; exact o12.2 _ _ (nST (by decide) (by decide))
    rw [hv1] at hq2
    rw [ldI_of (cl299 hL2)]
    unfold lawv
    rcases hq1 with ⟨x', e1, rfl, f1⟩ | ⟨e1, rfl, f1⟩
    · rcases hq2 with ⟨y', e2, rfl, f2⟩ | ⟨e2, rfl, f2⟩
      · rw [f2, f1, hb, if_pos rfl, e1, e2]
        dsimp only
        by_cases hxy : x < y
        · rw [if_pos hxy, if_pos hxy]
          refine ok_mono (partM (e := c) hL2 hfu q0 q2 (by rw [o12.2 _ _ (nST (by decide) (by decide))]; exact q5) (by rw [o12.2 _ _ (nST (by decide) (by decide))]; exact q6) (segM_eo o12 (fun k => nST (by decide) (by decide)) (fun k => nST (by decide) (by decide)) q9) r3 (by rw [f2, f1, hb])) (fun z h3 hq => ⟨eo_tr o12 hq.1, by rw [hq.2, hv2]⟩)
        · rw [if_neg hxy, if_neg hxy, nI_1, ← hK]
          refine ok_mono (ih n (f + 1) h2' hL2 (by omega) (by omega) (by rw [o12.2 _ _ (by unfold sT; omega), h2]; congr 1; omega) (by rw [f2, f1, hb]) (brsM_eo o12 (fun a h h' k => nST h (by omega)) hB')) (fun z h3 hq => ⟨eo_tr o12 hq.1, by rw [hq.2, hv2]⟩)
      · rw [f2, if_neg (by decide), e1, e2]
        exact ok_some ⟨o12, rfl⟩
    · have f3 : gI h2' 299 50 = 1 := by
        rcases hq2 with ⟨y', e2, _, f2⟩ | ⟨e2, _, f2⟩
        · rw [f2, f1]
        · exact f2
      rw [f3, if_neg (by decide), e1]
      exact ok_some ⟨o12, by cases vlP (gI h 331) b <;> rfl⟩
/-- THE REFERENCE'S lawTells -/
theorem tellM {t u fu l k : Nat} {h : mh} {d : Int32} {A : Lw} (hL : Ly t u h) (hfu : 1000 ≤ fu) (hl : l < 2) (hlv : gI h 299 18 = nI l) (hk : k < 4) (hA : lawM h l k A) :
    ok (fX10_lawTells fu 299 (nI k) d h) (fun r h' => eo sT h h' ∧ r = vlL (gI h 331) d A) := by
  unfold fX10_lawTells
  have ei : (4 : Int32) * nI l + nI k = nI (4 * l + k) := by
    rw [show (4 : Int32) = nI 4 from rfl, pk_mul, nI_add]
  have hin : inr (nI (4 * l + k)) 8 := inr_nI (by omega) (by omega)
  have hcl : (nI (4 * l + k)).toNatClampNeg = 4 * l + k := nI_clamp (by omega)
  rw [ldI_of (cl299 hL), hlv]
  dsimp only [lt]
  rw [ei, ldR_of (cl299 hL) (rf299_35 hL), ldA_of (cl321 hL) hin, hcl, ldR_of (cl299 hL) (rf299_36 hL), ldA_of (cl322 hL) hin, hcl]
  match A, hA with
  | none, hA =>
    have hA : gI h 321 (4 * l + k) = gI h 322 (4 * l + k) := hA
    rw [if_pos hA]
    exact ok_some ⟨eo_rf, rfl⟩
  | some (ts, e), ⟨f, q1, q2, q3, q4⟩ =>
    rw [q2, q3, if_neg (fun q => by have := (nI_eq (by omega) (by omega)).mp q; omega), stZ_of (cl299 hL) (Or.inl rfl)]
    have o : eo sT h (uI h 299 50 0) := eo_uI eo_rf (Or.inr ⟨rfl, rfl⟩)
    have hL1 : Ly t u (uI h 299 50 0) := Ly_uI hL
    have g1 : gI (uI h 299 50 0) 321 (4 * l + k) = nI f := by rw [gI_uI, if_neg (fun q => by omega)]; exact q2
    have g2 : gI (uI h 299 50 0) 322 (4 * l + k) = nI (f + ts.length + 1) := by rw [gI_uI, if_neg (fun q => by omega)]; exact q3
    rw [ldR_of (cl299 hL1) (rf299_35 hL1), ldA_of (cl321 hL1) hin, hcl, g1]
    have hvv : gI (uI h 299 50 0) 331 = gI h 331 := by funext q; rw [gI_uI, if_neg (fun q => by omega)]
    exact ok_mono (brsM_loop (l9 := 0) hfu (by omega) rfl ts fu f _ hL1 (by omega) q1 g2 (by rw [gI_uI, if_pos ⟨rfl, rfl⟩]) (brsM_eo o (fun a h h' k => nST h (by omega)) (brsL_M q4))) (fun z h3 hq => ⟨eo_tr o hq.1, by rw [hq.2, hvv]; rfl⟩)
