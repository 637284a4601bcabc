/-! loops, names, switches, calls by their answers' kinds -/
def itr {σ δ : Type} (B : (σ → Option δ) → σ → Option δ) : Nat → σ → Option δ
  | 0, _ => none
  | n + 1, s => B (itr B n) s
theorem itr_s {σ δ : Type} (B : (σ → Option δ) → σ → Option δ) (n : Nat) (s : σ) : itr B (n + 1) s = B (itr B n) s := rfl
theorem ev_itr {σ δ : Type} {P : σ → Option δ → Prop} {B : (σ → Option δ) → σ → Option δ} (h0 : ∀ s, P s none) (hs : ∀ k : σ → Option δ, (∀ s, P s (k s)) → ∀ s, P s (B k s)) (n : Nat) (s : σ) : P s (itr B n s) := by
  induction n generalizing s with
  | zero => exact h0 s
  | succ n ih => exact hs (itr B n) ih s
def swn (x : Int32) (lo : Int) (n : Nat) : Prop := ∀ j : Nat, j < n → ¬ x = Int32.ofInt (lo + j)
theorem swn_0 (x : Int32) (lo : Int) : swn x lo 0 := fun j hj => absurd hj (Nat.not_lt_zero j)
theorem swn_s {x c : Int32} {lo : Int} {n : Nat} (h : swn x lo n) (hc : Int32.ofInt (lo + n) = c) (hx : ¬ x = c) : swn x lo (n + 1) := by
  intro j hj
  rcases Nat.lt_or_ge j n with q | q
  · exact h j q
  · have e : j = n := by omega
    subst e
    rw [hc]
    exact hx
theorem swn_out {x : Int32} {lo hi : Int} {n : Nat} (h : swn x lo n) (hn : lo + n = hi + 1) : x.toInt < lo ∨ hi < x.toInt := by
  rcases Int.lt_or_le x.toInt lo with q | q
  · exact Or.inl q
  · rcases Int.lt_or_le hi x.toInt with r | r
    · exact Or.inr r
    · exfalso
      have hj : (x.toInt - lo).toNat < n := by omega
      refine h _ hj ?_
      have e : lo + ((x.toInt - lo).toNat : Int) = x.toInt := by omega
      rw [e]
      exact (Int32.ofInt_toInt x).symm
section EVT
variable {β : Type} {lf : β → Option Value} {G : gx} {y y' : MethodName} {cc cc' : ByteArray} {nL nL' : Nat} {rt rt' : Option FieldType} {d d' : Nat} {h0 : mh} {pc idx : Nat} {ls ls' : List (Nat × Value)} {st st0 av : List Value} {h : mh}
theorem ev_top {v : Int32} {F : Int32 → Option (β × mh)} (k : ∀ x : Int32, Ev lf G y cc nL rt d h0 pc ls (.int x :: st) h (F x)) : Ev lf G y cc nL rt d h0 pc ls (.int v :: st) h (lt v F) := k v
theorem ev_topL {v : Int64} {F : Int64 → Option (β × mh)} (k : ∀ x : Int64, Ev lf G y cc nL rt d h0 pc ls (.long x :: st) h (F x)) : Ev lf G y cc nL rt d h0 pc ls (.long v :: st) h (lt v F) := k v
theorem ev_topR {v : Nat} {F : Nat → Option (β × mh)} (k : ∀ x : Nat, Ev lf G y cc nL rt d h0 pc ls (.ref (gB G + x) :: st) h (F x)) : Ev lf G y cc nL rt d h0 pc ls (.ref (gB G + v) :: st) h (lt v F) := k v
theorem st_inc {i j : Nat} {n : Int} {x c : Int32} (hd : decode cc pc = .ok (.iinc i n, 3)) (hj : ls[j]? = some (i, .int x)) (hc : Int32.ofInt n = c) (hn : i < nL) (hl' : (i, Value.int (x + c)) :: ls.filter (fun q => !(q.1 == i) && !(q.1 + 1 == i && q.2.category == 2)) = ls') : ev_S G y cc nL rt d pc ls st (pc + 3) ls' st := st_iinc hd hj (by rw [hc]) hn hl'
theorem ev_callI {R1 : Option (Int32 × mh)} {F : Int32 → mh → Option (β × mh)} (hv : Iv G y cc nL rt d pc h y' cc' nL' rt' av st0 st) (hC : Ct lI G y' cc' nL' rt' d' av h R1) (hd1 : d' + 1 ≤ d) (hn : nL' ≤ 40) (kk : ∀ (x : Int32) (h1 : mh), Ev lf G y cc nL rt d h0 (pc + 3) ls (.int x :: st) h1 (F x h1)) : Ev lf G y cc nL rt d h0 pc ls st0 h (bd R1 F) := ev_call hv hC hd1 hn kk
theorem ev_callL {R1 : Option (Int64 × mh)} {F : Int64 → mh → Option (β × mh)} (hv : Iv G y cc nL rt d pc h y' cc' nL' rt' av st0 st) (hC : Ct lL G y' cc' nL' rt' d' av h R1) (hd1 : d' + 1 ≤ d) (hn : nL' ≤ 40) (kk : ∀ (x : Int64) (h1 : mh), Ev lf G y cc nL rt d h0 (pc + 3) ls (.long x :: st) h1 (F x h1)) : Ev lf G y cc nL rt d h0 pc ls st0 h (bd R1 F) := ev_call hv hC hd1 hn kk
theorem ev_callR {R1 : Option (Nat × mh)} {F : Nat → mh → Option (β × mh)} (hv : Iv G y cc nL rt d pc h y' cc' nL' rt' av st0 st) (hC : Ct (lR G) G y' cc' nL' rt' d' av h R1) (hd1 : d' + 1 ≤ d) (hn : nL' ≤ 40) (kk : ∀ (x : Nat) (h1 : mh), Ev lf G y cc nL rt d h0 (pc + 3) ls (.ref (gB G + x) :: st) h1 (F x h1)) : Ev lf G y cc nL rt d h0 pc ls st0 h (bd R1 F) := ev_call hv hC hd1 hn kk
theorem ev_callS {R1 : Option (Nat × mh)} {F : Nat → mh → Option (β × mh)} (hv : Iv G y cc nL rt d pc h y' cc' nL' rt' av st0 st) (hC : Ct (lS G) G y' cc' nL' rt' d' av h R1) (hd1 : d' + 1 ≤ d) (hn : nL' ≤ 40) (kk : ∀ (x : Nat) (h1 : mh), Ev lf G y cc nL rt d h0 (pc + 3) ls (.ref (gK G x) :: st) h1 (F x h1)) : Ev lf G y cc nL rt d h0 pc ls st0 h (bd R1 F) := ev_call hv hC hd1 hn kk
theorem ev_callV {R1 : Option (Unit × mh)} {F : mh → Option (β × mh)} (hv : Iv G y cc nL rt d pc h y' cc' nL' rt' av st0 st) (hC : Ct lV G y' cc' nL' rt' d' av h R1) (hd1 : d' + 1 ≤ d) (hn : nL' ≤ 40) (kk : ∀ (h1 : mh), Ev lf G y cc nL rt d h0 (pc + 3) ls st h1 (F h1)) : Ev lf G y cc nL rt d h0 pc ls st0 h (bd R1 (fun _ h1 => F h1)) := ev_call hv hC hd1 hn (fun _ h1 => kk h1)
/-- one case of a table switch; the last: the default -/
theorem ev_case {dflt lo hi off : Int} {offs : Array Int} {w n tgt : Nat} {x c : Int32} {X Y : Option (β × mh)} (hs : swn x lo n) (hd : decode cc pc = .ok (.tableswitch dflt lo hi offs, w)) (hc : Int32.ofInt (lo + n) = c) (h1 : ¬ c.toInt < lo) (h2 : ¬ hi < c.toInt) (ho : offs[(c.toInt - lo).toNat]? = some off) (ht : (pc : Int) + off = (tgt : Int))
    (k1 : x = c → Ev lf G y cc nL rt d h0 tgt ls st h X) (k2 : swn x lo (n + 1) → Ev lf G y cc nL rt d h0 pc ls (.int x :: st) h Y) : Ev lf G y cc nL rt d h0 pc ls (.int x :: st) h (if x = c then X else Y) := by
  by_cases hx : x = c
  · rw [if_pos hx]
    refine ev_step ?_ (k1 hx)
    intro p e R s m args below meth cd Q H locs cells slots lA hcx hS hl k
    subst hx
    exact lv_tableIn hcx.1 hcx.2.1 hd h1 h2 ho ht (k _ hl)
  · rw [if_neg hx]
    exact k2 (swn_s hs hc hx)
theorem ev_dflt {dflt lo hi : Int} {offs : Array Int} {w n tgt : Nat} {x : Int32} {Y : Option (β × mh)} (hs : swn x lo n) (hd : decode cc pc = .ok (.tableswitch dflt lo hi offs, w)) (hn : lo + n = hi + 1) (ht : (pc : Int) + dflt = (tgt : Int)) (k : Ev lf G y cc nL rt d h0 tgt ls st h Y) : Ev lf G y cc nL rt d h0 pc ls (.int x :: st) h Y := by
  refine ev_step ?_ k
  intro p e R s m args below meth cd Q H locs cells slots lA hcx hS hl k
  exact lv_tableOut hcx.1 hcx.2.1 hd (swn_out hs hn) ht (k _ hl)
theorem ct_ls {av : List Value} {Rs : Option (β × mh)} (hls : lv_args 0 av = ls) (hy : plainName y.cls = true) (hl : (lg_sl av).length ≤ nL) (k : Ev lf G y cc nL rt d h 0 ls [] h Rs) : Ct lf G y cc nL rt d av h Rs := ct_of hy hl (hls ▸ k)
end EVT
theorem in_pl {ws : List Cond} (ps : List Nat) (h : ws = ps.filterMap (fun i => tables_1[i]?)) (g : ws.all goodWord = true) : ∀ w ∈ ws, w ∈ gws := by
  intro w hw
  have h1 := List.all_eq_true.mp g w hw
  rw [h] at hw
  obtain ⟨i, -, hi⟩ := List.mem_filterMap.mp hw
  exact gws_in (List.mem_append_right _ (List.mem_of_getElem? hi)) h1
theorem wi {w : Cond} (i : Nat) (h : tables_1[i]? = some w) (g : goodWord w = true) : w ∈ gws := gws_in (List.mem_append_right _ (List.mem_of_getElem? h)) g
theorem ni {w : Cond} (i : Nat) (h : tables_1[i]? = some w) (g : isNest w = true) : w ∈ nws := nws_in (List.mem_append_right _ (List.mem_of_getElem? h)) g
theorem vi {q : MethodName × Nat} (i : Nat) (h : lw_privs[i]? = some q) : Cond.selects q.1.cls q.1 q.1 ∈ gws := gws_in (List.mem_append_left _ (List.mem_map.mpr ⟨q, List.mem_of_getElem? h, rfl⟩)) rfl
