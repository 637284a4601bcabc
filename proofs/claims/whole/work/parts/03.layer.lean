/-! THE SMALL HEAP: what the cells hold, by the cell's number (from gB on) and the slot: ints, longs, references, shapes; how many cells, how many slots. Shapes: (0, class), (1, n) int row, (2, n) byte row, (3, n) boolean row, (4, n) long row, (5, n) row of Nights -/
abbrev mh : Type := (Nat → Nat → Int32) × (Nat → Nat → Int64) × (Nat → Nat → Option Nat) × (Nat → Nat × Nat) × Nat × Nat
def gI (h : mh) (a k : Nat) : Int32 := h.1 a k
def gL (h : mh) (a k : Nat) : Int64 := h.2.1 a k
def gR (h : mh) (a k : Nat) : Option Nat := h.2.2.1 a k
def gS (h : mh) (a : Nat) : Nat × Nat := h.2.2.2.1 a
def gN (h : mh) : Nat := h.2.2.2.2.1
def gM (h : mh) : Nat := h.2.2.2.2.2
def uI (h : mh) (a k : Nat) (v : Int32) : mh := (fun b j => if b = a ∧ j = k then v else h.1 b j, h.2)
def uL (h : mh) (a k : Nat) (v : Int64) : mh := (h.1, fun b j => if b = a ∧ j = k then v else h.2.1 b j, h.2.2)
def uR (h : mh) (a k : Nat) (v : Option Nat) : mh := (h.1, h.2.1, fun b j => if b = a ∧ j = k then v else h.2.2.1 b j, h.2.2.2)
/-- a whole row of ints -/
def uA (h : mh) (a : Nat) (f : Nat → Int32) : mh := (fun b => if b = a then f else h.1 b, h.2)
/-- a new cell of a shape, of w slots, all 0 and null -/
def nw (h : mh) (sh : Nat × Nat) (w : Nat) : mh := (fun b j => if b = gN h then 0 else h.1 b j, fun b j => if b = gN h then 0 else h.2.1 b j, fun b j => if b = gN h then none else h.2.2.1 b j, fun b => if b = gN h then sh else h.2.2.2.1 b, gN h + 1, gM h + w)
/-- what stays: the tables' cells, the rows' classes, the first new address, where the text constants lie, the launch, the script (its cell, its length, its ints) -/
abbrev gx : Type := va_G × (Nat → ClassId) × Nat × (Nat → Nat) × (Nat → Nat) × Launch × Nat × Nat × (Nat → Int32)
abbrev gD (G : gx) : va_G := G.1
abbrev gA (G : gx) : Nat → ClassId := G.2.1
abbrev gB (G : gx) : Nat := G.2.2.1
abbrev gK (G : gx) : Nat → Nat := G.2.2.2.1
abbrev gV (G : gx) : Nat → Nat := G.2.2.2.2.1
abbrev gl (G : gx) : Launch := G.2.2.2.2.2.1
abbrev gs (G : gx) : Nat × Nat × (Nat → Int32) := G.2.2.2.2.2.2
def tyl (G : gx) : List (ClassId × FieldType) := [(gA G 0, .int), (gA G 1, .byte), (gA G 2, .boolean), (gA G 3, .long), (gA G 4, .object "VoiceTonight$Night")]
def fty (ci k : Nat) : FieldType := match ci with
  | 0 => tyX0 k
  | 1 => tyX1 k
  | 2 => tyX2 k
  | 3 => tyX3 k
  | 4 => tyX4 k
  | 5 => tyX5 k
  | 6 => tyX6 k
  | 7 => tyX7 k
  | 8 => tyX8 k
  | 9 => tyX9 k
  | _ => tyX10 k
def fnum (ci : Nat) : Nat := match ci with
  | 0 => 10
  | 1 => 8
  | 2 => 5
  | 3 => 8
  | 4 => 2
  | 5 => 8
  | 6 => 15
  | 7 => 6
  | 8 => 4
  | 9 => 11
  | _ => 68
/-- 0 an int, 1 a long, 2 a reference -/
def ik (t : FieldType) : Nat := match t with
  | .long => 1
  | .object _ => 2
  | .array _ => 2
  | _ => 0
def fv (G : gx) (h : mh) (a : Nat) (t : Nat) (k : Nat) : Value := match t with
  | 0 => .int (gI h a k)
  | 1 => .long (gL h a k)
  | _ => va_rf ((gR h a k).map (fun q => gB G + q))
def flds (G : gx) (h : mh) (a ci : Nat) : List Value := (List.range (fnum ci)).map (fun k => fv G h a (ik (fty ci k)) k)
def cl_of (G : gx) (h : mh) (a : Nat) : va_E := match (gS h a).1 with
  | 0 => .inr ((gS h a).2, flds G h a (gS h a).2)
  | 1 => .inl (gA G 0, (gS h a).2, .inl (gI h a))
  | 2 => .inl (gA G 1, (gS h a).2, .inl (gI h a))
  | 3 => .inl (gA G 2, (gS h a).2, .inl (gI h a))
  | 4 => .inl (gA G 3, (gS h a).2, .inr (.inl (gL h a)))
  | _ => .inl (gA G 4, (gS h a).2, .inr (.inr (.inr (.inr (fun k => (gR h a k).map (fun q => gB G + q))))))
def wo (G : gx) (h : mh) : va_W := (List.range (gN h)).map (fun a => (gB G + a, cl_of G h a))
theorem wo_get {G : gx} {h : mh} {a : Nat} (ha : a < gN h) : (wo G h)[a]? = some (gB G + a, cl_of G h a) := by
  simp [wo, List.getElem?_map, List.getElem?_range ha]
theorem wo_lt {G : gx} {h : mh} {a : Nat} {q : Nat × va_E} (hq : (wo G h)[a]? = some q) : a < gN h ∧ q = (gB G + a, cl_of G h a) := by
  have h1 := (List.getElem?_eq_some_iff.mp hq).1
  have h2 : a < gN h := by simpa [wo] using h1
  exact ⟨h2, (Option.some.inj (hq.symm.trans (wo_get h2)))⟩
theorem wo_D {G : gx} {h : mh} : va_D (fun q => gB G ≤ q) (wo G h) := by
  refine ⟨fun i j p q hi hj hpq => ?_, fun k q hk => ?_⟩
  · rw [(wo_lt hi).2, (wo_lt hj).2] at hpq
    exact Nat.add_left_cancel hpq
  · rw [(wo_lt hk).2]
    exact Nat.le_add_right _ _
theorem wo_set {G : gx} {h h' : mh} {a : Nat} {e : va_E} (hn : gN h' = gN h) (he : e = cl_of G h' a) (ho : ∀ b, b ≠ a → cl_of G h' b = cl_of G h b) : (wo G h).set a (gB G + a, e) = wo G h' := by
  subst he
  apply List.ext_getElem?
  intro i
  by_cases hi : i < gN h
  · rw [wo_get (h := h') (by omega)]
    by_cases hia : i = a
    · subst hia
      rw [List.getElem?_set_self (by simpa [wo] using hi)]
    · rw [List.getElem?_set_ne (Ne.symm hia), wo_get hi, ho i hia]
  · rw [List.getElem?_eq_none (by simpa [wo] using hi), List.getElem?_eq_none (by simp [wo]; omega)]
theorem wo_push {G : gx} {h h' : mh} {e : va_E} (hn : gN h' = gN h + 1) (he : e = cl_of G h' (gN h)) (ho : ∀ b, b < gN h → cl_of G h' b = cl_of G h b) : wo G h ++ [(gB G + gN h, e)] = wo G h' := by
  subst he
  unfold wo
  rw [hn, List.range_succ, List.map_append]
  congr 1
  apply List.map_congr_left
  intro b hb
  rw [ho b (List.mem_range.mp hb)]
theorem cl_congr {G : gx} {h h' : mh} {a : Nat} (e0 : gS h' a = gS h a) (e1 : gI h' a = gI h a) (e2 : gL h' a = gL h a) (e3 : gR h' a = gR h a) : cl_of G h' a = cl_of G h a := by
  unfold cl_of flds fv
  rw [e0, e1, e2, e3]
/-- the tables' words that stay true under every warming, and those of nest mates -/
def gws : List Cond := lw_tbl.filter goodWord
def isNest : Cond → Bool
  | .fieldLinkNest .. => true
  | .methodLinkNest .. => true
  | _ => false
def nws : List Cond := lw_tbl.filter isNest
theorem gws_in {w : Cond} (h : w ∈ lw_tbl) (g : goodWord w = true) : w ∈ gws := List.mem_filter.mpr ⟨h, g⟩
theorem nws_in {w : Cond} (h : w ∈ lw_tbl) (g : isNest w = true) : w ∈ nws := List.mem_filter.mpr ⟨h, g⟩
theorem gws_good {big : List Cond} (h : ∀ w ∈ gws, w ∈ big) : GoodIn big gws := fun w hw => ⟨h w hw, good_of_word (List.mem_filter.mp hw).2⟩
theorem nws_on {w : Cond} (h : w ∈ nws) : w.onTables = true := by
  have h2 := (List.mem_filter.mp h).2
  cases w <;> first | rfl | (simp [isNest] at h2)
theorem nws_warm {w : Cond} (h : w ∈ nws) {s U : State} (hW : s.WarmedH U.vm) (hZ : va_Nw w s) : va_Nw w U := by
  have h2 := (List.mem_filter.mp h).2
  cases w <;> first | (simp [isNest] at h2; done) | exact va_Nw.warmF hW hZ | exact va_Nw.warmM hW hZ
/-- the text constants: how long, their bytes, where a class names them -/
def slen : List Nat := [131, 9, 4, 5, 3, 2]
def sstr : List String := ["role listener really says trusts moves rings crackle quiet seed if then else fame times fact evening belief known parts which same ", ";=+-*/<()", "nii;", "niii;", "nn;", "i;"]
def sbyt : List (List Int32) := sstr.map (fun t => t.toList.map (fun ch => Int32.ofNat ch.toNat))
def sref : List (String × Nat × String × Nat) := [("VoiceTonight$Tokens", 36, "role listener really says trusts moves rings crackle quiet seed if then else fame times fact evening belief known parts which same ", 0), ("VoiceTonight$Tokens", 71, ";=+-*/<()", 1), ("VoiceTonight$Reader", 104, "nii;", 2), ("VoiceTonight$Reader", 106, "niii;", 3), ("VoiceTonight$Reader", 108, "nn;", 4), ("VoiceTonight$Reader", 110, "i;", 5)]
def bA (G : gx) : Nat → Prop := fun q => gB G ≤ q
/-- what every method finds of the tables and of the old cells -/
def GF (G : gx) (U : State) : Prop := va_K (gD G) vwCl (tyl G) U ∧ (∀ w ∈ nws, va_Nw w U) ∧ va_AO "VoiceTonight$Night" U ∧ vk_S 6 slen sbyt (gK G) (gV G) (bA G) U U.heap ∧ (∀ q ∈ sref, vk_R q.1 q.2.1 q.2.2.1 (gK G q.2.2.2) U) ∧ va_Z "java/lang/String" "COMPACT_STRINGS" "Z" (.int 1) (bA G) U U.heap ∧ (∃ v : Value, (v = .null ∨ ∃ a, v = .ref a) ∧ va_Z "jdk/internal/util/Preconditions" "SIOOBE_FORMATTER" "Ljava/util/function/BiFunction;" v (bA G) U U.heap) ∧ va_X (gs G).1 (gs G).2.1 (gs G).2.2 U U.heap ∧ (gs G).1 < gB G
theorem GF.enter {G : gx} {s U : State} {locs : List Loc} (h : GF G s) (hW : s.WarmedH U.vm) (hS : va_S (bA G) s.heap U.heap locs) : GF G U := by
  obtain ⟨h1, h2, h3, h4, h5, h6, ⟨v, hv, h7⟩, h8, h9⟩ := h
  have hb : (gs G).1 < s.heap.size := by
    obtain ⟨scr, q, -⟩ := h8
    exact (Array.getElem?_eq_some_iff.mp q).1
  refine ⟨va_K.moved hW.alike h1, fun w hw => nws_warm hw hW (h2 w hw), va_AO.moved hW.alike h3, (vk_S.kept h4 hS.2.1).moved hW.alike, fun q hq => vk_R.warm hW (h5 q hq), (va_Z.kept h6 hS.2.1).moved hW.alike, ⟨v, hv, (va_Z.kept h7 hS.2.1).moved hW.alike⟩, (va_X.kept h8 (hS.2.1 _ hb (Nat.not_le.mpr h9))).moved hW.alike, h9⟩
theorem GF.same {G : gx} {s U : State} (h : GF G s) (hv : s.vm = U.vm) (hh : s.heap = U.heap) : GF G U := by
  obtain ⟨h1, h2, h3, h4, h5, h6, ⟨v, hv2, h7⟩, h8, h9⟩ := h
  have ha : s.vm.Alike U.vm := by rw [hv]; exact Vm.Alike.refl U.vm
  refine ⟨va_K.moved ha h1, fun w hw => va_Nw.same (nws_on hw) hv (h2 w hw), va_AO.moved ha h3, ?_, fun q hq => vk_R.same hv.symm (h5 q hq), ?_, ⟨v, hv2, ?_⟩, ?_, h9⟩
  · rw [← hh]; exact h4.moved ha
  · rw [← hh]; exact h6.moved ha
  · rw [← hh]; exact h7.moved ha
  · rw [← hh]; exact h8.moved ha
