/-! THE CONSTRUCTORS: a closed term; the kernel reads what the cells hold -/
def initR (fu : Nat) : Option ((Nat × Nat) × mh) := newO mh0 9 (fun (a1 : Nat) (h2 : mh) => bd (fX9_init fu a1 h2) (fun (_ : Unit) (h3 : mh) => newO h3 10 (fun (a4 : Nat) (h5 : mh) => bd (fX10_init fu a4 h5) (fun (_ : Unit) (h6 : mh) => some ((a1, a4), h6)))))
def hI : mh := match initR 5000 with
  | some (_, h) => h
  | none => mh0
theorem init_1 : (initR 5000).map (fun q => q.1) = some (0, 299) := by decide +kernel
theorem init_N : gN hI = 343 ∧ gM hI = 15757 := by decide +kernel
theorem init_S : ∀ a, a < 343 → gS hI a = Sh a := by decide +kernel
theorem init_R : ∀ q ∈ rtb, gR hI q.1 q.2.1 = some q.2.2 := by decide +kernel
theorem init_T : gR hI 0 4 = some 7 ∧ gR hI 0 5 = some 23 := by decide +kernel
theorem init_Ly : Ly 7 23 hI := ⟨init_N.1, init_N.2, init_S, init_R, init_T.1, init_T.2, Or.inl ⟨rfl, rfl⟩⟩
theorem init_eq : initR 5000 = some ((0, 299), hI) := by
  have h := init_1
  unfold hI
  cases hq : initR 5000 with
  | none => rw [hq] at h; cases h
  | some q =>
    obtain ⟨q1, q2⟩ := q
    rw [hq] at h
    have h1 : q1 = (0, 299) := Option.some.inj h
    rw [h1]
