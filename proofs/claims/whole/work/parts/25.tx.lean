/-! A TEXT'S CELLS, whichever of the two it is; a NIGHT'S CELLS -/
theorem tc0 {t u : Nat} {h : mh} (hL : Ly t u h) : t < gN h ∧ gS h (t) = (0, 6) := by
  rcases hL.2.2.2.2.2.2 with ⟨rfl, rfl⟩ | ⟨rfl, rfl⟩
  · exact cl7 hL
  · exact cl23 hL
theorem uc0 {t u : Nat} {h : mh} (hL : Ly t u h) : u < gN h ∧ gS h (u) = (0, 6) := by
  rcases hL.2.2.2.2.2.2 with ⟨rfl, rfl⟩ | ⟨rfl, rfl⟩
  · exact cl23 hL
  · exact cl7 hL
theorem tc1 {t u : Nat} {h : mh} (hL : Ly t u h) : t + 1 < gN h ∧ gS h (t + 1) = (4, 6) := by
  rcases hL.2.2.2.2.2.2 with ⟨rfl, rfl⟩ | ⟨rfl, rfl⟩
  · exact cl8 hL
  · exact cl24 hL
theorem uc1 {t u : Nat} {h : mh} (hL : Ly t u h) : u + 1 < gN h ∧ gS h (u + 1) = (4, 6) := by
  rcases hL.2.2.2.2.2.2 with ⟨rfl, rfl⟩ | ⟨rfl, rfl⟩
  · exact cl24 hL
  · exact cl8 hL
theorem tc2 {t u : Nat} {h : mh} (hL : Ly t u h) : t + 2 < gN h ∧ gS h (t + 2) = (1, 6) := by
  rcases hL.2.2.2.2.2.2 with ⟨rfl, rfl⟩ | ⟨rfl, rfl⟩
  · exact cl9 hL
  · exact cl25 hL
theorem uc2 {t u : Nat} {h : mh} (hL : Ly t u h) : u + 2 < gN h ∧ gS h (u + 2) = (1, 6) := by
  rcases hL.2.2.2.2.2.2 with ⟨rfl, rfl⟩ | ⟨rfl, rfl⟩
  · exact cl25 hL
  · exact cl9 hL
theorem tc3 {t u : Nat} {h : mh} (hL : Ly t u h) : t + 3 < gN h ∧ gS h (t + 3) = (1, 6) := by
  rcases hL.2.2.2.2.2.2 with ⟨rfl, rfl⟩ | ⟨rfl, rfl⟩
  · exact cl10 hL
  · exact cl26 hL
theorem uc3 {t u : Nat} {h : mh} (hL : Ly t u h) : u + 3 < gN h ∧ gS h (u + 3) = (1, 6) := by
  rcases hL.2.2.2.2.2.2 with ⟨rfl, rfl⟩ | ⟨rfl, rfl⟩
  · exact cl26 hL
  · exact cl10 hL
theorem tc4 {t u : Nat} {h : mh} (hL : Ly t u h) : t + 4 < gN h ∧ gS h (t + 4) = (4, 6) := by
  rcases hL.2.2.2.2.2.2 with ⟨rfl, rfl⟩ | ⟨rfl, rfl⟩
  · exact cl11 hL
  · exact cl27 hL
theorem uc4 {t u : Nat} {h : mh} (hL : Ly t u h) : u + 4 < gN h ∧ gS h (u + 4) = (4, 6) := by
  rcases hL.2.2.2.2.2.2 with ⟨rfl, rfl⟩ | ⟨rfl, rfl⟩
  · exact cl27 hL
  · exact cl11 hL
theorem tc5 {t u : Nat} {h : mh} (hL : Ly t u h) : t + 5 < gN h ∧ gS h (t + 5) = (1, 6) := by
  rcases hL.2.2.2.2.2.2 with ⟨rfl, rfl⟩ | ⟨rfl, rfl⟩
  · exact cl12 hL
  · exact cl28 hL
theorem uc5 {t u : Nat} {h : mh} (hL : Ly t u h) : u + 5 < gN h ∧ gS h (u + 5) = (1, 6) := by
  rcases hL.2.2.2.2.2.2 with ⟨rfl, rfl⟩ | ⟨rfl, rfl⟩
  · exact cl28 hL
  · exact cl12 hL
theorem tc6 {t u : Nat} {h : mh} (hL : Ly t u h) : t + 6 < gN h ∧ gS h (t + 6) = (1, 6) := by
  rcases hL.2.2.2.2.2.2 with ⟨rfl, rfl⟩ | ⟨rfl, rfl⟩
  · exact cl13 hL
  · exact cl29 hL
theorem uc6 {t u : Nat} {h : mh} (hL : Ly t u h) : u + 6 < gN h ∧ gS h (u + 6) = (1, 6) := by
  rcases hL.2.2.2.2.2.2 with ⟨rfl, rfl⟩ | ⟨rfl, rfl⟩
  · exact cl29 hL
  · exact cl13 hL
theorem tc7 {t u : Nat} {h : mh} (hL : Ly t u h) : t + 7 < gN h ∧ gS h (t + 7) = (1, 6) := by
  rcases hL.2.2.2.2.2.2 with ⟨rfl, rfl⟩ | ⟨rfl, rfl⟩
  · exact cl14 hL
  · exact cl30 hL
theorem uc7 {t u : Nat} {h : mh} (hL : Ly t u h) : u + 7 < gN h ∧ gS h (u + 7) = (1, 6) := by
  rcases hL.2.2.2.2.2.2 with ⟨rfl, rfl⟩ | ⟨rfl, rfl⟩
  · exact cl30 hL
  · exact cl14 hL
theorem tc8 {t u : Nat} {h : mh} (hL : Ly t u h) : t + 8 < gN h ∧ gS h (t + 8) = (1, 6) := by
  rcases hL.2.2.2.2.2.2 with ⟨rfl, rfl⟩ | ⟨rfl, rfl⟩
  · exact cl15 hL
  · exact cl31 hL
theorem uc8 {t u : Nat} {h : mh} (hL : Ly t u h) : u + 8 < gN h ∧ gS h (u + 8) = (1, 6) := by
  rcases hL.2.2.2.2.2.2 with ⟨rfl, rfl⟩ | ⟨rfl, rfl⟩
  · exact cl31 hL
  · exact cl15 hL
theorem tc9 {t u : Nat} {h : mh} (hL : Ly t u h) : t + 9 < gN h ∧ gS h (t + 9) = (0, 1) := by
  rcases hL.2.2.2.2.2.2 with ⟨rfl, rfl⟩ | ⟨rfl, rfl⟩
  · exact cl16 hL
  · exact cl32 hL
theorem uc9 {t u : Nat} {h : mh} (hL : Ly t u h) : u + 9 < gN h ∧ gS h (u + 9) = (0, 1) := by
  rcases hL.2.2.2.2.2.2 with ⟨rfl, rfl⟩ | ⟨rfl, rfl⟩
  · exact cl32 hL
  · exact cl16 hL
theorem tc10 {t u : Nat} {h : mh} (hL : Ly t u h) : t + 10 < gN h ∧ gS h (t + 10) = (1, 400) := by
  rcases hL.2.2.2.2.2.2 with ⟨rfl, rfl⟩ | ⟨rfl, rfl⟩
  · exact cl17 hL
  · exact cl33 hL
theorem uc10 {t u : Nat} {h : mh} (hL : Ly t u h) : u + 10 < gN h ∧ gS h (u + 10) = (1, 400) := by
  rcases hL.2.2.2.2.2.2 with ⟨rfl, rfl⟩ | ⟨rfl, rfl⟩
  · exact cl33 hL
  · exact cl17 hL
theorem tc11 {t u : Nat} {h : mh} (hL : Ly t u h) : t + 11 < gN h ∧ gS h (t + 11) = (1, 4) := by
  rcases hL.2.2.2.2.2.2 with ⟨rfl, rfl⟩ | ⟨rfl, rfl⟩
  · exact cl18 hL
  · exact cl34 hL
theorem uc11 {t u : Nat} {h : mh} (hL : Ly t u h) : u + 11 < gN h ∧ gS h (u + 11) = (1, 4) := by
  rcases hL.2.2.2.2.2.2 with ⟨rfl, rfl⟩ | ⟨rfl, rfl⟩
  · exact cl34 hL
  · exact cl18 hL
theorem tc12 {t u : Nat} {h : mh} (hL : Ly t u h) : t + 12 < gN h ∧ gS h (t + 12) = (1, 52) := by
  rcases hL.2.2.2.2.2.2 with ⟨rfl, rfl⟩ | ⟨rfl, rfl⟩
  · exact cl19 hL
  · exact cl35 hL
theorem uc12 {t u : Nat} {h : mh} (hL : Ly t u h) : u + 12 < gN h ∧ gS h (u + 12) = (1, 52) := by
  rcases hL.2.2.2.2.2.2 with ⟨rfl, rfl⟩ | ⟨rfl, rfl⟩
  · exact cl35 hL
  · exact cl19 hL
theorem tc13 {t u : Nat} {h : mh} (hL : Ly t u h) : t + 13 < gN h ∧ gS h (t + 13) = (1, 4) := by
  rcases hL.2.2.2.2.2.2 with ⟨rfl, rfl⟩ | ⟨rfl, rfl⟩
  · exact cl20 hL
  · exact cl36 hL
theorem uc13 {t u : Nat} {h : mh} (hL : Ly t u h) : u + 13 < gN h ∧ gS h (u + 13) = (1, 4) := by
  rcases hL.2.2.2.2.2.2 with ⟨rfl, rfl⟩ | ⟨rfl, rfl⟩
  · exact cl36 hL
  · exact cl20 hL
theorem tc14 {t u : Nat} {h : mh} (hL : Ly t u h) : t + 14 < gN h ∧ gS h (t + 14) = (1, 9) := by
  rcases hL.2.2.2.2.2.2 with ⟨rfl, rfl⟩ | ⟨rfl, rfl⟩
  · exact cl21 hL
  · exact cl37 hL
theorem uc14 {t u : Nat} {h : mh} (hL : Ly t u h) : u + 14 < gN h ∧ gS h (u + 14) = (1, 9) := by
  rcases hL.2.2.2.2.2.2 with ⟨rfl, rfl⟩ | ⟨rfl, rfl⟩
  · exact cl37 hL
  · exact cl21 hL
theorem tc15 {t u : Nat} {h : mh} (hL : Ly t u h) : t + 15 < gN h ∧ gS h (t + 15) = (1, 24) := by
  rcases hL.2.2.2.2.2.2 with ⟨rfl, rfl⟩ | ⟨rfl, rfl⟩
  · exact cl22 hL
  · exact cl38 hL
theorem uc15 {t u : Nat} {h : mh} (hL : Ly t u h) : u + 15 < gN h ∧ gS h (u + 15) = (1, 24) := by
  rcases hL.2.2.2.2.2.2 with ⟨rfl, rfl⟩ | ⟨rfl, rfl⟩
  · exact cl38 hL
  · exact cl22 hL
theorem tr0_1 {t u : Nat} {h : mh} (hL : Ly t u h) : gR h t 1 = some (t + 1) := by
  rcases hL.2.2.2.2.2.2 with ⟨rfl, rfl⟩ | ⟨rfl, rfl⟩
  · exact rf7_1 hL
  · exact rf23_1 hL
theorem ur0_1 {t u : Nat} {h : mh} (hL : Ly t u h) : gR h u 1 = some (u + 1) := by
  rcases hL.2.2.2.2.2.2 with ⟨rfl, rfl⟩ | ⟨rfl, rfl⟩
  · exact rf23_1 hL
  · exact rf7_1 hL
theorem tr0_2 {t u : Nat} {h : mh} (hL : Ly t u h) : gR h t 2 = some (t + 2) := by
  rcases hL.2.2.2.2.2.2 with ⟨rfl, rfl⟩ | ⟨rfl, rfl⟩
  · exact rf7_2 hL
  · exact rf23_2 hL
theorem ur0_2 {t u : Nat} {h : mh} (hL : Ly t u h) : gR h u 2 = some (u + 2) := by
  rcases hL.2.2.2.2.2.2 with ⟨rfl, rfl⟩ | ⟨rfl, rfl⟩
  · exact rf23_2 hL
  · exact rf7_2 hL
theorem tr0_3 {t u : Nat} {h : mh} (hL : Ly t u h) : gR h t 3 = some (t + 3) := by
  rcases hL.2.2.2.2.2.2 with ⟨rfl, rfl⟩ | ⟨rfl, rfl⟩
  · exact rf7_3 hL
  · exact rf23_3 hL
theorem ur0_3 {t u : Nat} {h : mh} (hL : Ly t u h) : gR h u 3 = some (u + 3) := by
  rcases hL.2.2.2.2.2.2 with ⟨rfl, rfl⟩ | ⟨rfl, rfl⟩
  · exact rf23_3 hL
  · exact rf7_3 hL
theorem tr0_5 {t u : Nat} {h : mh} (hL : Ly t u h) : gR h t 5 = some (t + 4) := by
  rcases hL.2.2.2.2.2.2 with ⟨rfl, rfl⟩ | ⟨rfl, rfl⟩
  · exact rf7_5 hL
  · exact rf23_5 hL
theorem ur0_5 {t u : Nat} {h : mh} (hL : Ly t u h) : gR h u 5 = some (u + 4) := by
  rcases hL.2.2.2.2.2.2 with ⟨rfl, rfl⟩ | ⟨rfl, rfl⟩
  · exact rf23_5 hL
  · exact rf7_5 hL
theorem tr0_6 {t u : Nat} {h : mh} (hL : Ly t u h) : gR h t 6 = some (t + 5) := by
  rcases hL.2.2.2.2.2.2 with ⟨rfl, rfl⟩ | ⟨rfl, rfl⟩
  · exact rf7_6 hL
  · exact rf23_6 hL
theorem ur0_6 {t u : Nat} {h : mh} (hL : Ly t u h) : gR h u 6 = some (u + 5) := by
  rcases hL.2.2.2.2.2.2 with ⟨rfl, rfl⟩ | ⟨rfl, rfl⟩
  · exact rf23_6 hL
  · exact rf7_6 hL
theorem tr0_7 {t u : Nat} {h : mh} (hL : Ly t u h) : gR h t 7 = some (t + 6) := by
  rcases hL.2.2.2.2.2.2 with ⟨rfl, rfl⟩ | ⟨rfl, rfl⟩
  · exact rf7_7 hL
  · exact rf23_7 hL
theorem ur0_7 {t u : Nat} {h : mh} (hL : Ly t u h) : gR h u 7 = some (u + 6) := by
  rcases hL.2.2.2.2.2.2 with ⟨rfl, rfl⟩ | ⟨rfl, rfl⟩
  · exact rf23_7 hL
  · exact rf7_7 hL
theorem tr0_8 {t u : Nat} {h : mh} (hL : Ly t u h) : gR h t 8 = some (t + 7) := by
  rcases hL.2.2.2.2.2.2 with ⟨rfl, rfl⟩ | ⟨rfl, rfl⟩
  · exact rf7_8 hL
  · exact rf23_8 hL
theorem ur0_8 {t u : Nat} {h : mh} (hL : Ly t u h) : gR h u 8 = some (u + 7) := by
  rcases hL.2.2.2.2.2.2 with ⟨rfl, rfl⟩ | ⟨rfl, rfl⟩
  · exact rf23_8 hL
  · exact rf7_8 hL
theorem tr0_10 {t u : Nat} {h : mh} (hL : Ly t u h) : gR h t 10 = some (t + 8) := by
  rcases hL.2.2.2.2.2.2 with ⟨rfl, rfl⟩ | ⟨rfl, rfl⟩
  · exact rf7_10 hL
  · exact rf23_10 hL
theorem ur0_10 {t u : Nat} {h : mh} (hL : Ly t u h) : gR h u 10 = some (u + 8) := by
  rcases hL.2.2.2.2.2.2 with ⟨rfl, rfl⟩ | ⟨rfl, rfl⟩
  · exact rf23_10 hL
  · exact rf7_10 hL
theorem tr0_11 {t u : Nat} {h : mh} (hL : Ly t u h) : gR h t 11 = some (t + 9) := by
  rcases hL.2.2.2.2.2.2 with ⟨rfl, rfl⟩ | ⟨rfl, rfl⟩
  · exact rf7_11 hL
  · exact rf23_11 hL
theorem ur0_11 {t u : Nat} {h : mh} (hL : Ly t u h) : gR h u 11 = some (u + 9) := by
  rcases hL.2.2.2.2.2.2 with ⟨rfl, rfl⟩ | ⟨rfl, rfl⟩
  · exact rf23_11 hL
  · exact rf7_11 hL
theorem tr9_0 {t u : Nat} {h : mh} (hL : Ly t u h) : gR h (t + 9) 0 = some (t + 10) := by
  rcases hL.2.2.2.2.2.2 with ⟨rfl, rfl⟩ | ⟨rfl, rfl⟩
  · exact rf16_0 hL
  · exact rf32_0 hL
theorem ur9_0 {t u : Nat} {h : mh} (hL : Ly t u h) : gR h (u + 9) 0 = some (u + 10) := by
  rcases hL.2.2.2.2.2.2 with ⟨rfl, rfl⟩ | ⟨rfl, rfl⟩
  · exact rf32_0 hL
  · exact rf16_0 hL
theorem tr9_2 {t u : Nat} {h : mh} (hL : Ly t u h) : gR h (t + 9) 2 = some (t + 11) := by
  rcases hL.2.2.2.2.2.2 with ⟨rfl, rfl⟩ | ⟨rfl, rfl⟩
  · exact rf16_2 hL
  · exact rf32_2 hL
theorem ur9_2 {t u : Nat} {h : mh} (hL : Ly t u h) : gR h (u + 9) 2 = some (u + 11) := by
  rcases hL.2.2.2.2.2.2 with ⟨rfl, rfl⟩ | ⟨rfl, rfl⟩
  · exact rf32_2 hL
  · exact rf16_2 hL
theorem tr9_3 {t u : Nat} {h : mh} (hL : Ly t u h) : gR h (t + 9) 3 = some (t + 12) := by
  rcases hL.2.2.2.2.2.2 with ⟨rfl, rfl⟩ | ⟨rfl, rfl⟩
  · exact rf16_3 hL
  · exact rf32_3 hL
theorem ur9_3 {t u : Nat} {h : mh} (hL : Ly t u h) : gR h (u + 9) 3 = some (u + 12) := by
  rcases hL.2.2.2.2.2.2 with ⟨rfl, rfl⟩ | ⟨rfl, rfl⟩
  · exact rf32_3 hL
  · exact rf16_3 hL
theorem tr9_4 {t u : Nat} {h : mh} (hL : Ly t u h) : gR h (t + 9) 4 = some (t + 13) := by
  rcases hL.2.2.2.2.2.2 with ⟨rfl, rfl⟩ | ⟨rfl, rfl⟩
  · exact rf16_4 hL
  · exact rf32_4 hL
theorem ur9_4 {t u : Nat} {h : mh} (hL : Ly t u h) : gR h (u + 9) 4 = some (u + 13) := by
  rcases hL.2.2.2.2.2.2 with ⟨rfl, rfl⟩ | ⟨rfl, rfl⟩
  · exact rf32_4 hL
  · exact rf16_4 hL
theorem tr9_5 {t u : Nat} {h : mh} (hL : Ly t u h) : gR h (t + 9) 5 = some (t + 14) := by
  rcases hL.2.2.2.2.2.2 with ⟨rfl, rfl⟩ | ⟨rfl, rfl⟩
  · exact rf16_5 hL
  · exact rf32_5 hL
theorem ur9_5 {t u : Nat} {h : mh} (hL : Ly t u h) : gR h (u + 9) 5 = some (u + 14) := by
  rcases hL.2.2.2.2.2.2 with ⟨rfl, rfl⟩ | ⟨rfl, rfl⟩
  · exact rf32_5 hL
  · exact rf16_5 hL
theorem tr9_6 {t u : Nat} {h : mh} (hL : Ly t u h) : gR h (t + 9) 6 = some (t + 15) := by
  rcases hL.2.2.2.2.2.2 with ⟨rfl, rfl⟩ | ⟨rfl, rfl⟩
  · exact rf16_6 hL
  · exact rf32_6 hL
theorem ur9_6 {t u : Nat} {h : mh} (hL : Ly t u h) : gR h (u + 9) 6 = some (u + 15) := by
  rcases hL.2.2.2.2.2.2 with ⟨rfl, rfl⟩ | ⟨rfl, rfl⟩
  · exact rf32_6 hL
  · exact rf16_6 hL
theorem tx_r {t u : Nat} {h : mh} (hL : Ly t u h) : gR h 0 4 = some t := hL.2.2.2.2.1
theorem tx_s {t u : Nat} {h : mh} (hL : Ly t u h) : gR h 0 5 = some u := hL.2.2.2.2.2.1
/-- the Nights' numbers -/
def ngt : List Nat := [39, 44, 52, 57, 62, 67, 72, 80, 85, 90, 95, 100, 105, 110, 115, 120, 125, 130, 135, 140, 145, 150, 155, 160, 165, 170, 175, 180, 185, 190, 195, 200, 205, 210, 215, 220, 225, 230, 235, 240, 245, 250, 255, 260, 265, 270, 275, 280, 285, 290]
theorem ng_sh : ∀ n ∈ ngt, n + 4 < 343 ∧ Sh n = (0, 3) ∧ Sh (n + 1) = (1, 6) ∧ Sh (n + 2) = (1, 6) ∧ Sh (n + 3) = (1, 6) ∧ Sh (n + 4) = (1, 6) := by decide +kernel
theorem ng_rf : ∀ n ∈ ngt, (n, 0, n + 1) ∈ rtb ∧ (n, 1, n + 2) ∈ rtb ∧ (n, 2, n + 3) ∈ rtb ∧ (n, 3, n + 4) ∈ rtb := by decide +kernel
theorem nc0 {t u n : Nat} {h : mh} (hL : Ly t u h) (hn : n ∈ ngt) : n < gN h ∧ gS h n = (0, 3) := hL.cell n _ (by have := (ng_sh n hn).1; omega) (ng_sh n hn).2.1
theorem nc1 {t u n : Nat} {h : mh} (hL : Ly t u h) (hn : n ∈ ngt) : n + 1 < gN h ∧ gS h (n + 1) = (1, 6) := hL.cell (n + 1) _ (by have := (ng_sh n hn).1; omega) (ng_sh n hn).2.2.1
theorem nc2 {t u n : Nat} {h : mh} (hL : Ly t u h) (hn : n ∈ ngt) : n + 2 < gN h ∧ gS h (n + 2) = (1, 6) := hL.cell (n + 2) _ (by have := (ng_sh n hn).1; omega) (ng_sh n hn).2.2.2.1
theorem nc3 {t u n : Nat} {h : mh} (hL : Ly t u h) (hn : n ∈ ngt) : n + 3 < gN h ∧ gS h (n + 3) = (1, 6) := hL.cell (n + 3) _ (by have := (ng_sh n hn).1; omega) (ng_sh n hn).2.2.2.2.1
theorem nc4 {t u n : Nat} {h : mh} (hL : Ly t u h) (hn : n ∈ ngt) : n + 4 < gN h ∧ gS h (n + 4) = (1, 6) := hL.cell (n + 4) _ (ng_sh n hn).1 (ng_sh n hn).2.2.2.2.2
theorem nr0 {t u n : Nat} {h : mh} (hL : Ly t u h) (hn : n ∈ ngt) : gR h n 0 = some (n + 1) := hL.2.2.2.1 _ (ng_rf n hn).1
theorem nr1 {t u n : Nat} {h : mh} (hL : Ly t u h) (hn : n ∈ ngt) : gR h n 1 = some (n + 2) := hL.2.2.2.1 _ (ng_rf n hn).2.1
theorem nr2 {t u n : Nat} {h : mh} (hL : Ly t u h) (hn : n ∈ ngt) : gR h n 2 = some (n + 3) := hL.2.2.2.1 _ (ng_rf n hn).2.2.1
theorem nr3 {t u n : Nat} {h : mh} (hL : Ly t u h) (hn : n ∈ ngt) : gR h n 3 = some (n + 4) := hL.2.2.2.1 _ (ng_rf n hn).2.2.2
