theorem st_read {fu : Nat} (hfu : 50000 ≤ fu) (h : mh) (hS : Sim h) : pr Sim (fX9_read fu 0 h) (fun h1 => fX10_read fu 299 h1) := sorry
