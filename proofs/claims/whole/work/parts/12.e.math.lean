theorem K_app {K X : List XK} {i : Nat} {k : XK} (h : K[i]? = some k) : (K ++ X)[i]? = some k := by
  rw [List.getElem?_append_left (List.getElem?_eq_some_iff.mp h).1]
  exact h
