theorem mj_all {α : Type} {l : List α} {d : α} {P : α → Bool} (h : l.all P = true) {i : Nat} (hi : i < l.length) : P (l.getD i d) = true := by
  rw [List.getD_eq_getElem?_getD, List.getElem?_eq_getElem hi]
  exact List.all_eq_true.mp h _ (List.getElem_mem hi)
theorem mj_rng {n : Nat} {P : Nat → Bool} (h : (List.range n).all P = true) {i : Nat} (hi : i < n) : P i = true := List.all_eq_true.mp h _ (List.mem_range.mpr hi)
theorem mjCode_at {y pc : Nat} {q : MjIns} (hy : y < mjMeths.length) (hq : mjFetch y pc = some q) : decode (mjMeth y).2.1 pc = .ok (mjEnc pc q) ∧ mjOk (mjMeth y).1.cls (mjIsInit y) q = true := sorry
