theorem mjCode_at {y pc : Nat} {q : MjIns} (hy : y < mjMeths.length) (hq : mjFetch y pc = some q) : decode (mjMeth y).2.1 pc = .ok (mjEnc pc q) ∧ mjOk (mjMeth y).1.cls (mjIsInit y) q = true := sorry
