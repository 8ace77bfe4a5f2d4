theorem mj_all {α : Type} {l : List α} {d : α} {P : α → Bool} (h : l.all P = true) {i : Nat} (hi : i < l.length) : P (l.getD i d) = true := by
  rw [List.getD_eq_getElem?_getD, List.getElem?_eq_getElem hi]
  exact List.all_eq_true.mp h _ (List.getElem_mem hi)
theorem mj_rng {n : Nat} {P : Nat → Bool} (h : (List.range n).all P = true) {i : Nat} (hi : i < n) : P i = true := List.all_eq_true.mp h _ (List.mem_range.mpr hi)
theorem mjChk_all {y : Nat} (hy : y < 310) : mjChk (mjMeth y).1.cls (mjIsInit y) (mjMeth y).2.1 (mjCode.getD y []) = true := by
  by_cases h0 : y < 27
  · have h := mj_rng mjk_0 (i := y - 0) (by omega)
    rw [show 0 + (y - 0) = y by omega] at h
    exact h
  by_cases h1 : y < 41
  · have h := mj_rng mjk_1 (i := y - 27) (by omega)
    rw [show 27 + (y - 27) = y by omega] at h
    exact h
  by_cases h2 : y < 51
  · have h := mj_rng mjk_2 (i := y - 41) (by omega)
    rw [show 41 + (y - 41) = y by omega] at h
    exact h
  by_cases h3 : y < 68
  · have h := mj_rng mjk_3 (i := y - 51) (by omega)
    rw [show 51 + (y - 51) = y by omega] at h
    exact h
  by_cases h4 : y < 85
  · have h := mj_rng mjk_4 (i := y - 68) (by omega)
    rw [show 68 + (y - 68) = y by omega] at h
    exact h
  by_cases h5 : y < 96
  · have h := mj_rng mjk_5 (i := y - 85) (by omega)
    rw [show 85 + (y - 85) = y by omega] at h
    exact h
  by_cases h6 : y < 117
  · have h := mj_rng mjk_6 (i := y - 96) (by omega)
    rw [show 96 + (y - 96) = y by omega] at h
    exact h
  by_cases h7 : y < 139
  · have h := mj_rng mjk_7 (i := y - 117) (by omega)
    rw [show 117 + (y - 117) = y by omega] at h
    exact h
  by_cases h8 : y < 164
  · have h := mj_rng mjk_8 (i := y - 139) (by omega)
    rw [show 139 + (y - 139) = y by omega] at h
    exact h
  by_cases h9 : y < 198
  · have h := mj_rng mjk_9 (i := y - 164) (by omega)
    rw [show 164 + (y - 164) = y by omega] at h
    exact h
  by_cases h10 : y < 242
  · have h := mj_rng mjk_10 (i := y - 198) (by omega)
    rw [show 198 + (y - 198) = y by omega] at h
    exact h
  by_cases h11 : y < 276
  · have h := mj_rng mjk_11 (i := y - 242) (by omega)
    rw [show 242 + (y - 242) = y by omega] at h
    exact h
  by_cases h12 : y < 309
  · have h := mj_rng mjk_12 (i := y - 276) (by omega)
    rw [show 276 + (y - 276) = y by omega] at h
    exact h
  by_cases h13 : y < 310
  · have h := mj_rng mjk_13 (i := y - 309) (by omega)
    rw [show 309 + (y - 309) = y by omega] at h
    exact h
  exact absurd hy (by omega)
theorem mj_lookup {α : Type} : ∀ (l : List (Nat × α)) (k : Nat) (v : α), l.lookup k = some v → (k, v) ∈ l := by
  intro l
  induction l with
  | nil => intro k v h; cases h
  | cons a l ih =>
    intro k v h
    obtain ⟨a1, a2⟩ := a
    rw [List.lookup_cons] at h
    split at h
    · rename_i e
      cases h
      rw [eq_of_beq e]
      exact List.mem_cons_self
    · exact List.mem_cons_of_mem _ (ih k v h)
theorem mjCode_at {y pc : Nat} {q : MjIns} (hy : y < mjMeths.length) (hq : mjFetch y pc = some q) : decode (mjMeth y).2.1 pc = .ok (mjEnc pc q) ∧ mjOk (mjMeth y).1.cls (mjIsInit y) q = true := by
  have h := List.all_eq_true.mp (mjChk_all (y := y) (Nat.lt_of_lt_of_le hy (by decide))) _ (mj_lookup _ _ _ hq)
  obtain ⟨h1, h2⟩ := Bool.and_eq_true_iff.mp h
  exact ⟨of_decide_eq_true h1, h2⟩
