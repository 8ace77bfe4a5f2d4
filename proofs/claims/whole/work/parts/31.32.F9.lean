/-! F9 -/
def leK (a b : Int32) : Prop := a = 0 ∨ a = b
set_option maxRecDepth 20000 in
set_option maxHeartbeats 4000000 in
theorem leK.trans {a b c : Int32} (h : leK a b) (k : leK b c) : leK a c := by
  rcases h with h | h
  · exact Or.inl h
  · rw [h]; exact k
/-- more is known, of what was known no less -/
def Ext (S S' : FS) : Prop := (∀ j, S.1 j = true → S'.1 j = true ∧ S'.2.2.1 j = S.2.2.1 j ∧ S'.2.2.2.1 j = S.2.2.2.1 j ∧ (∀ k, leK (S'.2.2.2.2.1 j k) (S.2.2.2.2.1 j k)) ∧ (S'.2.1 j = false → S.2.1 j = false ∧ S'.2.2.2.2.1 j = S.2.2.2.2.1 j)) ∧ (∀ j, S'.1 j = true → S.1 j = true ∨ S'.2.1 j = true)
/-- an instruction is known to be come to with these kinds -/
def Cov (S : FS) (j : Nat) (g : Nat → Int32) (h : Nat) (l : Nat → Int32) : Prop := S.1 j = true ∧ S.2.2.1 j = h ∧ (∀ k, k < h → S.2.2.2.1 j k = g k) ∧ ∀ k, k < 12 → leK (S.2.2.2.2.1 j k) (l k)
theorem Ext.refl (S : FS) : Ext S S := ⟨fun _ h => ⟨h, rfl, rfl, fun _ => Or.inr rfl, fun w => ⟨w, rfl⟩⟩, fun _ h => Or.inl h⟩
set_option maxRecDepth 20000 in
set_option maxHeartbeats 4000000 in
theorem Ext.trans {S S' S'' : FS} (h : Ext S S') (k : Ext S' S'') : Ext S S'' := by
  refine ⟨?_, ?_⟩
  · intro j hj
    obtain ⟨a1, a2, a3, a4, a5⟩ := h.1 j hj
    obtain ⟨b1, b2, b3, b4, b5⟩ := k.1 j a1
    refine ⟨b1, b2.trans a2, b3.trans a3, fun i => (b4 i).trans (a4 i), ?_⟩
    intro w
    obtain ⟨c1, c2⟩ := b5 w
    obtain ⟨d1, d2⟩ := a5 c1
    exact ⟨d1, c2.trans d2⟩
  · intro j hj
    rcases k.2 j hj with q | q
    · rcases h.2 j q with r | r
      · exact Or.inl r
      · cases e : S''.2.1 j with
        | true => exact Or.inr rfl
        | false =>
          have := (k.1 j q).2.2.2.2 e
          rw [r] at this
          cases this.1
    · exact Or.inr q
set_option maxRecDepth 20000 in
set_option maxHeartbeats 4000000 in
theorem Cov.ext {S S' : FS} {j h : Nat} {g l : Nat → Int32} (c : Cov S j g h l) (e : Ext S S') : Cov S' j g h l := by
  obtain ⟨c1, c2, c3, c4⟩ := c
  obtain ⟨a1, a2, a3, a4, a5⟩ := e.1 j c1
  exact ⟨a1, a2.trans c2, fun k hk => by rw [a3]; exact c3 k hk, fun k hk => (a4 k).trans (c4 k hk)⟩
/-- how many locals are set -/
def nz (l : Nat → Int32) : Nat := cnt (fun k => decide (¬ l k = 0)) 12
def wgt (S : FS) (i : Nat) : Nat := if S.1 i = true then nz (S.2.2.2.2.1 i) + (if S.2.1 i = true then 1 else 0) else 14
def sumW (S : FS) : Nat → Nat
  | 0 => 0
  | n + 1 => sumW S n + wgt S n
def mu (S : FS) : Nat := sumW S 60
theorem nz_max (l : Nat → Int32) : nz l ≤ 12 := cnt_max _ 12
set_option maxRecDepth 20000 in
set_option maxHeartbeats 4000000 in
theorem sumW_one {S S' : FS} (i d : Nat) (hd : wgt S' i + d ≤ wgt S i) (ho : ∀ j, j ≠ i → wgt S' j = wgt S j) : ∀ n, (i < n → sumW S' n + d ≤ sumW S n) ∧ (n ≤ i → sumW S' n = sumW S n)
  | 0 => ⟨fun h => absurd h (Nat.not_lt_zero i), fun _ => rfl⟩
  | n + 1 => by
    obtain ⟨h1, h2⟩ := sumW_one i d hd ho n
    unfold sumW
    refine ⟨?_, ?_⟩
    · intro h
      by_cases e : i = n
      · subst e
        rw [h2 (Nat.le_refl _)]
        omega
      · have := h1 (by omega)
        rw [ho n (fun q => e q.symm)]
        omega
    · intro h
      rw [h2 (by omega), ho n (by omega)]
set_option maxRecDepth 20000 in
set_option maxHeartbeats 4000000 in
theorem chg_false {l l' : Nat → Int32} (h : chg l l' = false) : mrg l l' = l := by
  funext k
  unfold mrg
  rw [if_neg]
  rintro ⟨q1, q2, q3⟩
  have : chg l l' = true := chg_iff.mpr ⟨k, q1, q2, q3⟩
  rw [h] at this
  cases this
set_option maxRecDepth 20000 in
set_option maxHeartbeats 4000000 in
theorem come_props {S S' : FS} {i h : Nat} {g l : Nat → Int32} (hi : i < 60) (e : come S i g h l = some S') : Ext S S' ∧ Cov S' i g h l ∧ mu S' ≤ mu S ∧ (S.1 i = false → mu S' < mu S) ∧ (∀ j, S'.1 j = true → S.1 j = true ∨ j = i) ∧ (∀ j, S'.2.1 j = true → S.2.1 j = true ∨ j = i) := by
  unfold come at e
  by_cases cs : S.1 i = false
  · rw [if_pos cs] at e
    cases e
    have w : wgt (updB S.1 i true, updB S.2.1 i true, updN S.2.2.1 i h, updN S.2.2.2.1 i g, updN S.2.2.2.2.1 i l, max S.2.2.2.2.2 h) i + 1 ≤ wgt S i := by
      unfold wgt updB updN
      dsimp only
      simp only [eq_self, if_true, ite_true, cs, Bool.false_eq_true, if_false, ite_false]
      have := nz_max l
      omega
    have wo : ∀ j, j ≠ i → wgt (updB S.1 i true, updB S.2.1 i true, updN S.2.2.1 i h, updN S.2.2.2.1 i g, updN S.2.2.2.2.1 i l, max S.2.2.2.2.2 h) j = wgt S j := by
      intro j hj
      unfold wgt updB updN
      dsimp only
      simp only [hj, if_false, ite_false]
    have lt1 : mu (updB S.1 i true, updB S.2.1 i true, updN S.2.2.1 i h, updN S.2.2.2.1 i g, updN S.2.2.2.2.1 i l, max S.2.2.2.2.2 h) + 1 ≤ mu S := (sumW_one i 1 w wo 60).1 hi
    refine ⟨⟨?_, ?_⟩, ?_, by omega, fun _ => by omega, ?_, ?_⟩
    · intro j hj
      have ne : j ≠ i := fun q => by rw [q, cs] at hj; cases hj
      unfold updB updN
      dsimp only
      rw [if_neg ne, if_neg ne, if_neg ne, if_neg ne, if_neg ne]
      exact ⟨hj, rfl, rfl, fun _ => Or.inr rfl, fun w => ⟨w, rfl⟩⟩
    · intro j hj
      by_cases ej : j = i
      · subst ej
        exact Or.inr (by unfold updB; dsimp only; rw [if_pos rfl])
      · unfold updB at hj
        dsimp only at hj
        rw [if_neg ej] at hj
        exact Or.inl hj
    · unfold Cov updB updN
      dsimp only
      rw [if_pos rfl, if_pos rfl, if_pos rfl, if_pos rfl]
      exact ⟨rfl, rfl, fun _ _ => rfl, fun _ _ => Or.inr rfl⟩
    · intro j hj
      by_cases ej : j = i
      · exact Or.inr ej
      · unfold updB at hj
        dsimp only at hj
        rw [if_neg ej] at hj
        exact Or.inl hj
    · intro j hj
      by_cases ej : j = i
      · exact Or.inr ej
      · unfold updB at hj
        dsimp only at hj
        rw [if_neg ej] at hj
        exact Or.inl hj
  · rw [if_neg cs] at e
    have hs : S.1 i = true := by cases q : S.1 i with | false => exact absurd q cs | true => rfl
    by_cases cq : S.2.2.1 i = h ∧ sameK h (S.2.2.2.1 i) g = true
    case neg =>
      rw [if_neg cq] at e
      cases e
    rw [if_pos cq] at e
    cases e
    have mle : ∀ k, leK (mrg (S.2.2.2.2.1 i) l k) (S.2.2.2.2.1 i k) := by
      intro k
      unfold mrg
      split
      · exact Or.inl rfl
      · exact Or.inr rfl
    have w : wgt (S.1, updB S.2.1 i (S.2.1 i || chg (S.2.2.2.2.1 i) l), S.2.2.1, S.2.2.2.1, updN S.2.2.2.2.1 i (mrg (S.2.2.2.2.1 i) l), S.2.2.2.2.2) i + 0 ≤ wgt S i := by
      unfold wgt updB updN
      dsimp only
      simp only [hs, eq_self, if_true, ite_true]
      cases cc : chg (S.2.2.2.2.1 i) l with
      | false =>
        rw [chg_false cc, Bool.or_false]
        exact Nat.le_refl _
      | true =>
        have lt1 : nz (mrg (S.2.2.2.2.1 i) l) < nz (S.2.2.2.2.1 i) := by
          unfold nz
          obtain ⟨k, k1, k2, k3⟩ := chg_iff.mp cc
          refine cnt_lt 12 ?_ ⟨k, k1, decide_eq_true k2, ?_⟩
          · intro m _ hm
            have := of_decide_eq_true hm
            refine decide_eq_true (fun q => this ?_)
            rcases mle m with r | r
            · exact r
            · rw [r]; exact q
          · intro hm
            have := of_decide_eq_true hm
            apply this
            unfold mrg
            rw [if_pos ⟨k1, k2, k3⟩]
        rw [Bool.or_true, if_pos rfl]
        omega
    have wo : ∀ j, j ≠ i → wgt (S.1, updB S.2.1 i (S.2.1 i || chg (S.2.2.2.2.1 i) l), S.2.2.1, S.2.2.2.1, updN S.2.2.2.2.1 i (mrg (S.2.2.2.2.1 i) l), S.2.2.2.2.2) j = wgt S j := by
      intro j hj
      unfold wgt updB updN
      dsimp only
      simp only [hj, if_false, ite_false]
    have lt0 : mu (S.1, updB S.2.1 i (S.2.1 i || chg (S.2.2.2.2.1 i) l), S.2.2.1, S.2.2.2.1, updN S.2.2.2.2.1 i (mrg (S.2.2.2.2.1 i) l), S.2.2.2.2.2) + 0 ≤ mu S := (sumW_one i 0 w wo 60).1 hi
    refine ⟨⟨?_, fun j hj => Or.inl hj⟩, ?_, by omega, fun q => absurd q cs, fun j hj => Or.inl hj, ?_⟩
    · intro j hj
      by_cases ej : j = i
      · subst ej
        unfold updB updN
        dsimp only
        rw [if_pos rfl, if_pos rfl]
        refine ⟨hj, rfl, rfl, mle, ?_⟩
        intro q
        rw [Bool.or_eq_false_iff] at q
        exact ⟨q.1, chg_false q.2⟩
      · unfold updB updN
        dsimp only
        rw [if_neg ej, if_neg ej]
        exact ⟨hj, rfl, rfl, fun _ => Or.inr rfl, fun w => ⟨w, rfl⟩⟩
    · unfold Cov updN
      dsimp only
      rw [if_pos rfl]
      refine ⟨hs, cq.1, sameK_iff.mp cq.2, ?_⟩
      intro k hk
      unfold mrg
      by_cases q : S.2.2.2.2.1 i k = 0
      · rw [if_neg (fun z => z.2.1 q)]
        exact Or.inl q
      · by_cases q2 : S.2.2.2.2.1 i k = l k
        · rw [if_neg (fun z => z.2.2 q2)]
          exact Or.inr q2
        · rw [if_pos ⟨hk, q, q2⟩]
          exact Or.inl rfl
    · intro j hj
      by_cases ej : j = i
      · exact Or.inr ej
      · unfold updB at hj
        dsimp only at hj
        rw [if_neg ej] at hj
        exact Or.inl hj
