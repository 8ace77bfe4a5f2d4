/-! MORE LOCALS THAT ARE SET DO NO HARM -/
def MlLe : MjL → MjL → Prop
  | [], [] => True
  | none :: a, _ :: b => MlLe a b
  | some v :: a, w :: b => w = some v ∧ MlLe a b
  | _, _ => False
theorem MlLe.get {a b : MjL} (h : MlLe a b) {i : Nat} {v : Value} (hi : a[i]? = some (some v)) : b[i]? = some (some v) := by
  induction a generalizing b i with
  | nil => cases hi
  | cons x a ih =>
    cases b with
    | nil => cases x <;> exact h.elim
    | cons w b =>
      cases x with
      | none =>
        cases i with
        | zero => cases hi
        | succ i => exact ih (b := b) h hi
      | some u =>
        cases i with
        | zero =>
          cases hi
          rw [h.1]
          rfl
        | succ i => exact ih (b := b) h.2 hi
theorem MlLe.len {a b : MjL} (h : MlLe a b) : a.length = b.length := by
  induction a generalizing b with
  | nil => cases b with
    | nil => rfl
    | cons w b => exact h.elim
  | cons x a ih =>
    cases b with
    | nil => cases x <;> exact h.elim
    | cons w b =>
      cases x with
      | none => exact congrArg (· + 1) (ih (b := b) h)
      | some u => exact congrArg (· + 1) (ih (b := b) h.2)
theorem MlLe.set {a b : MjL} (h : MlLe a b) (i : Nat) (v : Value) : MlLe (a.set i (some v)) (b.set i (some v)) := by
  induction a generalizing b i with
  | nil => cases b with
    | nil => exact h
    | cons w b => exact h.elim
  | cons x a ih =>
    cases b with
    | nil => cases x <;> exact h.elim
    | cons w b =>
      cases x with
      | none =>
        cases i with
        | zero => exact ⟨rfl, h⟩
        | succ i => exact ih (b := b) h i
      | some u =>
        cases i with
        | zero => exact ⟨rfl, h.2⟩
        | succ i => exact ⟨h.1, ih (b := b) h.2 i⟩
def MjRLe (r r' : MjR) : Prop := ∀ x, r = some x → ∃ ml', MlLe x.2.1 ml' ∧ r' = some (x.1, ml', x.2.2)
def MjFree (hd : MjHd) : Prop := ∀ (o : MjO) (q : MjIns) (pc : Nat) (st : List Value) (h : MjH), ∃ g : Option (Nat × List Value × MjH), ∀ ml', hd o q pc ml' st h = g.map (fun x => (x.1, ml', x.2))
theorem mjHd_weak {hd : MjHd} (hm : MjFree hd ∨ (∃ n, hd = mjILoad n) ∨ (∃ n, hd = mjALoad n) ∨ (∃ n, hd = mjIStore n) ∨ (∃ n, hd = mjAStore n) ∨ hd = mjInc) {o : MjO} {q : MjIns} {pc : Nat} {ml ml' : MjL} {st : List Value} {h : MjH} (hle : MlLe ml ml') : MjRLe (hd o q pc ml st h) (hd o q pc ml' st h) := by
  intro x hx
  rcases hm with e | ⟨n, rfl⟩ | ⟨n, rfl⟩ | ⟨n, rfl⟩ | ⟨n, rfl⟩ | rfl
  · obtain ⟨g, hg⟩ := e o q pc st h
    rw [hg ml] at hx
    rw [hg ml']
    cases g with
    | none => cases hx
    | some y => cases hx; exact ⟨ml', hle, rfl⟩
  · unfold mjILoad at hx ⊢
    split at hx
    · rename_i v hv
      rw [hle.get hv]
      cases hx
      exact ⟨ml', hle, rfl⟩
    · cases hx
  · unfold mjALoad at hx ⊢
    split at hx
    · rename_i v hv
      rw [hle.get hv]
      try dsimp only
      split at hx
      · rename_i hc
        rw [if_pos hc]
        cases hx
        exact ⟨ml', hle, rfl⟩
      · cases hx
    · cases hx
  · unfold mjIStore at hx ⊢
    split at hx
    · split at hx
      · rename_i hc
        try dsimp only
        rw [if_pos (by rw [← hle.len]; exact hc)]
        cases hx
        exact ⟨_, hle.set _ _, rfl⟩
      · cases hx
    · cases hx
  · unfold mjAStore at hx ⊢
    split at hx
    · split at hx
      · rename_i hc
        try dsimp only
        rw [if_pos (by rw [← hle.len]; exact hc)]
        cases hx
        exact ⟨_, hle.set _ _, rfl⟩
      · cases hx
    · cases hx
  · unfold mjInc at hx ⊢
    split at hx
    · rename_i v hv
      rw [hle.get hv]
      cases hx
      exact ⟨_, hle.set _ _, rfl⟩
    · cases hx
theorem mjFree_self {hd : MjHd} (h : ∀ o q pc ml st h, hd o q pc ml st h = (hd o q pc [] st h).map (fun x => (x.1, ml, x.2.2))) : MjFree hd := fun o q pc st hh => ⟨(hd o q pc [] st hh).map (fun x => (x.1, x.2.2)), fun ml' => by rw [h o q pc ml' st hh]; cases hd o q pc [] st hh <;> rfl⟩
theorem mjFree_all : MjFree mjPushL ∧ MjFree mjLAdd ∧ MjFree mjL2I ∧ MjFree mjDup ∧ MjFree mjPop ∧ MjFree mjDupX1 ∧ MjFree mjDup2 ∧ MjFree mjGoto ∧ MjFree mjSwitch ∧ MjFree mjALd ∧ MjFree mjNewA ∧ MjFree mjNewQ ∧ MjFree mjNewO ∧ MjFree mjStatic ∧ MjFree mjNull ∧ MjFree mjMax ∧ MjFree mjMin := by
  refine ⟨?_, ?_, ?_, ?_, ?_, ?_, ?_, ?_, ?_, ?_, ?_, ?_, ?_, ?_, ?_, ?_, ?_⟩
  · exact mjFree_self (by intro o q pc ml st h; rfl)
  · exact mjFree_self (by intro o q pc ml st h; unfold mjLAdd; split <;> rfl)
  · exact mjFree_self (by intro o q pc ml st h; unfold mjL2I; split <;> rfl)
  · exact mjFree_self (by intro o q pc ml st h; unfold mjDup; split <;> first | rfl | (split <;> rfl))
  · exact mjFree_self (by intro o q pc ml st h; unfold mjPop; split <;> first | rfl | (split <;> rfl))
  · exact mjFree_self (by intro o q pc ml st h; unfold mjDupX1; split <;> first | rfl | (split <;> rfl))
  · exact mjFree_self (by intro o q pc ml st h; unfold mjDup2; split <;> first | rfl | (split <;> rfl))
  · exact mjFree_self (by intro o q pc ml st h; rfl)
  · exact mjFree_self (by intro o q pc ml st h; unfold mjSwitch; split <;> rfl)
  · exact mjFree_self (by
      intro o q pc ml st h
      unfold mjALd
      split
      · rename_i i r st
        cases hh : h[r]? with
        | none => rfl
        | some c =>
          rcases c with ⟨t, n, f | f | f | f | f⟩ | c
          · rfl
          · rfl
          · rfl
          · rfl
          · dsimp only; split <;> rfl
          · rfl
      · rfl)
  · exact mjFree_self (by intro o q pc ml st h; unfold mjNewA; split <;> first | rfl | (split <;> rfl))
  · exact mjFree_self (by intro o q pc ml st h; unfold mjNewQ; split <;> first | rfl | (split <;> rfl))
  · exact mjFree_self (by intro o q pc ml st h; rfl)
  · exact mjFree_self (by intro o q pc ml st h; rfl)
  · exact mjFree_self (by intro o q pc ml st h; rfl)
  · exact mjFree_self (by intro o q pc ml st h; unfold mjMax; split <;> rfl)
  · exact mjFree_self (by intro o q pc ml st h; unfold mjMin; split <;> rfl)
theorem mjFree_push (n : Nat) : MjFree (mjPush n) := mjFree_self (by intro o q pc ml st h; rfl)
theorem mjFree_bin (f : Int32 → Int32 → Int32) : MjFree (mjBin f) := mjFree_self (by intro o q pc ml st h; unfold mjBin; split <;> rfl)
theorem mjFree_div (f : Int32 → Int32 → Int32) : MjFree (mjDiv f) := mjFree_self (by intro o q pc ml st h; unfold mjDiv; split <;> first | rfl | (split <;> rfl))
theorem mjFree_un (f : Int32 → Int32) : MjFree (mjUn f) := mjFree_self (by intro o q pc ml st h; unfold mjUn; split <;> rfl)
theorem mjFree_if (f : Int32 → Bool) : MjFree (mjIf f) := mjFree_self (by intro o q pc ml st h; unfold mjIf; split <;> rfl)
theorem mjFree_if2 (f : Int32 → Int32 → Bool) : MjFree (mjIf2 f) := mjFree_self (by intro o q pc ml st h; unfold mjIf2; split <;> rfl)
theorem mjFree_ifn (z : Bool) : MjFree (mjIfN z) := mjFree_self (by intro o q pc ml st h; unfold mjIfN; split <;> rfl)
theorem mjFree_get : MjFree mjGet := mjFree_self (by
  intro o q pc ml st h
  unfold mjGet
  split
  · rename_i r st
    cases hh : h[r]? with
    | none => rfl
    | some c =>
      rcases c with c | ⟨c, fs⟩
      · rfl
      · dsimp only
        split
        · cases fs[q.2.2.2.2.1]? <;> rfl
        · rfl
  · rfl)
theorem mjFree_put : MjFree mjPut := mjFree_self (by
  intro o q pc ml st h
  unfold mjPut
  split
  · rename_i v r st
    cases hh : h[r]? with
    | none => rfl
    | some c =>
      rcases c with c | ⟨c, fs⟩
      · rfl
      · dsimp only
        split <;> rfl
  · rfl)
theorem mjFree_ld (t : Nat) : MjFree (mjLd t) := mjFree_self (by
  intro o q pc ml st h
  unfold mjLd
  split
  · rename_i i r st
    cases hh : h[r]? with
    | none => rfl
    | some c =>
      rcases c with ⟨t, n, f | f⟩ | c
      · dsimp only; split <;> rfl
      · rfl
      · rfl
  · rename_i i k st
    cases o k with
    | none => rfl
    | some c => dsimp only; split <;> rfl
  · rfl)
theorem mjFree_st (t : Nat) (g : Int32 → Int32) : MjFree (mjSt t g) := mjFree_self (by
  intro o q pc ml st h
  unfold mjSt
  split
  · rename_i x i r st
    cases hh : h[r]? with
    | none => rfl
    | some c =>
      rcases c with ⟨t, n, f | f⟩ | c
      · dsimp only; split <;> rfl
      · rfl
      · rfl
  · rfl)
theorem mjFree_ast : MjFree mjASt := mjFree_self (by
  intro o q pc ml st h
  unfold mjASt
  split
  · rename_i v i r st
    cases hh : h[r]? with
    | none => rfl
    | some c =>
      rcases c with ⟨t, n, f | f | f | f | f⟩ | c
      · rfl
      · rfl
      · rfl
      · rfl
      · cases hv : h[v]? with
        | none => rfl
        | some c =>
          rcases c with c | c
          · rfl
          · dsimp only; split <;> rfl
      · rfl
  · rfl)
theorem mjFree_len : MjFree mjLen := mjFree_self (by
  intro o q pc ml st h
  unfold mjLen
  split
  · rename_i r st
    cases hh : h[r]? with
    | none => rfl
    | some c =>
      rcases c with ⟨t, n, f⟩ | c
      · dsimp only; split <;> rfl
      · rfl
  · rename_i k st
    cases o k <;> rfl
  · rfl)
theorem mjFree_copy : MjFree mjCopy := mjFree_self (by
  intro o q pc ml st h
  unfold mjCopy
  split
  · rename_i n dp d sp sv st
    cases hh : h[d]? with
    | none => rfl
    | some c =>
      rcases c with ⟨t, n, f | f⟩ | c
      · dsimp only
        cases mjSrc o h t sv with
        | none => rfl
        | some c => dsimp only; split <;> rfl
      · rfl
      · rfl
  · rfl)
theorem mjHd_weakAll {op : Nat} {hd : MjHd} (hh : mjHd op = some hd ∨ mjNat op = some hd) {o : MjO} {q : MjIns} {pc : Nat} {ml ml' : MjL} {st : List Value} {h : MjH} (hle : MlLe ml ml') : MjRLe (hd o q pc ml st h) (hd o q pc ml' st h) := by
  have A := mjFree_all
  refine mjHd_weak ?_ hle
  rcases hh with hh | hh
  · unfold mjHd at hh
    split at hh
    · cases hh; exact Or.inl A.2.2.2.2.2.2.2.2.2.2.2.2.2.1
    · split at hh
      · cases hh; exact Or.inl A.2.2.2.2.2.2.2.2.2.2.2.2.2.2.1
      · have hm := List.mem_of_getElem? hh
        simp only [mjHs, List.mem_cons, List.not_mem_nil, or_false] at hm
        rcases hm with e | e | e | e | e | e | e | e | e | e | e | e | e | e | e | e | e | e | e | e | e | e | e | e | e | e | e | e | e | e | e | e | e | e | e | e | e | e | e | e | e | e | e | e | e | e | e | e | e | e | e | e | e | e | e | e | e | e | e | e | e | e | e | e | e | e | e | e | e <;> subst e <;> first
          | exact Or.inl (mjFree_push _) | exact Or.inl A.1 | exact Or.inr (Or.inl ⟨_, rfl⟩) | exact Or.inr (Or.inr (Or.inl ⟨_, rfl⟩)) | exact Or.inr (Or.inr (Or.inr (Or.inl ⟨_, rfl⟩))) | exact Or.inr (Or.inr (Or.inr (Or.inr (Or.inl ⟨_, rfl⟩)))) | exact Or.inr (Or.inr (Or.inr (Or.inr (Or.inr rfl))))
          | exact Or.inl (mjFree_bin _) | exact Or.inl (mjFree_div _) | exact Or.inl (mjFree_un _) | exact Or.inl A.2.1 | exact Or.inl A.2.2.1 | exact Or.inl A.2.2.2.1 | exact Or.inl A.2.2.2.2.1 | exact Or.inl A.2.2.2.2.2.1 | exact Or.inl A.2.2.2.2.2.2.1
          | exact Or.inl (mjFree_if _) | exact Or.inl (mjFree_if2 _) | exact Or.inl A.2.2.2.2.2.2.2.1 | exact Or.inl (mjFree_ifn _) | exact Or.inl A.2.2.2.2.2.2.2.2.1 | exact Or.inl mjFree_get | exact Or.inl mjFree_put | exact Or.inl (mjFree_ld _) | exact Or.inl (mjFree_st _ _) | exact Or.inl A.2.2.2.2.2.2.2.2.2.1 | exact Or.inl mjFree_ast | exact Or.inl mjFree_len | exact Or.inl A.2.2.2.2.2.2.2.2.2.2.1 | exact Or.inl A.2.2.2.2.2.2.2.2.2.2.2.1 | exact Or.inl A.2.2.2.2.2.2.2.2.2.2.2.2.1 | exact Or.inl A.2.2.2.2.2.2.2.2.2.2.2.2.2.1
  · unfold mjNat at hh
    split at hh
    · cases hh; exact Or.inl mjFree_copy
    · split at hh
      · cases hh; exact Or.inl A.2.2.2.2.2.2.2.2.2.2.2.2.2.2.2.1
      · split at hh
        · cases hh; exact Or.inl A.2.2.2.2.2.2.2.2.2.2.2.2.2.2.2.2
        · cases hh
theorem mjRun_weak (o : MjO) : ∀ (n y pc : Nat) (ml ml' : MjL) (st : List Value) (h : MjH) (r : Option Value × MjH), MlLe ml ml' → mjRun o n y pc ml st h = some r → mjRun o n y pc ml' st h = some r := by
  intro n
  induction n with
  | zero => intro y pc ml ml' st h r _ hr; cases hr
  | succ n ih =>
    intro y pc ml ml' st h r hle hr
    unfold mjRun at hr
    unfold mjRun
    split at hr
    · cases hr
    · rename_i q hq
      try rw [hq]
      try dsimp only
      split at hr
      · rename_i e
        rw [if_pos e]
        split at hr
        · cases hr
        · rename_i vs rest he
          try rw [he]
          try dsimp only
          split at hr
          · rename_i hrc
            rw [if_pos hrc]
            split at hr
            · cases hr
            · rename_i r1 h1 hc
              try rw [hc]
              exact ih _ _ _ _ _ _ _ hle hr
          · cases hr
      · rename_i e
        rw [if_neg e]
        split at hr
        · rename_i e
          rw [if_pos e]
          split at hr
          · rename_i a st'
            try dsimp only
            split at hr
            · rename_i hc
              rw [if_pos hc]
              exact ih _ _ _ _ _ _ _ hle hr
            · cases hr
          · cases hr
        · rename_i e
          rw [if_neg e]
          split at hr
          · rename_i e
            rw [if_pos e]
            exact hr
          · rename_i e
            rw [if_neg e]
            split at hr
            · rename_i e
              rw [if_pos e]
              exact hr
            · rename_i e
              rw [if_neg e]
              split at hr
              · rename_i e
                rw [if_pos e]
                exact hr
              · rename_i e
                rw [if_neg e]
                split at hr
                · rename_i hd hhd
                  try rw [hhd]
                  try dsimp only
                  split at hr
                  · cases hr
                  · rename_i r1 hr1
                    obtain ⟨ml1, hl1, hr2⟩ := mjHd_weakAll (Or.inr hhd) hle r1 hr1
                    rw [hr2]
                    try dsimp only
                    split at hr
                    · rename_i hc
                      rw [if_pos hc]
                      exact ih _ _ _ _ _ _ _ hl1 hr
                    · cases hr
                · rename_i hhd
                  try rw [hhd]
                  try dsimp only
                  split at hr
                  · cases hr
                  · rename_i hd hhd
                    try rw [hhd]
                    try dsimp only
                    split at hr
                    · cases hr
                    · rename_i r1 hr1
                      obtain ⟨ml1, hl1, hr2⟩ := mjHd_weakAll (Or.inl hhd) hle r1 hr1
                      rw [hr2]
                      exact ih _ _ _ _ _ _ _ hl1 hr
theorem Go.weak {o : MjO} {y pc : Nat} {ml ml' : MjL} {st : List Value} {h : MjH} {r : Option Value} {h' : MjH} (hle : MlLe ml ml') (k : Go o y pc ml st h r h') : Go o y pc ml' st h r h' := by
  obtain ⟨n, hn⟩ := k
  exact ⟨n, mjRun_weak o n y pc ml ml' st h (r, h') hle hn⟩
