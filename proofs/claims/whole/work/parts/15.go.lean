/-! RUNS WITHOUT COUNTING STEPS -/
theorem mjRun_mono (o : MjO) : ∀ (n y pc : Nat) (ml : MjL) (st : List Value) (h : MjH) (r : Option Value × MjH), mjRun o n y pc ml st h = some r → mjRun o (n + 1) y pc ml st h = some r := by
  intro n
  induction n with
  | zero => intro y pc ml st h r hr; cases hr
  | succ n ih =>
    intro y pc ml st h r hr
    unfold mjRun at hr
    unfold mjRun
    split at hr
    · cases hr
    · rename_i q hq
      try rw [hq]
      try dsimp only
      split at hr
      · rename_i e
        rw [if_pos e]
        split at hr
        · cases hr
        · rename_i vs rest he
          try rw [he]
          try dsimp only
          split at hr
          · rename_i hrc
            rw [if_pos hrc]
            split at hr
            · cases hr
            · rename_i r1 h1 hc
              rw [ih _ _ _ _ _ _ hc]
              exact ih _ _ _ _ _ _ hr
          · cases hr
      · rename_i e
        rw [if_neg e]
        split at hr
        · rename_i e
          rw [if_pos e]
          split at hr
          · rename_i a st'
            try dsimp only
            split at hr
            · rename_i hc
              rw [if_pos hc]
              exact ih _ _ _ _ _ _ hr
            · cases hr
          · cases hr
        · rename_i e
          rw [if_neg e]
          split at hr
          · rename_i e
            rw [if_pos e]
            exact hr
          · rename_i e
            rw [if_neg e]
            split at hr
            · rename_i e
              rw [if_pos e]
              exact hr
            · rename_i e
              rw [if_neg e]
              split at hr
              · rename_i e
                rw [if_pos e]
                exact hr
              · rename_i e
                rw [if_neg e]
                split at hr
                · rename_i hd hhd
                  try rw [hhd]
                  try dsimp only
                  split at hr
                  · cases hr
                  · rename_i r1 hr1
                    try rw [hr1]
                    try dsimp only
                    split at hr
                    · rename_i hc
                      rw [if_pos hc]
                      exact ih _ _ _ _ _ _ hr
                    · cases hr
                · rename_i hhd
                  try rw [hhd]
                  try dsimp only
                  split at hr
                  · cases hr
                  · rename_i hd hhd
                    try rw [hhd]
                    try dsimp only
                    split at hr
                    · cases hr
                    · rename_i r1 hr1
                      try rw [hr1]
                      exact ih _ _ _ _ _ _ hr
theorem mjRun_le {o : MjO} {n n' y pc : Nat} {ml : MjL} {st : List Value} {h : MjH} {r : Option Value × MjH} (hn : n ≤ n') (hr : mjRun o n y pc ml st h = some r) : mjRun o n' y pc ml st h = some r := by
  induction hn with
  | refl => exact hr
  | step _ ih => exact mjRun_mono o _ _ _ _ _ _ _ ih
/-- from this point of a method it comes to its return, with this answer and these cells -/
def Go (o : MjO) (y pc : Nat) (ml : MjL) (st : List Value) (h : MjH) (r : Option Value) (h' : MjH) : Prop := ∃ n, mjRun o n y pc ml st h = some (r, h')
theorem Go.step {o : MjO} {y pc : Nat} {ml : MjL} {st : List Value} {h : MjH} {r : Option Value} {h' : MjH} {q : MjIns} {hd : MjHd} {pc1 : Nat} {ml1 : MjL} {st1 : List Value} {h1 : MjH} (hf : mjFetch y pc = some q) (hq : (decide (q.1 < 69) || decide (74 < q.1) && (mjNat q.1).isNone) = true) (hh : mjHd q.1 = some hd) (hr : hd o q pc ml st h = some (pc1, ml1, st1, h1)) (k : Go o y pc1 ml1 st1 h1 r h') : Go o y pc ml st h r h' := by
  obtain ⟨n, hn⟩ := k
  refine ⟨n + 1, ?_⟩
  have hx : ¬ q.1 = 69 ∧ ¬ q.1 = 70 ∧ ¬ q.1 = 71 ∧ ¬ q.1 = 72 ∧ ¬ q.1 = 73 := by
    rcases Bool.or_eq_true_iff.mp hq with e | e
    · have := of_decide_eq_true e; omega
    · have := of_decide_eq_true (Bool.and_eq_true_iff.mp e).1; omega
  have hnt : mjNat q.1 = none := by
    rcases Bool.or_eq_true_iff.mp hq with e | e
    · have := of_decide_eq_true e
      unfold mjNat
      rw [if_neg (by omega), if_neg (by omega), if_neg (by omega)]
    · exact Option.isNone_iff_eq_none.mp (Bool.and_eq_true_iff.mp e).2
  unfold mjRun
  try rw [hf]
  try dsimp only
  rw [if_neg hx.1, if_neg hx.2.1, if_neg hx.2.2.1, if_neg hx.2.2.2.1, if_neg hx.2.2.2.2, hnt]
  try dsimp only
  try rw [hh]
  try dsimp only
  try rw [hr]
  exact hn
theorem Go.nat {o : MjO} {y pc : Nat} {ml : MjL} {st : List Value} {h : MjH} {r : Option Value} {h' : MjH} {q : MjIns} {hd : MjHd} {pc1 : Nat} {ml1 : MjL} {st1 : List Value} {h1 : MjH} (hf : mjFetch y pc = some q) (hq : (decide (73 < q.1)) = true) (hh : mjNat q.1 = some hd) (hr : hd o q pc ml st h = some (pc1, ml1, st1, h1)) (hc : 1 ≤ (mjMeth y).2.2.2.2.2.2.1 ∧ 26 ≤ (mjMeth y).2.2.2.2.2.2.2 ∧ (st1.all mjOne && decide (st1.length ≤ 8)) = true) (k : Go o y pc1 ml1 st1 h1 r h') : Go o y pc ml st h r h' := by
  obtain ⟨n, hn⟩ := k
  refine ⟨n + 1, ?_⟩
  have hx := of_decide_eq_true hq
  unfold mjRun
  try rw [hf]
  try dsimp only
  rw [if_neg (by omega), if_neg (by omega), if_neg (by omega), if_neg (by omega), if_neg (by omega), hh]
  try dsimp only
  try rw [hr]
  try dsimp only
  rw [if_pos hc]
  exact hn
theorem Go.call {o : MjO} {y pc : Nat} {ml : MjL} {st : List Value} {h : MjH} {r : Option Value} {h' : MjH} {q : MjIns} {vs rest : List Value} {r1 : Option Value} {h1 : MjH} (hf : mjFetch y pc = some q) (hq : q.1 = 69) (he : mjEnter y q.2.2.2.1 st = some (vs, rest)) (hrc : mjRecv q.2.2.2.1 q.2.2.2.2.1 h vs = true) (kc : Go o q.2.2.2.1 0 (vs.map some ++ List.replicate ((mjMeth q.2.2.2.1).2.2.1 - vs.length) none) [] h r1 h1) (k : Go o y (pc + 3) ml (r1.toList ++ rest) h1 r h') : Go o y pc ml st h r h' := by
  obtain ⟨n1, hn1⟩ := kc
  obtain ⟨n2, hn2⟩ := k
  refine ⟨max n1 n2 + 1, ?_⟩
  unfold mjRun
  try rw [hf]
  try dsimp only
  rw [if_pos hq, he]
  try dsimp only
  rw [if_pos hrc, mjRun_le (Nat.le_max_left _ _) hn1]
  exact mjRun_le (Nat.le_max_right _ _) hn2
theorem Go.oinit {o : MjO} {y pc : Nat} {ml : MjL} {a : Nat} {st : List Value} {h : MjH} {r : Option Value} {h' : MjH} {q : MjIns} (hf : mjFetch y pc = some q) (hq : q.1 = 70) (hc : 1 ≤ (mjMeth y).2.2.2.2.2.2.1 ∧ 20 ≤ (mjMeth y).2.2.2.2.2.2.2 ∧ (st.all mjOne && decide (st.length ≤ 8)) = true) (k : Go o y (pc + 3) ml st h r h') : Go o y pc ml (.ref a :: st) h r h' := by
  obtain ⟨n, hn⟩ := k
  refine ⟨n + 1, ?_⟩
  unfold mjRun
  try rw [hf]
  try dsimp only
  rw [if_neg (by omega), if_pos hq]
  try dsimp only
  rw [if_pos hc]
  exact hn
theorem Go.iret {o : MjO} {y pc : Nat} {ml : MjL} {v : Int32} {h : MjH} {q : MjIns} {ty : FieldType} (hf : mjFetch y pc = some q) (hq : q.1 = 71) (ht : (mjMeth y).2.2.2.1 = some ty) (hn : mjNar ty (.int v) = true) : Go o y pc ml [.int v] h (some (.int v)) h := by
  refine ⟨1, ?_⟩
  unfold mjRun
  try rw [hf]
  try dsimp only
  rw [if_neg (by omega), if_neg (by omega), if_pos hq, ht]
  try dsimp only
  rw [if_pos hn]
theorem Go.vret {o : MjO} {y pc : Nat} {ml : MjL} {h : MjH} {q : MjIns} (hf : mjFetch y pc = some q) (hq : q.1 = 72) (ht : (mjMeth y).2.2.2.1 = none) : Go o y pc ml [] h none h := by
  refine ⟨1, ?_⟩
  unfold mjRun
  try rw [hf]
  try dsimp only
  rw [if_neg (by omega), if_neg (by omega), if_neg (by omega), if_pos hq, ht]
theorem Go.aretA {o : MjO} {y pc : Nat} {ml : MjL} {v : Value} {h : MjH} {q : MjIns} {t : FieldType} (hf : mjFetch y pc = some q) (hq : q.1 = 73) (ht : (mjMeth y).2.2.2.1 = some (.array t)) (hn : mjA v = true) : Go o y pc ml [v] h (some v) h := by
  refine ⟨1, ?_⟩
  unfold mjRun
  try rw [hf]
  try dsimp only
  rw [if_neg (by omega), if_neg (by omega), if_neg (by omega), if_neg (by omega), if_pos hq, ht]
  try dsimp only
  rw [if_pos hn]
/-- more arrays that are there before do no harm -/
def MjSub (o o' : MjO) : Prop := ∀ k q, o k = some q → o' k = some q
theorem mjHd_sub {o o' : MjO} (ho : MjSub o o') {op : Nat} {hd : MjHd} (hh : mjHd op = some hd) {q : MjIns} {pc : Nat} {ml : MjL} {st : List Value} {h : MjH} {r : Nat × MjL × List Value × MjH} (hr : hd o q pc ml st h = some r) : hd o' q pc ml st h = some r := by
  have key : (∀ o1 o2 : MjO, hd o1 = hd o2) ∨ (∃ t, hd = mjLd t) ∨ hd = mjLen := by
    unfold mjHd at hh
    split at hh
    · cases hh; exact Or.inl fun _ _ => rfl
    · split at hh
      · cases hh; exact Or.inl fun _ _ => rfl
      · have hm := List.mem_of_getElem? hh
        simp only [mjHs, List.mem_cons, List.not_mem_nil, or_false] at hm
        rcases hm with e | e | e | e | e | e | e | e | e | e | e | e | e | e | e | e | e | e | e | e | e | e | e | e | e | e | e | e | e | e | e | e | e | e | e | e | e | e | e | e | e | e | e | e | e | e | e | e | e | e | e | e | e | e | e | e | e | e | e | e | e | e | e | e | e | e | e | e | e <;> first | (subst e; exact Or.inl fun _ _ => rfl) | exact Or.inr (Or.inl ⟨_, e⟩) | exact Or.inr (Or.inr e)
  rcases key with e | ⟨t, rfl⟩ | rfl
  · rw [e o' o]; exact hr
  · unfold mjLd at hr ⊢
    split at hr
    · exact hr
    · rename_i i k st
      split at hr
      · rename_i n f hk
        try dsimp only
        try rw [ho _ _ hk]
        exact hr
      · cases hr
    · cases hr
  · unfold mjLen at hr ⊢
    split at hr
    · exact hr
    · rename_i k st
      split at hr
      · rename_i n f hk
        try dsimp only
        try rw [ho _ _ hk]
        exact hr
      · cases hr
    · cases hr
theorem mjNat_sub {o o' : MjO} (ho : MjSub o o') {op : Nat} {hd : MjHd} (hh : mjNat op = some hd) {q : MjIns} {pc : Nat} {ml : MjL} {st : List Value} {h : MjH} {r : Nat × MjL × List Value × MjH} (hr : hd o q pc ml st h = some r) : hd o' q pc ml st h = some r := by
  unfold mjNat at hh
  split at hh
  · cases hh
    unfold mjCopy at hr ⊢
    split at hr
    · rename_i n dp d sp sv st
      split at hr
      · rename_i t n1 g hd
        split at hr
        · rename_i n0 f hs
          try dsimp only
          try rw [hd]
          try dsimp only
          have : mjSrc o' h t sv = some (n0, f) := by
            unfold mjSrc at hs ⊢
            split at hs
            · exact hs
            · rename_i k
              split at hs
              · rename_i e
                rw [if_pos e]
                exact ho _ _ hs
              · cases hs
            · cases hs
          try rw [this]
          exact hr
        · cases hr
      · cases hr
    · cases hr
  · split at hh
    · cases hh; exact hr
    · split at hh
      · cases hh; exact hr
      · cases hh
theorem Go.sub {o o' : MjO} (ho : MjSub o o') : ∀ (n y pc : Nat) (ml : MjL) (st : List Value) (h : MjH) (r : Option Value) (h' : MjH), mjRun o n y pc ml st h = some (r, h') → mjRun o' n y pc ml st h = some (r, h') := by
  intro n
  induction n with
  | zero => intro y pc ml st h r h' hr; cases hr
  | succ n ih =>
    intro y pc ml st h r h' hr
    unfold mjRun at hr
    unfold mjRun
    split at hr
    · cases hr
    · rename_i q hq
      try rw [hq]
      try dsimp only
      split at hr
      · rename_i e
        rw [if_pos e]
        split at hr
        · cases hr
        · rename_i vs rest he
          try rw [he]
          try dsimp only
          split at hr
          · rename_i hrc
            rw [if_pos hrc]
            split at hr
            · cases hr
            · rename_i r1 h1 hc
              rw [ih _ _ _ _ _ _ _ hc]
              exact ih _ _ _ _ _ _ _ hr
          · cases hr
      · rename_i e
        rw [if_neg e]
        split at hr
        · rename_i e
          rw [if_pos e]
          split at hr
          · rename_i a st'
            try dsimp only
            split at hr
            · rename_i hc
              rw [if_pos hc]
              exact ih _ _ _ _ _ _ _ hr
            · cases hr
          · cases hr
        · rename_i e
          rw [if_neg e]
          split at hr
          · rename_i e
            rw [if_pos e]
            exact hr
          · rename_i e
            rw [if_neg e]
            split at hr
            · rename_i e
              rw [if_pos e]
              exact hr
            · rename_i e
              rw [if_neg e]
              split at hr
              · rename_i e
                rw [if_pos e]
                exact hr
              · rename_i e
                rw [if_neg e]
                split at hr
                · rename_i hd hhd
                  try rw [hhd]
                  try dsimp only
                  split at hr
                  · cases hr
                  · rename_i r1 hr1
                    rw [mjNat_sub ho hhd hr1]
                    try dsimp only
                    split at hr
                    · rename_i hc
                      rw [if_pos hc]
                      exact ih _ _ _ _ _ _ _ hr
                    · cases hr
                · rename_i hhd
                  try rw [hhd]
                  try dsimp only
                  split at hr
                  · cases hr
                  · rename_i hd hhd
                    try rw [hhd]
                    try dsimp only
                    split at hr
                    · cases hr
                    · rename_i r1 hr1
                      rw [mjHd_sub ho hhd hr1]
                      exact ih _ _ _ _ _ _ _ hr
def mjNone : MjO := fun _ => none
theorem mjNone_sub (o : MjO) : MjSub mjNone o := fun _ _ h => by cases h
theorem Go.ofNone {o : MjO} {n y pc : Nat} {ml : MjL} {st : List Value} {h : MjH} {r : Option Value} {h' : MjH} (hr : mjRun mjNone n y pc ml st h = some (r, h')) : Go o y pc ml st h r h' := ⟨n, Go.sub (mjNone_sub o) n y pc ml st h r h' hr⟩
