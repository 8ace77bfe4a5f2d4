theorem mj_eta {α β : Type} {q : α × β} {a : α} {b : β} (h1 : q.1 = a) (h2 : q.2 = b) : q = (a, b) := by
  subst h1
  subst h2
  rfl
/-- the law's way to its loop -/
theorem law_begin {o : MjO} {r : Option Value} {h' : MjH} (k : Go o 309 18 [some (.retAddr 0), some (.ref 0), some (.ref 60), some (.int (nI (7 * 0)))] [] mjH0 r h') : Go o 309 0 [some (.retAddr 0), none, none, none] [] [] r h' := by
  obtain ⟨q1, e1, e2⟩ := Option.map_eq_some_iff.mp mjHX_ok
  obtain ⟨q2, e3, e4⟩ := Option.map_eq_some_iff.mp mjH0_ok
  have x1 : q1.2 = mjHX := by unfold mjHX; rw [e1]; rfl
  have x2 : q2.2 = mjH0 := by unfold mjH0; rw [e3]; rfl
  obtain ⟨y1, y2⟩ := Prod.mk.inj e2
  obtain ⟨y3, y4⟩ := Prod.mk.inj e4
  rw [x1] at y2
  have e1 := e1.trans (congrArg some (mj_eta (q := q1) (a := none) (b := mjHX) y1 x1))
  have e3 := e3.trans (congrArg some (mj_eta (q := q2) (a := none) (b := mjH0) y3 x2))
  refine Go.step (pc1 := 3) (st1 := [.ref 0]) (h1 := [.inr (11, mjDef 11)]) rfl rfl rfl rfl ?_
  refine Go.step (pc1 := 4) rfl rfl rfl rfl ?_
  refine Go.call (vs := [.ref 0]) (rest := [.ref 0]) (r1 := none) (h1 := mjHX) rfl rfl rfl (go_recv (c := 11) (fs := mjDef 11) (by decide) rfl (by decide +kernel)) (Go.ofNone e1) ?_
  refine Go.step (pc1 := 8) (st1 := []) rfl rfl rfl rfl ?_
  refine Go.step (pc1 := 11) (st1 := [.ref 60]) (h1 := mjHX ++ [.inr (12, mjDef 12)]) rfl rfl rfl (by show some (_, _, [Value.ref (List.length mjHX)], _) = _; rw [y2]) ?_
  refine Go.step (pc1 := 12) rfl rfl rfl rfl ?_
  refine Go.call (vs := [.ref 60]) (rest := [.ref 60]) (r1 := none) (h1 := mjH0) rfl rfl rfl (go_recv (c := 12) (fs := mjDef 12) (by decide) (by rw [List.getElem?_append_right (by omega), y2]; rfl) (by decide +kernel)) (Go.ofNone e3) ?_
  refine Go.step (pc1 := 16) (st1 := []) rfl rfl rfl rfl ?_
  refine Go.step (pc1 := 17) rfl rfl rfl rfl ?_
  refine Go.step (pc1 := 18) (st1 := []) rfl rfl rfl rfl ?_
  exact k
/-- WHAT IS LEFT OF whole: an invariant that the first state has, and every round of the law's loop keeps -/
theorem whole_of {L : Nat} {xs : Nat → Int32} (hL : L ≤ 3584) (I : Nat → MjH → Prop) (h0 : I 0 mjH0) (hI : ∀ t h, 7 * t + 7 ≤ L → I t h → ∃ h2, I (t + 1) h2 ∧ LawStep (mjOO L xs) 0 60 t xs h h2) (hroom : ∀ t h, 7 * t ≤ L → I t h → h.length ≤ 600000 ∧ mjSlots h ≤ 7302250) :
    ∃ n h', mjRun (mjOO L xs) n mjLawNo 0 [some (.retAddr 0), none, none, none] [] [] = some (some (.int 1), h') ∧ h'.length ≤ 600000 ∧ mjSlots h' ≤ 7302250 := by
  obtain ⟨h', t', g1, g2, g3⟩ := law_loop (o := mjOO L xs) (x := 0) (m := 60) rfl hL I hI (L + 1) 0 mjH0 (Nat.zero_le _) (by omega) h0
  obtain ⟨n, hn⟩ := law_begin g3
  exact ⟨n, h', hn, hroom t' h' g2 g1⟩
