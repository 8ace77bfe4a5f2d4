/-! O9 -/
theorem tk_j : tkL 19 = [] ∧ tkL 20 = [1] ∧ tkL 21 = [1] ∧ tkL 22 = [1] ∧ tkL 23 = [2] ∧ tkL 24 = [2, 2] ∧ tkL 25 = [1, 1] ∧ (∀ op, op < 26 → 19 ≤ op → ptL op = 0) := by decide
set_option maxRecDepth 20000 in
set_option maxHeartbeats 4000000 in
/-- two references are the same on both sides or on none -/
theorem RefR.inj {k : Kx} {V M : MS} (hr : HR k.c.Mr k.c.kc k.A k.hp V M) {x v y w : Int32} (a : RefR k.c.Mr k.A x v) (b : RefR k.c.Mr k.A y w) : (x = y) ↔ (v = w) := by
  rcases a.cases hr with ⟨a1, a2⟩ | ⟨p, hp, a1, a2, a3, a4, _⟩
  · rcases b.cases hr with ⟨b1, b2⟩ | ⟨q, hq, b1, b2, b3, b4, _⟩
    · rw [a1, a2, b1, b2]
    · rw [a1, a2]; exact ⟨fun e => absurd e.symm b3, fun e => absurd e.symm b4⟩
  · rcases b.cases hr with ⟨b1, b2⟩ | ⟨q, hq, b1, b2, b3, b4, _⟩
    · rw [b1, b2]; exact ⟨fun e => absurd e a3, fun e => absurd e a4⟩
    · have bp := hr.bd hp
      have bq := hr.bd hq
      have op := (hr.ob p hp).os
      have oq := (hr.ob q hq).os
      have wp := wz4 k.c.Mr (k.A.K p) (k.A.n p)
      have wq := wz4 k.c.Mr (k.A.K q) (k.A.n q)
      rw [a1, a2, b1, b2, o_eq _ _ (by omega) (by omega), o_eq _ _ (by omega) (by omega)]
      constructor
      · intro e
        rcases Nat.lt_trichotomy p q with z | z | z
        · have := adH_mono k.c.Mr k.A q z; omega
        · rw [z]
        · have := adH_mono k.c.Mr k.A p z; omega
      · intro e
        rw [hr.inj p q hp hq e]
theorem RefR.nul {k : Kx} {V M : MS} (hr : HR k.c.Mr k.c.kc k.A k.hp V M) {x v : Int32} (a : RefR k.c.Mr k.A x v) : (x = 0) ↔ (v = 0) := RefR.inj hr a (Or.inl ⟨rfl, rfl⟩)
set_option maxRecDepth 20000 in
set_option maxHeartbeats 4000000 in
theorem jumps_ok {k : Kx} {T C : Nat → Nat} {n : Nat} {X : XS} {M : MS} {g g' : Nat → Int32} {h h' op : Nat} {l l' : Nat → Int32} {od : Int32} (h1 : 19 ≤ op) (h2 : op ≤ 25) (j : Jz k T C n X M g h l) (tr : Tr k.c.Mr k.c.rc op od g h l = some (g', h', l')) : ∃ b X' M', f_Engine_jumpsNow (C (600 + 16 * k.t)) (Int32.ofNat op) X = some (b, X') ∧ f_M_jumps (Int32.ofNat op) M = some (b, M') ∧ Jz k T C n X' M' g' h' l' := by
  obtain ⟨hh, p1, p2⟩ := tr_def (by omega) (by omega) (by omega) (by omega) (by omega) (by omega) tr
  obtain ⟨k19, k20, k21, k22, k23, k24, k25, kp⟩ := tk_j
  rw [kp op (by omega) h1] at p2
  obtain ⟨q1, q2, q3⟩ := putT_0 p2
  rw [q1, q2, q3]
  clear p2 q1 q2 q3
  have one : ∀ {q}, tkL op = [q] → ∃ a, h = a + 1 ∧ (q = 0 ∨ g a = q) ∧ hh = a := by
    intro q e
    rw [e] at p1
    obtain ⟨a, ea, ga, p1⟩ := popsK_cons p1
    exact ⟨a, ea, ga, popsK_nil p1⟩
  have two : ∀ {q r}, tkL op = [q, r] → ∃ a, h = a + 2 ∧ (q = 0 ∨ g (a + 1) = q) ∧ (r = 0 ∨ g a = r) ∧ hh = a := by
    intro q r e
    rw [e] at p1
    obtain ⟨a, ea, ga, p3⟩ := popsK_cons p1
    obtain ⟨b, eb, gb, p4⟩ := popsK_cons p3
    rw [eb] at ea ga
    exact ⟨b, ea, ga, gb, popsK_nil p4⟩
  rcases (show op = 19 ∨ op = 20 ∨ op = 21 ∨ op = 22 ∨ op = 23 ∨ op = 24 ∨ op = 25 by omega) with e | e | e | e | e | e | e
  · subst e
    rw [k19] at p1
    have := popsK_nil p1
    subst this
    exact ⟨true, X, M, rfl, rfl, j⟩
  · subst e
    obtain ⟨a, ea, ga, ha⟩ := one k20
    subst ea ha
    obtain ⟨x, X1, v, M1, s1, s2, s3, s4, s5⟩ := Z_pop j
    have exv := s4.1 (g1 ga (by decide))
    subst exv
    refine ⟨decide (x = 0), X1, M1, ?_, ?_, s3⟩
    · unfold f_Engine_jumpsNow
      rw [if_pos (by decide), if_pos j.x, s1, Option.bind_some, if_pos (by decide)]
      by_cases c : x = 0 <;> simp [c]
    · unfold f_M_jumps
      rw [if_pos (by decide), s2, Option.bind_some, if_neg (by decide), if_neg (by decide)]
      by_cases c : x = 0 <;> simp [c]
  · subst e
    obtain ⟨a, ea, ga, ha⟩ := one k21
    subst ea ha
    obtain ⟨x, X1, v, M1, s1, s2, s3, s4, s5⟩ := Z_pop j
    have exv := s4.1 (g1 ga (by decide))
    subst exv
    refine ⟨decide (x < 0), X1, M1, ?_, ?_, s3⟩
    · unfold f_Engine_jumpsNow
      rw [if_pos (by decide), if_pos j.x, s1, Option.bind_some, if_neg (by decide), if_pos (by decide)]
      by_cases c : x < 0
      · rw [if_neg (Int32.not_le.mpr c)]; simp [c]
      · rw [if_pos (Int32.not_lt.mp c)]; simp [c]
    · unfold f_M_jumps
      rw [if_pos (by decide), s2, Option.bind_some, if_neg (by decide), if_pos (by decide), if_neg (by decide)]
      by_cases c : x < 0 <;> simp [c]
  · subst e
    obtain ⟨a, ea, ga, ha⟩ := one k22
    subst ea ha
    obtain ⟨x, X1, v, M1, s1, s2, s3, s4, s5⟩ := Z_pop j
    have exv := s4.1 (g1 ga (by decide))
    subst exv
    refine ⟨decide (0 < x), X1, M1, ?_, ?_, s3⟩
    · unfold f_Engine_jumpsNow
      rw [if_pos (by decide), if_pos j.x, s1, Option.bind_some, if_neg (by decide), if_neg (by decide), if_pos (by decide)]
      by_cases c : 0 < x
      · rw [if_neg (Int32.not_le.mpr c)]; simp [c]
      · rw [if_pos (Int32.not_lt.mp c)]; simp [c]
    · unfold f_M_jumps
      rw [if_pos (by decide), s2, Option.bind_some, if_neg (by decide), if_pos (by decide), if_pos (by decide), if_neg (by decide)]
      by_cases c : 0 < x <;> simp [c]
  · subst e
    obtain ⟨a, ea, ga, ha⟩ := one k23
    subst ea ha
    obtain ⟨x, X1, v, M1, s1, s2, s3, s4, s5⟩ := Z_pop j
    have rr := s4.2 (g1 ga (by decide))
    have nl : (x = 0) ↔ (v = 0) := by obtain ⟨⟨V1, md1⟩, _⟩ := s3; exact RefR.nul md1.hr rr
    refine ⟨decide (x = 0), X1, M1, ?_, ?_, s3⟩
    · unfold f_Engine_jumpsNow
      rw [if_pos (by decide), if_pos j.x, s1, Option.bind_some, if_pos (by decide)]
      by_cases c : x = 0 <;> simp [c]
    · unfold f_M_jumps
      rw [if_pos (by decide), s2, Option.bind_some, if_neg (by decide), if_pos (by decide), if_pos (by decide), if_pos (by decide), if_neg (by decide)]
      by_cases c : v = 0
      · simp [c, nl.mpr c]
      · simp [c, show ¬ x = 0 from fun q => c (nl.mp q)]
  · subst e
    obtain ⟨a, ea, ga, gb, ha⟩ := two k24
    subst ea ha
    obtain ⟨x, X1, v, M1, s1, s2, s3, s4, s5⟩ := Z_pop j
    obtain ⟨x', X2, v', M2, u1, u2, u3, u4, u5⟩ := Z_pop s3
    have rr := s4.2 (g1 ga (by decide))
    have rr' := u4.2 (g1 gb (by decide))
    have nl : (x' = x) ↔ (v' = v) := by obtain ⟨⟨V1, md1⟩, _⟩ := u3; exact RefR.inj md1.hr rr' rr
    refine ⟨decide (x' = x), X2, M2, ?_, ?_, u3⟩
    · unfold f_Engine_jumpsNow
      rw [if_pos (by decide), if_pos j.x, s1, Option.bind_some, if_neg (by decide), if_neg (by decide), if_neg (by decide), if_pos (by decide), if_pos s3.x, u1, Option.bind_some]
      by_cases c : x' = x <;> simp [c]
    · unfold f_M_jumps
      rw [if_pos (by decide), s2, Option.bind_some, if_pos (by decide), u2, Option.bind_some, if_neg (by decide)]
      by_cases c : v' = v
      · simp [c, nl.mpr c]
      · simp [c, show ¬ x' = x from fun q => c (nl.mp q)]
  · subst e
    obtain ⟨a, ea, ga, gb, ha⟩ := two k25
    subst ea ha
    obtain ⟨x, X1, v, M1, s1, s2, s3, s4, s5⟩ := Z_pop j
    obtain ⟨x', X2, v', M2, u1, u2, u3, u4, u5⟩ := Z_pop s3
    have e1 := s4.1 (g1 ga (by decide))
    have e2 := u4.1 (g1 gb (by decide))
    subst e1 e2
    refine ⟨decide (x' < x), X2, M2, ?_, ?_, u3⟩
    · unfold f_Engine_jumpsNow
      rw [if_pos (by decide), if_pos j.x, s1, Option.bind_some, if_neg (by decide), if_neg (by decide), if_neg (by decide), if_neg (by decide), if_pos (by decide), if_pos s3.x, u1, Option.bind_some]
      by_cases c : x' < x
      · rw [if_neg (Int32.not_le.mpr c)]; simp [c]
      · rw [if_pos (Int32.not_lt.mp c)]; simp [c]
    · unfold f_M_jumps
      rw [if_pos (by decide), s2, Option.bind_some, if_pos (by decide), u2, Option.bind_some, if_pos (by decide)]
      by_cases c : x' < x
      · rw [if_neg (Int32.not_le.mpr c)]; simp [c]
      · rw [if_pos (Int32.not_lt.mp c)]; simp [c]
set_option maxRecDepth 20000 in
set_option maxHeartbeats 4000000 in
/-- the operand of 52 to 55 -/
theorem sta_od {k : Kx} {T C : Nat → Nat} {n : Nat} {X : XS} {M : MS} {g : Nat → Int32} {h : Nat} {l : Nat → Int32} (j : Jm k T C n X M g h l) (ok : k.c.Ok) (o1 : 52 ≤ opN k.c.Mr k.m k.i) (o2 : opN k.c.Mr k.m k.i ≤ 55) : ∃ s, s < 8 ∧ odI k.c.Mr k.m k.i = Int32.ofNat s ∧ f_Image_at_51 (Int32.ofNat (caN k.c.Mr k.m + off k.c.Mr k.m k.i + 1)) X = some (Int32.ofNat s) := by
  obtain ⟨i1, i2, i3, i4, _⟩ := j.im ok
  obtain ⟨f0, f1, f2, f3, f4, f5, f6, f7⟩ := ins_facts i2 i3 i4
  have po := f6.1.2.2.2.2.2.2.2.2.2.2 ⟨o1, o2⟩
  obtain ⟨s, hs, es⟩ := toNle (n := 7) (by omega) po.1 po.2
  have l2 : ln (opN k.c.Mr k.m k.i) (odI k.c.Mr k.m k.i) = 2 := by
    unfold ln ln0
    rw [if_neg (by omega), if_pos (by omega)]
  have a1 := opr_2 j ok (by rw [l2]; omega)
  have oL : opL k.c.Mr k.m (opN k.c.Mr k.m k.i) (odI k.c.Mr k.m k.i) = [Int32.ofNat (opN k.c.Mr k.m k.i), odI k.c.Mr k.m k.i] := by
    unfold opL
    rw [if_neg (by omega), if_neg (by omega), if_neg (by omega), if_neg (by omega), if_neg (by omega), if_neg (by omega), if_pos (by unfold ln0; rw [if_pos (by omega)])]
  refine ⟨s, by omega, es, ?_⟩
  rw [a1, oL]
  show some (odI k.c.Mr k.m k.i &&& 255) = _
  rw [es, and255 (by omega)]
theorem tk_s : tkL 52 = [] ∧ ptL 52 = 1 ∧ tkL 53 = [1] ∧ ptL 53 = 0 ∧ tkL 54 = [] ∧ ptL 54 = 2 ∧ tkL 55 = [2] ∧ ptL 55 = 0 := by decide
set_option maxRecDepth 20000 in
set_option maxHeartbeats 4000000 in
theorem static_ok {k : Kx} {T C : Nat → Nat} {n s : Nat} {X : XS} {M : MS} {g g' : Nat → Int32} {h h' op : Nat} {l l' : Nat → Int32} {od : Int32} (h1 : 52 ≤ op) (h2 : op ≤ 55) (hs : s < 8) (j : Jz k T C n X M g h l) (tr : Tr k.c.Mr k.c.rc op od g h l = some (g', h', l')) : Wo (f_Engine_doStatic (C (600 + 16 * k.t)) (Int32.ofNat op) (Int32.ofNat s) X) (fun o => Wo (f_M_statics (Int32.ofNat op) (Int32.ofNat s) M) (fun M' => OutA k (C (600 + 16 * k.t)) g' h' l' o M')) := by
  obtain ⟨hh, p1, p2⟩ := tr_def (by omega) (by omega) (by omega) (by omega) (by omega) (by omega) tr
  obtain ⟨a1, a2, a3, a4, a5, a6, a7, a8⟩ := tk_s
  have in8 : (0 ≤ Int32.ofNat s ∧ Int32.ofNat s ≤ 7) := by rw [o_0le _ (by omega), o_leR _ _ (by omega) (by decide)]; exact ⟨trivial, by show s ≤ 7; omega⟩
  have ix : ixo (Int32.ofNat s) 8 := ixl hs (by omega)
  have cl : (Int32.ofNat s).toNatClampNeg = s := o_cl _ (by omega)
  unfold f_Engine_doStatic f_M_statics
  rw [if_pos in8]
  simp only [cl]
  have jx := j.x
  obtain ⟨⟨V, md⟩, z⟩ := j
  have j : Jz k T C n X M g h l := ⟨⟨V, md⟩, z⟩
  have sr := md.sr s hs
  have r56 := md.rv.rf (a := 56) (by unfold Fx; omega)
  have r57 := md.rv.rf (a := 57) (by unfold Fx; omega)
  rcases (show op = 52 ∨ op = 53 ∨ op = 54 ∨ op = 55 by omega) with e | e | e | e
  · subst e
    rw [a1] at p1
    rw [a2] at p2
    have ep := popsK_nil p1
    obtain ⟨q1, q2, q3, q4⟩ := putT_v (by decide) p2
    subst ep q2 q3 q4
    obtain ⟨X2, M2, u1, u2, u3⟩ := Z_pushi j q1 (M.1 117 s)
    have ev : X.1 56 s = M.1 117 s := by rw [r56]; exact sr.1
    rw [if_pos (by decide), if_pos jx, ev, u1, if_neg (by decide), if_pos ix, u2]
    exact W_some.mpr (W_some.mpr (out_go u3))
  · subst e
    rw [a3] at p1
    rw [a4] at p2
    obtain ⟨a, ea, ga, p1⟩ := popsK_cons p1
    have ep := popsK_nil p1
    obtain ⟨q1, q2, q3⟩ := putT_0 p2
    subst ep ea q1 q2 q3
    obtain ⟨x, X1, y, M1, s1, s2, s3, s4, s5⟩ := Z_pop j
    have exy := s4.1 (g1 ga (by decide))
    subst exy
    rw [if_neg (by decide), if_pos (by decide), if_pos jx, s1, if_pos (by decide), if_neg (by decide), s2, Option.bind_some, Option.bind_some, if_pos ix]
    obtain ⟨⟨V1, md1⟩, z1⟩ := s3
    refine W_some.mpr (W_some.mpr ⟨k.A, k.nb, k.oc, k.W, T, C, n, by omega, by omega, fun _ _ _ => rfl, rfl, Or.inl ⟨rfl, ?_, mw V1 (1000 + 56) s x, ?_⟩⟩)
    · show (mw M1 117 s x).1 60 90 = 0
      rw [mwr _ _ _ (by omega)]; exact z1
    · refine md1.misc (md1.rv.f (a := 56) (by unfold Fx; omega) _ _) ?_ ?_ ?_ ?_ rfl ?_ ?_ (fun _ _ _ => rfl)
      · intro b _ h2 _ _; exact mwr _ _ _ (by omega)
      · rw [mwr _ _ _ (by omega)]; exact ⟨md1.tu.2.1, md1.tu.2.2.1, rfl⟩
      · intro b h1 h2; exact mwr _ _ _ (by omega)
      · intro f _ _ _ _; rw [mwr _ _ _ (by omega)]
      · intro q hq
        have := md1.sr q hq
        rw [mwr _ _ _ (show 1057 ≠ 1000 + 56 by omega), mwr _ _ _ (show 1058 ≠ 1000 + 56 by omega), mwr _ _ _ (show 118 ≠ 117 by omega)]
        refine ⟨?_, this.2⟩
        by_cases e : q = s
        · subst e; rw [mw1, if_pos ⟨rfl, rfl⟩, mw1, if_pos ⟨rfl, rfl⟩]
        · rw [mwi _ _ _ e, mwi _ _ _ e]; exact this.1
      · exact md1.pr.congr (fun b h1 h2 => mwr _ _ _ (by omega)) (fun b h1 h2 => mwr _ _ _ (by omega)) (fun f _ => by rw [mwr _ _ _ (by omega)])
  · subst e
    rw [a5] at p1
    rw [a6] at p2
    have ep := popsK_nil p1
    obtain ⟨q1, q2, q3, q4⟩ := putT_v (by decide) p2
    subst ep q2 q3 q4
    have ev : X.1 57 s = V.1 1057 s := by rw [r57]
    obtain ⟨X2, M2, u1, u2, u3⟩ := Z_pushr j q1 sr.2.1
    rw [if_neg (by decide), if_neg (by decide), if_pos (by decide), if_pos jx, ev, u1, if_pos (by decide), if_pos (by decide), if_neg (by decide), if_pos ix, u2]
    exact W_some.mpr (W_some.mpr (out_go u3))
  · subst e
    rw [a7] at p1
    rw [a8] at p2
    obtain ⟨a, ea, ga, p1⟩ := popsK_cons p1
    have ep := popsK_nil p1
    obtain ⟨q1, q2, q3⟩ := putT_0 p2
    subst ep ea q1 q2 q3
    obtain ⟨x, X1, y, M1, s1, s2, s3, s4, s5⟩ := Z_pop j
    have rr := s4.2 (g1 ga (by decide))
    rw [if_neg (by decide), if_neg (by decide), if_neg (by decide), if_pos jx, s1, if_pos (by decide), if_pos (by decide), if_pos (by decide), s2, Option.bind_some, Option.bind_some, if_pos ix]
    obtain ⟨⟨V1, md1⟩, z1⟩ := s3
    refine W_some.mpr (W_some.mpr ⟨k.A, k.nb, k.oc, k.W, T, C, n, by omega, by omega, fun _ _ _ => rfl, rfl, Or.inl ⟨rfl, ?_, mw V1 (1000 + 57) s x, ?_⟩⟩)
    · show (mw M1 118 s y).1 60 90 = 0
      rw [mwr _ _ _ (by omega)]; exact z1
    · refine md1.misc (md1.rv.f (a := 57) (by unfold Fx; omega) _ _) ?_ ?_ ?_ ?_ rfl ?_ ?_ (fun _ _ _ => rfl)
      · intro b _ _ h2 _; exact mwr _ _ _ (by omega)
      · rw [mwr _ _ _ (by omega)]; exact ⟨md1.tu.2.1, md1.tu.2.2.1, rfl⟩
      · intro b h1 h2; exact mwr _ _ _ (by omega)
      · intro f _ _ _ _; rw [mwr _ _ _ (by omega)]
      · intro q hq
        have := md1.sr q hq
        rw [mwr _ _ _ (show 1056 ≠ 1000 + 57 by omega), mwr _ _ _ (show 1058 ≠ 1000 + 57 by omega), mwr _ _ _ (show 117 ≠ 118 by omega)]
        refine ⟨this.1, ?_, this.2.2⟩
        by_cases e : q = s
        · subst e; rw [mw1, if_pos ⟨rfl, rfl⟩, mw1, if_pos ⟨rfl, rfl⟩]; exact rr
        · rw [mwi _ _ _ e, mwi _ _ _ e]; exact this.2.1
      · exact md1.pr.congr (fun b h1 h2 => mwr _ _ _ (by omega)) (fun b h1 h2 => mwr _ _ _ (by omega)) (fun f _ => by rw [mwr _ _ _ (by omega)])
