/-! O5 -/
set_option maxRecDepth 20000 in
set_option maxHeartbeats 4000000 in
theorem Jm.im {k : Kx} {T C : Nat → Nat} {n : Nat} {X : XS} {M : MS} {g : Nat → Int32} {h : Nat} {l : Nat → Int32} (j : Jm k T C n X M g h l) (ok : k.c.Ok) : IM k.c.Mr k.c.rc k.c.main X T ∧ GP k.c.Mr k.c.kc k.c.rc k.c.main ∧ MT k.c.Mr k.c.kc k.c.rc k.m k.S ∧ k.S.1 k.i = true ∧ (∀ a i, ¬ RunM a i → M.1 a i = k.c.M0.1 a i) ∧ KP k.c.Mr k.c.kc k.c.rc k.c.main k.c.M0 1 := by
  obtain ⟨V, md⟩ := j
  obtain ⟨gp, ht0, him, hkp⟩ := ok
  exact ⟨md.rv.im ht0 him, gp, md.mt.1, md.mt.2, md.mf, hkp⟩
set_option maxRecDepth 20000 in
set_option maxHeartbeats 4000000 in
theorem opr_at {k : Kx} {T C : Nat → Nat} {n : Nat} {X : XS} {M : MS} {g : Nat → Int32} {h : Nat} {l : Nat → Int32} (j : Jm k T C n X M g h l) (ok : k.c.Ok) : ∃ v, f_Image_at_51 (Int32.ofNat (caN k.c.Mr k.m + off k.c.Mr k.m k.i + 1)) X = some v := by
  obtain ⟨i1, i2, i3, i4, _⟩ := j.im ok
  obtain ⟨f0, f1, f2, f3, f4, f5, f6, f7⟩ := ins_facts i2 i3 i4
  have := caN_le i2 i3.1 i3.2.1 f1
  exact at51_some i1 i2 (by omega)
set_option maxRecDepth 20000 in
set_option maxHeartbeats 4000000 in
/-- the second byte where the operand is one byte -/
theorem opr_2 {k : Kx} {T C : Nat → Nat} {n : Nat} {X : XS} {M : MS} {g : Nat → Int32} {h : Nat} {l : Nat → Int32} (j : Jm k T C n X M g h l) (ok : k.c.Ok) (hl : 2 ≤ ln (opN k.c.Mr k.m k.i) (odI k.c.Mr k.m k.i)) : f_Image_at_51 (Int32.ofNat (caN k.c.Mr k.m + off k.c.Mr k.m k.i + 1)) X = some ((opL k.c.Mr k.m (opN k.c.Mr k.m k.i) (odI k.c.Mr k.m k.i)).getD 1 0 &&& 255) := by
  obtain ⟨i1, i2, i3, i4, _⟩ := j.im ok
  exact ins_at i1 i2 i3 i4 (by omega)
set_option maxRecDepth 20000 in
set_option maxHeartbeats 4000000 in
theorem plain_0 {k : Kx} {T C : Nat → Nat} {n : Nat} {X : XS} {M : MS} {g g' : Nat → Int32} {h h' op : Nat} {l l' : Nat → Int32} {od : Int32} (ok : k.c.Ok) (hop : op = 0) (j : Jz k T C n X M g h l) (tr : Tr k.c.Mr k.c.rc op od g h l = some (g', h', l')) : Wo (f_Engine_doPlain (C (600 + 16 * k.t)) (Int32.ofNat op) (Int32.ofNat (caN k.c.Mr k.m + off k.c.Mr k.m k.i + 1)) X) (fun o => Wo (f_M_others (Int32.ofNat op) od M) (fun M' => OutA k (C (600 + 16 * k.t)) g' h' l' o M')) := by
  obtain ⟨hh, p1, p2⟩ := tr_def (by omega) (by omega) (by omega) (by omega) (by omega) (by omega) tr
  have tk : tkL op = [] ∧ ptL op = 0 := by subst hop; decide
  rw [tk.1] at p1
  rw [tk.2] at p2
  have ep := popsK_nil p1
  obtain ⟨q1, q2, q3⟩ := putT_0 p2
  subst ep q1 q2 q3
  obtain ⟨v, ev⟩ := opr_at j.1 ok
  subst hop
  unfold f_Engine_doPlain f_M_others
  rw [ev, Option.bind_some]
  exact W_some.mpr (W_some.mpr (out_go j))
set_option maxRecDepth 20000 in
set_option maxHeartbeats 4000000 in
theorem plain_1 {k : Kx} {T C : Nat → Nat} {n : Nat} {X : XS} {M : MS} {g g' : Nat → Int32} {h h' : Nat} {l l' : Nat → Int32} (ok : k.c.Ok) (hop : opN k.c.Mr k.m k.i = 1) (j : Jz k T C n X M g h l) (tr : Tr k.c.Mr k.c.rc 1 (odI k.c.Mr k.m k.i) g h l = some (g', h', l')) : Wo (f_Engine_doPlain (C (600 + 16 * k.t)) (if ¬ (-128 ≤ odI k.c.Mr k.m k.i ∧ odI k.c.Mr k.m k.i ≤ 127) then 61 else 1) (Int32.ofNat (caN k.c.Mr k.m + off k.c.Mr k.m k.i + 1)) X) (fun o => Wo (f_M_others 1 (odI k.c.Mr k.m k.i) M) (fun M' => OutA k (C (600 + 16 * k.t)) g' h' l' o M')) := by
  obtain ⟨hh, p1, p2⟩ := tr_def (by omega) (by omega) (by omega) (by omega) (by omega) (by omega) tr
  have tk : tkL 1 = [] ∧ ptL 1 = 1 := by decide
  rw [tk.1] at p1
  rw [tk.2] at p2
  have ep := popsK_nil p1
  obtain ⟨q1, q2, q3, q4⟩ := putT_v (by decide) p2
  subst ep q2 q3 q4
  obtain ⟨i1, i2, i3, i4, _⟩ := j.1.im ok
  obtain ⟨f0, f1, f2, f3, f4, f5, f6, f7⟩ := ins_facts i2 i3 i4
  have po := f6.1.1 hop
  have le : ln 1 (odI k.c.Mr k.m k.i) = if -128 ≤ odI k.c.Mr k.m k.i ∧ odI k.c.Mr k.m k.i ≤ 127 then 2 else 3 := by unfold ln; rw [if_pos rfl]
  have a1 := opr_2 j.1 ok (by rw [hop, le]; split <;> omega)
  have oL : opL k.c.Mr k.m 1 (odI k.c.Mr k.m k.i) = if -128 ≤ odI k.c.Mr k.m k.i ∧ odI k.c.Mr k.m k.i ≤ 127 then [1, odI k.c.Mr k.m k.i] else 61 :: w2 (odI k.c.Mr k.m k.i) := by unfold opL; rw [if_pos rfl]
  obtain ⟨X2, M2, u1, u2, u3⟩ := Z_pushi j q1 (odI k.c.Mr k.m k.i)
  have rm : f_M_others 1 (odI k.c.Mr k.m k.i) M = some M2 := by
    unfold f_M_others
    rw [if_pos rfl, u2]
    rfl
  rw [rm]
  rw [hop] at a1
  by_cases c : -128 ≤ odI k.c.Mr k.m k.i ∧ odI k.c.Mr k.m k.i ≤ 127
  · rw [if_neg (fun q => q c)]
    rw [oL, if_pos c] at a1
    have a1' : f_Image_at_51 (Int32.ofNat (caN k.c.Mr k.m + off k.c.Mr k.m k.i + 1)) X = some (odI k.c.Mr k.m k.i &&& 255) := a1
    unfold f_Engine_doPlain
    rw [a1', Option.bind_some, if_pos rfl, if_pos j.x, const1 c.1 c.2, u1]
    exact W_some.mpr (W_some.mpr (out_go u3))
  · rw [if_pos c]
    rw [oL, if_neg c] at a1
    have a2 := ins_at i1 i2 i3 i4 (j := 2) (by rw [hop, le, if_neg c]; omega)
    rw [hop, oL, if_neg c] at a2
    have a1' : f_Image_at_51 (Int32.ofNat (caN k.c.Mr k.m + off k.c.Mr k.m k.i + 1)) X = some ((w2 (odI k.c.Mr k.m k.i)).getD 0 0 &&& 255) := a1
    have a2' : f_Image_at_51 (Int32.ofNat (caN k.c.Mr k.m + off k.c.Mr k.m k.i + 1) + 1) X = some ((w2 (odI k.c.Mr k.m k.i)).getD 1 0 &&& 255) := by rw [o_addR]; exact a2
    have tw : f_Image_two_51 (Int32.ofNat (caN k.c.Mr k.m + off k.c.Mr k.m k.i + 1)) X = some ((((w2 (odI k.c.Mr k.m k.i)).getD 0 0 &&& 255) <<< ((8 : Int32) &&& 31)) ||| ((w2 (odI k.c.Mr k.m k.i)).getD 1 0 &&& 255)) := by
      unfold f_Image_two_51
      rw [a1', Option.bind_some, a2']
      rfl
    unfold f_Engine_doPlain
    rw [a1', Option.bind_some, if_neg (by decide), if_neg (by decide), if_neg (by decide), if_neg (by decide), if_neg (by decide), if_neg (by decide), if_neg (by decide), if_neg (by decide), if_neg (by decide), if_neg (by decide), if_pos rfl, tw, Option.bind_some, if_pos j.x, const2 po.1 po.2, u1]
    exact W_some.mpr (W_some.mpr (out_go u3))
set_option maxRecDepth 20000 in
set_option maxHeartbeats 4000000 in
/-- the operand of 2 and 3 -/
theorem loc_od {k : Kx} {T C : Nat → Nat} {n : Nat} {X : XS} {M : MS} {g : Nat → Int32} {h : Nat} {l : Nat → Int32} (j : Jm k T C n X M g h l) (ok : k.c.Ok) (hop : opN k.c.Mr k.m k.i = 2 ∨ opN k.c.Mr k.m k.i = 3) : ∃ s, s < 12 ∧ odI k.c.Mr k.m k.i = Int32.ofNat s ∧ f_Image_at_51 (Int32.ofNat (caN k.c.Mr k.m + off k.c.Mr k.m k.i + 1)) X = some (Int32.ofNat s) := by
  obtain ⟨i1, i2, i3, i4, _⟩ := j.im ok
  obtain ⟨f0, f1, f2, f3, f4, f5, f6, f7⟩ := ins_facts i2 i3 i4
  have po := f6.1.2.1 hop
  have l12 : k.c.Mr.1 69 k.m ≤ 12 := by
    obtain ⟨⟨X', T', hr⟩, _⟩ := i2
    obtain ⟨a, f, ra, rv⟩ := hr.2.2.2.2.2 k.m f0
    exact rv.2.2.2.2.2.2.2.2.2.2.2.2.2.1
  have l0 : 0 ≤ k.c.Mr.1 69 k.m := by
    obtain ⟨u, hu, _, eu⟩ := tkn_le i2 f0
    obtain ⟨⟨X', T', hr⟩, _⟩ := i2
    obtain ⟨a, f, ra, rv⟩ := hr.2.2.2.2.2 k.m f0
    have := rv.2.2.2.2.2.2.2.2.2.2.2.2.1
    refine Int32.le_trans ?_ this
    show 0 ≤ tkn k.c.Mr k.m
    rw [eu, o_0le _ (by split <;> omega)]
    trivial
  have le1 : k.c.Mr.1 69 k.m - 1 ≤ 11 := by
    have a0 := Int32.le_iff_toInt_le.mp l0
    have a1 := Int32.le_iff_toInt_le.mp l12
    have a2 := Int32.le_iff_toInt_le.mp po.1
    have a3 := Int32.le_iff_toInt_le.mp po.2
    rw [Int32.le_iff_toInt_le]
    have c12 : (12 : Int32).toInt = 12 := by decide
    have c0 : (0 : Int32).toInt = 0 := by decide
    have c11 : (11 : Int32).toInt = 11 := by decide
    have c1 : (1 : Int32).toInt = 1 := by decide
    have b1 := (k.c.Mr.1 69 k.m).le_toInt
    rw [c12] at a1
    rw [c0] at a2 a0
    rw [Int32.toInt_sub, c1] at a3 ⊢
    rw [c11]
    simp [Int.bmod] at a3 ⊢
    split <;> split at a3 <;> omega
  obtain ⟨s, hs, es⟩ := toNle (n := 11) (by omega) po.1 (Int32.le_trans po.2 le1)
  have l2 : ln (opN k.c.Mr k.m k.i) (odI k.c.Mr k.m k.i) = 2 := by
    unfold ln ln0
    rcases hop with e | e <;> rw [e, if_neg (by omega), if_pos (by omega)]
  have a1 := opr_2 j ok (by rw [l2]; omega)
  have oL : opL k.c.Mr k.m (opN k.c.Mr k.m k.i) (odI k.c.Mr k.m k.i) = [Int32.ofNat (opN k.c.Mr k.m k.i), odI k.c.Mr k.m k.i] := by
    unfold opL
    rcases hop with e | e <;> rw [e, if_neg (by omega), if_neg (by omega), if_neg (by omega), if_neg (by omega), if_neg (by omega), if_neg (by omega), if_pos (by decide)]
  refine ⟨s, by omega, es, ?_⟩
  rw [a1, oL]
  show some (odI k.c.Mr k.m k.i &&& 255) = _
  rw [es, and255 (by omega)]
set_option maxRecDepth 20000 in
set_option maxHeartbeats 4000000 in
theorem plain_2 {k : Kx} {T C : Nat → Nat} {n : Nat} {X : XS} {M : MS} {g g' : Nat → Int32} {h h' : Nat} {l l' : Nat → Int32} (ok : k.c.Ok) (hop : opN k.c.Mr k.m k.i = 2) (j : Jz k T C n X M g h l) (tr : Tr k.c.Mr k.c.rc 2 (odI k.c.Mr k.m k.i) g h l = some (g', h', l')) : Wo (f_Engine_doPlain (C (600 + 16 * k.t)) 2 (Int32.ofNat (caN k.c.Mr k.m + off k.c.Mr k.m k.i + 1)) X) (fun o => Wo (f_M_others 2 (odI k.c.Mr k.m k.i) M) (fun M' => OutA k (C (600 + 16 * k.t)) g' h' l' o M')) := by
  obtain ⟨s, hs, es, ea⟩ := loc_od j.1 ok (Or.inl hop)
  rw [es] at tr ⊢
  unfold Tr pushK at tr
  rw [if_pos rfl, o_cl _ (by omega)] at tr
  by_cases c : l s = 0
  · rw [if_pos c] at tr; cases tr
  rw [if_neg c] at tr
  by_cases c2 : h < 10
  · rw [if_pos c2] at tr
    simp only [Option.map_some, Option.some.injEq, Prod.mk.injEq] at tr
    obtain ⟨e1, e2, e3⟩ := tr
    obtain ⟨X', M', u1, u2, u3, u4⟩ := J_load j.1 c2 hs c
    unfold f_Engine_doPlain
    rw [ea, Option.bind_some, if_neg (by decide), if_pos rfl, if_pos j.x, u1, u2, ← e1, ← e2, ← e3]
    exact W_some.mpr (W_some.mpr (out_go ⟨u3, by rw [u4]; exact j.2⟩))
  · rw [if_neg c2] at tr; cases tr
set_option maxRecDepth 20000 in
set_option maxHeartbeats 4000000 in
theorem plain_3 {k : Kx} {T C : Nat → Nat} {n : Nat} {X : XS} {M : MS} {g g' : Nat → Int32} {h h' : Nat} {l l' : Nat → Int32} (ok : k.c.Ok) (hop : opN k.c.Mr k.m k.i = 3) (j : Jz k T C n X M g h l) (tr : Tr k.c.Mr k.c.rc 3 (odI k.c.Mr k.m k.i) g h l = some (g', h', l')) : Wo (f_Engine_doPlain (C (600 + 16 * k.t)) 3 (Int32.ofNat (caN k.c.Mr k.m + off k.c.Mr k.m k.i + 1)) X) (fun o => Wo (f_M_others 3 (odI k.c.Mr k.m k.i) M) (fun M' => OutA k (C (600 + 16 * k.t)) g' h' l' o M')) := by
  obtain ⟨s, hs, es, ea⟩ := loc_od j.1 ok (Or.inr hop)
  rw [es] at tr ⊢
  unfold Tr popK at tr
  rw [if_neg (by omega), if_pos rfl, o_cl _ (by omega)] at tr
  by_cases c2 : 0 < h ∧ ((0 : Int32) = 0 ∨ g (h - 1) = 0)
  · rw [if_pos c2] at tr
    simp only [Option.map_some, Option.some.injEq, Prod.mk.injEq] at tr
    obtain ⟨e1, e2, e3⟩ := tr
    obtain ⟨h, rfl⟩ : ∃ q, h = q + 1 := ⟨h - 1, by omega⟩
    rw [Nat.add_sub_cancel] at e2 e3
    obtain ⟨X', M', u1, u2, u3, u4⟩ := J_store j.1 hs
    unfold f_Engine_doPlain
    rw [ea, Option.bind_some, if_neg (by decide), if_neg (by decide), if_pos rfl, if_pos j.x, u1, u2, ← e1, ← e2, ← e3]
    exact W_some.mpr (W_some.mpr (out_go ⟨u3, by rw [u4]; exact j.2⟩))
  · rw [if_neg c2] at tr; cases tr
set_option maxRecDepth 20000 in
set_option maxHeartbeats 4000000 in
theorem plain_16 {k : Kx} {T C : Nat → Nat} {n : Nat} {X : XS} {M : MS} {g g' : Nat → Int32} {h h' : Nat} {l l' : Nat → Int32} {od : Int32} (ok : k.c.Ok) (j : Jz k T C n X M g h l) (tr : Tr k.c.Mr k.c.rc 16 od g h l = some (g', h', l')) : Wo (f_Engine_doPlain (C (600 + 16 * k.t)) 16 (Int32.ofNat (caN k.c.Mr k.m + off k.c.Mr k.m k.i + 1)) X) (fun o => Wo (f_M_others 16 od M) (fun M' => OutA k (C (600 + 16 * k.t)) g' h' l' o M')) := by
  obtain ⟨v, ev⟩ := opr_at j.1 ok
  unfold Tr pushK at tr
  rw [if_neg (by omega), if_neg (by omega), if_pos rfl] at tr
  by_cases c : 0 < h
  · rw [if_pos c] at tr
    obtain ⟨h, rfl⟩ : ∃ q, h = q + 1 := ⟨h - 1, by omega⟩
    rw [Nat.add_sub_cancel] at tr
    by_cases c2 : h + 1 < 10
    · rw [if_pos c2] at tr
      simp only [Option.map_some, Option.some.injEq, Prod.mk.injEq] at tr
      obtain ⟨e1, e2, e3⟩ := tr
      obtain ⟨X', M', u1, u2, u3, u4⟩ := J_copy j.1 c2 od
      unfold f_Engine_doPlain
      rw [ev, Option.bind_some, if_neg (by decide), if_neg (by decide), if_neg (by decide), if_pos rfl, if_pos j.x, u1, u2, ← e1, ← e2, ← e3]
      exact W_some.mpr (W_some.mpr (out_go ⟨u3, by rw [u4]; exact j.2⟩))
    · rw [if_neg c2] at tr; cases tr
  · rw [if_neg c] at tr; cases tr
set_option maxRecDepth 20000 in
set_option maxHeartbeats 4000000 in
theorem plain_18 {k : Kx} {T C : Nat → Nat} {n : Nat} {X : XS} {M : MS} {g g' : Nat → Int32} {h h' : Nat} {l l' : Nat → Int32} {od : Int32} (ok : k.c.Ok) (j : Jz k T C n X M g h l) (tr : Tr k.c.Mr k.c.rc 18 od g h l = some (g', h', l')) : Wo (f_Engine_doPlain (C (600 + 16 * k.t)) 18 (Int32.ofNat (caN k.c.Mr k.m + off k.c.Mr k.m k.i + 1)) X) (fun o => Wo (f_M_others 18 od M) (fun M' => OutA k (C (600 + 16 * k.t)) g' h' l' o M')) := by
  obtain ⟨v, ev⟩ := opr_at j.1 ok
  unfold Tr at tr
  rw [if_neg (by omega), if_neg (by omega), if_neg (by omega), if_pos rfl] at tr
  by_cases c : 2 ≤ h
  · rw [if_pos c] at tr
    obtain ⟨h, rfl⟩ : ∃ q, h = q + 2 := ⟨h - 2, by omega⟩
    rw [show h + 2 - 1 = h + 1 by omega, show h + 2 - 2 = h by omega] at tr
    simp only [Option.some.injEq, Prod.mk.injEq] at tr
    obtain ⟨e1, e2, e3⟩ := tr
    obtain ⟨X', M', u1, u2, u3, u4⟩ := J_swap j.1 od
    unfold f_Engine_doPlain
    rw [ev, Option.bind_some, if_neg (by decide), if_neg (by decide), if_neg (by decide), if_neg (by decide), if_neg (by decide), if_pos rfl, if_pos j.x, u1, u2, ← e1, ← e2, ← e3]
    exact W_some.mpr (W_some.mpr (out_go ⟨u3, by rw [u4]; exact j.2⟩))
  · rw [if_neg c] at tr; cases tr
set_option maxRecDepth 20000 in
set_option maxHeartbeats 4000000 in
theorem plain_17 {k : Kx} {T C : Nat → Nat} {n : Nat} {X : XS} {M : MS} {g g' : Nat → Int32} {h h' : Nat} {l l' : Nat → Int32} {od : Int32} (ok : k.c.Ok) (j : Jz k T C n X M g h l) (tr : Tr k.c.Mr k.c.rc 17 od g h l = some (g', h', l')) : Wo (f_Engine_doPlain (C (600 + 16 * k.t)) 17 (Int32.ofNat (caN k.c.Mr k.m + off k.c.Mr k.m k.i + 1)) X) (fun o => Wo (f_M_others 17 od M) (fun M' => OutA k (C (600 + 16 * k.t)) g' h' l' o M')) := by
  obtain ⟨v, ev⟩ := opr_at j.1 ok
  obtain ⟨hh, p1, p2⟩ := tr_def (by omega) (by omega) (by omega) (by omega) (by omega) (by omega) tr
  have tk : tkL 17 = [0] ∧ ptL 17 = 0 := by decide
  rw [tk.1] at p1
  rw [tk.2] at p2
  obtain ⟨a, ea, ga, p1⟩ := popsK_cons p1
  have ep := popsK_nil p1
  obtain ⟨q1, q2, q3⟩ := putT_0 p2
  subst ep ea q1 q2 q3
  obtain ⟨x, X1, y, M1, s1, s2, s3, s4, s5⟩ := Z_pop j
  unfold f_Engine_doPlain f_M_others
  rw [ev, Option.bind_some, if_neg (by decide), if_neg (by decide), if_neg (by decide), if_neg (by decide), if_pos rfl, if_pos j.x, s1]
  refine W_some.mpr ?_
  rw [if_neg (by decide), if_neg (by decide), if_neg (by decide), if_neg (by decide), if_pos rfl, s2]
  exact W_some.mpr (out_go s3)
set_option maxRecDepth 20000 in
set_option maxHeartbeats 4000000 in
theorem plain_45 {k : Kx} {T C : Nat → Nat} {n : Nat} {X : XS} {M : MS} {g g' : Nat → Int32} {h h' : Nat} {l l' : Nat → Int32} {od : Int32} (ok : k.c.Ok) (j : Jz k T C n X M g h l) (tr : Tr k.c.Mr k.c.rc 45 od g h l = some (g', h', l')) : Wo (f_Engine_doPlain (C (600 + 16 * k.t)) 45 (Int32.ofNat (caN k.c.Mr k.m + off k.c.Mr k.m k.i + 1)) X) (fun o => Wo (f_M_others 45 od M) (fun M' => OutA k (C (600 + 16 * k.t)) g' h' l' o M')) := by
  obtain ⟨v, ev⟩ := opr_at j.1 ok
  obtain ⟨hh, p1, p2⟩ := tr_def (by omega) (by omega) (by omega) (by omega) (by omega) (by omega) tr
  have tk : tkL 45 = [] ∧ ptL 45 = 2 := by decide
  rw [tk.1] at p1
  rw [tk.2] at p2
  have ep := popsK_nil p1
  obtain ⟨q1, q2, q3, q4⟩ := putT_v (by decide) p2
  subst ep q2 q3 q4
  obtain ⟨X2, M2, u1, u2, u3⟩ := Z_pushr j q1 (y := 0) (v := 0) (Or.inl ⟨rfl, rfl⟩)
  unfold f_Engine_doPlain f_M_others
  rw [ev, Option.bind_some, if_neg (by decide), if_neg (by decide), if_neg (by decide), if_neg (by decide), if_neg (by decide), if_neg (by decide), if_neg (by decide), if_pos rfl, if_pos j.x, u1]
  refine W_some.mpr ?_
  rw [if_neg (by decide), if_neg (by decide), if_neg (by decide), if_neg (by decide), if_neg (by decide), if_neg (by decide), if_neg (by decide), if_neg (by decide), if_neg (by decide), if_pos rfl, u2]
  exact W_some.mpr (out_go u3)
