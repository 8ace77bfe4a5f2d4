/-! O3 -/
abbrev Kx.ch (k : Kx) (A : HG) (nb oc : Nat) (W : Nat → Int32) : Kx := ⟨k.c, A, k.hp, nb, oc, k.t, k.d, k.m, k.i, k.S, k.U, W, k.D⟩
/-- what an instruction that goes on, or throws, leaves behind -/
def OutA (k : Kx) (a : Nat) (g : Nat → Int32) (h : Nat) (l : Nat → Int32) (o : Int32 × XS) (M : MS) : Prop := ∃ A nb oc W T C n, oc ≤ k.oc + 1 ∧ k.nb ≤ nb ∧ (∀ f, 1 ≤ f → f ≤ 64 → W f = k.W f) ∧ C (600 + 16 * k.t) = a ∧ ((o.1 = 0 ∧ M.1 60 90 = 0 ∧ Jm (k.ch A nb oc W) T C n o.2 M g h l) ∨ ∃ f x V, o.1 = Int32.ofNat f ∧ Mf (k.ch A nb oc W) T C n o.2 V M f x)
theorem Jm.x {k : Kx} {T C : Nat → Nat} {n : Nat} {X : XS} {M : MS} {g : Nat → Int32} {h : Nat} {l : Nat → Int32} (j : Jm k T C n X M g h l) : xT X (C (600 + 16 * k.t)) = some (14, 0) := by
  obtain ⟨V, md⟩ := j
  exact (md.rv.sc md.t6.1).x
def Jz (k : Kx) (T C : Nat → Nat) (n : Nat) (X : XS) (M : MS) (g : Nat → Int32) (h : Nat) (l : Nat → Int32) : Prop := Jm k T C n X M g h l ∧ M.1 60 90 = 0
theorem out_go {k : Kx} {T C : Nat → Nat} {n : Nat} {X : XS} {M : MS} {g : Nat → Int32} {h : Nat} {l : Nat → Int32} (j : Jz k T C n X M g h l) : OutA k (C (600 + 16 * k.t)) g h l (0, X) M := ⟨k.A, k.nb, k.oc, k.W, T, C, n, by omega, by omega, fun _ _ _ => rfl, rfl, Or.inl ⟨rfl, j.2, j.1⟩⟩
set_option maxRecDepth 20000 in
set_option maxHeartbeats 4000000 in
/-- a fault other than what 43 throws -/
theorem out_flt {k : Kx} {T C : Nat → Nat} {n : Nat} {X : XS} {M M1 : MS} {g g' : Nat → Int32} {h h' : Nat} {l' : Nat → Int32} (j : Jm k T C n X M1 g h (k.S.2.2.2.2.1 k.i)) (ag : Ag k M M1) {f : Nat} (h1 : 1 ≤ f) (h2 : f ≤ 9) (e : M.1 60 90 = Int32.ofNat f) : OutA k (C (600 + 16 * k.t)) g' h' l' (Int32.ofNat f, X) M := by
  obtain ⟨V, md⟩ := j
  exact ⟨k.A, k.nb, k.oc, k.W, T, C, n, by omega, by omega, fun _ _ _ => rfl, rfl, Or.inr ⟨f, 0, V, rfl, ⟨⟨M1, g, h, md, ag⟩, ⟨e, h1, by omega⟩, fun q => by omega⟩⟩⟩
theorem Ag.refl (k : Kx) (M : MS) : Ag k M M := ⟨fun _ _ _ => rfl, fun _ _ => rfl, fun _ _ _ => rfl, rfl⟩
theorem Ag.flt {k : Kx} {M M1 : MS} (a : Ag k M M1) {f : Nat} (hf : f = 90 ∨ f = 91) (v : Int32) : Ag k (mw M 60 f v) M1 := ⟨fun b h1 h2 => by rw [mwr _ _ _ h2]; exact a.1 b h1 h2, fun q hq => by rw [mwr _ _ _ (by omega)]; exact a.2.1 q hq, fun e h1 h2 => by rw [mwi _ _ _ (by omega)]; exact a.2.2.1 e h1 h2, a.2.2.2⟩
set_option maxRecDepth 20000 in
set_option maxHeartbeats 4000000 in
/-- the height that was before -/
theorem Ag.take {k : Kx} {M M1 M2 : MS} (a : Ag k M M1) {v : Int32} (e : M2 = mw M1 114 (20 * k.t + k.d) v) : Ag k M M2 := by
  subst e
  exact ⟨fun b h1 h2 => by rw [mwr _ _ _ h1]; exact a.1 b h1 h2, fun q hq => by rw [mwi _ _ _ hq]; exact a.2.1 q hq, fun e h1 h2 => by rw [mwr _ _ _ (by omega)]; exact a.2.2.1 e h1 h2, a.2.2.2⟩
set_option maxRecDepth 20000 in
set_option maxHeartbeats 4000000 in
/-- taking and putting on both sides, while there is no fault -/
theorem Z_pop {k : Kx} {T C : Nat → Nat} {n : Nat} {X : XS} {M : MS} {g : Nat → Int32} {h : Nat} {l : Nat → Int32} (j : Jz k T C n X M g (h + 1) l) : ∃ x X' v M', f_Strand_pop (C (600 + 16 * k.t)) X = some (x, X') ∧ f_M_takeValue M = some (v, M') ∧ Jz k T C n X' M' g h l ∧ VR k (g h) x v ∧ (∀ {M0 : MS}, Ag k M0 M → Ag k M0 M') := by
  obtain ⟨⟨V, md⟩, z⟩ := j
  obtain ⟨x, v, e1, e2, e3, e4⟩ := md.pop
  exact ⟨x, _, v, _, e1, e2, ⟨⟨_, e3⟩, by rw [mwr _ _ _ (by omega)]; exact z⟩, e4, fun a => a.take rfl⟩
theorem Z_pushi {k : Kx} {T C : Nat → Nat} {n : Nat} {X : XS} {M : MS} {g : Nat → Int32} {h : Nat} {l : Nat → Int32} (j : Jz k T C n X M g h l) (hh : h < 10) (y : Int32) : ∃ X' M', f_Strand_push (C (600 + 16 * k.t)) y X = some X' ∧ f_M_putInt y M = some M' ∧ Jz k T C n X' M' (upd g h 1) (h + 1) l := by
  obtain ⟨X', M', e1, e2, e3, e4⟩ := J_pushi j.1 hh y
  exact ⟨X', M', e1, e2, e3, by rw [e4]; exact j.2⟩
theorem Z_pushr {k : Kx} {T C : Nat → Nat} {n : Nat} {X : XS} {M : MS} {g : Nat → Int32} {h : Nat} {l : Nat → Int32} (j : Jz k T C n X M g h l) (hh : h < 10) {y v : Int32} (hr : RefR k.c.Mr k.A y v) : ∃ X' M', f_Strand_pushRef (C (600 + 16 * k.t)) y X = some X' ∧ f_M_putRef v M = some M' ∧ Jz k T C n X' M' (upd g h 2) (h + 1) l := by
  obtain ⟨X', M', e1, e2, e3, e4⟩ := J_pushr j.1 hh hr
  exact ⟨X', M', e1, e2, e3, by rw [e4]; exact j.2⟩
theorem Jz.x {k : Kx} {T C : Nat → Nat} {n : Nat} {X : XS} {M : MS} {g : Nat → Int32} {h : Nat} {l : Nat → Int32} (j : Jz k T C n X M g h l) : xT X (C (600 + 16 * k.t)) = some (14, 0) := j.1.x
set_option maxRecDepth 20000 in
set_option maxHeartbeats 4000000 in
theorem popsK_cons {g : Nat → Int32} {q : Int32} {r : List Int32} {h h' : Nat} (e : popsK g (q :: r) h = some h') : ∃ h1, h = h1 + 1 ∧ (q = 0 ∨ g h1 = q) ∧ popsK g r h1 = some h' := by
  by_cases c : 0 < h ∧ (q = 0 ∨ g (h - 1) = q)
  · have e1 : popK q g h = some (h - 1) := if_pos c
    unfold popsK at e
    rw [e1] at e
    exact ⟨h - 1, by omega, c.2, e⟩
  · have e1 : popK q g h = none := if_neg c
    unfold popsK at e
    rw [e1] at e
    cases e
set_option maxRecDepth 20000 in
set_option maxHeartbeats 4000000 in
theorem popsK_nil {g : Nat → Int32} {h h' : Nat} (e : popsK g [] h = some h') : h' = h := by
  unfold popsK at e
  cases e
  rfl
set_option maxRecDepth 20000 in
set_option maxHeartbeats 4000000 in
theorem putT_0 {g g' l l' : Nat → Int32} {h h' : Nat} (e : putT 0 g h l = some (g', h', l')) : g' = g ∧ h' = h ∧ l' = l := by
  unfold putT at e
  rw [if_pos rfl] at e
  cases e
  exact ⟨rfl, rfl, rfl⟩
set_option maxRecDepth 20000 in
set_option maxHeartbeats 4000000 in
theorem putT_v {v : Int32} {g g' l l' : Nat → Int32} {h h' : Nat} (hv : ¬ v = 0) (e : putT v g h l = some (g', h', l')) : h < 10 ∧ g' = upd g h v ∧ h' = h + 1 ∧ l' = l := by
  unfold putT pushK at e
  rw [if_neg hv] at e
  split at e
  · rename_i c
    simp only [Option.map_some, Option.some.injEq, Prod.mk.injEq] at e
    exact ⟨c, e.1.symm, e.2.1.symm, e.2.2.symm⟩
  · cases e
set_option maxRecDepth 20000 in
set_option maxHeartbeats 4000000 in
/-- what an instruction without a shape of its own does to the kinds -/
theorem tr_def {M : MS} {rc op : Nat} {od : Int32} {g g' l l' : Nat → Int32} {h h' : Nat} (h2 : op ≠ 2) (h3 : op ≠ 3) (h16 : op ≠ 16) (h18 : op ≠ 18) (h38 : op ≠ 38) (h39 : op ≠ 39) (e : Tr M rc op od g h l = some (g', h', l')) : ∃ h1, popsK g (tkL op) h = some h1 ∧ putT (ptL op) g h1 l = some (g', h', l') := by
  unfold Tr at e
  rw [if_neg h2, if_neg h3, if_neg h16, if_neg h18, if_neg h38, if_neg h39] at e
  cases q : popsK g (tkL op) h with
  | none => rw [q] at e; cases e
  | some h1 => rw [q] at e; exact ⟨h1, rfl, e⟩
set_option maxRecDepth 20000 in
set_option maxHeartbeats 4000000 in
theorem reckon_eq {op : Nat} (h1 : 4 ≤ op) (h2 : op ≤ 15) (h9 : op ≠ 9) (y z : Int32) (hz : op = 7 ∨ op = 8 → ¬ z = 0) : ∃ r, f_Engine_reckon (Int32.ofNat op) y z = some r ∧ f_M_reckon (Int32.ofNat op) y z = some r := by
  rcases (show op = 4 ∨ op = 5 ∨ op = 6 ∨ op = 7 ∨ op = 8 ∨ op = 10 ∨ op = 11 ∨ op = 12 ∨ op = 13 ∨ op = 14 ∨ op = 15 by omega) with e | e | e | e | e | e | e | e | e | e | e <;> subst e <;> unfold f_Engine_reckon f_M_reckon
  case inr.inr.inr.inl =>
    have hz' := hz (by omega)
    refine ⟨y / z, ?_, ?_⟩
    · rw [if_neg (by decide), if_neg (by decide), if_neg (by decide), if_pos (by decide), if_pos hz', if_pos hz']
    · rw [if_neg (by decide), if_neg (by decide), if_neg (by decide), if_pos (by decide), if_pos hz']
  case inr.inr.inr.inr.inl =>
    have hz' := hz (by omega)
    refine ⟨y - y / z * z, ?_, ?_⟩
    · rw [if_neg (by decide), if_neg (by decide), if_neg (by decide), if_neg (by decide), if_pos (by decide), if_pos hz', if_pos hz']
    · rw [if_neg (by decide), if_neg (by decide), if_neg (by decide), if_neg (by decide), if_pos (by decide), if_pos hz']
  all_goals exact ⟨_, rfl, rfl⟩
theorem tk_ar : ∀ op, op < 16 → 4 ≤ op → op ≠ 9 → tkL op = [1, 1] ∧ ptL op = 1 := by decide
set_option maxRecDepth 20000 in
set_option maxHeartbeats 4000000 in
theorem g1 {g : Nat → Int32} {a : Nat} {q : Int32} (h : q = 0 ∨ g a = q) (hq : ¬ q = 0) : g a = q := by
  rcases h with z | z
  · exact absurd z hq
  · exact z
set_option maxRecDepth 20000 in
set_option maxHeartbeats 4000000 in
theorem arith_ok {k : Kx} {T C : Nat → Nat} {n : Nat} {X : XS} {M : MS} {g g' : Nat → Int32} {h h' op : Nat} {l' : Nat → Int32} {od : Int32} (h1 : 4 ≤ op) (h2 : op ≤ 15) (j : Jz k T C n X M g h (k.S.2.2.2.2.1 k.i)) (tr : Tr k.c.Mr k.c.rc op od g h (k.S.2.2.2.2.1 k.i) = some (g', h', l')) : Wo (f_Engine_doArithmetic (C (600 + 16 * k.t)) (Int32.ofNat op) X) (fun o => Wo (f_M_arithmetic (Int32.ofNat op) M) (fun M' => OutA k (C (600 + 16 * k.t)) g' h' l' o M')) := by
  obtain ⟨hh, p1, p2⟩ := tr_def (by omega) (by omega) (by omega) (by omega) (by omega) (by omega) tr
  by_cases e9 : op = 9
  · subst e9
    have tk : tkL 9 = [1] ∧ ptL 9 = 1 := by decide
    rw [tk.1] at p1
    rw [tk.2] at p2
    obtain ⟨a, ea, ga, p1⟩ := popsK_cons p1
    have ep := popsK_nil p1
    subst ep
    subst ea
    obtain ⟨q1, q2, q3, q4⟩ := putT_v (by decide) p2
    subst q2 q3 q4
    obtain ⟨x, X1, v, M1, s1, s2, s3, s4, s5⟩ := Z_pop j
    have ev := s4.1 (g1 ga (by decide))
    obtain ⟨X2, M2, u1, u2, u3⟩ := Z_pushi s3 q1 (-x)
    unfold f_Engine_doArithmetic f_M_arithmetic
    have n9 : ¬ ¬ Int32.ofNat 9 = 9 := fun q => q rfl
    rw [if_pos j.x, s1, Option.bind_some, if_neg n9, if_pos s3.x, u1]
    refine W_some.mpr ?_
    rw [if_neg n9, s2, Option.bind_some]
    dsimp only
    rw [← ev, u2]
    exact W_some.mpr (out_go u3)
  · obtain ⟨tk1, tk2⟩ := tk_ar op (by omega) h1 e9
    rw [tk1] at p1
    rw [tk2] at p2
    obtain ⟨a, ea, ga, p1⟩ := popsK_cons p1
    obtain ⟨b, eb, gb, p1⟩ := popsK_cons p1
    have ep := popsK_nil p1
    subst ep
    subst eb
    subst ea
    obtain ⟨q1, q2, q3, q4⟩ := putT_v (by decide) p2
    subst q2 q3 q4
    have n9 : ¬ Int32.ofNat op = 9 := by rw [o_eqR _ _ (by omega) (by decide)]; exact e9
    obtain ⟨x, X1, v, M1, s1, s2, s3, s4, s5⟩ := Z_pop j
    have ev := s4.1 (g1 ga (by decide))
    obtain ⟨x', X2, v', M2, u1, u2, u3, u4, u5⟩ := Z_pop s3
    have ev' := u4.1 (g1 gb (by decide))
    obtain ⟨xx, vv, w1, w2, w3⟩ := J_peek j.1 (q := 0) (by omega)
    have c7 : (Int32.ofNat op = 7) ↔ op = 7 := by rw [o_eqR _ _ (by omega) (by decide)]
    have c8 : (Int32.ofNat op = 8) ↔ op = 8 := by rw [o_eqR _ _ (by omega) (by decide)]
    have c9 : ((9 : Int32) ≤ Int32.ofNat op) ↔ 9 ≤ op := by rw [o_leL _ _ (by decide) (by omega)]
    have c6 : (Int32.ofNat op ≤ 6) ↔ op ≤ 6 := by rw [o_leR _ _ (by omega) (by decide)]
    have evv : vv = v := by
      obtain ⟨⟨V, md⟩, _⟩ := j
      have d20 := md.tp.d20
      have t6 := md.t6
      have a1 := take_eq md.f89 (by omega) md.tp.m114 (by have := md.tp.fr.le; omega)
      have a2 := peekM_eq (q := 0) md.f89 (by omega) md.tp.m114 (by have := md.tp.fr.le; omega) (by omega)
      rw [s2] at a1
      have w2' : f_M_peek (Int32.ofNat 0) M = some vv := w2
      rw [w2'] at a2
      injection a1 with a1
      injection a1 with a1 _
      injection a2 with a2
      rw [a1, a2]
      rfl
    unfold f_Engine_doArithmetic f_M_arithmetic
    rw [if_pos j.x, s1, Option.bind_some, if_pos n9, if_pos s3.x, u1, Option.bind_some, if_pos n9]
    dsimp only
    by_cases dv : op = 7 ∨ op = 8
    · have m9 : ¬ (9 : Int32) ≤ Int32.ofNat op := fun q => by have := c9.mp q; omega
      have m6 : ¬ Int32.ofNat op ≤ 6 := fun q => by have := c6.mp q; omega
      have w2' : f_M_peek 0 M = some vv := w2
      rw [if_neg m9, if_neg m6, w2', Option.bind_some, evv]
      by_cases z0 : x = 0
      · have zz : ¬ ¬ x = 0 := fun q => q z0
        have zv : ¬ ¬ v = 0 := fun q => q (by rw [← ev]; exact z0)
        have res : OutA k (C (600 + 16 * k.t)) (upd g hh 1) (hh + 1) (k.S.2.2.2.2.1 k.i) (2, X2) (mw M 60 90 2) := out_flt u3.1 (Ag.flt (u5 (s5 (Ag.refl k M))) (Or.inl rfl) 2) (f := 2) (by omega) (by omega) (by rw [mw1, if_pos ⟨rfl, rfl⟩]; rfl)
        rw [if_neg zv]
        by_cases s7 : op = 7
        · rw [if_pos (c7.mpr s7), if_neg zz]
          exact W_some.mpr (W_some.mpr res)
        · have s8 : ¬ ¬ Int32.ofNat op = 8 := fun q => q (c8.mpr (by omega))
          rw [if_neg (fun q => s7 (c7.mp q)), if_neg s8, if_neg zz]
          exact W_some.mpr (W_some.mpr res)
      · have zv : ¬ v = 0 := by rw [← ev]; exact z0
        obtain ⟨r, r1, r2⟩ := reckon_eq h1 h2 e9 x' x (fun _ => z0)
        obtain ⟨X3, M3, t1, t2, t3⟩ := Z_pushi u3 q1 r
        have rm : ((f_M_takeValue M).bind fun x14 => ((f_M_takeValue x14.2).bind fun x15 => ((f_M_reckon (Int32.ofNat op) x15.1 x14.1).bind fun x16 => ((f_M_putInt x16 x15.2).bind fun x17 => some x17)))) = some M3 := by
          rw [s2, Option.bind_some, u2, Option.bind_some]
          dsimp only
          rw [← ev, ← ev', r2, Option.bind_some, t2]
          rfl
        rw [if_pos zv, rm, r1]
        have fin : OutA k (C (600 + 16 * k.t)) (upd g hh 1) (hh + 1) (k.S.2.2.2.2.1 k.i) (0, X3) M3 := out_go t3
        by_cases s7 : op = 7
        · rw [if_pos (c7.mpr s7), if_pos z0, Option.bind_some, if_pos u3.x, t1]
          exact W_some.mpr (W_some.mpr fin)
        · have s8 : ¬ ¬ Int32.ofNat op = 8 := fun q => q (c8.mpr (by omega))
          rw [if_neg (fun q => s7 (c7.mp q)), if_neg s8, if_pos z0, Option.bind_some, if_pos u3.x, t1]
          exact W_some.mpr (W_some.mpr fin)
    · obtain ⟨r, r1, r2⟩ := reckon_eq h1 h2 e9 x' x (fun q => absurd q dv)
      obtain ⟨X3, M3, t1, t2, t3⟩ := Z_pushi u3 q1 r
      have rm : ((f_M_takeValue M).bind fun x14 => ((f_M_takeValue x14.2).bind fun x15 => ((f_M_reckon (Int32.ofNat op) x15.1 x14.1).bind fun x16 => ((f_M_putInt x16 x15.2).bind fun x17 => some x17)))) = some M3 := by
        rw [s2, Option.bind_some, u2, Option.bind_some]
        dsimp only
        rw [← ev, ← ev', r2, Option.bind_some, t2]
        rfl
      have fin : OutA k (C (600 + 16 * k.t)) (upd g hh 1) (hh + 1) (k.S.2.2.2.2.1 k.i) (0, X3) M3 := out_go t3
      have s8 : ¬ Int32.ofNat op = 8 := fun q => dv (Or.inr (c8.mp q))
      rw [if_neg (fun q => dv (Or.inl (c7.mp q))), if_pos s8, r1, Option.bind_some, if_pos u3.x, t1]
      refine W_some.mpr ?_
      by_cases m9 : 9 ≤ op
      · rw [if_pos (c9.mpr m9), rm]
        exact W_some.mpr fin
      · rw [if_neg (fun q => m9 (c9.mp q)), if_pos (c6.mpr (by omega)), rm]
        exact W_some.mpr fin
