/-! P2 -/
set_option maxRecDepth 20000 in
set_option maxHeartbeats 4000000 in
theorem throw_ok {k : Kx} {T C : Nat → Nat} {n : Nat} {X : XS} {M : MS} {g g' : Nat → Int32} {h h' : Nat} {l' : Nat → Int32} {od z : Int32} (j : Jz k T C n X M g h (k.S.2.2.2.2.1 k.i)) (tr : Tr k.c.Mr k.c.rc 43 od g h (k.S.2.2.2.2.1 k.i) = some (g', h', l')) : Wo (f_Engine_doCall (C (600 + 16 * k.t)) 43 z X) (fun o => Wo (f_M_others 43 od M) (fun M' => OutA k (C (600 + 16 * k.t)) g' h' l' o M')) := by
  obtain ⟨hh, p1, p2⟩ := tr_def (by omega) (by omega) (by omega) (by omega) (by omega) (by omega) tr
  have tk : tkL 43 = [2] := by decide
  rw [tk] at p1
  obtain ⟨a, ea, ga, p1⟩ := popsK_cons p1
  have ep := popsK_nil p1
  subst ep ea
  obtain ⟨x, X1, y, M1, s1, s2, s3, s4, s5⟩ := Z_pop j
  have rr := s4.2 (g1 ga (by decide))
  obtain ⟨⟨V1, md1⟩, z1⟩ := s3
  unfold f_Engine_doCall f_M_others
  rw [if_neg (by decide), if_neg (by decide), if_pos (by decide), if_pos j.x, s1, Option.bind_some, if_neg (show ¬ (43 : Int32) = 1 by decide), if_neg (show ¬ (43 : Int32) = 2 by decide), if_neg (show ¬ (43 : Int32) = 3 by decide), if_neg (show ¬ (43 : Int32) = 16 by decide), if_neg (show ¬ (43 : Int32) = 17 by decide), if_neg (show ¬ (43 : Int32) = 18 by decide), if_neg (show ¬ (43 : Int32) = 26 by decide), if_pos (show (43 : Int32) = 43 from rfl), s2, Option.bind_some]
  dsimp only [lt]
  rw [show (xw X1 40 10 x).1 40 10 = x by rw [xw1, if_pos ⟨rfl, rfl⟩], show (mw M1 60 91 y).1 60 91 = y by rw [mw1, if_pos ⟨rfl, rfl⟩]]
  have md2 : Md k T C n (xw X1 40 10 x) (mw V1 (1000 + 40) 10 x) M1 g hh (k.S.2.2.2.2.1 k.i) := by
    refine md1.misc (oc := k.oc) (W := k.W) (md1.rv.f (a := 40) (by unfold Fx; omega) _ _) ?_ ?_ (fun _ _ _ => rfl) (fun _ _ _ _ _ => rfl) rfl ?_ ?_ (fun _ _ _ => rfl)
    · intro b _ _ _ h4; exact mwr _ _ _ h4
    · rw [mwi _ _ _ (by omega), mwi _ _ _ (by omega), mwi _ _ _ (by omega)]; exact ⟨md1.tu.2.1, md1.tu.2.2.1, rfl⟩
    · exact md1.sr.congr (fun b h1 h2 => mwr _ _ _ (by omega)) (fun _ _ _ => rfl)
    · exact md1.pr.congr (fun b h1 h2 => mwr _ _ _ (by omega)) (fun _ _ _ => rfl) (fun _ _ => rfl)
  rcases rr.cases md1.hr with ⟨n1, n2⟩ | ⟨q, hq, n1, n2, n3, n4, n5, n6, n7⟩
  · rw [if_neg (fun w => w n1), if_neg (fun w => w n2)]
    refine W_some.mpr (W_some.mpr ?_)
    exact out_flt (f := 1) ⟨_, md2⟩ ((Ag.refl k M1).flt (Or.inr rfl) y |>.flt (Or.inl rfl) 1) (by omega) (by omega) (by rw [mw1, if_pos ⟨rfl, rfl⟩]; rfl)
  · rw [if_pos n3, if_pos n4]
    refine W_some.mpr (W_some.mpr ⟨k.A, k.nb, k.oc, k.W, T, C, n, by omega, by omega, fun _ _ _ => rfl, rfl, Or.inr ⟨10, q, mw V1 (1000 + 40) 10 x, rfl, ⟨⟨M1, g, hh, md2, (Ag.refl k M1).flt (Or.inr rfl) y |>.flt (Or.inl rfl) 10⟩, ⟨by rw [mw1, if_pos ⟨rfl, rfl⟩]; rfl, by omega, by omega⟩, fun _ => ⟨hq, ?_, ?_⟩⟩⟩⟩)
    · rw [mw1, if_pos ⟨rfl, rfl⟩]; exact n1
    · rw [mwi _ _ _ (by omega), mw1, if_pos ⟨rfl, rfl⟩]; exact n2
set_option maxRecDepth 20000 in
set_option maxHeartbeats 4000000 in
/-- what an object is, read on the side of the class -/
theorem arr_ok {k : Kx} {T C : Nat → Nat} {n : Nat} {X : XS} {V M : MS} {g : Nat → Int32} {h : Nat} {l : Nat → Int32} (md : Md k T C n X V M g h l) (ok : k.c.Ok) {q : Nat} (hq : q < k.A.N) : f_Memory_kindOf (Int32.ofNat (adH k.c.Mr k.A q)) X = some (Int32.ofNat (kcode k.c.Mr (k.A.K q))) ∧ f_Memory_isArray (Int32.ofNat (adH k.c.Mr k.A q)) X = some (decide (10 ≤ k.A.K q)) ∧ (10 ≤ k.A.K q → f_Memory_lengthOf (Int32.ofNat (adH k.c.Mr k.A q)) X = some (Int32.ofNat (k.A.n q))) ∧ k.A.K q < 12 ∧ k.A.n q ≤ 200 ∧ kcode k.c.Mr (k.A.K q) < 256 ∧ (kcode k.c.Mr (k.A.K q) = 254 ↔ k.A.K q = 10) ∧ (kcode k.c.Mr (k.A.K q) = 255 ↔ k.A.K q = 11) := by
  have bd := md.hr.bd hq
  have w4 := wz4 k.c.Mr (k.A.K q) (k.A.n q)
  have hd := hdK_le (k.A.K q)
  have ob := md.hr.ob q hq
  have nk := NK_le k.c.Mr
  have k10 := (gp_k10 ok.1).1
  have ew : wzK k.c.Mr (k.A.K q) (k.A.n q) = hdK (k.A.K q) + 2 * niK k.c.Mr (k.A.K q) (k.A.n q) + nrK k.c.Mr (k.A.K q) (k.A.n q) := rfl
  have wd := word_eq md.rv (j := adH k.c.Mr k.A q) (by omega)
  rw [ob.h0] at wd
  have kc : (k.A.K q < 10 ∧ kcode k.c.Mr (k.A.K q) < 10) ∨ (k.A.K q = 10 ∧ kcode k.c.Mr (k.A.K q) = 254) ∨ (k.A.K q = 11 ∧ kcode k.c.Mr (k.A.K q) = 255) := by
    unfold kcode
    rcases ob.ok with ⟨z1, z2, z3, z4⟩ | ⟨z1, z2⟩
    · have := kn_lt (show k.A.K q < 10 by omega) z3
      rw [if_pos (by omega)]
      omega
    · rw [if_neg (by omega)]
      split <;> omega
  have n200 : k.A.n q ≤ 200 := by rcases ob.ok with ⟨z1, z2, z3, z4⟩ | ⟨z1, z2⟩ <;> omega
  have ia : f_Memory_isArray (Int32.ofNat (adH k.c.Mr k.A q)) X = some (decide (10 ≤ k.A.K q)) := by
    unfold f_Memory_isArray
    rw [wd, Option.bind_some]
    rcases kc with ⟨a, b⟩ | ⟨a, b⟩ | ⟨a, b⟩
    · rw [if_neg (by rw [o_eqR _ _ (by omega) (by decide)]; show ¬ kcode k.c.Mr (k.A.K q) = 254; omega), if_pos (by rw [o_eqR _ _ (by omega) (by decide)]; show ¬ kcode k.c.Mr (k.A.K q) = 255; omega), decide_eq_false (by omega)]
    · rw [b, if_pos (by decide), decide_eq_true (by omega)]
    · rw [b, if_neg (by decide), if_neg (by decide), decide_eq_true (by omega)]
  refine ⟨?_, ia, ?_, by omega, n200, by omega, by omega, by omega⟩
  · unfold f_Memory_kindOf
    rw [wd]
    rfl
  · intro hk
    have h5 : hdK (k.A.K q) = 5 := by unfold hdK; rw [if_neg (by omega)]
    unfold f_Memory_lengthOf
    rw [ia, Option.bind_some, if_pos (decide_eq_true hk), o_addR, word_eq md.rv (by omega)]
    exact congrArg some (ob.h4 hk)
set_option maxRecDepth 20000 in
set_option maxHeartbeats 4000000 in
theorem length_ok {k : Kx} {T C : Nat → Nat} {n : Nat} {X : XS} {M : MS} {g g' : Nat → Int32} {h h' : Nat} {l' : Nat → Int32} {od : Int32} (ok : k.c.Ok) (j : Jz k T C n X M g h (k.S.2.2.2.2.1 k.i)) (tr : Tr k.c.Mr k.c.rc 34 od g h (k.S.2.2.2.2.1 k.i) = some (g', h', l')) : Wo (f_Engine_doLength (C (600 + 16 * k.t)) X) (fun o => Wo (f_M_arrays 34 M) (fun M' => OutA k (C (600 + 16 * k.t)) g' h' l' o M')) := by
  obtain ⟨hh, p1, p2⟩ := tr_def (by omega) (by omega) (by omega) (by omega) (by omega) (by omega) tr
  have tk : tkL 34 = [2] ∧ ptL 34 = 1 := by decide
  rw [tk.1] at p1
  rw [tk.2] at p2
  obtain ⟨a, ea, ga, p1⟩ := popsK_cons p1
  have ep := popsK_nil p1
  obtain ⟨q1, q2, q3, q4⟩ := putT_v (by decide) p2
  subst ep ea q2 q3
  rw [q4]
  obtain ⟨x, X1, y, M1, s1, s2, s3, s4, s5⟩ := Z_pop j
  have rr := s4.2 (g1 ga (by decide))
  have s3x := s3.x
  obtain ⟨⟨V1, md1⟩, z1⟩ := s3
  have s3 : Jz k T C n X1 M1 g hh (k.S.2.2.2.2.1 k.i) := ⟨⟨V1, md1⟩, z1⟩
  unfold f_Engine_doLength f_M_arrays
  rw [if_pos j.x, s1, Option.bind_some, if_neg (show ¬ (34 : Int32) = 31 by decide), if_pos (show ¬ (34 : Int32) = 35 by decide), if_neg (show ¬ ¬ (34 : Int32) = 34 from fun w => w rfl), s2, Option.bind_some]
  dsimp only [lt]
  rcases rr.cases md1.hr with ⟨n1, n2⟩ | ⟨q, hq, n1, n2, n3, n4, n5, n6, n7⟩
  · rw [if_neg (fun w => w n1), if_neg (fun w => w n2), if_pos (by rw [mw1, if_pos ⟨rfl, rfl⟩]; decide)]
    refine W_some.mpr (W_some.mpr ?_)
    exact out_flt (f := 1) s3.1 ((Ag.refl k M1).flt (Or.inl rfl) 1) (by omega) (by omega) (by rw [mw1, if_pos ⟨rfl, rfl⟩]; rfl)
  · obtain ⟨r1, r2, r3, r4, r5, r6, r7, r8⟩ := arr_ok md1 ok hq
    have e121 : M1.1 121 y.toNatClampNeg = Int32.ofNat (k.A.K q) := by rw [n7]; exact (md1.hr.ob q hq).m121
    have e10 : ((10 : Int32) ≤ Int32.ofNat (k.A.K q)) ↔ 10 ≤ k.A.K q := by rw [o_leL _ _ (by decide) (by omega)]
    rw [if_pos n3, if_pos n4, if_pos n6, e121, n1, r2, Option.bind_some]
    by_cases c : 10 ≤ k.A.K q
    · rw [if_pos (decide_eq_true c), r3 c, Option.bind_some, if_pos s3x, if_pos (e10.mpr c), if_neg (by rw [mw1, if_pos ⟨rfl, rfl⟩]; decide)]
      have e122 : (mw M1 60 90 0).1 122 y.toNatClampNeg = Int32.ofNat (k.A.n q) := by rw [mwr _ _ _ (by omega), n7]; exact (md1.hr.ob q hq).m122
      obtain ⟨X2, M2, u1, u2, u3⟩ := Z_pushi (⟨s3.1.flt (Or.inl rfl) 0, by rw [mw1, if_pos ⟨rfl, rfl⟩]⟩ : Jz k T C n X1 (mw M1 60 90 0) g hh (k.S.2.2.2.2.1 k.i)) q1 (Int32.ofNat (k.A.n q))
      rw [u1, e122, u2]
      exact W_some.mpr (W_some.mpr (out_go u3))
    · rw [if_neg (fun w => c (of_decide_eq_true w)), if_neg (fun w => c (e10.mp w)), if_pos (by rw [mw1, if_pos ⟨rfl, rfl⟩]; decide)]
      refine W_some.mpr (W_some.mpr ?_)
      exact out_flt (f := 3) s3.1 ((Ag.refl k M1).flt (Or.inl rfl) 3) (by omega) (by omega) (by rw [mw1, if_pos ⟨rfl, rfl⟩]; rfl)
set_option maxRecDepth 20000 in
set_option maxHeartbeats 4000000 in
theorem mon_ok {k : Kx} {T C : Nat → Nat} {n : Nat} {X : XS} {M : MS} {g g' : Nat → Int32} {h h' op : Nat} {l' : Nat → Int32} {od : Int32} (h1 : op = 49 ∨ op = 50) (j : Jz k T C n X M g h (k.S.2.2.2.2.1 k.i)) (tr : Tr k.c.Mr k.c.rc op od g h (k.S.2.2.2.2.1 k.i) = some (g', h', l')) (hw : op = 49 → ∀ x v, f_Strand_peek (C (600 + 16 * k.t)) 0 X = some x → f_M_peek 0 M = some v → ¬ v = 0 → M.1 125 v.toNatClampNeg = 0 ∨ M.1 124 v.toNatClampNeg = Int32.ofNat k.t) : Wo ((f_Strand_pop (C (600 + 16 * k.t)) X).bind fun x37 => ((f_Engine_doMonitor x37.1 (Int32.ofNat op) (Int32.ofNat k.t + 1) x37.2).bind fun x38 => some (x38.1, x38.2))) (fun o => Wo (f_M_monitor (Int32.ofNat k.t) (Int32.ofNat op) M) (fun M' => OutA k (C (600 + 16 * k.t)) g' h' l' o M')) := by
  obtain ⟨hh, p1, p2⟩ := tr_def (by omega) (by omega) (by omega) (by omega) (by omega) (by omega) tr
  have tk : tkL op = [2] ∧ ptL op = 0 := by rcases h1 with e | e <;> subst e <;> decide
  rw [tk.1] at p1
  rw [tk.2] at p2
  obtain ⟨a, ea, ga, p1⟩ := popsK_cons p1
  have ep := popsK_nil p1
  obtain ⟨q1, q2, q3⟩ := putT_0 p2
  subst ep ea q1 q2
  rw [q3]
  obtain ⟨x, X1, y, M1, s1, s2, s3, s4, s5⟩ := Z_pop j
  have rr := s4.2 (g1 ga (by decide))
  obtain ⟨xx, vv, w1, w2, w3⟩ := J_peek j.1 (q := 0) (by omega)
  have tt := j.1
  obtain ⟨V, md⟩ := tt
  have d20 := md.tp.d20
  have t6 := md.t6
  have h10 := md.tp.fr.le
  have evv : vv = y := by
    have a1 := take_eq md.f89 (by omega) md.tp.m114 (by omega)
    have a2 := peekM_eq (q := 0) md.f89 (by omega) md.tp.m114 (by omega) (by omega)
    rw [s2] at a1
    have w2' : f_M_peek (Int32.ofNat 0) M = some vv := w2
    rw [w2'] at a2
    injection a1 with a1
    injection a1 with a1 _
    injection a2 with a2
    rw [a1, a2]
    rfl
  have em1 : ∀ b, b ≠ 114 → M1.1 b = M.1 b := by
    have a1 := take_eq md.f89 (by omega) md.tp.m114 (by omega)
    rw [s2] at a1
    injection a1 with a1
    injection a1 with _ a1
    intro b hb
    rw [a1, mwr _ _ _ hb]
  have hw' : op = 49 → ¬ y = 0 → M1.1 125 y.toNatClampNeg = 0 ∨ M1.1 124 y.toNatClampNeg = Int32.ofNat k.t := by
    intro e z
    rw [em1 125 (by omega), em1 124 (by omega), ← evv]
    exact hw e xx vv w1 w2 (by rw [evv]; exact z)
  have s3' := s3
  obtain ⟨⟨V1, md1⟩, z1⟩ := s3
  rw [s1, Option.bind_some]
  unfold f_M_monitor
  rw [s2, Option.bind_some]
  dsimp only [lt]
  unfold f_Engine_doMonitor
  rcases rr.cases md1.hr with ⟨n1, n2⟩ | ⟨q, hq, n1, n2, n3, n4, n5, n6, n7⟩
  · rw [if_neg (fun w => w n1), if_neg (fun w => w n2)]
    refine W_some.mpr (W_some.mpr ?_)
    exact out_flt (f := 1) s3'.1 ((Ag.refl k M1).flt (Or.inl rfl) 1) (by omega) (by omega) (by rw [mw1, if_pos ⟨rfl, rfl⟩]; rfl)
  · have ob := md1.hr.ob q hq
    have bd := md1.hr.bd hq
    have wz := wz4 k.c.Mr (k.A.K q) (k.A.n q)
    obtain ⟨e, he, m125, w2', w0, wp⟩ := ob.mon
    rw [if_pos n3, if_pos n4, n1]
    have ent : f_Memory_entriesOf (Int32.ofNat (adH k.c.Mr k.A q)) X1 = some (Int32.ofNat e) := by
      unfold f_Memory_entriesOf
      rw [o_addR, word_eq md1.rv (by omega)]
      exact congrArg some w2'
    have own : f_Memory_ownerOf (Int32.ofNat (adH k.c.Mr k.A q)) X1 = some (V1.1 4 (adH k.c.Mr k.A q + 1)) := by
      unfold f_Memory_ownerOf
      rw [o_addR, word_eq md1.rv (by omega)]
      rfl
    rw [ent, Option.bind_some]
    simp only [n7]
    have e125 : M1.1 125 (k.A.os q) = Int32.ofNat e := m125
    rcases h1 with o | o
    · subst o
      rw [if_neg (show ¬ ¬ Int32.ofNat 49 = 49 from fun w => w rfl), if_neg (show ¬ ¬ Int32.ofNat 49 = 49 from fun w => w rfl), if_pos n6, e125]
      by_cases c : e = 60000
      · rw [if_neg (by rw [c]; decide), if_neg (show ¬ ¬ Int32.ofNat e = 60000 from fun w => w (by rw [c]; rfl)), Option.bind_some, Option.bind_some]
        have f90 : (mw (mw M1 60 90 8) 124 (k.A.os q) (Int32.ofNat k.t)).1 60 90 = 8 := by rw [mwr _ _ _ (by omega), mw1, if_pos ⟨rfl, rfl⟩]
        have pf : ¬ (mw (mw M1 60 90 8) 124 (k.A.os q) (Int32.ofNat k.t)).1 60 90 = 0 := by rw [f90]; decide
        rw [if_pos pf]
        refine W_some.mpr (W_some.mpr ?_)
        have ow := hw' rfl n4
        rw [n7, e125] at ow
        have ow' : M1.1 124 (k.A.os q) = Int32.ofNat k.t := by
          rcases ow with z | z
          · exact absurd z (by rw [c]; decide)
          · exact z
        have em : mw (mw (mw M1 60 90 8) 124 (k.A.os q) (Int32.ofNat k.t)) 125 (k.A.os q) ((mw (mw M1 60 90 8) 124 (k.A.os q) (Int32.ofNat k.t)).1 125 (k.A.os q) + 0) = mw M1 60 90 8 := by
          refine Prod.ext ?_ rfl
          funext b s
          rw [mw1]
          by_cases d : b = 125 ∧ s = k.A.os q
          · rw [if_pos d, d.1, d.2, mwr _ _ _ (by omega), Int32.add_zero]
          · rw [if_neg d, mw1]
            by_cases d2 : b = 124 ∧ s = k.A.os q
            · rw [if_pos d2, d2.1, d2.2, mwr _ _ _ (by omega), ow']
            · rw [if_neg d2]
        show OutA k _ _ _ _ (8, X1) _
        rw [em]
        exact out_flt (f := 8) s3'.1 ((Ag.refl k M1).flt (Or.inl rfl) 8) (by omega) (by omega) (by rw [mw1, if_pos ⟨rfl, rfl⟩]; rfl)
      · have c1 : Int32.ofNat e < 60000 := by rw [o_ltR _ _ (by omega) (by decide)]; show e < 60000; omega
        have c2 : ¬ Int32.ofNat e = 60000 := by rw [o_eqR _ _ (by omega) (by decide)]; exact c
        rw [if_pos c1, if_pos c2, Option.bind_some]
        have f90 : (mw (mw M1 60 90 0) 124 (k.A.os q) (Int32.ofNat k.t)).1 60 90 = 0 := by rw [mwr _ _ _ (by omega), mw1, if_pos ⟨rfl, rfl⟩]
        rw [if_neg (fun w => w f90), show (mw (mw M1 60 90 0) 124 (k.A.os q) (Int32.ofNat k.t)).1 125 (k.A.os q) = Int32.ofNat e by rw [mwr _ _ _ (by omega), mwr _ _ _ (by omega)]; exact e125, o_addR, o_addR]
        have st := set_mon (md1.flt (Or.inl rfl) 0) (M' := mw (mw (mw M1 60 90 0) 124 (k.A.os q) (Int32.ofNat k.t)) 125 (k.A.os q) (Int32.ofNat (e + 1))) hq (e := e + 1) (a := k.t + 1) (by omega) (by omega) (fun b h1 h2 => by rw [mwr _ _ _ h2, mwr _ _ _ h1]) (fun b s hs => by rw [mwi _ _ _ hs, mwi _ _ _ hs]) (by rw [mw1, if_pos ⟨rfl, rfl⟩]) (by omega) (fun _ => ⟨k.t, by omega, by rw [mwr _ _ _ (by omega), mw1, if_pos ⟨rfl, rfl⟩], rfl⟩) rfl
        obtain ⟨X2, u1, V2, u2⟩ := st
        have u1' : f_Memory_setMonitor (Int32.ofNat (adH k.c.Mr k.A q)) (Int32.ofNat (k.t + OfNat.ofNat 1)) (Int32.ofNat (e + OfNat.ofNat 1)) X1 = some X2 := u1
        rw [u1']
        refine W_some.mpr (W_some.mpr (out_go ⟨⟨V2, u2⟩, ?_⟩))
        rw [mwr _ _ _ (by omega)]; exact f90
    · subst o
      have n49 : ¬ Int32.ofNat 50 = 49 := by decide
      rw [if_pos n49, if_pos n49, own, Option.bind_some, if_pos n6, e125]
      have ed : (Int32.ofNat e = 0) ↔ e = 0 := by rw [o_eqR _ _ (by omega) (by decide)]
      have bad : ∀ w, V1.1 4 (adH k.c.Mr k.A q + 1) = Int32.ofNat w → w ≤ 6 → w ≠ k.t + 1 → (M1.1 125 (k.A.os q) = 0 ∨ ¬ M1.1 124 (k.A.os q) = Int32.ofNat k.t) → Wo ((if V1.1 4 (adH k.c.Mr k.A q + 1) = Int32.ofNat k.t + 1 then (if Int32.ofNat e ≤ 1 then ((f_Memory_setMonitor (Int32.ofNat (adH k.c.Mr k.A q)) 0 (Int32.ofNat e - 1) X1).bind fun x7 => some ((0 : Int32), x7)) else ((f_Memory_setMonitor (Int32.ofNat (adH k.c.Mr k.A q)) (Int32.ofNat k.t + 1) (Int32.ofNat e - 1) X1).bind fun x8 => some ((0 : Int32), x8))) else some ((8 : Int32), X1)) : Option (Int32 × XS)) (fun o => o = (8, X1)) := by
        intro w ew w6 wn _
        rw [if_neg (by rw [ew, o_addR, o_eq _ _ (by omega) (show k.t + 1 < 2147483648 by omega)]; exact wn)]
        exact W_some.mpr rfl
      have res8 : OutA k (C (600 + 16 * k.t)) g' h' (k.S.2.2.2.2.1 k.i) (8, X1) (mw (mw M1 60 90 8) 125 (k.A.os q) ((mw M1 60 90 8).1 125 (k.A.os q) - 0)) := by
        have em : mw (mw M1 60 90 8) 125 (k.A.os q) ((mw M1 60 90 8).1 125 (k.A.os q) - 0) = mw M1 60 90 8 := by
          refine Prod.ext ?_ rfl
          funext b s
          rw [mw1]
          by_cases d : b = 125 ∧ s = k.A.os q
          · rw [if_pos d, d.1, d.2, Int32.sub_zero]
          · rw [if_neg d]
        rw [em]
        exact out_flt (f := 8) s3'.1 ((Ag.refl k M1).flt (Or.inl rfl) 8) (by omega) (by omega) (by rw [mw1, if_pos ⟨rfl, rfl⟩]; rfl)
      have f908 : ¬ (mw M1 60 90 8).1 60 90 = 0 := by rw [mw1, if_pos ⟨rfl, rfl⟩]; decide
      by_cases c0 : e = 0
      · have v0 := w0 c0
        rw [if_neg (show ¬ V1.1 4 (adH k.c.Mr k.A q + 1) = Int32.ofNat k.t + 1 by rw [v0, o_addR, show (0 : Int32) = Int32.ofNat 0 from rfl, o_eq _ _ (by omega) (show k.t + 1 < 2147483648 by omega)]; show ¬ 0 = k.t + 1; omega), if_pos (ed.mpr c0), Option.bind_some, Option.bind_some, if_pos f908]
        exact W_some.mpr (W_some.mpr res8)
      · obtain ⟨w, w6, w124, wv⟩ := wp (by omega)
        rw [if_neg (fun z => c0 (ed.mp z)), w124, wv]
        by_cases cw : w = k.t
        · subst cw
          rw [if_pos (by rw [o_addR]), if_pos rfl, o_subR e 1 (show 1 ≤ e by omega), o_addR]
          simp only [Option.bind_some]
          have f900 : (mw M1 60 90 0).1 60 90 = 0 := by rw [mw1, if_pos ⟨rfl, rfl⟩]
          have nf : ¬ ¬ (mw M1 60 90 0).1 60 90 = 0 := fun z => z f900
          rw [if_neg nf, show (mw M1 60 90 0).1 125 (k.A.os q) = Int32.ofNat e by rw [mwr _ _ _ (by omega)]; exact e125, o_subR e 1 (show 1 ≤ e by omega)]
          have st := set_mon (md1.flt (Or.inl rfl) 0) (M' := mw (mw M1 60 90 0) 125 (k.A.os q) (Int32.ofNat (e - 1))) hq (e := e - 1) (a := if e ≤ 1 then 0 else k.t + 1) (by omega) (by split <;> omega) (fun b h1 h2 => by rw [mwr _ _ _ h2]) (fun b s hs => by rw [mwi _ _ _ hs]) (by rw [mw1, if_pos ⟨rfl, rfl⟩]) (fun z => by rw [if_pos (by omega)]) (fun z => ⟨k.t, by omega, by rw [mwr _ _ _ (by omega), mwr _ _ _ (by omega)]; exact w124, by rw [if_neg (by omega)]⟩) rfl
          obtain ⟨X2, u1, V2, u2⟩ := st
          have fin : OutA k (C (600 + 16 * k.t)) g' h' (k.S.2.2.2.2.1 k.i) (0, X2) (mw (mw M1 60 90 0) 125 (k.A.os q) (Int32.ofNat (e - 1))) := out_go ⟨⟨V2, u2⟩, by rw [mwr _ _ _ (by omega)]; exact f900⟩
          have cl1 : (Int32.ofNat e ≤ 1) ↔ e ≤ 1 := by rw [o_leR _ _ (by omega) (by decide)]
          by_cases c1 : e ≤ 1
          · rw [if_pos c1] at u1
            rw [if_pos (cl1.mpr c1)]
            have u1' : f_Memory_setMonitor (Int32.ofNat (adH k.c.Mr k.A q)) 0 (Int32.ofNat (e - OfNat.ofNat 1)) X1 = some X2 := u1
            rw [u1']
            exact W_some.mpr (W_some.mpr fin)
          · rw [if_neg c1] at u1
            rw [if_neg (fun z => c1 (cl1.mp z))]
            have u1' : f_Memory_setMonitor (Int32.ofNat (adH k.c.Mr k.A q)) (Int32.ofNat (k.t + OfNat.ofNat 1)) (Int32.ofNat (e - OfNat.ofNat 1)) X1 = some X2 := u1
            rw [u1']
            exact W_some.mpr (W_some.mpr fin)
        · have d1 : ¬ Int32.ofNat (w + 1) = Int32.ofNat k.t + 1 := by rw [o_addR, o_eq _ _ (by omega) (show k.t + 1 < 2147483648 by omega)]; show ¬ w + 1 = k.t + 1; omega
          have d2 : ¬ Int32.ofNat w = Int32.ofNat k.t := by rw [o_eq _ _ (by omega) (by omega)]; exact cw
          rw [if_neg d1, if_neg d2, Option.bind_some, Option.bind_some, if_pos f908]
          exact W_some.mpr (W_some.mpr res8)
