/-! P3 -/
theorem idx_iff {n : Nat} (hn : n ≤ 200) (i : Int32) : (0 ≤ i ∧ i ≤ Int32.ofNat n - 1) ↔ ∃ jj, jj < n ∧ i = Int32.ofNat jj := by
  rw [le1_iff (by omega)]
set_option maxRecDepth 20000 in
set_option maxHeartbeats 4000000 in
theorem idx_iff2 {n : Nat} (hn : n ≤ 200) (i : Int32) : (¬ i < 0 ∧ i < Int32.ofNat n) ↔ ∃ jj, jj < n ∧ i = Int32.ofNat jj := by
  constructor
  · intro ⟨h1, h2⟩
    obtain ⟨k, hk, e⟩ := toN (Int32.not_lt.mp h1)
    rw [e, o_lt _ _ hk (by omega)] at h2
    exact ⟨k, h2, e⟩
  · intro ⟨jj, h1, e⟩
    rw [e, o_lt0 _ (by omega), o_lt _ _ (by omega) (by omega)]
    exact ⟨fun q => q, h1⟩
set_option maxRecDepth 20000 in
set_option maxHeartbeats 4000000 in
/-- whether an array of this kind has this place, on both sides -/
theorem arr_f {k : Kx} {T C : Nat → Nat} {n : Nat} {X : XS} {V M : MS} {g : Nat → Int32} {h : Nat} {l : Nat → Int32} (md : Md k T C n X V M g h l) (ok : k.c.Ok) {x y : Int32} (rr : RefR k.c.Mr k.A x y) (i : Int32) {Kw : Nat} (hK : Kw = 10 ∨ Kw = 11) : ∃ f, (f = 0 ∨ f = 1 ∨ f = 3 ∨ f = 5) ∧ f_M_isArray y (Int32.ofNat Kw) i M = some (decide (f = 0), mw M 60 90 (Int32.ofNat f)) ∧ (f = 0 → ∃ q jj, q < k.A.N ∧ x = Int32.ofNat (adH k.c.Mr k.A q) ∧ y = Int32.ofNat (k.A.os q) ∧ k.A.K q = Kw ∧ jj < k.A.n q ∧ i = Int32.ofNat jj) ∧ ∀ Q : Option (Int32 × XS), (if ¬ x = 0 then ((f_Memory_kindOf x X).bind fun x16 => ((some (Int32.ofNat (Kw + 244)) : Option Int32).bind fun x18 => (if x16 = x18 then (if i < 0 then some (5, X) else ((f_Memory_lengthOf x X).bind fun x21 => (if i < x21 then Q else some (5, X)))) else some (3, X)))) else some (1, X)) = if f = 0 then Q else some (Int32.ofNat f, X) := by
  have w90 : ∀ v, (mw M 60 90 v).1 60 90 = v := fun v => by rw [mw1, if_pos ⟨rfl, rfl⟩]
  have fin : ∀ v : Int32, ¬ v = 0 → (if ¬ (mw M 60 90 v).1 60 90 = 0 then some (false, mw M 60 90 v) else some (true, mw M 60 90 v)) = some (false, mw M 60 90 v) := fun v hv => if_pos (by rw [w90]; exact hv)
  rcases rr.cases md.hr with ⟨n1, n2⟩ | ⟨q, hq, n1, n2, n3, n4, n5, n6, n7⟩
  · refine ⟨1, by omega, ?_, fun z => by omega, fun Q => by rw [if_neg (fun w => w n1), if_neg (by omega)]; rfl⟩
    unfold f_M_isArray
    rw [if_neg (fun w => w n2)]
    exact fin 1 (by decide)
  · obtain ⟨r1, r2, r3, r4, r5, r6, r7, r8⟩ := arr_ok md ok hq
    have ob := md.hr.ob q hq
    have e121 : M.1 121 y.toNatClampNeg = Int32.ofNat (k.A.K q) := by rw [n7]; exact ob.m121
    have e122 : M.1 122 y.toNatClampNeg = Int32.ofNat (k.A.n q) := by rw [n7]; exact ob.m122
    have km : (Int32.ofNat (k.A.K q) = Int32.ofNat Kw) ↔ k.A.K q = Kw := by rw [o_eq _ _ (by omega) (by omega)]
    have kx : (Int32.ofNat (kcode k.c.Mr (k.A.K q)) = Int32.ofNat (Kw + 244)) ↔ k.A.K q = Kw := by
      rw [o_eq _ _ (by omega) (by omega)]
      rcases hK with e | e <;> subst e
      · exact r7
      · exact r8
    by_cases cK : k.A.K q = Kw
    · have r3' := r3 (by omega)
      by_cases ci : ∃ jj, jj < k.A.n q ∧ i = Int32.ofNat jj
      · obtain ⟨jj, hj, ej⟩ := ci
        refine ⟨0, by omega, ?_, fun _ => ⟨q, jj, hq, n1, n2, cK, hj, ej⟩, fun Q => ?_⟩
        · unfold f_M_isArray
          rw [if_pos n4, if_pos n6, e121, if_pos (km.mpr cK), e122, if_pos ((idx_iff r5 i).mpr ⟨jj, hj, ej⟩)]
          exact if_neg (fun z => z (w90 0))
        · have ii := (idx_iff2 r5 i).mpr ⟨jj, hj, ej⟩
          rw [if_pos n3, n1, r1, Option.bind_some, Option.bind_some, if_pos (kx.mpr cK), if_neg ii.1, r3', Option.bind_some, if_pos ii.2, if_pos rfl]
      · refine ⟨5, by omega, ?_, fun z => by omega, fun Q => ?_⟩
        · unfold f_M_isArray
          rw [if_pos n4, if_pos n6, e121, if_pos (km.mpr cK), e122, if_neg (fun z => ci ((idx_iff r5 i).mp z))]
          exact fin 5 (by decide)
        · rw [if_pos n3, n1, r1, Option.bind_some, Option.bind_some, if_pos (kx.mpr cK), if_neg (show ¬ (5 : Nat) = 0 by omega)]
          by_cases c0 : i < 0
          · rw [if_pos c0]; rfl
          · rw [if_neg c0, r3', Option.bind_some, if_neg (fun z => ci ((idx_iff2 r5 i).mp ⟨c0, z⟩))]; rfl
    · refine ⟨3, by omega, ?_, fun z => by omega, fun Q => ?_⟩
      · unfold f_M_isArray
        rw [if_pos n4, if_pos n6, e121, if_neg (fun z => cK (km.mp z))]
        exact fin 3 (by decide)
      · rw [if_pos n3, n1, r1, Option.bind_some, Option.bind_some, if_neg (fun z => cK (kx.mp z)), if_neg (show ¬ (3 : Nat) = 0 by omega)]; rfl
theorem tk_a : tkL 32 = [1, 2] ∧ ptL 32 = 1 ∧ tkL 33 = [1, 1, 2] ∧ ptL 33 = 0 ∧ tkL 36 = [1, 2] ∧ ptL 36 = 2 ∧ tkL 37 = [2, 1, 2] ∧ ptL 37 = 0 := by decide
set_option maxRecDepth 20000 in
set_option maxHeartbeats 4000000 in
theorem get_ok {k : Kx} {T C : Nat → Nat} {n : Nat} {X : XS} {M : MS} {g g' : Nat → Int32} {h h' op : Nat} {l' : Nat → Int32} {od : Int32} (ok : k.c.Ok) (hop : op = 32 ∨ op = 36) (j : Jz k T C n X M g h (k.S.2.2.2.2.1 k.i)) (tr : Tr k.c.Mr k.c.rc op od g h (k.S.2.2.2.2.1 k.i) = some (g', h', l')) : Wo (f_Engine_doPlace (C (600 + 16 * k.t)) (Int32.ofNat op) X) (fun o => Wo (f_M_arrays (Int32.ofNat op) M) (fun M' => OutA k (C (600 + 16 * k.t)) g' h' l' o M')) := by
  obtain ⟨hh, p1, p2⟩ := tr_def (by omega) (by omega) (by omega) (by omega) (by omega) (by omega) tr
  obtain ⟨b1, b2, b3, b4, b5, b6, b7, b8⟩ := tk_a
  have tk : tkL op = [1, 2] := by rcases hop with e | e <;> subst e; exact b1; exact b5
  rw [tk] at p1
  obtain ⟨a, ea, ga, p3⟩ := popsK_cons p1
  obtain ⟨b, eb, gb, p4⟩ := popsK_cons p3
  have ep := popsK_nil p4
  subst ep eb ea
  have pv : ¬ ptL op = 0 := by rcases hop with e | e <;> subst e; rw [b2]; decide; rw [b6]; decide
  obtain ⟨q1, q2, q3, q4⟩ := putT_v pv p2
  rw [q2, q3, q4]
  obtain ⟨i, X1, i', M1, s1, s2, s3, s4, s5⟩ := Z_pop j
  have ei := s4.1 (g1 ga (by decide))
  subst ei
  obtain ⟨x, X2, y, M2, u1, u2, u3, u4, u5⟩ := Z_pop s3
  have rr := u4.2 (g1 gb (by decide))
  have u3' := u3
  obtain ⟨⟨V2, md2⟩, z2⟩ := u3
  obtain ⟨f, hf, fm, f0, fx⟩ := arr_f md2 ok rr i (Kw := if op = 32 then 10 else 11) (by split <;> omega)
  have w90 : ∀ v, (mw M2 60 90 v).1 60 90 = v := fun v => by rw [mw1, if_pos ⟨rfl, rfl⟩]
  have jz0 : Jz k T C n X2 (mw M2 60 90 0) g hh (k.S.2.2.2.2.1 k.i) := ⟨u3'.1.flt (Or.inl rfl) 0, w90 0⟩
  have mA : f_M_arrays (Int32.ofNat op) M = (if f = 0 then (if ¬ Int32.ofNat op = 32 then (if ixo y 1002 then (if ixo (((mw M2 60 90 0).1 123 y.toNatClampNeg) + i) 8200 then ((f_M_putRef ((mw M2 60 90 0).1 127 (((mw M2 60 90 0).1 123 y.toNatClampNeg) + i).toNatClampNeg) (mw M2 60 90 0)).bind fun x43 => some x43) else none) else none) else (if ixo y 1002 then (if ixo (((mw M2 60 90 0).1 123 y.toNatClampNeg) + i) 8200 then ((f_M_putInt ((mw M2 60 90 0).1 127 (((mw M2 60 90 0).1 123 y.toNatClampNeg) + i).toNatClampNeg) (mw M2 60 90 0)).bind fun x46 => some x46) else none) else none)) else some (mw M2 60 90 (Int32.ofNat f))) := by
    unfold f_M_arrays
    have e31 : ¬ Int32.ofNat op = 31 := by rcases hop with e | e <;> subst e <;> decide
    have e35 : ¬ Int32.ofNat op = 35 := by rcases hop with e | e <;> subst e <;> decide
    have e34 : ¬ Int32.ofNat op = 34 := by rcases hop with e | e <;> subst e <;> decide
    have e33 : ¬ Int32.ofNat op = 33 := by rcases hop with e | e <;> subst e <;> decide
    have e37 : ¬ Int32.ofNat op = 37 := by rcases hop with e | e <;> subst e <;> decide
    have eK : (if 34 ≤ Int32.ofNat op then some 11 else some 10 : Option Int32) = some (Int32.ofNat (if op = 32 then 10 else 11)) := by rcases hop with e | e <;> subst e <;> rfl
    rw [if_neg e31, if_pos e35, if_pos e34, if_neg e33, if_pos e37, s2, Option.bind_some, u2, Option.bind_some, eK, Option.bind_some]
    dsimp only
    rw [fm, Option.bind_some]
    by_cases c : f = 0
    · subst c
      rw [if_pos (show decide ((0 : Nat) = 0) = true from rfl), if_pos (show (0 : Nat) = 0 from rfl)]
      rfl
    · rw [if_neg (show ¬ decide (f = 0) = true from fun z => c (of_decide_eq_true z)), if_neg c]
  have xA : f_Engine_doPlace (C (600 + 16 * k.t)) (Int32.ofNat op) X = if f = 0 then (if Int32.ofNat op = 32 then ((f_Memory_intPlace x i X2).bind fun x24 => ((f_Strand_push (C (600 + 16 * k.t)) x24 X2).bind fun x26 => some (0, x26))) else ((f_Memory_refPlace x i X2).bind fun x30 => ((f_Strand_pushRef (C (600 + 16 * k.t)) x30 X2).bind fun x32 => some (0, x32)))) else some (Int32.ofNat f, X2) := by
    rw [← fx]
    unfold f_Engine_doPlace
    have e33 : ¬ Int32.ofNat op = 33 := by rcases hop with e | e <;> subst e <;> decide
    have e37 : ¬ Int32.ofNat op = 37 := by rcases hop with e | e <;> subst e <;> decide
    rw [if_neg e33, if_pos e37, Option.bind_some]
    have e6 : (if Int32.ofNat op = 32 then some 1 else (if ¬ Int32.ofNat op = 33 then some 0 else some 1) : Option Int32) = some (if op = 32 then 1 else 0) := by rcases hop with e | e <;> subst e <;> rfl
    rw [e6, Option.bind_some, if_pos rfl, Option.bind_some]
    dsimp only
    rw [if_pos j.x, s1, Option.bind_some]
    dsimp only
    rw [if_pos s3.x, u1, Option.bind_some]
    dsimp only
    have e7 : (if (if op = 32 then (1 : Int32) else 0) = 0 then some 255 else some 254 : Option Int32) = some (Int32.ofNat ((if op = 32 then 10 else 11) + 244)) := by rcases hop with e | e <;> subst e <;> rfl
    rw [e7]
    simp only [u3'.x, eq_self, if_true, e33, if_false]
    have e36 : op ≠ 32 → Int32.ofNat op = 36 := by intro z; rcases hop with e | e; exact absurd e z; subst e; rfl
    by_cases c : op = 32
    · subst c
      simp only [show Int32.ofNat 32 = 32 from rfl, eq_self, if_true]
    · have c' : ¬ Int32.ofNat op = 32 := by rcases hop with e | e; exact absurd e c; subst e; decide
      simp only [c', if_false, e36 c, eq_self, if_true]
  rw [xA, mA]
  by_cases c : f = 0
  · subst c
    obtain ⟨q, jj, hq, n1, n2, cK, hj, ej⟩ := f0 rfl
    have bd := md2.hr.bd hq
    have ob := md2.hr.ob q hq
    have e123 : (mw M2 60 90 0).1 123 (k.A.os q) = Int32.ofNat (caH k.c.Mr k.A q) := by rw [mwr _ _ _ (by omega)]; exact ob.m123
    have eos : (Int32.ofNat (k.A.os q)).toNatClampNeg = k.A.os q := o_cl _ (by have := ob.os; omega)
    have ixq : ixo (Int32.ofNat (k.A.os q)) 1002 := ixl ob.os.2 (by have := ob.os; omega)
    rw [if_pos rfl, if_pos rfl, n2, if_pos ixq, if_pos ixq]
    simp only [eos, ej, e123, o_add]
    have cj : caH k.c.Mr k.A q + jj < 8200 := by
      have e10 : 10 ≤ k.A.K q := by rw [cK]; split <;> omega
      have ec : czK k.c.Mr (k.A.K q) (k.A.n q) = k.A.n q := by
        have nk : ¬ k.A.K q < 10 := by omega
        unfold czK niK nrK
        rw [if_neg nk, if_neg nk]
        split <;> omega
      omega
    have ixc : ixo (Int32.ofNat (caH k.c.Mr k.A q + jj)) 8200 := ixl cj (by omega)
    have clc : (Int32.ofNat (caH k.c.Mr k.A q + jj)).toNatClampNeg = caH k.c.Mr k.A q + jj := o_cl _ (by omega)
    by_cases o32 : op = 32
    · subst o32
      have hK : k.A.K q = 10 := cK
      have ni : niK k.c.Mr (k.A.K q) (k.A.n q) = k.A.n q := by unfold niK; rw [if_neg (by omega), if_pos hK]
      have hd5 : hdK (k.A.K q) = 5 := by unfold hdK; rw [if_neg (by omega)]
      have ew : wzK k.c.Mr (k.A.K q) (k.A.n q) = hdK (k.A.K q) + 2 * niK k.c.Mr (k.A.K q) (k.A.n q) + nrK k.c.Mr (k.A.K q) (k.A.n q) := rfl
      have ec : czK k.c.Mr (k.A.K q) (k.A.n q) = niK k.c.Mr (k.A.K q) (k.A.n q) + nrK k.c.Mr (k.A.K q) (k.A.n q) := rfl
      have vi := ob.ints jj (by omega)
      have ip : f_Memory_intPlace x (Int32.ofNat jj) X2 = some (M2.1 127 (caH k.c.Mr k.A q + jj)) := by
        unfold f_Memory_intPlace
        rw [n1, o_addR, o_mulL, o_add, intAt_eq md2.rv (show adH k.c.Mr k.A q + OfNat.ofNat 5 + OfNat.ofNat 2 * jj + 1 < 4001 by show adH k.c.Mr k.A q + 5 + 2 * jj + 1 < 4001; omega), Option.bind_some, ← vi, hd5]
      rw [if_pos (show Int32.ofNat 32 = 32 from rfl), if_neg (show ¬ ¬ Int32.ofNat 32 = 32 from fun z => z rfl), ip, Option.bind_some, if_pos ixc]
      simp only [clc]
      rw [mwr _ _ _ (show 127 ≠ 60 by omega)]
      obtain ⟨X3, M3, v1, v2, v3⟩ := Z_pushi jz0 q1 (M2.1 127 (caH k.c.Mr k.A q + jj))
      rw [v1, v2, b2]
      exact W_some.mpr (W_some.mpr (out_go v3))
    · have hK : k.A.K q = 11 := by rw [cK, if_neg o32]
      have o36 : op = 36 := by rcases hop with e | e; exact absurd e o32; exact e
      subst o36
      have ni : niK k.c.Mr (k.A.K q) (k.A.n q) = 0 := by unfold niK; rw [if_neg (by omega), if_neg (by omega)]
      have nr : nrK k.c.Mr (k.A.K q) (k.A.n q) = k.A.n q := by unfold nrK; rw [if_neg (by omega), if_neg (by omega)]
      have hd5 : hdK (k.A.K q) = 5 := by unfold hdK; rw [if_neg (by omega)]
      have ew : wzK k.c.Mr (k.A.K q) (k.A.n q) = hdK (k.A.K q) + 2 * niK k.c.Mr (k.A.K q) (k.A.n q) + nrK k.c.Mr (k.A.K q) (k.A.n q) := rfl
      have ec : czK k.c.Mr (k.A.K q) (k.A.n q) = niK k.c.Mr (k.A.K q) (k.A.n q) + nrK k.c.Mr (k.A.K q) (k.A.n q) := rfl
      have vr := ob.refs jj (by omega)
      rw [ni, hd5] at vr
      have ip : f_Memory_refPlace x (Int32.ofNat jj) X2 = some (V2.1 4 (adH k.c.Mr k.A q + 5 + 2 * 0 + jj)) := by
        unfold f_Memory_refPlace
        rw [n1, o_addR, o_add, word_eq md2.rv (show adH k.c.Mr k.A q + OfNat.ofNat 5 + jj < 4001 by show adH k.c.Mr k.A q + 5 + jj < 4001; omega)]
        rfl
      rw [if_neg (show ¬ Int32.ofNat 36 = 32 by decide), if_pos (show ¬ Int32.ofNat 36 = 32 by decide), ip, Option.bind_some, if_pos ixc]
      simp only [clc]
      rw [mwr _ _ _ (show 127 ≠ 60 by omega)]
      obtain ⟨X3, M3, v1, v2, v3⟩ := Z_pushr jz0 q1 vr
      rw [v1]
      have v2' : f_M_putRef (M2.1 127 (caH k.c.Mr k.A q + jj)) (mw M2 60 90 0) = some M3 := v2
      rw [v2', b6]
      exact W_some.mpr (W_some.mpr (out_go v3))
  · rw [if_neg c, if_neg c]
    refine W_some.mpr (W_some.mpr ?_)
    exact out_flt u3'.1 ((Ag.refl k M2).flt (Or.inl rfl) _) (by omega) (by omega) (w90 _)
