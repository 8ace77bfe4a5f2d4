/-! P4 -/
set_option maxRecDepth 20000 in
set_option maxHeartbeats 4000000 in
theorem putp_ok {k : Kx} {T C : Nat → Nat} {n : Nat} {X : XS} {M : MS} {g g' : Nat → Int32} {h h' op : Nat} {l' : Nat → Int32} {od : Int32} (ok : k.c.Ok) (hop : op = 33 ∨ op = 37) (j : Jz k T C n X M g h (k.S.2.2.2.2.1 k.i)) (tr : Tr k.c.Mr k.c.rc op od g h (k.S.2.2.2.2.1 k.i) = some (g', h', l')) : Wo (f_Engine_doPlace (C (600 + 16 * k.t)) (Int32.ofNat op) X) (fun o => Wo (f_M_arrays (Int32.ofNat op) M) (fun M' => OutA k (C (600 + 16 * k.t)) g' h' l' o M')) := by
  obtain ⟨hh, p1, p2⟩ := tr_def (by omega) (by omega) (by omega) (by omega) (by omega) (by omega) tr
  obtain ⟨b1, b2, b3, b4, b5, b6, b7, b8⟩ := tk_a
  have tk : tkL op = [if op = 33 then 1 else 2, 1, 2] := by rcases hop with e | e <;> subst e; exact b3; exact b7
  rw [tk] at p1
  obtain ⟨a0, ea0, ga0, p0⟩ := popsK_cons p1
  obtain ⟨a, ea, ga, p3⟩ := popsK_cons p0
  obtain ⟨b, eb, gb, p4⟩ := popsK_cons p3
  have ep := popsK_nil p4
  subst ep eb ea ea0
  have pv : ptL op = 0 := by rcases hop with e | e <;> subst e; exact b4; exact b8
  rw [pv] at p2
  obtain ⟨q1, q2, q3⟩ := putT_0 p2
  rw [q1, q2, q3]
  obtain ⟨w, X0, w', M0, t1, t2, t3, t4, t5⟩ := Z_pop j
  obtain ⟨i, X1, i', M1, s1, s2, s3, s4, s5⟩ := Z_pop t3
  have ei := s4.1 (g1 ga (by decide))
  subst ei
  obtain ⟨x, X2, y, M2, u1, u2, u3, u4, u5⟩ := Z_pop s3
  have rr := u4.2 (g1 gb (by decide))
  have u3' := u3
  obtain ⟨⟨V2, md2⟩, z2⟩ := u3
  obtain ⟨f, hf, fm, f0, fx⟩ := arr_f md2 ok rr i (Kw := if op = 33 then 10 else 11) (by split <;> omega)
  have w90 : ∀ v, (mw M2 60 90 v).1 60 90 = v := fun v => by rw [mw1, if_pos ⟨rfl, rfl⟩]
  have mA : f_M_arrays (Int32.ofNat op) M = (if f = 0 then (if ixo y 1002 then (if ixo (((mw M2 60 90 0).1 123 y.toNatClampNeg) + i) 8200 then some (mw (mw M2 60 90 0) 127 (((mw M2 60 90 0).1 123 y.toNatClampNeg) + i).toNatClampNeg w') else none) else none) else some (mw M2 60 90 (Int32.ofNat f))) := by
    unfold f_M_arrays
    have e31 : ¬ Int32.ofNat op = 31 := by rcases hop with e | e <;> subst e <;> decide
    have e35 : ¬ Int32.ofNat op = 35 := by rcases hop with e | e <;> subst e <;> decide
    have e34 : ¬ Int32.ofNat op = 34 := by rcases hop with e | e <;> subst e <;> decide
    have eK : (if 34 ≤ Int32.ofNat op then some 11 else some 10 : Option Int32) = some (Int32.ofNat (if op = 33 then 10 else 11)) := by rcases hop with e | e <;> subst e <;> rfl
    have core : ((f_M_takeValue M).bind fun x17 => ((f_M_takeValue x17.2).bind fun x18 => ((f_M_takeValue x18.2).bind fun x19 => (((if 34 ≤ Int32.ofNat op then some 11 else some 10) : Option (Int32)).bind fun x21 => ((f_M_isArray x19.1 x21 x18.1 x19.2).bind fun x22 => (if x22.1 = true then (if ixo x19.1 1002 then (if ixo ((x22.2.1 123 x19.1.toNatClampNeg) + x18.1) 8200 then (lt (mw x22.2 127 ((x22.2.1 123 x19.1.toNatClampNeg) + x18.1).toNatClampNeg x17.1) fun M28 => some M28) else none) else none) else some x22.2)))))) = (if f = 0 then (if ixo y 1002 then (if ixo (((mw M2 60 90 0).1 123 y.toNatClampNeg) + i) 8200 then some (mw (mw M2 60 90 0) 127 (((mw M2 60 90 0).1 123 y.toNatClampNeg) + i).toNatClampNeg w') else none) else none) else some (mw M2 60 90 (Int32.ofNat f))) := by
      rw [t2, Option.bind_some, s2, Option.bind_some, u2, Option.bind_some, eK, Option.bind_some]
      dsimp only
      rw [fm, Option.bind_some]
      by_cases c : f = 0
      · subst c
        rw [if_pos (show decide ((0 : Nat) = 0) = true from rfl), if_pos (show (0 : Nat) = 0 from rfl)]
        rfl
      · rw [if_neg (show ¬ decide (f = 0) = true from fun z => c (of_decide_eq_true z)), if_neg c]
    rw [← core, if_neg e31, if_pos e35, if_pos e34]
    by_cases c33 : op = 33
    · rw [if_pos (show Int32.ofNat op = 33 by rw [c33]; rfl)]
    · have c37 : ¬ ¬ Int32.ofNat op = 37 := fun z => z (by rcases hop with e | e; exact absurd e c33; rw [e]; rfl)
      rw [if_neg (show ¬ Int32.ofNat op = 33 by rcases hop with e | e; exact absurd e c33; rw [e]; decide), if_neg c37]
  have xA : f_Engine_doPlace (C (600 + 16 * k.t)) (Int32.ofNat op) X = if f = 0 then (if Int32.ofNat op = 33 then ((f_Memory_setIntPlace x i w X2).bind fun x28 => some (0, x28)) else ((f_Memory_setRefPlace x i w X2).bind fun x33 => some (0, x33))) else some (Int32.ofNat f, X2) := by
    rw [← fx]
    unfold f_Engine_doPlace
    have e32 : ¬ Int32.ofNat op = 32 := by rcases hop with e | e <;> subst e <;> decide
    have e36 : ¬ Int32.ofNat op = 36 := by rcases hop with e | e <;> subst e <;> decide
    have e3 : (if Int32.ofNat op = 33 then some 1 else (if ¬ Int32.ofNat op = 37 then some 0 else some 1) : Option Int32) = some 1 := by rcases hop with e | e <;> subst e <;> rfl
    have e6 : (if Int32.ofNat op = 32 then some 1 else (if ¬ Int32.ofNat op = 33 then some 0 else some 1) : Option Int32) = some (if op = 33 then 1 else 0) := by rcases hop with e | e <;> subst e <;> rfl
    rw [e3, Option.bind_some, e6, Option.bind_some, if_neg (show ¬ (1 : Int32) = 0 by decide), if_pos j.x, t1, Option.bind_some, Option.bind_some]
    dsimp only
    rw [if_pos t3.x, s1, Option.bind_some]
    dsimp only
    rw [if_pos s3.x, u1, Option.bind_some]
    dsimp only
    have e7 : (if (if op = 33 then (1 : Int32) else 0) = 0 then some 255 else some 254 : Option Int32) = some (Int32.ofNat ((if op = 33 then 10 else 11) + 244)) := by rcases hop with e | e <;> subst e <;> rfl
    rw [e7]
    simp only [e32, e36, if_false]
  rw [xA, mA]
  by_cases c : f = 0
  · subst c
    obtain ⟨q, jj, hq, n1, n2, cK, hj, ej⟩ := f0 rfl
    have bd := md2.hr.bd hq
    have ob := md2.hr.ob q hq
    have e123 : (mw M2 60 90 0).1 123 (k.A.os q) = Int32.ofNat (caH k.c.Mr k.A q) := by rw [mwr _ _ _ (by omega)]; exact ob.m123
    have eos : (Int32.ofNat (k.A.os q)).toNatClampNeg = k.A.os q := o_cl _ (by have := ob.os; omega)
    have ixq : ixo (Int32.ofNat (k.A.os q)) 1002 := ixl ob.os.2 (by have := ob.os; omega)
    rw [if_pos rfl, if_pos rfl, n2, if_pos ixq]
    simp only [eos, ej, e123, o_add]
    have cj : caH k.c.Mr k.A q + jj < 8200 := by
      have e10 : 10 ≤ k.A.K q := by rw [cK]; split <;> omega
      have ec : czK k.c.Mr (k.A.K q) (k.A.n q) = k.A.n q := by
        have nk : ¬ k.A.K q < 10 := by omega
        unfold czK niK nrK
        rw [if_neg nk, if_neg nk]
        split <;> omega
      omega
    have ixc : ixo (Int32.ofNat (caH k.c.Mr k.A q + jj)) 8200 := ixl cj (by omega)
    have clc : (Int32.ofNat (caH k.c.Mr k.A q + jj)).toNatClampNeg = caH k.c.Mr k.A q + jj := o_cl _ (by omega)
    rw [if_pos ixc]
    simp only [clc]
    have md3 := md2.flt (Or.inl rfl : (90 : Nat) = 90 ∨ (90 : Nat) = 91) 0
    by_cases o33 : op = 33
    · have hK : k.A.K q = 10 := by rw [cK, if_pos o33]
      have ni : niK k.c.Mr (k.A.K q) (k.A.n q) = k.A.n q := by unfold niK; rw [if_neg (by omega), if_pos hK]
      have hd5 : hdK (k.A.K q) = 5 := by unfold hdK; rw [if_neg (by omega)]
      have ew := t4.1 (g1 (by rw [if_pos o33] at ga0; exact ga0) (by decide))
      subst ew
      obtain ⟨X3, v1, V3, v2⟩ := set_int md3 hq (jj := jj) (by omega) w
      have ip : f_Memory_setIntPlace x (Int32.ofNat jj) w X2 = some X3 := by
        unfold f_Memory_setIntPlace
        rw [hd5] at v1
        rw [n1, o_addR, o_mulL, o_add]
        have v1' : f_Memory_setIntAt (Int32.ofNat (adH k.c.Mr k.A q + OfNat.ofNat 5 + OfNat.ofNat 2 * jj)) w X2 = some X3 := v1
        rw [v1']
        rfl
      rw [if_pos (show Int32.ofNat op = 33 by rw [o33]; rfl), ip]
      refine W_some.mpr (W_some.mpr (out_go ⟨⟨V3, v2⟩, ?_⟩))
      rw [mwr _ _ _ (by omega)]; exact w90 0
    · have hK : k.A.K q = 11 := by rw [cK, if_neg o33]
      have ni : niK k.c.Mr (k.A.K q) (k.A.n q) = 0 := by unfold niK; rw [if_neg (by omega), if_neg (by omega)]
      have nr : nrK k.c.Mr (k.A.K q) (k.A.n q) = k.A.n q := by unfold nrK; rw [if_neg (by omega), if_neg (by omega)]
      have hd5 : hdK (k.A.K q) = 5 := by unfold hdK; rw [if_neg (by omega)]
      have rw' := t4.2 (g1 (by rw [if_neg o33] at ga0; exact ga0) (by decide))
      obtain ⟨X3, v1, V3, v2⟩ := set_ref md3 hq (jj := jj) (by omega) rw'
      rw [hd5, ni] at v1
      rw [ni] at v2
      have ip : f_Memory_setRefPlace x (Int32.ofNat jj) w X2 = some X3 := by
        unfold f_Memory_setRefPlace
        rw [n1, o_addR, o_add]
        have v1' : f_Memory_setWord (Int32.ofNat (adH k.c.Mr k.A q + OfNat.ofNat 5 + jj)) w X2 = some X3 := v1
        rw [v1']
        rfl
      rw [if_neg (show ¬ Int32.ofNat op = 33 by rcases hop with e | e; exact absurd e o33; rw [e]; decide), ip]
      refine W_some.mpr (W_some.mpr (out_go ⟨⟨V3, v2⟩, ?_⟩))
      rw [mwr _ _ _ (by omega)]; exact w90 0
  · rw [if_neg c, if_neg c]
    refine W_some.mpr (W_some.mpr ?_)
    exact out_flt u3'.1 ((Ag.refl k M2).flt (Or.inl rfl) _) (by omega) (by omega) (w90 _)
