/-! P7 -/
set_option maxRecDepth 20000 in
set_option maxHeartbeats 4000000 in
theorem fput_ok {k : Kx} {T C : Nat → Nat} {n : Nat} {X : XS} {M : MS} {g g' : Nat → Int32} {h h' : Nat} {l' : Nat → Int32} (ok : k.c.Ok) (hop : opN k.c.Mr k.m k.i = 28 ∨ opN k.c.Mr k.m k.i = 30) (j : Jz k T C n X M g h (k.S.2.2.2.2.1 k.i)) (tr : Tr k.c.Mr k.c.rc (opN k.c.Mr k.m k.i) (odI k.c.Mr k.m k.i) g h (k.S.2.2.2.2.1 k.i) = some (g', h', l')) : Wo (f_Engine_doField (C (600 + 16 * k.t)) (Int32.ofNat (opN k.c.Mr k.m k.i)) (Int32.ofNat (caN k.c.Mr k.m + off k.c.Mr k.m k.i)) X) (fun o => Wo (f_M_fields (Int32.ofNat (opN k.c.Mr k.m k.i)) (odI k.c.Mr k.m k.i / 8) (M.1 108 (1440 + (60 * k.m + k.i))) M) (fun M' => OutA k (C (600 + 16 * k.t)) g' h' l' o M')) := by
  obtain ⟨c, nf, hc, hw, ec, hnf, ea1, ea2, e108⟩ := fld_od j.1 ok (by omega) (by omega)
  obtain ⟨hh, p1, p2⟩ := tr_def (by omega) (by omega) (by omega) (by omega) (by omega) (by omega) tr
  obtain ⟨b1, b2, b3, b4, b5, b6, b7, b8⟩ := tk_f
  generalize hopn : opN k.c.Mr k.m k.i = op at *
  have tk : tkL op = [if op = 28 then 1 else 2, 2] := by rcases hop with e | e <;> subst e; exact b3; exact b7
  rw [tk] at p1
  obtain ⟨a0, ea0, ga0, p0⟩ := popsK_cons p1
  obtain ⟨a, ea, ga, p3⟩ := popsK_cons p0
  have ep := popsK_nil p3
  subst ep ea ea0
  have pv : ptL op = 0 := by rcases hop with e | e <;> subst e; exact b4; exact b8
  rw [pv] at p2
  obtain ⟨q1, q2, q3⟩ := putT_0 p2
  rw [q1, q2, q3]
  have jz0 : Jz k T C n X (mw M 60 90 0) g (hh + 1 + 1) (k.S.2.2.2.2.1 k.i) := ⟨j.1.flt (Or.inl rfl) 0, by rw [mw1, if_pos ⟨rfl, rfl⟩]⟩
  obtain ⟨w, X1, M1, t1, t2, t3, t4, t5, t6⟩ := Zv_pop jz0
  obtain ⟨x, X2, M2, u1, u2, u3, u4, u5, u6⟩ := Zv_pop t3
  have ey : (mw M 60 90 0).1 115 = M.1 115 := mwr _ _ _ (by omega)
  rw [ey] at t2 t4 t6
  rw [t6] at u2 u4
  have pk := pk_val j.1 (q := 1) (by omega)
  rw [show hh + 1 + 1 - 1 - 1 = hh by omega] at pk
  generalize hy : M.1 115 (440 * k.t + (22 * k.d + 12 + hh)) = y at *
  generalize hy' : M.1 115 (440 * k.t + (22 * k.d + 12 + (hh + 1))) = w' at *
  have rr := u4.2 (g1 ga (by decide))
  have u3' := u3
  obtain ⟨⟨V2, md2⟩, z2⟩ := u3
  obtain ⟨i1, i2, i3, i4, i5, i6⟩ := j.1.im ok
  have ag0 : Ag k (mw M 60 90 0) M2 := u5 (t5 (Ag.refl k _))
  have hz : f_Image_at_51 (Int32.ofNat (caN k.c.Mr k.m + off k.c.Mr k.m k.i) + 1) X2 = some (Int32.ofNat (kn k.c.Mr c)) := by
    have := fld_od u3'.1 ok (by omega) (by omega)
    obtain ⟨c', nf', hc', hw', ec', _, e1', _, _⟩ := this
    rw [ec] at ec'
    have hk10 := (gp_k10 i2).1
    rw [o_eq _ _ (by omega) (by omega)] at ec'
    rw [ec']
    exact e1'
  obtain ⟨f, hf, fm, f0, fx⟩ := fld_f md2 ok rr hc hw hz (M := M) (by rw [← ag0.1 121 (by omega) (by omega), mwr _ _ _ (by omega)]) i5
  have w90 : ∀ v, (mw M 60 90 v).1 60 90 = v := fun v => by rw [mw1, if_pos ⟨rfl, rfl⟩]
  have xA : f_Engine_doField (C (600 + 16 * k.t)) (Int32.ofNat op) (Int32.ofNat (caN k.c.Mr k.m + off k.c.Mr k.m k.i)) X = if f = 0 then (if Int32.ofNat op = 28 then ((f_Memory_setIntField x (Int32.ofNat nf) w X2).bind fun x21 => some (0, x21)) else ((f_Memory_setRefField x (Int32.ofNat nf) w X2).bind fun x26 => some (0, x26))) else some (Int32.ofNat f, X2) := by
    rw [← fx]
    unfold f_Engine_doField
    have e27 : ¬ Int32.ofNat op = 27 := by rcases hop with e | e <;> subst e <;> decide
    have e29 : ¬ Int32.ofNat op = 29 := by rcases hop with e | e <;> subst e <;> decide
    have first : (if Int32.ofNat op = 28 then (if (xT X (C (600 + 16 * k.t)) = some (14, 0)) then ((f_Strand_pop (C (600 + 16 * k.t)) X).bind fun x4 => some (x4.1, x4.2)) else none) else (if ¬ Int32.ofNat op = 30 then some (0, X) else (if (xT X (C (600 + 16 * k.t)) = some (14, 0)) then ((f_Strand_pop (C (600 + 16 * k.t)) X).bind fun x7 => some (x7.1, x7.2)) else none)) : Option (Int32 × XS)) = some (w, X1) := by
      rcases hop with e | e
      · subst e
        rw [if_pos (show Int32.ofNat 28 = 28 from rfl), if_pos j.x, t1]
        rfl
      · subst e
        rw [if_neg (show ¬ Int32.ofNat 30 = 28 by decide), if_neg (show ¬ ¬ Int32.ofNat 30 = 30 from fun z => z rfl), if_pos j.x, t1]
        rfl
    rw [ea2, Option.bind_some, first, Option.bind_some]
    dsimp only
    rw [if_pos t3.x, u1, Option.bind_some]
    dsimp only
    simp only [e27, e29, if_false]
  have mA : f_M_fields (Int32.ofNat op) (odI k.c.Mr k.m k.i / 8) (M.1 108 (1440 + (60 * k.m + k.i))) M = (if f = 0 then (if ixo y 1002 then (((if 29 ≤ Int32.ofNat op then (if ixo (10 + ((mw M 60 90 0).1 121 y.toNatClampNeg)) 20 then some (((mw M 60 90 0).1 96 (10 + ((mw M 60 90 0).1 121 y.toNatClampNeg)).toNatClampNeg) + Int32.ofNat nf) else none) else some (Int32.ofNat nf)) : Option (Int32)).bind fun x10 => (if ixo (((mw M 60 90 0).1 123 y.toNatClampNeg) + x10) 8200 then some (mw M2 127 (((mw M 60 90 0).1 123 y.toNatClampNeg) + x10).toNatClampNeg w') else none)) else none) else some (mw M 60 90 (Int32.ofNat f))) := by
    unfold f_M_fields
    have pk' : f_M_peek 1 M = some y := pk
    have core : ((f_M_peek 1 M).bind fun x3 => ((f_M_isOf x3 (odI k.c.Mr k.m k.i / 8) M).bind fun x4 => (if x4.1 = true then (if ixo x3 1002 then (((if 29 ≤ Int32.ofNat op then (if ixo (10 + (x4.2.1 121 x3.toNatClampNeg)) 20 then some ((x4.2.1 96 (10 + (x4.2.1 121 x3.toNatClampNeg)).toNatClampNeg) + (M.1 108 (1440 + (60 * k.m + k.i)))) else none) else some (M.1 108 (1440 + (60 * k.m + k.i)))) : Option (Int32)).bind fun x10 => ((f_M_takeValue x4.2).bind fun x12 => ((f_M_takeValue x12.2).bind fun x13 => (if ixo ((x4.2.1 123 x3.toNatClampNeg) + x10) 8200 then (lt (mw x13.2 127 ((x4.2.1 123 x3.toNatClampNeg) + x10).toNatClampNeg x12.1) fun M16 => some M16) else none)))) else none) else some x4.2))) = (if f = 0 then (if ixo y 1002 then (((if 29 ≤ Int32.ofNat op then (if ixo (10 + ((mw M 60 90 0).1 121 y.toNatClampNeg)) 20 then some (((mw M 60 90 0).1 96 (10 + ((mw M 60 90 0).1 121 y.toNatClampNeg)).toNatClampNeg) + Int32.ofNat nf) else none) else some (Int32.ofNat nf)) : Option (Int32)).bind fun x10 => (if ixo (((mw M 60 90 0).1 123 y.toNatClampNeg) + x10) 8200 then some (mw M2 127 (((mw M 60 90 0).1 123 y.toNatClampNeg) + x10).toNatClampNeg w') else none)) else none) else some (mw M 60 90 (Int32.ofNat f))) := by
      rw [pk', Option.bind_some, ec, fm, Option.bind_some, e108]
      by_cases cf : f = 0
      · subst cf
        rw [if_pos (show decide ((0 : Nat) = 0) = true from rfl), if_pos (show (0 : Nat) = 0 from rfl)]
        dsimp only
        have t2' : f_M_takeValue (mw M 60 90 (Int32.ofNat 0)) = some (w', M1) := t2
        simp only [t2', u2, Option.bind_some]
        rfl
      · rw [if_neg (show ¬ decide (f = 0) = true from fun z => cf (of_decide_eq_true z)), if_neg cf]
    rw [← core]
    by_cases c28 : op = 28
    · rw [if_pos (show Int32.ofNat op = 28 by rw [c28]; rfl)]
    · have c30 : ¬ ¬ Int32.ofNat op = 30 := fun z => z (by rcases hop with e | e; exact absurd e c28; rw [e]; rfl)
      rw [if_neg (show ¬ Int32.ofNat op = 28 by rcases hop with e | e; exact absurd e c28; rw [e]; decide), if_neg c30]
  rw [xA, mA]
  by_cases cf : f = 0
  · subst cf
    obtain ⟨q, hq, n1, n2, hkk, hkw, le1, le2⟩ := f0 rfl
    obtain ⟨fm1, fm2, fm3, fm4⟩ := fld_mem md2 ok (nf := nf) hq hkk hkw
    have ob := md2.hr.ob q hq
    have k10 := (gp_k10 i2).1
    have ee : ∀ b s, b ≠ 114 → b ≠ 60 → (mw M 60 90 0).1 b s = M2.1 b s := fun b s h1 h2 => by rw [ag0.1 b h1 h2]
    have e123 : (mw M 60 90 0).1 123 (k.A.os q) = Int32.ofNat (caH k.c.Mr k.A q) := by rw [ee _ _ (by omega) (by omega)]; exact ob.m123
    have e121 : (mw M 60 90 0).1 121 (k.A.os q) = Int32.ofNat (k.A.K q) := by rw [ee _ _ (by omega) (by omega)]; exact ob.m121
    have eos : (Int32.ofNat (k.A.os q)).toNatClampNeg = k.A.os q := o_cl _ (by have := ob.os; omega)
    have ixq : ixo (Int32.ofNat (k.A.os q)) 1002 := ixl ob.os.2 (by have := ob.os; omega)
    rw [if_pos rfl, if_pos rfl, n2, if_pos ixq, n1]
    simp only [eos, e123, e121]
    by_cases c28 : op = 28
    · subst c28
      rw [if_pos (by omega)] at hnf
      obtain ⟨g1', g2'⟩ := fm1 (by omega)
      have ixc : ixo (Int32.ofNat (caH k.c.Mr k.A q + nf)) 8200 := ixl (by omega) (by omega)
      have clc : (Int32.ofNat (caH k.c.Mr k.A q + nf)).toNatClampNeg = caH k.c.Mr k.A q + nf := o_cl _ (by omega)
      have ew := t4.1 (g1 (by rw [if_pos rfl] at ga0; exact ga0) (by decide))
      rw [if_pos (show Int32.ofNat 28 = 28 from rfl), (g2' w).1, if_neg (show ¬ (29 : Int32) ≤ Int32.ofNat 28 by decide), Option.bind_some, o_add, if_pos ixc]
      simp only [clc]
      obtain ⟨X3, v1, V3, v2⟩ := set_int md2 hq (g2' w).2 w
      rw [v1, ← ew]
      refine W_some.mpr (W_some.mpr (out_go ⟨⟨V3, v2⟩, ?_⟩))
      rw [mwr _ _ _ (by omega)]; exact z2
    · have o30 : op = 30 := by rcases hop with e | e; exact absurd e c28; exact e
      subst o30
      rw [if_neg (by omega)] at hnf
      obtain ⟨g1', g2', ⟨xr, g3', g4'⟩, g5'⟩ := fm2 (by omega)
      have a96 : (mw M 60 90 0).1 96 (10 + Int32.ofNat (k.A.K q)).toNatClampNeg = Int32.ofNat (aI k.c.Mr (k.A.K q)) := by
        rw [o_addL, o_cl _ (show 10 + k.A.K q < 2147483648 by omega), mwr _ _ _ (by omega), i5 96 _ (by unfold RunM; omega)]
        have := (i6.1 (k.A.K q) hkk).2.1
        have e : OfNat.ofNat 10 + k.A.K q = 10 * 1 + k.A.K q := rfl
        rw [e, this]
        exact (gp_all i2 hkk).1
      have ix10 : ixo (10 + Int32.ofNat (k.A.K q)) 20 := by rw [o_addL]; exact ixl (show 10 + k.A.K q < 20 by omega) (show 10 + k.A.K q < 2147483648 by omega)
      have ixc : ixo (Int32.ofNat (caH k.c.Mr k.A q + (aI k.c.Mr (k.A.K q) + nf))) 8200 := ixl (by omega) (by omega)
      have clc : (Int32.ofNat (caH k.c.Mr k.A q + (aI k.c.Mr (k.A.K q) + nf))).toNatClampNeg = caH k.c.Mr k.A q + niK k.c.Mr (k.A.K q) (k.A.n q) + nf := by rw [o_cl _ (by omega), g2']; omega
      have rw' := t4.2 (g1 (by rw [if_neg (by omega)] at ga0; exact ga0) (by decide))
      rw [if_neg (show ¬ Int32.ofNat 30 = 28 by decide), g5' w, if_pos (show (29 : Int32) ≤ Int32.ofNat 30 by decide), if_pos ix10, Option.bind_some, a96, o_add, o_add, if_pos ixc]
      simp only [clc]
      obtain ⟨X3, v1, V3, v2⟩ := set_ref md2 hq g1' rw'
      rw [v1]
      refine W_some.mpr (W_some.mpr (out_go ⟨⟨V3, v2⟩, ?_⟩))
      rw [mwr _ _ _ (by omega)]; exact z2
  · rw [if_neg cf, if_neg cf]
    refine W_some.mpr (W_some.mpr ?_)
    refine out_flt u3'.1 ?_ (by omega) (by omega) (w90 _)
    refine ⟨fun b h1 h2 => ?_, fun s hs => ?_, fun e h1 h2 => ?_, ag0.2.2.2⟩
    · rw [← ag0.1 b h1 h2, mwr _ _ _ h2, mwr _ _ _ h2]
    · rw [← ag0.2.1 s hs, mwr _ _ _ (by omega), mwr _ _ _ (by omega)]
    · rw [← ag0.2.2.1 e h1 h2, mwi _ _ _ h1, mwi _ _ _ h1]
