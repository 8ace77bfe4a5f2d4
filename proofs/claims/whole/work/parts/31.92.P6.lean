/-! P6 -/
set_option maxRecDepth 20000 in
set_option maxHeartbeats 4000000 in
theorem fld_f {k : Kx} {T C : Nat → Nat} {n : Nat} {X : XS} {V M M2 : MS} {g : Nat → Int32} {h : Nat} {l : Nat → Int32} (md : Md k T C n X V M2 g h l) (ok : k.c.Ok) {x y z : Int32} (rr : RefR k.c.Mr k.A x y) {c : Nat} (hc : c < k.c.kc) (hw : fm k.c.Mr 77 c) (hz : f_Image_at_51 z X = some (Int32.ofNat (kn k.c.Mr c))) (h121 : M.1 121 = M2.1 121) (hmf : ∀ a i, ¬ RunM a i → M.1 a i = k.c.M0.1 a i) : ∃ f, (f = 0 ∨ f = 1 ∨ f = 3) ∧ f_M_isOf y (Int32.ofNat c) M = some (decide (f = 0), mw M 60 90 (Int32.ofNat f)) ∧ (f = 0 → ∃ q, q < k.A.N ∧ x = Int32.ofNat (adH k.c.Mr k.A q) ∧ y = Int32.ofNat (k.A.os q) ∧ k.A.K q < k.c.kc ∧ fm k.c.Mr 77 (k.A.K q) ∧ aI k.c.Mr c ≤ aI k.c.Mr (k.A.K q) ∧ aF k.c.Mr c ≤ aF k.c.Mr (k.A.K q)) ∧ ∀ Q : Option (Int32 × XS), (if ¬ x = 0 then ((f_Image_at_51 z X).bind fun x12 => ((f_Engine_isOf x x12 X).bind fun x13 => (if x13 = true then Q else some (3, X)))) else some (1, X)) = if f = 0 then Q else some (Int32.ofNat f, X) := by
  have w90 : ∀ v, (mw M 60 90 v).1 60 90 = v := fun v => by rw [mw1, if_pos ⟨rfl, rfl⟩]
  have fin : ∀ v : Int32, ¬ v = 0 → (if ¬ (mw M 60 90 v).1 60 90 = 0 then some (false, mw M 60 90 v) else some (true, mw M 60 90 v)) = some (false, mw M 60 90 v) := fun v hv => if_pos (by rw [w90]; exact hv)
  rcases rr.cases md.hr with ⟨n1, n2⟩ | ⟨q, hq, n1, n2, n3, n4, n5, n6, n7⟩
  · refine ⟨1, by omega, ?_, fun z => by omega, fun Q => by rw [if_neg (fun w => w n1), if_neg (by omega)]; rfl⟩
    unfold f_M_isOf
    rw [if_neg (fun w => w n2)]
    exact fin 1 (by decide)
  · have ob := md.hr.ob q hq
    have k10 := (gp_k10 ok.1).1
    have e121 : M.1 121 y.toNatClampNeg = Int32.ofNat (k.A.K q) := by rw [n7, h121]; exact ob.m121
    have kb : k.A.K q < 12 := by rcases ob.ok with w | w <;> omega
    have e10 : ((10 : Int32) ≤ Int32.ofNat (k.A.K q)) ↔ 10 ≤ k.A.K q := by rw [o_leL _ _ (by decide) (by omega)]
    obtain ⟨b, e0, e1⟩ := isOf_ok md ok hq hc hw
    rw [← n1] at e0
    have lhs : ∀ Q : Option (Int32 × XS), (if ¬ x = 0 then ((f_Image_at_51 z X).bind fun x12 => ((f_Engine_isOf x x12 X).bind fun x13 => (if x13 = true then Q else some (3, X)))) else some (1, X)) = if b = true then Q else some (3, X) := fun Q => by
      rw [if_pos n3, hz, Option.bind_some, e0, Option.bind_some]
    rcases e1 with ⟨c1, c2⟩ | ⟨c1, c2⟩
    · subst c2
      refine ⟨3, by omega, ?_, fun z => by omega, fun Q => by rw [lhs, if_neg (by decide), if_neg (by omega)]; rfl⟩
      unfold f_M_isOf
      rw [if_pos n4, if_pos n6, e121, if_pos (e10.mpr c1)]
      exact fin 3 (by decide)
    · have him := (md.rv.im ok.2.1 ok.2.2.1)
      have n10 : ¬ (10 : Int32) ≤ Int32.ofNat (k.A.K q) := fun w => by have := e10.mp w; omega
      have hk : k.A.K q < k.c.kc ∧ fm k.c.Mr 77 (k.A.K q) := by rcases ob.ok with w | w; exact ⟨w.1, w.2.2.1⟩; omega
      have c2' : f_M_isBelow (Int32.ofNat (k.A.K q)) (Int32.ofNat c) M = some b := by
        obtain ⟨b1, d1, d2⟩ := below_ok ok him hmf hc hw (k.A.K q) hk.1 hk.2
        obtain ⟨b2, d3, d4⟩ := below_ok ok him md.mf hc hw (k.A.K q) hk.1 hk.2
        rw [d1] at d3
        rw [c2] at d4
        injection d3 with d3
        injection d4 with d4
        rw [d2, d3, d4]
      cases b with
      | false =>
        refine ⟨3, by omega, ?_, fun z => by omega, fun Q => by rw [lhs, if_neg (by decide), if_neg (by omega)]; rfl⟩
        unfold f_M_isOf
        rw [if_pos n4, if_pos n6, e121, if_neg n10, c2', Option.bind_some, if_neg (by decide)]
        exact fin 3 (by decide)
      | true =>
        have le := bel_le ok hmf hc 10000 (k.A.K q) hk.1 c2'
        refine ⟨0, by omega, ?_, fun _ => ⟨q, hq, n1, n2, hk.1, hk.2, le.1, le.2⟩, fun Q => by rw [lhs, if_pos rfl, if_pos rfl]⟩
        unfold f_M_isOf
        rw [if_pos n4, if_pos n6, e121, if_neg n10, c2', Option.bind_some, if_pos rfl]
        exact if_neg (fun w => w (w90 0))
set_option maxRecDepth 20000 in
set_option maxHeartbeats 4000000 in
/-- reading and writing a field, once the object is known -/
theorem fld_mem {k : Kx} {T C : Nat → Nat} {n : Nat} {X : XS} {V M : MS} {g : Nat → Int32} {h : Nat} {l : Nat → Int32} (md : Md k T C n X V M g h l) (ok : k.c.Ok) {q nf : Nat} (hq : q < k.A.N) (hk : k.A.K q < k.c.kc) (hw : fm k.c.Mr 77 (k.A.K q)) : (nf < aI k.c.Mr (k.A.K q) → f_Memory_intField (Int32.ofNat (adH k.c.Mr k.A q)) (Int32.ofNat nf) X = some (M.1 127 (caH k.c.Mr k.A q + nf)) ∧ ∀ v, f_Memory_setIntField (Int32.ofNat (adH k.c.Mr k.A q)) (Int32.ofNat nf) v X = f_Memory_setIntAt (Int32.ofNat (adH k.c.Mr k.A q + hdK (k.A.K q) + 2 * nf)) v X ∧ nf < niK k.c.Mr (k.A.K q) (k.A.n q)) ∧ (nf < aF k.c.Mr (k.A.K q) → nf < nrK k.c.Mr (k.A.K q) (k.A.n q) ∧ niK k.c.Mr (k.A.K q) (k.A.n q) = aI k.c.Mr (k.A.K q) ∧ (∃ x, f_Memory_refField (Int32.ofNat (adH k.c.Mr k.A q)) (Int32.ofNat nf) X = some x ∧ RefR k.c.Mr k.A x (M.1 127 (caH k.c.Mr k.A q + aI k.c.Mr (k.A.K q) + nf))) ∧ ∀ v, f_Memory_setRefField (Int32.ofNat (adH k.c.Mr k.A q)) (Int32.ofNat nf) v X = (f_Memory_setWord (Int32.ofNat (adH k.c.Mr k.A q + hdK (k.A.K q) + 2 * niK k.c.Mr (k.A.K q) (k.A.n q) + nf)) v X).bind fun x2 => some x2) ∧ caH k.c.Mr k.A q + (aI k.c.Mr (k.A.K q) + aF k.c.Mr (k.A.K q)) ≤ 4001 ∧ hdK (k.A.K q) = 4 := by
  have k10 := (gp_k10 ok.1).1
  have hr := md.hr
  have bd := hr.bd hq
  have ob := hr.ob q hq
  have ni : niK k.c.Mr (k.A.K q) (k.A.n q) = aI k.c.Mr (k.A.K q) := by unfold niK; rw [if_pos (by omega)]
  have nr : nrK k.c.Mr (k.A.K q) (k.A.n q) = aF k.c.Mr (k.A.K q) := by unfold nrK; rw [if_pos (by omega)]
  have hd : hdK (k.A.K q) = 4 := by unfold hdK; rw [if_pos (by omega)]
  have ew : wzK k.c.Mr (k.A.K q) (k.A.n q) = hdK (k.A.K q) + 2 * niK k.c.Mr (k.A.K q) (k.A.n q) + nrK k.c.Mr (k.A.K q) (k.A.n q) := rfl
  have ec : czK k.c.Mr (k.A.K q) (k.A.n q) = niK k.c.Mr (k.A.K q) (k.A.n q) + nrK k.c.Mr (k.A.K q) (k.A.n q) := rfl
  have fr : f_Memory_firstRef (Int32.ofNat (adH k.c.Mr k.A q)) X = some (Int32.ofNat (adH k.c.Mr k.A q + 4 + 2 * aI k.c.Mr (k.A.K q))) := by
    have kl := kn_lt (show k.A.K q < 10 by omega) hw
    have nk := NK_le k.c.Mr
    have ek : kcode k.c.Mr (k.A.K q) = kn k.c.Mr (k.A.K q) := by unfold kcode; rw [if_pos (by omega)]
    unfold f_Memory_firstRef
    rw [word_eq md.rv (by omega), ob.h0, ek, Option.bind_some, if_pos (by rw [o_0le _ (by omega), o_leR _ _ (by omega) (by decide)]; exact ⟨trivial, by show kn k.c.Mr (k.A.K q) ≤ 9; omega⟩), o_cl _ (by omega), md.rv.rf (a := 45) (by unfold Fx; omega), (hr.fld _ hk hw).1, o_addR, o_mulL, o_add]
  refine ⟨?_, ?_, by omega, hd⟩
  · intro hn
    have vi := ob.ints nf (by omega)
    refine ⟨?_, fun v => ⟨?_, by omega⟩⟩
    · unfold f_Memory_intField
      rw [o_addR, o_mulL, o_add, intAt_eq md.rv (show adH k.c.Mr k.A q + OfNat.ofNat 4 + OfNat.ofNat 2 * nf + 1 < 4001 by show adH k.c.Mr k.A q + 4 + 2 * nf + 1 < 4001; omega), Option.bind_some, ← vi, hd]
    · unfold f_Memory_setIntField
      rw [o_addR, o_mulL, o_add, hd]
      show (f_Memory_setIntAt (Int32.ofNat (adH k.c.Mr k.A q + 4 + 2 * nf)) v X).bind _ = _
      cases f_Memory_setIntAt (Int32.ofNat (adH k.c.Mr k.A q + 4 + 2 * nf)) v X <;> rfl
  · intro hn
    have vr := ob.refs nf (by omega)
    rw [ni, hd] at vr
    refine ⟨by omega, ni, ⟨_, ?_, vr⟩, fun v => ?_⟩
    · unfold f_Memory_refField
      rw [fr, Option.bind_some, o_add, word_eq md.rv (by omega)]
      rfl
    · unfold f_Memory_setRefField
      rw [fr, Option.bind_some, o_add, hd, ni]
set_option maxRecDepth 20000 in
set_option maxHeartbeats 4000000 in
theorem fget_ok {k : Kx} {T C : Nat → Nat} {n : Nat} {X : XS} {M : MS} {g g' : Nat → Int32} {h h' : Nat} {l' : Nat → Int32} (ok : k.c.Ok) (hop : opN k.c.Mr k.m k.i = 27 ∨ opN k.c.Mr k.m k.i = 29) (j : Jz k T C n X M g h (k.S.2.2.2.2.1 k.i)) (tr : Tr k.c.Mr k.c.rc (opN k.c.Mr k.m k.i) (odI k.c.Mr k.m k.i) g h (k.S.2.2.2.2.1 k.i) = some (g', h', l')) : Wo (f_Engine_doField (C (600 + 16 * k.t)) (Int32.ofNat (opN k.c.Mr k.m k.i)) (Int32.ofNat (caN k.c.Mr k.m + off k.c.Mr k.m k.i)) X) (fun o => Wo (f_M_fields (Int32.ofNat (opN k.c.Mr k.m k.i)) (odI k.c.Mr k.m k.i / 8) (M.1 108 (1440 + (60 * k.m + k.i))) M) (fun M' => OutA k (C (600 + 16 * k.t)) g' h' l' o M')) := by
  obtain ⟨c, nf, hc, hw, ec, hnf, ea1, ea2, e108⟩ := fld_od j.1 ok (by omega) (by omega)
  obtain ⟨hh, p1, p2⟩ := tr_def (by omega) (by omega) (by omega) (by omega) (by omega) (by omega) tr
  obtain ⟨b1, b2, b3, b4, b5, b6, b7, b8⟩ := tk_f
  generalize hopn : opN k.c.Mr k.m k.i = op at *
  have tk : tkL op = [2] := by rcases hop with e | e <;> subst e; exact b1; exact b5
  rw [tk] at p1
  obtain ⟨a, ea, ga, p3⟩ := popsK_cons p1
  have ep := popsK_nil p3
  subst ep ea
  have pv : ¬ ptL op = 0 := by rcases hop with e | e <;> subst e; rw [b2]; decide; rw [b6]; decide
  obtain ⟨q1, q2, q3, q4⟩ := putT_v pv p2
  rw [q2, q3, q4]
  have jz0 : Jz k T C n X (mw M 60 90 0) g (hh + 1) (k.S.2.2.2.2.1 k.i) := ⟨j.1.flt (Or.inl rfl) 0, by rw [mw1, if_pos ⟨rfl, rfl⟩]⟩
  obtain ⟨x, X2, M2, u1, u2, u3, u4, u5, u6⟩ := Zv_pop jz0
  have ey : (mw M 60 90 0).1 115 = M.1 115 := mwr _ _ _ (by omega)
  rw [ey] at u2 u4
  have pk := pk_val j.1 (q := 0) (by omega)
  rw [show hh + 1 - 1 - 0 = hh by omega] at pk
  generalize hy : M.1 115 (440 * k.t + (22 * k.d + 12 + hh)) = y at *
  have rr := u4.2 (g1 ga (by decide))
  have u3' := u3
  obtain ⟨⟨V2, md2⟩, z2⟩ := u3
  obtain ⟨i1, i2, i3, i4, i5, i6⟩ := j.1.im ok
  have ag0 : Ag k (mw M 60 90 0) M2 := u5 (Ag.refl k _)
  have hz : f_Image_at_51 (Int32.ofNat (caN k.c.Mr k.m + off k.c.Mr k.m k.i) + 1) X2 = some (Int32.ofNat (kn k.c.Mr c)) := by
    have := fld_od u3'.1 ok (by omega) (by omega)
    obtain ⟨c', nf', hc', hw', ec', _, e1', _, _⟩ := this
    rw [ec] at ec'
    have hk10 := (gp_k10 i2).1
    rw [o_eq _ _ (by omega) (by omega)] at ec'
    rw [ec']
    exact e1'
  obtain ⟨f, hf, fm, f0, fx⟩ := fld_f md2 ok rr hc hw hz (M := M) (by rw [← ag0.1 121 (by omega) (by omega), mwr _ _ _ (by omega)]) i5
  have w90 : ∀ v, (mw M 60 90 v).1 60 90 = v := fun v => by rw [mw1, if_pos ⟨rfl, rfl⟩]
  have xA : f_Engine_doField (C (600 + 16 * k.t)) (Int32.ofNat op) (Int32.ofNat (caN k.c.Mr k.m + off k.c.Mr k.m k.i)) X = if f = 0 then (if Int32.ofNat op = 27 then ((f_Memory_intField x (Int32.ofNat nf) X2).bind fun x17 => ((f_Strand_push (C (600 + 16 * k.t)) x17 X2).bind fun x19 => some (0, x19))) else ((f_Memory_refField x (Int32.ofNat nf) X2).bind fun x23 => ((f_Strand_pushRef (C (600 + 16 * k.t)) x23 X2).bind fun x25 => some (0, x25)))) else some (Int32.ofNat f, X2) := by
    rw [← fx]
    unfold f_Engine_doField
    have e28 : ¬ Int32.ofNat op = 28 := by rcases hop with e | e <;> subst e <;> decide
    have e30 : ¬ Int32.ofNat op = 30 := by rcases hop with e | e <;> subst e <;> decide
    rw [ea2, Option.bind_some, if_neg e28, if_pos e30, Option.bind_some]
    dsimp only
    rw [if_pos j.x, u1, Option.bind_some]
    dsimp only
    simp only [u3'.x, eq_self, if_true, e28, if_false]
    by_cases c27 : op = 27
    · subst c27
      simp only [show Int32.ofNat 27 = 27 from rfl, eq_self, if_true]
    · have o29 : op = 29 := by rcases hop with e | e; exact absurd e c27; exact e
      subst o29
      simp only [show ¬ Int32.ofNat 29 = 27 by decide, show Int32.ofNat 29 = 29 from rfl, eq_self, if_true, if_false]
  have mA : f_M_fields (Int32.ofNat op) (odI k.c.Mr k.m k.i / 8) (M.1 108 (1440 + (60 * k.m + k.i))) M = (if f = 0 then (if ixo y 1002 then (((if 29 ≤ Int32.ofNat op then (if ixo (10 + ((mw M 60 90 0).1 121 y.toNatClampNeg)) 20 then some (((mw M 60 90 0).1 96 (10 + ((mw M 60 90 0).1 121 y.toNatClampNeg)).toNatClampNeg) + Int32.ofNat nf) else none) else some (Int32.ofNat nf)) : Option (Int32)).bind fun x27 => (if ¬ Int32.ofNat op = 27 then (if ixo (((mw M 60 90 0).1 123 y.toNatClampNeg) + x27) 8200 then ((f_M_putRef (M2.1 127 (((mw M 60 90 0).1 123 y.toNatClampNeg) + x27).toNatClampNeg) M2).bind fun x33 => some x33) else none) else (if ixo (((mw M 60 90 0).1 123 y.toNatClampNeg) + x27) 8200 then ((f_M_putInt (M2.1 127 (((mw M 60 90 0).1 123 y.toNatClampNeg) + x27).toNatClampNeg) M2).bind fun x35 => some x35) else none))) else none) else some (mw M 60 90 (Int32.ofNat f))) := by
    unfold f_M_fields
    have e28 : ¬ Int32.ofNat op = 28 := by rcases hop with e | e <;> subst e <;> decide
    have e30 : ¬ Int32.ofNat op = 30 := by rcases hop with e | e <;> subst e <;> decide
    have pk' : f_M_peek 0 M = some y := pk
    rw [if_neg e28, if_pos e30, pk', Option.bind_some, ec, fm, Option.bind_some, e108]
    by_cases cf : f = 0
    · subst cf
      rw [if_pos (show decide ((0 : Nat) = 0) = true from rfl), if_pos (show (0 : Nat) = 0 from rfl)]
      dsimp only
      have u2' : f_M_takeValue (mw M 60 90 (Int32.ofNat 0)) = some (y, M2) := u2
      simp only [u2', Option.bind_some]
      rfl
    · rw [if_neg (show ¬ decide (f = 0) = true from fun z => cf (of_decide_eq_true z)), if_neg cf]
  rw [xA, mA]
  by_cases cf : f = 0
  · subst cf
    obtain ⟨q, hq, n1, n2, hkk, hkw, le1, le2⟩ := f0 rfl
    obtain ⟨fm1, fm2, fm3, fm4⟩ := fld_mem md2 ok (nf := nf) hq hkk hkw
    have ob := md2.hr.ob q hq
    have k10 := (gp_k10 i2).1
    have ee : ∀ b s, b ≠ 114 → b ≠ 60 → (mw M 60 90 0).1 b s = M2.1 b s := fun b s h1 h2 => by rw [ag0.1 b h1 h2]
    have e123 : (mw M 60 90 0).1 123 (k.A.os q) = Int32.ofNat (caH k.c.Mr k.A q) := by rw [ee _ _ (by omega) (by omega)]; exact ob.m123
    have e121 : (mw M 60 90 0).1 121 (k.A.os q) = Int32.ofNat (k.A.K q) := by rw [ee _ _ (by omega) (by omega)]; exact ob.m121
    have eos : (Int32.ofNat (k.A.os q)).toNatClampNeg = k.A.os q := o_cl _ (by have := ob.os; omega)
    have ixq : ixo (Int32.ofNat (k.A.os q)) 1002 := ixl ob.os.2 (by have := ob.os; omega)
    rw [if_pos rfl, if_pos rfl, n2, if_pos ixq, n1]
    simp only [eos, e123, e121]
    by_cases c27 : op = 27
    · subst c27
      rw [if_pos (by omega)] at hnf
      obtain ⟨g1', g2'⟩ := fm1 (by omega)
      have ixc : ixo (Int32.ofNat (caH k.c.Mr k.A q + nf)) 8200 := ixl (by omega) (by omega)
      have clc : (Int32.ofNat (caH k.c.Mr k.A q + nf)).toNatClampNeg = caH k.c.Mr k.A q + nf := o_cl _ (by omega)
      rw [if_pos (show Int32.ofNat 27 = 27 from rfl), g1', Option.bind_some, if_neg (show ¬ (29 : Int32) ≤ Int32.ofNat 27 by decide), Option.bind_some, if_neg (show ¬ ¬ Int32.ofNat 27 = 27 from fun z => z rfl), o_add, if_pos ixc]
      simp only [clc]
      obtain ⟨X3, M3, v1, v2, v3⟩ := Z_pushi u3' q1 (M2.1 127 (caH k.c.Mr k.A q + nf))
      rw [v1, v2, b2]
      exact W_some.mpr (W_some.mpr (out_go v3))
    · have o29 : op = 29 := by rcases hop with e | e; exact absurd e c27; exact e
      subst o29
      rw [if_neg (by omega)] at hnf
      obtain ⟨g1', g2', ⟨xr, g3', g4'⟩, g5'⟩ := fm2 (by omega)
      have a96 : (mw M 60 90 0).1 96 (10 + Int32.ofNat (k.A.K q)).toNatClampNeg = Int32.ofNat (aI k.c.Mr (k.A.K q)) := by
        rw [o_addL, o_cl _ (show 10 + k.A.K q < 2147483648 by omega), mwr _ _ _ (by omega), i5 96 _ (by unfold RunM; omega)]
        have := (i6.1 (k.A.K q) hkk).2.1
        have e : OfNat.ofNat 10 + k.A.K q = 10 * 1 + k.A.K q := rfl
        rw [e, this]
        exact (gp_all i2 hkk).1
      have ix10 : ixo (10 + Int32.ofNat (k.A.K q)) 20 := by rw [o_addL]; exact ixl (show 10 + k.A.K q < 20 by omega) (show 10 + k.A.K q < 2147483648 by omega)
      have ixc : ixo (Int32.ofNat (caH k.c.Mr k.A q + (aI k.c.Mr (k.A.K q) + nf))) 8200 := ixl (by omega) (by omega)
      have clc : (Int32.ofNat (caH k.c.Mr k.A q + (aI k.c.Mr (k.A.K q) + nf))).toNatClampNeg = caH k.c.Mr k.A q + aI k.c.Mr (k.A.K q) + nf := by rw [o_cl _ (by omega)]; omega
      rw [if_neg (show ¬ Int32.ofNat 29 = 27 by decide), g3', Option.bind_some, if_pos (show (29 : Int32) ≤ Int32.ofNat 29 by decide), if_pos ix10, Option.bind_some, if_pos (show ¬ Int32.ofNat 29 = 27 by decide), a96, o_add, o_add, if_pos ixc]
      simp only [clc]
      obtain ⟨X3, M3, v1, v2, v3⟩ := Z_pushr u3' q1 g4'
      rw [v1, v2, b6]
      exact W_some.mpr (W_some.mpr (out_go v3))
  · rw [if_neg cf, if_neg cf]
    refine W_some.mpr (W_some.mpr ?_)
    refine out_flt u3'.1 ?_ (by omega) (by omega) (w90 _)
    refine ⟨fun b h1 h2 => ?_, fun s hs => ?_, fun e h1 h2 => ?_, ag0.2.2.2⟩
    · rw [← ag0.1 b h1 h2, mwr _ _ _ h2, mwr _ _ _ h2]
    · rw [← ag0.2.1 s hs, mwr _ _ _ (by omega), mwr _ _ _ (by omega)]
    · rw [← ag0.2.2.1 e h1 h2, mwi _ _ _ h1, mwi _ _ _ h1]
