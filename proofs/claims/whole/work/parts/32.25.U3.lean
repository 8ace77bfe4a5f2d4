/-! U3 -/
/-- what is known once a step is done -/
def StO (c : Cx) (hp nb oc : Nat) (U W : Nat → Int32) (D : Int64) (op : Nat) (X : XS) (M : MS) : Prop := ∃ A nb' oc' W' T C n V, Rn c A hp nb' oc' U W' (D + Int64.ofNat 1) T C n X V M ∧ oc' ≤ oc + 1 ∧ W' 1 = (if op = 51 then 1 else 0) ∧ W' 62 = W 62 ∧ W' 64 = W 64 ∧ W' 63 = (if op = 51 then 0 else W 63 - 1) ∧ nb ≤ nb'
set_option maxRecDepth 20000 in
set_option maxHeartbeats 4000000 in
/-- what the reference reads of an instruction -/
theorem opM_eq {c : Cx} (ok : c.Ok) {M : MS} (mf : ∀ a i, ¬ RunM a i → M.1 a i = c.M0.1 a i) {F m i : Nat} (hF : F < 120) (hm : m < c.rc) (hi : i < 60) (e112 : M.1 112 F = Int32.ofNat m) (e113 : M.1 113 F = Int32.ofNat i) (e71 : c.Mr.1 71 (60 * m + i) = Int32.ofNat (opN c.Mr m i)) : f_M_op (Int32.ofNat F) M = some (Int32.ofNat (opN c.Mr m i)) ∧ f_M_operand (Int32.ofNat F) M = some (odI c.Mr m i) := by
  have r24 := (gp_k10 ok.1).2
  have cl : (Int32.ofNat F).toNatClampNeg = F := o_cl _ (by omega)
  have ex : (1440 : Int32) + 60 * Int32.ofNat m + Int32.ofNat i = Int32.ofNat (1440 + (60 * m + i)) := by
    rw [o_mulL, o_addL, o_add]
    congr 1
    show 1440 + 60 * m + i = _
    omega
  obtain ⟨k1, k2, k3, k4, k5⟩ := ok.2.2.2
  obtain ⟨q1, q2, q3⟩ := k4 (60 * m + i) (by omega)
  have cx : (Int32.ofNat (1440 + (60 * m + i))).toNatClampNeg = 1440 + (60 * m + i) := o_cl _ (by omega)
  unfold f_M_op f_M_operand
  rw [if_pos (ixl hF (by omega)), if_pos (ixl hF (by omega)), cl, e112, e113, ex, if_pos (ixl (by omega) (by omega)), if_pos (ixl (by omega) (by omega)), cx, mf 103 _ (by unfold RunM; omega), mf 104 _ (by unfold RunM; omega)]
  rw [show 1440 + (60 * m + i) = 1440 * 1 + (60 * m + i) by omega, q1, q2, e71]
  exact ⟨rfl, rfl⟩
set_option maxRecDepth 20000 in
set_option maxHeartbeats 4000000 in
theorem isStr_ok {c : Cx} {A : HG} {hp nb oc : Nat} {U W : Nat → Int32} {D : Int64} {T C : Nat → Nat} {n : Nat} {X : XS} {V M : MS} (r : Rn c A hp nb oc U W D T C n X V M) {t : Nat} (ht : t < nb) : f_Engine_isStrand (Int32.ofNat t) X = true ∧ X.2.1 50 t = some (C (600 + 16 * t)) ∧ xT X (C (600 + 16 * t)) = some (14, 0) := by
  have n6 := r.rv.no.1
  have hn := r.nb1.1
  have s := r.rv.st t (by omega)
  refine ⟨?_, s.r, s.x⟩
  unfold f_Engine_isStrand
  have e2 : X.1 40 2 = Int32.ofNat nb := by rw [r.rv.rf (a := 40) (by unfold Fx; omega)]; exact r.nb1.2.1
  rw [if_neg (by rw [o_lt0 _ (by omega)]; exact fun q => q), e2, if_neg (by rw [o_le _ _ (by omega) (by omega)]; omega), if_neg (by rw [o_leL _ _ (by decide) (by omega)]; show ¬ 6 ≤ t; omega), o_cl _ (by omega), s.r]
  rfl
set_option maxRecDepth 20000 in
set_option maxHeartbeats 4000000 in
theorem step_ok {c : Cx} {A : HG} {hp nb oc : Nat} {U W : Nat → Int32} {D : Int64} {T C : Nat → Nat} {n : Nat} {X : XS} {V M : MS} (r : Rn c A hp nb oc U W D T C n X V M) (ok : c.Ok) {t d m i : Nat} {S : FS} (ht : t < nb) (mt : MT c.Mr c.kc c.rc m S) (hs : S.1 i = true) (tp : TpR c.Mr A V M t d m i (S.2.2.2.1 i) (S.2.2.1 i) (S.2.2.2.2.1 i)) (lo : ∀ k, k < d → SuR c.Mr c.kc c.rc A V M t k) (hoc : oc + 1 < 2147483648) (nw : opN c.Mr m i = 49 → ∀ v, v = M.1 115 (440 * t + (22 * d + 12 + (S.2.2.1 i - 1))) → ¬ v = 0 → M.1 125 v.toNatClampNeg = 0 ∨ M.1 124 v.toNatClampNeg = Int32.ofNat t) : Wo (f_Engine_step (Int32.ofNat t) X) (fun X' => Wo (f_M_step (Int32.ofNat t) M) (fun M' => StO c hp nb oc U W D (opN c.Mr m i) X' M')) := by
  have n6 := r.rv.no.1
  have hn := r.nb1.1
  have d20 := tp.d20
  obtain ⟨f0, f1, f2, f3, f4, f5, f6, f7⟩ := ins_facts ok.1 mt hs
  have je := r.enter ht mt hs tp lo
  obtain ⟨st1, st2, st3⟩ := isStr_ok r ht
  have cl : (Int32.ofNat t).toNatClampNeg = t := o_cl _ (by omega)
  have a4 : (xw X 40 1 0).1 (C (600 + 16 * t)) 4 = Int32.ofNat (caN c.Mr m + off c.Mr m i) := by
    obtain ⟨V1, md⟩ := je
    have r0 := md.rv.rd (Lv_s (f := 0) (by omega) (by omega) : Lv n (600 + 16 * t))
    rw [r0]
    exact md.tp.v4
  have st1' : f_Engine_isStrand (Int32.ofNat t) (xw X 40 1 0) = true := by
    rw [← st1]
    unfold f_Engine_isStrand
    rfl
  obtain ⟨i1, i2, i3, i4, i5, i6⟩ := je.im ok
  have ob := op_at i1 i2 i3 i4
  have xx : xT (xw X 40 1 0) (C (600 + 16 * t)) = some (14, 0) := je.x
  have xe : f_Engine_step (Int32.ofNat t) X = (dX (C (600 + 16 * t)) (opB8 ⟨c, A, hp, nb, oc, t, d, m, i, S, U, upd W 1 0, D⟩) (Int32.ofNat (plc ⟨c, A, hp, nb, oc, t, d, m, i, S, U, upd W 1 0, D⟩)) (Int32.ofNat t) (xw X 40 1 0)).bind (tX (C (600 + 16 * t)) (opB8 ⟨c, A, hp, nb, oc, t, d, m, i, S, U, upd W 1 0, D⟩) (Int32.ofNat (plc ⟨c, A, hp, nb, oc, t, d, m, i, S, U, upd W 1 0, D⟩))) := by
    rw [stepX_eq]
    dsimp only [lt]
    have e50 : (xw X 40 1 0).2.1 50 (Int32.ofNat t).toNatClampNeg = some (C (600 + 16 * t)) := by rw [cl]; exact st2
    rw [if_pos st1', e50]
    show (if xT (xw X 40 1 0) (C (600 + 16 * t)) = some (14, 0) then _ else none) = _
    rw [if_pos xx, a4]
    have ob' : f_Image_at_51 (Int32.ofNat (caN c.Mr m + off c.Mr m i)) (xw X 40 1 0) = some (opB8 ⟨c, A, hp, nb, oc, t, d, m, i, S, U, upd W 1 0, D⟩) := ob
    rw [ob', Option.bind_some]
    rfl
  have e89 : 20 * Int32.ofNat t + M.1 109 t - 1 = Int32.ofNat (20 * t + d) := by
    rw [tp.m109, o_mulL, o_add, o_subR _ 1 (show 1 ≤ OfNat.ofNat 20 * t + (d + 1) by show 1 ≤ 20 * t + (d + 1); omega)]
    rfl
  obtain ⟨om1, om2⟩ := opM_eq ok (M := mw M 60 89 (Int32.ofNat (20 * t + d))) (F := 20 * t + d) (m := m) (i := i) (fun a q hr => by
      rw [← r.mf a q hr]
      by_cases e : a = 60
      · subst e; exact mwi _ _ _ (by unfold RunM at hr; omega)
      · rw [mwr _ _ _ e]) (by omega) f0 (by omega) (by rw [mwr _ _ _ (by omega)]; exact tp.m112) (by rw [mwr _ _ _ (by omega)]; exact tp.m113) f4
  have me : f_M_step (Int32.ofNat t) M = sM (Int32.ofNat t) (Int32.ofNat (opN c.Mr m i)) (odI c.Mr m i) (mw (mw M 60 89 (Int32.ofNat (20 * t + d))) 60 90 0) := by
    rw [stepM_eq, if_pos (ixl (by omega) (by omega)), cl, e89]
    dsimp only [lt]
    have f89 : (mw M 60 89 (Int32.ofNat (20 * t + d))).1 60 89 = Int32.ofNat (20 * t + d) := by rw [mw1, if_pos ⟨rfl, rfl⟩]
    rw [f89, om1, Option.bind_some, om2, Option.bind_some]
  rw [xe, me]
  have z : (mw (mw M 60 89 (Int32.ofNat (20 * t + d))) 60 90 0).1 60 90 = 0 := by rw [mw1, if_pos ⟨rfl, rfl⟩]
  have mr : ∀ a, a ≠ 60 → (mw (mw M 60 89 (Int32.ofNat (20 * t + d))) 60 90 0).1 a = M.1 a := fun a ha => by rw [mwr _ _ _ ha, mwr _ _ _ ha]
  have core := core_ok ok ⟨je, z⟩ hoc (fun e49 x v h1 h2 h3 => by
    obtain ⟨g', h', l', tr, _⟩ := f6.2
    have e49' : opN c.Mr m i = 49 := e49
    rw [e49'] at tr
    obtain ⟨hh, p1, p2⟩ := tr_def (by omega) (by omega) (by omega) (by omega) (by omega) (by omega) tr
    have tk : tkL 49 = [2] := by decide
    rw [tk] at p1
    obtain ⟨a, ea, ga, p1⟩ := popsK_cons p1
    have pk := pk_val je (q := 0) (by omega)
    have h2' : f_M_peek (Int32.ofNat 0) (mw (mw M 60 89 (Int32.ofNat (20 * t + d))) 60 90 0) = some v := h2
    rw [h2', mr 115 (by omega)] at pk
    injection pk with pk
    rw [mr 125 (by omega), mr 124 (by omega)]
    exact nw e49' v (by rw [pk, Nat.sub_zero]) h3)
  obtain ⟨X', e1, M', e2, A', nb', oc', W', T', C', n', V', q1, q2, q3, q4, q5, q6, q7⟩ := core
  refine ⟨X', e1, M', e2, A', nb', oc', W', T', C', n', V', q1, q2, ?_, ?_, ?_, ?_, q7⟩
  · rw [q3]
    show (if opN c.Mr m i = 51 then upd (upd W 1 0) 1 1 else upd W 1 0) 1 = _
    split
    · exact if_pos rfl
    · exact if_pos rfl
  · rw [q4]
    show (if opN c.Mr m i = 51 then upd (upd W 1 0) 1 1 else upd W 1 0) 62 = _
    split <;> rfl
  · rw [q5]
    show (if opN c.Mr m i = 51 then upd (upd W 1 0) 1 1 else upd W 1 0) 64 = _
    split <;> rfl
  · rw [q6]
    show (if Int32.ofNat (opN c.Mr m i) = 51 then 0 else (if opN c.Mr m i = 51 then upd (upd W 1 0) 1 1 else upd W 1 0) 63 - 1) = (if opN c.Mr m i = 51 then 0 else W 63 - 1)
    by_cases e : opN c.Mr m i = 51
    · rw [if_pos e, if_pos (show Int32.ofNat (opN c.Mr m i) = 51 by rw [e]; rfl), if_pos e]
    · have ne : ¬ Int32.ofNat (opN c.Mr m i) = 51 := by rw [o_eqR _ _ (by omega) (by decide)]; exact e
      rw [if_neg ne, if_neg e, if_neg e]
      rfl
