/-! U4 -/
set_option maxRecDepth 20000 in
set_option maxHeartbeats 4000000 in
/-- a thread that lives, seen as one at work -/
theorem Rn.md {c : Cx} {A : HG} {hp nb oc : Nat} {U W : Nat → Int32} {D : Int64} {T C : Nat → Nat} {n : Nat} {X : XS} {V M : MS} (r : Rn c A hp nb oc U W D T C n X V M) {t d m i : Nat} {S : FS} (ht : t < nb) (mt : MT c.Mr c.kc c.rc m S) (hs : S.1 i = true) (tp : TpR c.Mr A V M t d m i (S.2.2.2.1 i) (S.2.2.1 i) (S.2.2.2.2.1 i)) (lo : ∀ k, k < d → SuR c.Mr c.kc c.rc A V M t k) : Md ⟨c, A, hp, nb, oc, t, d, m, i, S, U, W, D⟩ T C n X V (mw M 60 89 (Int32.ofNat (20 * t + d))) (S.2.2.2.1 i) (S.2.2.1 i) (S.2.2.2.2.1 i) := by
  obtain ⟨r0, r1, r2, r3, r4, r5, r6, r7, r8⟩ := r
  have mr : ∀ a, a ≠ 60 → (mw M 60 89 (Int32.ofNat (20 * t + d))).1 a = M.1 a := fun a ha => mwr _ _ _ ha
  have m60 : ∀ f, f ≠ 89 → (mw M 60 89 (Int32.ofNat (20 * t + d))).1 60 f = M.1 60 f := fun f h1 => mwi _ _ _ h1
  refine ⟨r0, ?_, ⟨mt, hs⟩, ?_, ?_, ?_, ?_, ?_, ?_, ?_, ?_, ?_, r8⟩
  · intro a q hr
    rw [← r1 a q hr]
    by_cases e : a = 60
    · subst e; exact m60 q (by unfold RunM at hr; omega)
    · rw [mr a e]
  · obtain ⟨q0, q1, q2, q3, q4, q5, q6, q7, q8, q9, q10, q11, q12⟩ := tp
    refine ⟨q0, ?_, q2, ?_, ?_, ?_, q6, q7, q8, q9, q10.congr (fun s _ => rfl) (fun s _ => rfl) (fun s _ => by rw [mr 115 (by omega)]) (fun s _ => by rw [mr 116 (by omega)]), ?_, ?_⟩
    · rw [mr 109 (by omega)]; exact q1
    · rw [mr 112 (by omega)]; exact q3
    · rw [mr 113 (by omega)]; exact q4
    · rw [mr 114 (by omega)]; exact q5
    · rw [mr 110 (by omega)]; exact q11
    · rw [mr 111 (by omega)]; exact q12
  · intro q hq
    refine (lo q hq).congr (fun _ _ => rfl) (fun _ _ => rfl) rfl rfl rfl ?_ ?_ ?_ ?_ ?_ ?_
    · intro s _; rw [mr _ (by omega)]
    · intro s _; rw [mr _ (by omega)]
    · rw [mr _ (by omega)]
    · rw [mr _ (by omega)]
    · rw [mr _ (by omega)]
    · rw [mr _ (by omega)]
  · intro u hu _
    exact (r2 u hu).congr (fun j hj => rfl) (fun a h1 h2 => by rw [mr _ (by omega)]) (fun a q h1 h2 h3 => by rw [mr _ (by omega)]) (fun a s h1 h2 h3 => by rw [mr _ (by omega)])
  · exact r3.congr (fun a ha => rfl) (fun a h1 h2 _ _ => mr _ (by omega)) (fun f hf => m60 f (by omega))
  · exact r4.congr (fun a h1 h2 => rfl) (fun a h1 h2 => mr _ (by omega))
  · exact r5.congr (fun a h1 h2 => rfl) (fun a h1 h2 => mr _ (by omega)) (fun f hf => m60 f (by omega))
  · refine ⟨ht, r6.1, r6.2.1, ?_⟩
    rw [m60 61 (by omega)]; exact r6.2.2
  · rw [mw1, if_pos ⟨rfl, rfl⟩]
  · refine ⟨r7.1, r7.2.1, r7.2.2.1, fun f h1 h2 => ?_⟩
    rw [m60 f (by omega)]
    exact r7.2.2.2 f h1 h2
/-- a thread that may go on, ready for a step -/
def Gos (c : Cx) (A : HG) (V M : MS) (t : Nat) : Prop := ∃ d m i S, MT c.Mr c.kc c.rc m S ∧ S.1 i = true ∧ TpR c.Mr A V M t d m i (S.2.2.2.1 i) (S.2.2.1 i) (S.2.2.2.2.1 i) ∧ (∀ k, k < d → SuR c.Mr c.kc c.rc A V M t k) ∧ (opN c.Mr m i = 49 → ∀ v, v = M.1 115 (440 * t + (22 * d + 12 + (S.2.2.1 i - 1))) → ¬ v = 0 → M.1 125 v.toNatClampNeg = 0 ∨ M.1 124 v.toNatClampNeg = Int32.ofNat t)
set_option maxRecDepth 20000 in
set_option maxHeartbeats 4000000 in
/-- whether a thread may go on: the same on both sides -/
theorem canGo_ok {c : Cx} {A : HG} {hp nb oc : Nat} {U W : Nat → Int32} {D : Int64} {T C : Nat → Nat} {n : Nat} {X : XS} {V M : MS} (r : Rn c A hp nb oc U W D T C n X V M) (ok : c.Ok) {t : Nat} (ht : t < nb) : ∃ b : Bool, f_Engine_canGo (Int32.ofNat t) X = some b ∧ f_M_waits (Int32.ofNat t) M = some (if M.1 110 t = 0 then !b else false) ∧ (b = true → M.1 110 t = 0) ∧ (¬ M.1 110 t = 0 ∨ M.1 110 t = 0) ∧ (b = true → Gos c A V M t) := by
  have n6 := r.rv.no.1
  have hn := r.nb1.1
  obtain ⟨st1, st2, st3⟩ := isStr_ok r ht
  have cl : (Int32.ofNat t).toNatClampNeg = t := o_cl _ (by omega)
  have r0 := r.rv.rd (Lv_s (f := 0) (by omega) (by omega) : Lv n (600 + 16 * t))
  have ix6 : ixo (Int32.ofNat t) 6 := ixl (by omega) (by omega)
  rcases r.th t ht with ⟨d, m, i, S, mt, hs, tp, lo⟩ | ⟨d1, d2, d3, d4⟩
  · have md := r.md ht mt hs tp lo
    obtain ⟨f0, f1, f2, f3, f4, f5, f6, f7⟩ := ins_facts ok.1 mt hs
    have d20 := tp.d20
    obtain ⟨i1, i2, i3, i4, i5, i6⟩ := Jm.im (X := X) ⟨V, md⟩ ok
    have ob := op_at i1 i2 i3 i4
    have ob' : f_Image_at_51 (X.1 (C (600 + 16 * t)) 4) X = some (if opN c.Mr m i = 1 ∧ ¬ (-128 ≤ odI c.Mr m i ∧ odI c.Mr m i ≤ 127) then 61 else Int32.ofNat (opN c.Mr m i)) := by
      rw [r0, tp.v4]; exact ob
    have e89 : 20 * Int32.ofNat t + M.1 109 t - 1 = Int32.ofNat (20 * t + d) := by
      rw [tp.m109, o_mulL, o_add, o_subR _ 1 (show 1 ≤ OfNat.ofNat 20 * t + (d + 1) by show 1 ≤ 20 * t + (d + 1); omega)]
      rfl
    obtain ⟨om1, om2⟩ := opM_eq ok (M := M) (F := 20 * t + d) (m := m) (i := i) r.mf (by omega) f0 (by omega) tp.m112 tp.m113 f4
    have go : f_Engine_canGo (Int32.ofNat t) X = (f_Engine_waits (C (600 + 16 * t)) (Int32.ofNat t + 1) X).bind fun x9 => (if x9 = true then some false else some true) := by
      unfold f_Engine_canGo
      have e50 : X.2.1 50 (Int32.ofNat t).toNatClampNeg = some (C (600 + 16 * t)) := by rw [cl]; exact st2
      rw [if_pos st1, e50]
      show (if xT X (C (600 + 16 * t)) = some (14, 0) then (if ¬ X.1 (C (600 + 16 * t)) 0 = 0 then some false else _) else none) = _
      rw [if_pos st3, if_neg (by rw [r0]; exact fun q => q tp.al.2)]
      rfl
    by_cases c49 : opN c.Mr m i = 49
    · have ev : (if opN c.Mr m i = 1 ∧ ¬ (-128 ≤ odI c.Mr m i ∧ odI c.Mr m i ≤ 127) then 61 else Int32.ofNat (opN c.Mr m i)) = (49 : Int32) := by rw [if_neg (by omega), c49]; rfl
      rw [ev] at ob'
      obtain ⟨g', h', l', tr, _⟩ := f6.2
      rw [c49] at tr
      obtain ⟨hh, p1, p2⟩ := tr_def (by omega) (by omega) (by omega) (by omega) (by omega) (by omega) tr
      have tk : tkL 49 = [2] := by decide
      rw [tk] at p1
      obtain ⟨a, ea, ga, p1⟩ := popsK_cons p1
      have hle := tp.fr.le
      obtain ⟨x, v, k1, k2, k3⟩ := J_peek (X := X) ⟨V, md⟩ (q := 0) (by omega)
      have pk := pk_val (X := X) ⟨V, md⟩ (q := 0) (by omega)
      rw [k2] at pk
      injection pk with pk
      rw [mwr _ _ _ (show 115 ≠ 60 by omega), Nat.sub_zero] at pk
      have rr : RefR c.Mr A x v := k3.2 (by rw [ea, Nat.sub_zero, Nat.add_sub_cancel]; exact g1 ga (by decide))
      have k1' : f_Strand_peek (C (600 + 16 * t)) 0 X = some x := k1
      have ev' : M.1 115 (440 * t + (22 * d + 12 + (S.2.2.1 i - 1))) = v := pk.symm
      have ix : (22 * Int32.ofNat (20 * t + d) + 12 + Int32.ofNat (S.2.2.1 i) - 1 : Int32) = Int32.ofNat (440 * t + (22 * d + 12 + (S.2.2.1 i - 1))) := by
        rw [o_mulL, o_addR, o_add, o_subR _ 1 (show 1 ≤ OfNat.ofNat 22 * (20 * t + d) + OfNat.ofNat 12 + S.2.2.1 i by show 1 ≤ 22 * (20 * t + d) + 12 + S.2.2.1 i; omega)]
        congr 1
        show 22 * (20 * t + d) + 12 + S.2.2.1 i - 1 = _
        omega
      have cF : (Int32.ofNat (20 * t + d)).toNatClampNeg = 20 * t + d := o_cl _ (by omega)
      have c5 : (Int32.ofNat (440 * t + (22 * d + 12 + (S.2.2.1 i - 1)))).toNatClampNeg = 440 * t + (22 * d + 12 + (S.2.2.1 i - 1)) := o_cl _ (by omega)
      have mw' : f_M_waits (Int32.ofNat t) M = (if v ≤ 0 then some false else (if ixo v 1002 then (if M.1 125 v.toNatClampNeg ≤ 0 then some false else (if M.1 124 v.toNatClampNeg = Int32.ofNat t then some false else some true)) else none)) := by
        unfold f_M_waits
        rw [if_pos ix6, cl, if_pos (by rw [tp.al.1]; exact Int32.le_refl _), e89, om1, Option.bind_some, c49, if_pos (show Int32.ofNat 49 = 49 from rfl), if_pos (ixl (by omega) (by omega)), cF, tp.m114, ix, if_pos (ixl (by omega) (by omega)), c5, ev']
      have xw' : f_Engine_waits (C (600 + 16 * t)) (Int32.ofNat t + 1) X = (if ¬ x = 0 then ((f_Memory_ownerOf x X).bind fun x6 => (if x6 = 0 then some false else (if x6 = Int32.ofNat t + 1 then some false else some true))) else some false) := by
        unfold f_Engine_waits
        rw [if_pos st3, ob', Option.bind_some, if_pos rfl, k1', Option.bind_some]
      rcases RefR.cases (k := ⟨c, A, hp, nb, oc, t, d, m, i, S, U, W, D⟩) rr md.hr with ⟨n1, n2⟩ | ⟨q, hq, n1, n2, n3, n4, n5, n6', n7⟩
      · refine ⟨true, ?_, ?_, fun _ => tp.al.1, Or.inr tp.al.1, fun _ => ⟨d, m, i, S, mt, hs, tp, lo, fun _ v' hv hz => ?_⟩⟩
        · rw [go, xw', if_neg (fun w => w n1), Option.bind_some, if_neg (by decide)]
        · rw [mw', n2, if_pos (Int32.le_refl _), if_pos tp.al.1]; rfl
        · rw [hv, ev'] at hz; exact absurd n2 hz
      · have ob2 := md.hr.ob q hq
        obtain ⟨e, he, h125, hw2, hz0, hp0⟩ := ob2.mon
        rw [mwr _ _ _ (show 125 ≠ 60 by omega)] at h125
        have bd := md.hr.bd hq
        have wz := wz4 c.Mr (A.K q) (A.n q)
        have n1' : x = Int32.ofNat (adH c.Mr A q) := n1
        have n7' : v.toNatClampNeg = A.os q := n7
        have bd1 : adH c.Mr A q + wzK c.Mr (A.K q) (A.n q) ≤ 4001 := by
          obtain ⟨z1, z2, z3, z4⟩ := md.hr.N1000
          have := adH_mono c.Mr A A.N hq
          have z2' : adH c.Mr A A.N ≤ 4001 := z2
          omega
        have ow : f_Memory_ownerOf x X = some (V.1 4 (adH c.Mr A q + 1)) := by
          unfold f_Memory_ownerOf
          rw [n1', o_addR, word_eq md.rv (show adH c.Mr A q + OfNat.ofNat 1 < 4001 by show adH c.Mr A q + 1 < 4001; omega), Option.bind_some]
        rw [xw', if_pos n3, ow, Option.bind_some] at go
        rw [if_neg n5, if_pos n6', n7'] at mw'
        have h125' : M.1 125 (A.os q) = Int32.ofNat e := h125
        by_cases e0 : e = 0
        · subst e0
          have o0 : V.1 4 (adH c.Mr A q + 1) = 0 := hz0 rfl
          rw [o0, if_pos rfl, Option.bind_some, if_neg (by decide)] at go
          rw [h125', if_pos (by decide)] at mw'
          refine ⟨true, go, ?_, fun _ => tp.al.1, Or.inr tp.al.1, fun _ => ⟨d, m, i, S, mt, hs, tp, lo, fun _ v' hv hz => Or.inl ?_⟩⟩
          · rw [mw', if_pos tp.al.1]; rfl
          · rw [hv, ev', n7', h125']; rfl
        · obtain ⟨w, hw6, h124, hv1⟩ := hp0 (by omega)
          rw [mwr _ _ _ (show 124 ≠ 60 by omega)] at h124
          have h124' : M.1 124 (A.os q) = Int32.ofNat w := h124
          have hv1' : V.1 4 (adH c.Mr A q + 1) = Int32.ofNat (w + 1) := hv1
          rw [hv1', if_neg (by rw [o_eqR _ _ (by omega) (by decide)]; show ¬ w + 1 = 0; omega), o_addR] at go
          have ne0 : ¬ M.1 125 (A.os q) ≤ 0 := by rw [h125', o_leR _ _ (by omega) (by decide)]; show ¬ e ≤ 0; omega
          rw [if_neg ne0, h124'] at mw'
          by_cases ew : w = t
          · subst ew
            rw [if_pos rfl, Option.bind_some, if_neg (by decide)] at go
            rw [if_pos rfl] at mw'
            refine ⟨true, go, ?_, fun _ => tp.al.1, Or.inr tp.al.1, fun _ => ⟨d, m, i, S, mt, hs, tp, lo, fun _ v' hv hz => Or.inr ?_⟩⟩
            · rw [mw', if_pos tp.al.1]; rfl
            · rw [hv, ev', n7', h124']
          · have nn : ¬ Int32.ofNat (w + 1) = Int32.ofNat (t + OfNat.ofNat 1) := by
              rw [o_eq _ _ (by omega) (show t + 1 < 2147483648 by omega)]
              show ¬ w + 1 = t + 1
              omega
            rw [if_neg nn, Option.bind_some, if_pos rfl] at go
            rw [if_neg (by rw [o_eq _ _ (by omega) (by omega)]; exact ew)] at mw'
            refine ⟨false, go, ?_, (fun z => by cases z), Or.inr tp.al.1, (fun z => by cases z)⟩
            rw [mw', if_pos tp.al.1]; rfl
    · refine ⟨true, ?_, ?_, fun _ => tp.al.1, Or.inr tp.al.1, fun _ => ⟨d, m, i, S, mt, hs, tp, lo, fun z => absurd z c49⟩⟩
      · rw [go]
        have nb49 : ¬ (if opN c.Mr m i = 1 ∧ ¬ (-128 ≤ odI c.Mr m i ∧ odI c.Mr m i ≤ 127) then 61 else Int32.ofNat (opN c.Mr m i)) = (49 : Int32) := by
          split
          · decide
          · rw [o_eqR _ _ (by omega) (by decide)]; exact c49
        have xw' : f_Engine_waits (C (600 + 16 * t)) (Int32.ofNat t + 1) X = some false := by
          unfold f_Engine_waits
          rw [if_pos st3, ob', Option.bind_some, if_neg nb49]
        rw [xw', Option.bind_some, if_neg (by decide)]
      · unfold f_M_waits
        rw [if_pos ix6, cl, if_pos (by rw [tp.al.1]; exact Int32.le_refl _), e89, om1, Option.bind_some, if_neg (by rw [o_eqR _ _ (by omega) (by decide)]; exact c49), if_pos tp.al.1]
        rfl
  · have al : ¬ M.1 110 t = 0 ∧ ¬ M.1 110 t ≤ 0 ∧ ¬ V.1 (600 + 16 * t) 0 = 0 := by
      rcases d4 with z | z
      · rw [z.1, z.2]; decide
      · rw [z.1, z.2]; decide
    refine ⟨false, ?_, ?_, (fun z => by cases z), Or.inl al.1, (fun z => by cases z)⟩
    · unfold f_Engine_canGo
      have e50 : X.2.1 50 (Int32.ofNat t).toNatClampNeg = some (C (600 + 16 * t)) := by rw [cl]; exact st2
      rw [if_pos st1, e50]
      show (if xT X (C (600 + 16 * t)) = some (14, 0) then (if ¬ X.1 (C (600 + 16 * t)) 0 = 0 then some false else _) else none) = _
      rw [if_pos st3, if_pos (by rw [r0]; exact al.2.2)]
    · unfold f_M_waits
      rw [if_pos ix6, cl, if_neg al.2.1, if_neg al.1]
