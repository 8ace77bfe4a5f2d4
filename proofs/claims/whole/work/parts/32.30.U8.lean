/-! U8 -/
set_option maxRecDepth 20000 in
set_option maxHeartbeats 4000000 in
theorem nat_le {x : Int32} {b : Nat} (hb : b < 2147483648) (h1 : 0 ≤ x) (h2 : x ≤ Int32.ofNat b) : ∃ n, x = Int32.ofNat n ∧ n ≤ b := by
  have c := clampI x h1
  have l := Int32.le_iff_toInt_le.mp h2
  rw [oi b hb] at l
  refine ⟨x.toNatClampNeg, ?_, by omega⟩
  rw [← Int32.toInt_inj, oi _ (by omega)]
  exact c.symm
set_option maxRecDepth 20000 in
set_option maxHeartbeats 4000000 in
theorem thread_ok {c : Cx} (ok : c.Ok) {A : HG} {hp nb oc : Nat} {U W : Nat → Int32} {D : Int64} {T C : Nat → Nat} {n : Nat} {X : XS} {V M : MS} (r : Rn c A hp nb oc U W D T C n X V M) (e57 : ¬ M.1 60 57 = 0) (x y : Int32) : ∃ v, f_P_thread x y X = some v ∧ f_M_thread x y M = some v := by
  have n6 := r.rv.no.1
  have hn := r.nb1.1
  have e61 := r.nb1.2.2
  have e2 : X.1 40 2 = Int32.ofNat nb := by rw [r.rv.rf (a := 40) (by unfold Fx; omega)]; exact r.nb1.2.1
  unfold f_P_thread f_Engine_tellThread f_M_thread
  rw [if_neg e57, e61]
  by_cases cx : 0 ≤ x ∧ x ≤ Int32.ofNat nb - 1
  · have nb0 : 0 < nb := by
      apply Classical.byContradiction
      intro q
      have : nb = 0 := by omega
      subst this
      have h := Int32.le_trans cx.1 cx.2
      exact absurd h (by decide)
    have cx2 := cx.2
    rw [o_subR _ 1 (show 1 ≤ nb by omega)] at cx2
    obtain ⟨t, et, ht⟩ := nat_le (b := nb - OfNat.ofNat 1) (show nb - 1 < 2147483648 by omega) cx.1 cx2
    have ht' : t ≤ nb - 1 := ht
    have htn : t < nb := by omega
    obtain ⟨st1, st2, st3⟩ := isStr_ok r htn
    have cl : (Int32.ofNat t).toNatClampNeg = t := o_cl _ (by omega)
    have r0 := r.rv.rd (Lv_s (f := 0) (by omega) (by omega) : Lv n (600 + 16 * t))
    have ix6 : ixo (Int32.ofNat t) 6 := ixl (by omega) (by omega)
    subst et
    rw [if_pos cx, if_pos st1]
    have e50 : X.2.1 50 (Int32.ofNat t).toNatClampNeg = some (C (600 + 16 * t)) := by rw [cl]; exact st2
    rw [e50, if_pos ix6, if_pos ix6, if_pos ix6, cl]
    show ∃ v, ((if y = 0 then (if xT X (C (600 + 16 * t)) = some (14, 0) then (if ¬ X.1 (C (600 + 16 * t)) 0 = 0 then (if ¬ X.1 (C (600 + 16 * t)) 0 = 1 then some 3 else some 2) else ((f_Engine_waits (C (600 + 16 * t)) (Int32.ofNat t + 1) X).bind fun x12 => (if x12 = true then some 1 else some 0))) else none) else (if y = 1 then (if xT X (C (600 + 16 * t)) = some (14, 0) then some (X.1 (C (600 + 16 * t)) 2) else none) else (if y = 2 then (if xT X (C (600 + 16 * t)) = some (14, 0) then some (X.1 (C (600 + 16 * t)) 1) else none) else some (-1)))).bind fun x1 => some x1) = some v ∧ _
    rw [if_pos st3, if_pos st3, if_pos st3, bdi, r0]
    have th : (M.1 109 t = V.1 (600 + 16 * t) 2 ∧ M.1 111 t = V.1 (600 + 16 * t) 1) ∧ ((M.1 110 t = 0 ∧ V.1 (600 + 16 * t) 0 = 0) ∨ (M.1 110 t = 2 ∧ V.1 (600 + 16 * t) 0 = 1) ∨ (M.1 110 t = 3 ∧ V.1 (600 + 16 * t) 0 = 2)) := by
      rcases r.th t htn with ⟨d, m, i, S, mt, hs, tp, lo⟩ | ⟨d1, d2, d3, d4⟩
      · exact ⟨⟨by rw [tp.m109, tp.v2], by rw [tp.fl.1, tp.fl.2]⟩, Or.inl tp.al⟩
      · exact ⟨⟨by rw [d1, d2], d3⟩, Or.inr d4⟩
    obtain ⟨⟨t1, t2⟩, t3⟩ := th
    by_cases y0 : y = 0
    · subst y0
      rw [if_pos rfl, if_pos (show (0 : Int32) ≤ 0 ∧ (0 : Int32) ≤ 2 by decide), if_neg (show ¬ ¬ (0 : Int32) = 0 from fun q => q rfl)]
      rcases t3 with ⟨a1, a2⟩ | ⟨a1, a2⟩ | ⟨a1, a2⟩
      · obtain ⟨b, g1, g2, g3, g4, g5⟩ := canGo_ok r ok htn
        rw [if_pos a1] at g2
        have xw' : f_Engine_waits (C (600 + 16 * t)) (Int32.ofNat t + 1) X = some (!b) := by
          unfold f_Engine_canGo at g1
          rw [if_pos st1, e50] at g1
          have g1' : (if xT X (C (600 + 16 * t)) = some (14, 0) then (if ¬ X.1 (C (600 + 16 * t)) 0 = 0 then some false else ((f_Engine_waits (C (600 + 16 * t)) (Int32.ofNat t + 1) X).bind fun x9 => (if x9 = true then some false else some true))) else none) = some b := g1
          rw [if_pos st3, r0, if_neg (fun q => q a2)] at g1'
          cases ew : f_Engine_waits (C (600 + 16 * t)) (Int32.ofNat t + 1) X with
          | none => rw [ew] at g1'; cases g1'
          | some w =>
            rw [ew, Option.bind_some] at g1'
            cases w <;> cases b <;> first | rfl | (cases g1')
        rw [if_neg (fun q => q a2), xw', Option.bind_some, if_pos (show M.1 110 t ≤ 0 by rw [a1]; exact Int32.le_refl _), g2, Option.bind_some]
        cases b
        · exact ⟨1, rfl, rfl⟩
        · exact ⟨0, rfl, rfl⟩
      · rw [a2, if_pos (by decide), if_neg (by decide), a1, if_neg (by decide)]
        exact ⟨2, rfl, rfl⟩
      · rw [a2, if_pos (by decide), if_pos (by decide), a1, if_neg (by decide)]
        exact ⟨3, rfl, rfl⟩
    · by_cases y1 : y = 1
      · subst y1
        rw [if_neg (by decide), if_pos rfl, if_pos (show (0 : Int32) ≤ 1 ∧ (1 : Int32) ≤ 2 by decide), if_pos (by decide), if_neg (by decide), t1]
        exact ⟨_, rfl, rfl⟩
      · by_cases y2 : y = 2
        · subst y2
          rw [if_neg (by decide), if_neg (by decide), if_pos rfl, if_pos (show (0 : Int32) ≤ 2 ∧ (2 : Int32) ≤ 2 by decide), if_pos (by decide), if_pos (by decide), t2]
          exact ⟨_, rfl, rfl⟩
        · have ny : ¬ (0 ≤ y ∧ y ≤ 2) := by
            intro q
            obtain ⟨k, ek, hk⟩ := nat_le (b := 2) (by omega) q.1 q.2
            subst ek
            rcases (show k = 0 ∨ k = 1 ∨ k = 2 by omega) with e | e | e <;> subst e
            · exact y0 rfl
            · exact y1 rfl
            · exact y2 rfl
          rw [if_neg y0, if_neg y1, if_neg y2, if_neg ny]
          exact ⟨_, rfl, rfl⟩
  · have ns : f_Engine_isStrand x X = false := by
      unfold f_Engine_isStrand
      by_cases c1 : x < 0
      · rw [if_pos c1]
      · rw [if_neg c1, e2]
        have c1' : 0 ≤ x := Int32.not_lt.mp c1
        by_cases c2 : Int32.ofNat nb ≤ x
        · rw [if_pos c2]
        · exfalso
          apply cx
          refine ⟨c1', ?_⟩
          have c2' := Int32.lt_iff_toInt_lt.mp (Int32.not_le.mp c2)
          rw [oi _ (by omega)] at c2'
          have c3 := clampI x c1'
          rw [o_subR _ 1 (show 1 ≤ nb by omega), Int32.le_iff_toInt_le, oi _ (show nb - 1 < 2147483648 by omega)]
          show x.toInt ≤ ((nb - 1 : Nat) : Int)
          omega
    rw [if_neg cx, ns, if_neg (by decide)]
    exact ⟨_, rfl, rfl⟩
set_option maxRecDepth 20000 in
set_option maxHeartbeats 4000000 in
theorem out_ok {oc : Nat} {V M : MS} {X : XS} (pr : PoR oc V M) (h7 : X.1 47 = V.1 1047) (h9 : X.1 49 = V.1 1049) (ho : oc < 2147483648) (x : Int32) : f_P_out x X = f_M_out x M := by
  obtain ⟨L, nx, p1, p2, p3, p4, p5, p6, p7, p8, p9⟩ := pr
  unfold f_P_out f_Ports_sent f_M_out
  rw [h7, h9, p7, p8]
  by_cases c1 : x < 0
  · rw [if_pos c1, if_pos c1]
  · rw [if_neg c1, if_neg c1]
    by_cases c2 : Int32.ofNat oc ≤ x
    · rw [if_pos c2, if_pos c2]
    · rw [if_neg c2, if_neg c2]
      by_cases c3 : 300 ≤ x
      · rw [if_pos c3, if_pos c3]
      · rw [if_neg c3, if_neg c3]
        have c := clampI x (Int32.not_lt.mp c1)
        have l2 := Int32.lt_iff_toInt_lt.mp (Int32.not_le.mp c2)
        have l3 := Int32.lt_iff_toInt_lt.mp (Int32.not_le.mp c3)
        rw [oi _ ho] at l2
        have e : (300 : Int32).toInt = 300 := by decide
        rw [e] at l3
        exact p9 _ (by omega) (by omega)
set_option maxRecDepth 20000 in
set_option maxHeartbeats 4000000 in
theorem input_ok {c : Cx} {A : HG} {hp nb oc : Nat} {U W : Nat → Int32} {D : Int64} {T C : Nat → Nat} {n : Nat} {X : XS} {V M : MS} (r : Rn c A hp nb oc U W D T C n X V M) (e57 : ¬ M.1 60 57 = 0) (x : Int32) : ∃ b X' V' M', f_P_input x X = some (b, X') ∧ f_M_input x M = some (b, M') ∧ Rn c A hp nb oc U W D T C n X' V' M' := by
  have e40 : ¬ X.1 40 0 = 0 := by rw [r.rv.rf (a := 40) (by unfold Fx; omega), r.tu.2.1]; decide
  have h7 : X.1 47 = V.1 1047 := r.rv.rf (a := 47) (by unfold Fx; omega)
  obtain ⟨L, nx, p1, p2, p3, p4, p5, p6, p7, p8, p9⟩ := r.pr
  unfold f_P_input f_M_input f_Ports_offer
  rw [if_neg e40, if_neg e57, h7, p3, p4, p5]
  by_cases cL : L = 100
  · subst cL
    rw [if_neg (show ¬ Int32.ofNat 100 < 100 by decide), if_neg (show ¬ ¬ Int32.ofNat 100 = 100 from fun q => q rfl), Option.bind_some, if_neg (show ¬ false = true by decide)]
    exact ⟨false, X, V, M, rfl, rfl, r⟩
  · have l100 : L < 100 := by omega
    rw [if_pos (show Int32.ofNat L < 100 by rw [o_ltR _ _ (by omega) (by decide)]; exact l100), if_pos (show ¬ Int32.ofNat L = 100 by rw [o_eqR _ _ (by omega) (by decide)]; exact cL), if_pos (ixl l100 (by omega)), o_cl _ (by omega)]
    have sl : (if 100 ≤ Int32.ofNat nx + Int32.ofNat L then some (Int32.ofNat nx + Int32.ofNat L - 100) else some (Int32.ofNat nx + Int32.ofNat L) : Option Int32) = some (Int32.ofNat ((nx + L) % 100)) := by
      rw [o_add]
      by_cases c : 100 ≤ nx + L
      · rw [if_pos (by rw [o_leL _ _ (by decide) (by omega)]; exact c), o_subR _ 100 (show 100 ≤ nx + L from c)]
        congr 2
        show nx + L - 100 = _
        omega
      · rw [if_neg (by rw [o_leL _ _ (by decide) (by omega)]; exact c)]
        congr 2
        omega
    have ml : (nx + L) % 100 < 100 := Nat.mod_lt _ (by omega)
    have rg : (0 : Int32) ≤ Int32.ofNat ((nx + L) % 100) ∧ Int32.ofNat ((nx + L) % 100) ≤ 99 := by
      rw [o_0le _ (by omega), o_leR _ _ (by omega) (by decide)]
      exact ⟨trivial, by show (nx + L) % 100 ≤ 99; omega⟩
    rw [sl, Option.bind_some, if_pos rg, o_cl _ (by omega)]
    dsimp only [lt]
    rw [Option.bind_some, if_pos rfl]
    have e7 : (xw X 48 ((nx + L) % 100) x).1 47 0 = Int32.ofNat L := by
      show X.1 47 0 = _
      rw [h7, p3]
    have m7 : (mw M 119 L x).1 60 76 = Int32.ofNat L := by rw [mwr _ _ _ (by omega)]; exact p4
    rw [e7, m7, o_addR]
    have rv' := (r.rv.f (a := 48) (by unfold Fx; omega) ((nx + L) % 100) x).f (a := 47) (by unfold Fx; omega) 0 (Int32.ofNat (L + OfNat.ofNat 1))
    have hv : ∀ a, a ≠ 1047 → a ≠ 1048 → (mw (mw V (1000 + 48) ((nx + L) % 100) x) (1000 + 47) 0 (Int32.ofNat (L + OfNat.ofNat 1))).1 a = V.1 a := fun a h1 h2 => by rw [mwr _ _ _ h1, mwr _ _ _ h2]
    have hm : ∀ a, a ≠ 60 → a ≠ 119 → (mw (mw M 119 L x) 60 76 (Int32.ofNat (L + OfNat.ofNat 1))).1 a = M.1 a := fun a h1 h2 => by rw [mwr _ _ _ h1, mwr _ _ _ h2]
    have h60 : ∀ f, f ≠ 76 → (mw (mw M 119 L x) 60 76 (Int32.ofNat (L + OfNat.ofNat 1))).1 60 f = M.1 60 f := fun f hf => by rw [mwi _ _ _ hf, mwr _ _ _ (by omega)]
    obtain ⟨r0, r1, r2, r3, r4, r5, r6, r7, r8⟩ := r
    refine ⟨true, _, _, _, rfl, rfl, rv', ?_, ?_, ?_, ?_, ?_, ?_, ?_, r8⟩
    · intro a q hr
      rw [← r1 a q hr]
      by_cases e : a = 60
      · subst e; exact h60 q (by unfold RunM at hr; omega)
      · rw [hm a e (by unfold RunM at hr; omega)]
    · intro u hu
      have n6 := r0.no.1
      have hn := r6.1
      exact (r2 u hu).congr (fun j hj => hv _ (by omega) (by omega)) (fun a h1 h2 => by rw [hm _ (by omega) (by omega)]) (fun a q h1 h2 h3 => by rw [hm _ (by omega) (by omega)]) (fun a s h1 h2 h3 => by rw [hm _ (by omega) (by omega)])
    · exact r3.congr (fun a ha => hv _ (by omega) (by omega)) (fun a h1 h2 _ _ => hm _ (by omega) (by omega)) (fun f hf => h60 f (by omega))
    · exact r4.congr (fun a h1 h2 => hv _ (by omega) (by omega)) (fun a h1 h2 => hm _ (by omega) (by omega))
    · refine ⟨L + 1, nx, by omega, p2, ?_, ?_, ?_, ?_, ?_, ?_, ?_⟩
      · rw [mw1, if_pos ⟨rfl, rfl⟩]
      · rw [mw1, if_pos ⟨rfl, rfl⟩]
      · rw [mwi _ _ _ (by omega), mwr _ _ _ (by omega)]; exact p5
      · intro j hj
        rw [mwr _ _ _ (by omega), mwr _ _ _ (show 119 ≠ 60 by omega), mw1, mw1]
        by_cases e : j = L
        · subst e
          rw [if_pos ⟨rfl, rfl⟩, if_pos ⟨rfl, rfl⟩]
        · rw [if_neg (fun q => e (by have := q.2; omega)), if_neg (fun q => e q.2)]
          exact p6 j (by omega)
      · rw [mwi _ _ _ (by omega), mwr _ _ _ (by omega)]; exact p7
      · rw [mwi _ _ _ (by omega), mwr _ _ _ (by omega)]; exact p8
      · rw [hv _ (by omega) (by omega), hm _ (by omega) (by omega)]; exact p9
    · rw [hv 1040 (by omega) (by omega), h60 61 (by omega)]; exact r6
    · rw [hv 1059 (by omega) (by omega), hv 1040 (by omega) (by omega)]
      exact ⟨r7.1, r7.2.1, r7.2.2.1, fun f h1 h2 => by rw [h60 f (by omega)]; exact r7.2.2.2 f h1 h2⟩
