/-! U7 -/
/-- a run between calls -/
def RnT (c : Cx) (hp B : Nat) (j : Int32) (X : XS) (M : MS) : Prop := ∃ A nb oc U W D T C n V, Rn c A hp nb oc U W D T C n X V M ∧ TuR nb U W (c.M0.1 60 58) ∧ D.toInt32 = U 0 + j ∧ oc ≤ B
def mL (xN N j : Nat) (M : MS) : Option (Int32 × Int32 × MS) := if j < xN then (f_M_turn M).bind fun x16 => lp (b27_M_run (Int32.ofNat xN)) N (Int32.ofNat j, x16.1, x16.2) else lp (b27_M_run (Int32.ofNat xN)) N (Int32.ofNat j, (-2), M)
theorem d64 (D : Int64) : (D + Int64.ofNat 1).toInt32 = D.toInt32 + 1 := by
  rw [Int64.toInt32_add]
  rfl
set_option maxRecDepth 20000 in
set_option maxHeartbeats 4000000 in
theorem goes_ok {c : Cx} (ok : c.Ok) {hp xN : Nat} (hx : xN ≤ 5000) : ∀ N j B X M, j ≤ xN → xN - j < N → B + (xN - j) < 2147483648 → RnT c hp B (Int32.ofNat j) X M → ∃ j' thr X' M', lp (b2_Turns_advance (Int32.ofNat xN)) N (Int32.ofNat j, X) = some (Int32.ofNat j', X') ∧ mL xN N j M = some (Int32.ofNat j', thr, M') ∧ RnT c hp (B + (xN - j)) (Int32.ofNat j') X' M' := by
  intro N
  induction N with
  | zero => intro j B X M h1 h2; omega
  | succ N ih =>
    intro j B X M h1 h2 hB rt
    by_cases e : j = xN
    · subst e
      refine ⟨j, -2, X, M, lp_inr ?_, ?_, ?_⟩
      · unfold b2_Turns_advance
        rw [if_pos (Int32.le_refl _)]
      · unfold mL
        rw [if_neg (by omega)]
        refine lp_inr ?_
        unfold b27_M_run
        rw [if_pos (show (-2 : Int32) < 0 by decide)]
      · obtain ⟨A, nb, oc, U, W, D, T, C, n, V, r, tu, hd, ho⟩ := rt
        exact ⟨A, nb, oc, U, W, D, T, C, n, V, r, tu, hd, by omega⟩
    · have hj : j < xN := by omega
      have c1 : ¬ Int32.ofNat xN ≤ Int32.ofNat j := by rw [o_le _ _ (by omega) (by omega)]; omega
      obtain ⟨A, nb, oc, U, W, D, T, C, n, V, r, tu, hd, ho⟩ := rt
      unfold mL
      rw [if_pos hj]
      rcases turn_ok r ok tu with ⟨m1, g1, g2⟩ | ⟨t, U', W', X1, V1, M1, ht, m1, gg, x2, r1, u2, u3, u4, u0, w2, w4, gos⟩
      · refine ⟨j, -2, X, M, lp_inr ?_, ?_, A, nb, oc, U, W, D, T, C, n, V, r, tu, hd, by omega⟩
        · unfold b2_Turns_advance
          dsimp only
          rw [if_neg c1, g1, Option.bind_some, if_neg (by decide), g2, Option.bind_some, if_neg (show ¬ false = true by decide)]
        · rw [m1, Option.bind_some]
          refine lp_inr ?_
          unfold b27_M_run
          rw [if_pos (show (-2 : Int32) < 0 by decide)]
      · obtain ⟨d, m, i, S, mt, hs, tp, lo, nw⟩ := gos
        have n6 := r1.rv.no.1
        have hn := r1.nb1.1
        obtain ⟨X2, s1, M2, s2, A', nb', oc', W2, T', C', n', V2, r2, o2, z1, z62, z64, z63, hnb⟩ := step_ok r1 ok ht mt hs tp lo (by omega) nw
        have e40 : X2.1 40 1 = (if opN c.Mr m i = 51 then 1 else 0) := by rw [r2.rv.rf (a := 40) (by unfold Fx; omega), r2.tu.2.2.1, z1]
        have e59 : X2.1 59 = U' := by rw [r2.rv.rf (a := 59) (by unfold Fx; omega)]; exact r2.tu.1
        have cls : b2_Turns_advance (Int32.ofNat xN) (Int32.ofNat j, X) = some (.inl (Int32.ofNat (j + 1), xw X2 59 3 (if opN c.Mr m i = 51 then 0 else U' 3 - 1))) := by
          have tail : ((f_Engine_step (X1.1 59 2) X1).bind fun x24 => (if x24.1 40 1 = 0 then (lt (xw x24 59 3 ((x24.1 59 3) - 1)) fun X26 => some (.inl (Int32.ofNat j + 1, X26))) else (lt (xw x24 59 3 0) fun X27 => some (.inl (Int32.ofNat j + 1, X27)))) : Option ((Int32 × XS) ⊕ (Int32 × XS))) = some (.inl (Int32.ofNat (j + 1), xw X2 59 3 (if opN c.Mr m i = 51 then 0 else U' 3 - 1))) := by
            rw [x2, s1, Option.bind_some, e40, e59, o_addR]
            by_cases e51 : opN c.Mr m i = 51
            · rw [if_pos e51, if_pos e51, if_neg (by decide)]
            · rw [if_neg e51, if_neg e51, if_pos rfl]
          unfold b2_Turns_advance
          dsimp only
          rw [if_neg c1]
          rcases gg with ⟨g1, g2⟩ | ⟨g1, g2⟩
          · subst g2
            rw [g1, Option.bind_some, if_pos rfl]
            exact tail
          · rw [g1, Option.bind_some, if_neg (by decide), g2, Option.bind_some, if_pos rfl]
            exact tail
        have rv3 := r2.rv.f (a := 59) (by unfold Fx; omega) 3 (if opN c.Mr m i = 51 then 0 else U' 3 - 1)
        have hv : ∀ a, a ≠ 1059 → (mw V2 (1000 + 59) 3 (if opN c.Mr m i = 51 then 0 else U' 3 - 1)).1 a = V2.1 a := fun a ha => mwr _ _ _ ha
        have r3 := r2.tn (M' := M2) rv3 hv (fun _ _ => rfl) (fun _ _ => rfl) rfl
        have eW := r2.tu.2.2.2
        have rt' : RnT c hp (B + 1) (Int32.ofNat (j + 1)) (xw X2 59 3 (if opN c.Mr m i = 51 then 0 else U' 3 - 1)) M2 := by
          refine ⟨A', nb', oc', _, _, _, T', C', n', _, r3, ⟨?_, tu.2.1, Or.inr ⟨t, by omega, ?_, ?_, ?_, ?_⟩⟩, ?_, by omega⟩
          · show (mw V2 1059 3 _).1 1059 4 = _
            rw [mwi _ _ _ (by omega), r2.tu.1, u4]; exact tu.1
          · show (mw V2 1059 3 _).1 1059 2 = _
            rw [mwi _ _ _ (by omega), r2.tu.1]; exact u2
          · show (if (62 : Nat) = 1 then W2 1 else M2.1 60 62) = _
            rw [if_neg (by omega), eW 62 (by omega) (by omega), z62]; exact w2
          · show (if (64 : Nat) = 1 then W2 1 else M2.1 60 64) = _
            rw [if_neg (by omega), eW 64 (by omega) (by omega), z64]; exact w4
          · show (mw V2 1059 3 _).1 1059 3 = (if (63 : Nat) = 1 then W2 1 else M2.1 60 63)
            rw [mw1, if_pos ⟨rfl, rfl⟩, if_neg (show ¬ (63 : Nat) = 1 by omega), eW 63 (by omega) (by omega), z63, u3]
          · show (D + Int64.ofNat 1).toInt32 = (mw V2 1059 3 _).1 1059 0 + Int32.ofNat (j + 1)
            rw [d64, mwi _ _ _ (by omega), r2.tu.1, u0, hd, ← o_addR, Int32.add_assoc]
        obtain ⟨j', thr, X', M', q1, q2, q3⟩ := ih (j + 1) (B + 1) _ _ (by omega) (by omega) (by omega) rt'
        refine ⟨j', thr, X', M', ?_, ?_, ?_⟩
        · rw [lp_inl cls]; exact q1
        · rw [m1, Option.bind_some]
          have nt : ¬ Int32.ofNat t < 0 := by rw [o_lt0 _ (by omega)]; exact fun q => q
          unfold mL at q2
          by_cases c2 : j + 1 < xN
          · rw [if_pos c2] at q2
            cases et : f_M_turn M2 with
            | none => rw [et] at q2; cases q2
            | some z =>
              rw [et, Option.bind_some] at q2
              have st : b27_M_run (Int32.ofNat xN) (Int32.ofNat j, Int32.ofNat t, M1) = some (.inl (Int32.ofNat (j + 1), z.1, z.2)) := by
                unfold b27_M_run
                dsimp only
                rw [if_neg nt, if_neg c1, s2, Option.bind_some, o_addR, if_neg (by rw [o_le _ _ (by omega) (show j + 1 < 2147483648 by omega)]; show ¬ xN ≤ j + 1; omega), et, Option.bind_some]
              dsimp only
              rw [lp_inl st]
              exact q2
          · rw [if_neg c2] at q2
            have st : b27_M_run (Int32.ofNat xN) (Int32.ofNat j, Int32.ofNat t, M1) = some (.inl (Int32.ofNat (j + 1), (-2), M2)) := by
              unfold b27_M_run
              dsimp only
              rw [if_neg nt, if_neg c1, s2, Option.bind_some, o_addR, if_pos (by rw [o_le _ _ (by omega) (show j + 1 < 2147483648 by omega)]; show xN ≤ j + 1; omega)]
            dsimp only
            rw [lp_inl st]
            exact q2
        · have e : B + 1 + (xN - (j + 1)) = B + (xN - j) := by omega
          rw [e] at q3
          exact q3
set_option maxRecDepth 20000 in
set_option maxHeartbeats 4000000 in
/-- running -/
theorem run_ok {c : Cx} (ok : c.Ok) {hp B : Nat} {X : XS} {M : MS} (rt : RnT c hp B 0 X M) (hB : B + 5000 < 2147483648) (e57 : ¬ M.1 60 57 = 0) (e40 : ¬ X.1 40 0 = 0) (x : Int32) : Wo (f_P_run x X) (fun o => Wo (f_M_run x M) (fun p => p.1 = o.1 ∧ RnT c hp (B + 5000) 0 o.2 p.2)) := by
  unfold f_P_run f_M_run
  rw [if_neg e40, if_neg e57]
  by_cases cx : 1 ≤ x ∧ x ≤ 5000
  · rw [if_pos cx, if_pos cx]
    have x0 : 0 ≤ x := Int32.le_trans (by decide) cx.1
    have cI := clampI x x0
    have l1 := Int32.le_iff_toInt_le.mp cx.1
    have l2 := Int32.le_iff_toInt_le.mp cx.2
    have e1 : (1 : Int32).toInt = 1 := by decide
    have e2 : (5000 : Int32).toInt = 5000 := by decide
    rw [e1] at l1
    rw [e2] at l2
    have ex : x = Int32.ofNat x.toNatClampNeg := by rw [← Int32.toInt_inj, oi _ (by omega)]; exact cI.symm
    generalize hxn : x.toNatClampNeg = xN at *
    have b1 : 1 ≤ xN := by omega
    have b2 : xN ≤ 5000 := by omega
    subst ex
    obtain ⟨j', thr, X', M', q1, q2, q3⟩ := goes_ok ok (xN := xN) b2 10000 0 B X M (by omega) (by omega) (by omega) rt
    unfold mL at q2
    rw [if_pos (by omega)] at q2
    unfold f_Turns_advance
    have q1' : lp (b2_Turns_advance (Int32.ofNat xN)) 10000 ((0 : Int32), X) = some (Int32.ofNat j', X') := q1
    rw [q1', Option.bind_some]
    dsimp only [lt]
    rw [Option.bind_some]
    have q2' : ((f_M_turn M).bind fun x16 => lp (b27_M_run (Int32.ofNat xN)) 10000 ((0 : Int32), x16.1, x16.2)) = some (Int32.ofNat j', thr, M') := q2
    cases et : f_M_turn M with
    | none => rw [et] at q2'; cases q2'
    | some z =>
      rw [et, Option.bind_some] at q2'
      rw [Option.bind_some, q2', Option.bind_some]
      refine W_some.mpr (W_some.mpr ⟨rfl, ?_⟩)
      obtain ⟨A, nb, oc, U, W, D, T, C, n, V, r, tu, hd, ho⟩ := q3
      have e59 : X'.1 59 = U := by rw [r.rv.rf (a := 59) (by unfold Fx; omega)]; exact r.tu.1
      have rv3 := r.rv.f (a := 59) (by unfold Fx; omega) 0 (X'.1 59 0 + Int32.ofNat j')
      have r3 := r.tn (M' := M') rv3 (fun a ha => mwr _ _ _ ha) (fun _ _ => rfl) (fun _ _ => rfl) rfl
      have eW := r.tu.2.2.2
      have w : ∀ f, f ≠ 0 → (mw V (1000 + 59) 0 (X'.1 59 0 + Int32.ofNat j')).1 1059 f = U f := fun f hf => by
        rw [mwi _ _ _ hf, r.tu.1]
      have ww : ∀ f, 62 ≤ f → f ≤ 64 → (if f = 1 then W 1 else M'.1 60 f) = W f := fun f h1 h2 => by rw [if_neg (by omega), eW f h1 h2]
      refine ⟨A, nb, oc, _, _, _, T, C, n, _, r3, ⟨?_, tu.2.1, ?_⟩, ?_, by omega⟩
      · rw [w 4 (by omega)]; exact tu.1
      · rcases tu.2.2 with ⟨u1, u2, u3, u4, u5, u6⟩ | ⟨cur, hc, u2, u4, u6, u3⟩
        · refine Or.inl ⟨u1, by rw [w 2 (by omega)]; exact u2, by rw [w 3 (by omega)]; exact u3, ?_, ?_, ?_⟩
          · exact (ww 62 (by omega) (by omega)).trans u4
          · exact (ww 63 (by omega) (by omega)).trans u5
          · exact (ww 64 (by omega) (by omega)).trans u6
        · refine Or.inr ⟨cur, hc, by rw [w 2 (by omega)]; exact u2, ?_, ?_, ?_⟩
          · exact (ww 62 (by omega) (by omega)).trans u4
          · exact (ww 64 (by omega) (by omega)).trans u6
          · rw [w 3 (by omega)]; exact u3.trans (ww 63 (by omega) (by omega)).symm
      · show D.toInt32 = (mw V 1059 0 (X'.1 59 0 + Int32.ofNat j')).1 1059 0 + 0
        rw [mw1, if_pos ⟨rfl, rfl⟩, e59, Int32.add_zero]
        exact hd
  · rw [if_neg cx, if_neg cx]
    refine W_some.mpr (W_some.mpr ⟨rfl, ?_⟩)
    obtain ⟨A, nb, oc, U, W, D, T, C, n, V, r, tu, hd, ho⟩ := rt
    exact ⟨A, nb, oc, U, W, D, T, C, n, V, r, tu, hd, by omega⟩
