/-! U6 -/
set_option maxRecDepth 20000 in
set_option maxHeartbeats 4000000 in
/-- only whose turn it is has changed -/
theorem Rn.tn {c : Cx} {A : HG} {hp nb oc : Nat} {U W : Nat → Int32} {D : Int64} {T C : Nat → Nat} {n : Nat} {X X' : XS} {V M V' M' : MS} (r : Rn c A hp nb oc U W D T C n X V M) (rv' : RV c.X0 c.T0 X' T C n V') (hv : ∀ a, a ≠ 1059 → V'.1 a = V.1 a) (hm : ∀ a, a ≠ 60 → M'.1 a = M.1 a) (h60 : ∀ f, ¬ (62 ≤ f ∧ f ≤ 64) → M'.1 60 f = M.1 60 f) (d2 : M'.2 = M.2) : Rn c A hp nb oc (V'.1 1059) (fun f => if f = 1 then W 1 else M'.1 60 f) D T C n X' V' M' := by
  obtain ⟨r0, r1, r2, r3, r4, r5, r6, r7, r8⟩ := r
  refine ⟨rv', ?_, ?_, ?_, ?_, ?_, ?_, ?_, by rw [d2]; exact r8⟩
  · intro a q hr
    rw [← r1 a q hr]
    by_cases e : a = 60
    · subst e; exact h60 q (by unfold RunM at hr; omega)
    · rw [hm a e]
  · intro u hu
    have n6 := r0.no.1
    have hn := r6.1
    exact (r2 u hu).congr (fun j hj => hv _ (by omega)) (fun a h1 h2 => by rw [hm _ (by omega)]) (fun a q h1 h2 h3 => by rw [hm _ (by omega)]) (fun a s h1 h2 h3 => by rw [hm _ (by omega)])
  · exact r3.congr (fun a ha => hv _ (by omega)) (fun a h1 h2 _ _ => hm _ (by omega)) (fun f hf => h60 f (by omega))
  · exact r4.congr (fun a h1 h2 => hv _ (by omega)) (fun a h1 h2 => hm _ (by omega))
  · exact r5.congr (fun a h1 h2 => hv _ (by omega)) (fun a h1 h2 => hm _ (by omega)) (fun f hf => h60 f (by omega))
  · rw [hv 1040 (by omega), h60 61 (by omega)]; exact r6
  · refine ⟨rfl, ?_, ?_, fun f h1 h2 => ?_⟩
    · rw [hv 1040 (by omega)]; exact r7.2.1
    · rw [hv 1040 (by omega)]; exact r7.2.2.1
    · exact (if_neg (by omega) : (if f = 1 then W 1 else M'.1 60 f) = M'.1 60 f).symm
set_option maxRecDepth 20000 in
set_option maxHeartbeats 4000000 in
theorem Gos.congr {c : Cx} {A : HG} {V M V' M' : MS} {t : Nat} (ht : t < 6) (g : Gos c A V M t) (hv : ∀ a, a < 700 → V'.1 a = V.1 a) (hm : ∀ a, a ≠ 60 → M'.1 a = M.1 a) : Gos c A V' M' t := by
  obtain ⟨d, m, i, S, mt, hs, tp, lo, nw⟩ := g
  have d20 := tp.d20
  refine ⟨d, m, i, S, mt, hs, ?_, ?_, ?_⟩
  · refine tp.hp (hv _ (by omega)) (hv _ (by omega)) (fun a h1 h2 => hm a (by omega)) (hm 116 (by omega)) (fun s _ h => h.congr ?_ ?_ ?_ ?_)
    · rw [hv _ (by omega)]
    · rw [hv _ (by omega)]
    · rw [hm _ (by omega)]
    · rw [hm _ (by omega)]
  · intro k hk
    refine (lo k hk).congr ?_ ?_ ?_ ?_ ?_ ?_ ?_ ?_ ?_ ?_ ?_
    · intro s _; rw [hv _ (by omega)]
    · intro s _; rw [hv _ (by omega)]
    · rw [hv _ (by omega)]
    · rw [hv _ (by omega)]
    · rw [hv _ (by omega)]
    · intro s _; rw [hm _ (by omega)]
    · intro s _; rw [hm _ (by omega)]
    · rw [hm _ (by omega)]
    · rw [hm _ (by omega)]
    · rw [hm _ (by omega)]
    · rw [hm _ (by omega)]
  · rw [hm 115 (by omega), hm 125 (by omega), hm 124 (by omega)]
    exact nw
/-- whose turn it is, on both sides -/
def TuR (nb : Nat) (U W : Nat → Int32) (q : Int32) : Prop := U 4 = q ∧ 0 < q ∧ ((nb = 1 ∧ U 2 = 0 ∧ U 3 = q ∧ W 62 = -2 ∧ W 63 = 0 ∧ W 64 = -1) ∨ ∃ cur, cur < nb ∧ U 2 = Int32.ofNat cur ∧ W 62 = Int32.ofNat cur ∧ W 64 = Int32.ofNat cur ∧ U 3 = W 63)
set_option maxRecDepth 20000 in
set_option maxHeartbeats 4000000 in
theorem turn_ok {c : Cx} {A : HG} {hp nb oc : Nat} {U W : Nat → Int32} {D : Int64} {T C : Nat → Nat} {n : Nat} {X : XS} {V M : MS} (r : Rn c A hp nb oc U W D T C n X V M) (ok : c.Ok) (tu : TuR nb U W (c.M0.1 60 58)) : (f_M_turn M = some (-2, M) ∧ f_Turns_goesOn X = some false ∧ f_Turns_beginNext X = some (false, X)) ∨ ∃ t U' W' X' V' M', t < nb ∧ f_M_turn M = some (Int32.ofNat t, M') ∧ ((f_Turns_goesOn X = some true ∧ X' = X) ∨ (f_Turns_goesOn X = some false ∧ f_Turns_beginNext X = some (true, X'))) ∧ X'.1 59 2 = Int32.ofNat t ∧ Rn c A hp nb oc U' W' D T C n X' V' M' ∧ U' 2 = Int32.ofNat t ∧ U' 3 = W' 63 ∧ U' 4 = U 4 ∧ U' 0 = U 0 ∧ W' 62 = Int32.ofNat t ∧ W' 64 = Int32.ofNat t ∧ Gos c A V' M' t := by
  obtain ⟨t1, t2, t3⟩ := tu
  have n6 := r.rv.no.1
  have hn := r.nb1.1
  have e59 : X.1 59 = U := by rw [r.rv.rf (a := 59) (by unfold Fx; omega)]; exact r.tu.1
  have e58 : M.1 60 58 = c.M0.1 60 58 := r.mf 60 58 (by unfold RunM; omega)
  have eW := r.tu.2.2.2
  have fnd : ∀ t, t < nb → Gos c A V M t → ∃ U' W' V', (X9 X t).1 59 2 = Int32.ofNat t ∧ Rn c A hp nb oc U' W' D T C n (X9 X t) V' (M13 M t) ∧ U' 2 = Int32.ofNat t ∧ U' 3 = W' 63 ∧ U' 4 = U 4 ∧ U' 0 = U 0 ∧ W' 62 = Int32.ofNat t ∧ W' 64 = Int32.ofNat t ∧ Gos c A V' (M13 M t) t := by
    intro t ht g
    have rv' := (r.rv.f (a := 59) (by unfold Fx; omega) 2 (Int32.ofNat t)).f (a := 59) (by unfold Fx; omega) 3 (X.1 59 4)
    have hv : ∀ a, a ≠ 1059 → (mw (mw V (1000 + 59) 2 (Int32.ofNat t)) (1000 + 59) 3 (X.1 59 4)).1 a = V.1 a := fun a ha => by rw [mwr _ _ _ ha, mwr _ _ _ ha]
    have hm : ∀ a, a ≠ 60 → (M13 M t).1 a = M.1 a := fun a ha => by unfold M13; rw [mwr _ _ _ ha, mwr _ _ _ ha, mwr _ _ _ ha]
    have r' := r.tn (M' := M13 M t) rv' hv hm (fun f hf => by unfold M13; rw [mwi _ _ _ (by omega), mwi _ _ _ (by omega), mwi _ _ _ (by omega)]) rfl
    refine ⟨_, _, _, ?_, r', ?_, ?_, ?_, ?_, ?_, ?_, g.congr (by omega) (fun a ha => hv a (by omega)) hm⟩
    · show (xw (xw X 59 2 (Int32.ofNat t)) 59 3 (X.1 59 4)).1 59 2 = _
      rfl
    · show (mw (mw V 1059 2 (Int32.ofNat t)) 1059 3 (X.1 59 4)).1 1059 2 = _
      rw [mwi _ _ _ (by omega), mw1, if_pos ⟨rfl, rfl⟩]
    · show (mw (mw V 1059 2 (Int32.ofNat t)) 1059 3 (X.1 59 4)).1 1059 3 = (if (63 : Nat) = 1 then W 1 else (M13 M t).1 60 63)
      unfold M13
      rw [mw1, if_pos ⟨rfl, rfl⟩, if_neg (by omega), mw1, if_pos ⟨rfl, rfl⟩, e59, e58, t1]
    · show (mw (mw V 1059 2 (Int32.ofNat t)) 1059 3 (X.1 59 4)).1 1059 4 = _
      rw [mwi _ _ _ (by omega), mwi _ _ _ (by omega), r.tu.1]
    · show (mw (mw V 1059 2 (Int32.ofNat t)) 1059 3 (X.1 59 4)).1 1059 0 = _
      rw [mwi _ _ _ (by omega), mwi _ _ _ (by omega), r.tu.1]
    · show (if (62 : Nat) = 1 then W 1 else (M13 M t).1 60 62) = _
      unfold M13
      rw [if_neg (by omega), mwi _ _ _ (by omega), mwi _ _ _ (by omega), mw1, if_pos ⟨rfl, rfl⟩]
    · show (if (64 : Nat) = 1 then W 1 else (M13 M t).1 60 64) = _
      unfold M13
      rw [if_neg (by omega), mwi _ _ _ (by omega), mw1, if_pos ⟨rfl, rfl⟩]
  rcases t3 with ⟨u1, u2, u3, u4, u5, u6⟩ | ⟨cur, hc, u2, u4, u6, u3⟩
  · -- the first turn of all
    have h0 : 0 < nb := by omega
    obtain ⟨b, g1, g2, g3, g4, g5⟩ := canGo_ok r ok h0
    have e61 := r.nb1.2.2
    have e64 : M.1 60 64 = -1 := by rw [eW 64 (by omega) (by omega)]; exact u6
    have ms := turnM_1 (M := M) (x2 := 1) (b := b) e61 h0 (by omega) (by rw [u1]; decide) h0 (by rw [e64, e61, u1]; decide) g2 g3
    have mt : f_M_turn M = lp (b44_M_turn M) 10000 (1 : Int32) := by
      unfold f_M_turn
      rw [if_pos (by rw [eW 62 (by omega) (by omega), u4]; decide)]
    have g1' : f_Engine_canGo (X.1 59 2) X = some b := by rw [e59, u2]; exact g1
    have go : f_Turns_goesOn X = some b := by
      unfold f_Turns_goesOn
      rw [if_neg (by rw [e59, u3]; exact Int32.not_le.mpr t2), g1', Option.bind_some]
      cases b <;> rfl
    cases b with
    | true =>
      right
      rw [if_pos rfl] at ms
      obtain ⟨U', W', V', q1, q2, q3, q4, q5, q6, q7, q8, q9⟩ := fnd 0 h0 (g5 rfl)
      have hm : ∀ a, a ≠ 60 → (M13 M 0).1 a = M.1 a := fun a ha => by unfold M13; rw [mwr _ _ _ ha, mwr _ _ _ ha, mwr _ _ _ ha]
      have r' := r.tn (M' := M13 M 0) r.rv (fun _ _ => rfl) hm (fun f hf => by unfold M13; rw [mwi _ _ _ (by omega), mwi _ _ _ (by omega), mwi _ _ _ (by omega)]) rfl
      rw [r.tu.1] at r'
      refine ⟨0, U, _, X, V, M13 M 0, h0, by rw [mt]; exact lp_inr ms, Or.inl ⟨go, rfl⟩, by rw [e59]; exact u2, r', u2, ?_, rfl, rfl, ?_, ?_, (g5 rfl).congr (by omega) (fun _ _ => rfl) hm⟩
      · show U 3 = (if (63 : Nat) = 1 then W 1 else (M13 M 0).1 60 63)
        unfold M13
        rw [if_neg (by omega), mw1, if_pos ⟨rfl, rfl⟩, u3, e58]
      · show (if (62 : Nat) = 1 then W 1 else (M13 M 0).1 60 62) = _
        unfold M13
        rw [if_neg (by omega), mwi _ _ _ (by omega), mwi _ _ _ (by omega), mw1, if_pos ⟨rfl, rfl⟩]
      · show (if (64 : Nat) = 1 then W 1 else (M13 M 0).1 60 64) = _
        unfold M13
        rw [if_neg (by omega), mwi _ _ _ (by omega), mw1, if_pos ⟨rfl, rfl⟩]
    | false =>
      left
      rw [if_neg (by decide)] at ms
      have e2 : X.1 40 2 = 1 := by rw [r.rv.rf (a := 40) (by unfold Fx; omega), r.nb1.2.1, u1]; rfl
      refine ⟨?_, go, ?_⟩
      · rw [mt, lp_inl ms]
        refine lp_inr ?_
        unfold b44_M_turn
        rw [e61, u1, if_pos (by decide)]
      · unfold f_Turns_beginNext
        have s1 : b7_Turns_beginNext X (X.1 59 2, (0 : Int32)) = some (.inl ((0 : Int32), (1 : Int32))) := by
          unfold b7_Turns_beginNext
          rw [e2, e59, u2, if_neg (by decide), if_pos (by decide), Option.bind_some]
          have g1'' : f_Engine_canGo 0 X = some false := g1
          rw [g1'', Option.bind_some, if_neg (by decide)]
          rfl
        rw [lp_inl s1]
        refine lp_inr ?_
        unfold b7_Turns_beginNext
        rw [e2, if_pos (by decide)]
  · have e64 : M.1 60 64 = Int32.ofNat cur := by rw [eW 64 (by omega) (by omega)]; exact u6
    have e62 : M.1 60 62 = Int32.ofNat cur := by rw [eW 62 (by omega) (by omega)]; exact u4
    have e63 : M.1 60 63 = U 3 := by rw [eW 63 (by omega) (by omega)]; exact u3.symm
    obtain ⟨b, g1, g2, g3, g4, g5⟩ := canGo_ok r ok hc
    have cl : (Int32.ofNat cur).toNatClampNeg = cur := o_cl _ (by omega)
    have g1' : f_Engine_canGo (X.1 59 2) X = some b := by rw [e59, u2]; exact g1
    have sk := seek_ok r ok hc e64 10000 0 (by omega) (by omega)
    rw [Nat.add_zero, Nat.mod_eq_of_lt hc] at sk
    have bn : f_Turns_beginNext X = lp (b7_Turns_beginNext X) 10000 (Int32.ofNat cur, Int32.ofNat 0) := by unfold f_Turns_beginNext; rw [e59, u2]; rfl
    have seek : f_M_turn M = lp (b44_M_turn M) 10000 (Int32.ofNat (0 + 1)) → f_Turns_goesOn X = some false → (f_M_turn M = some (-2, M) ∧ f_Turns_goesOn X = some false ∧ f_Turns_beginNext X = some (false, X)) ∨ ∃ t U' W' X' V' M', t < nb ∧ f_M_turn M = some (Int32.ofNat t, M') ∧ ((f_Turns_goesOn X = some true ∧ X' = X) ∨ (f_Turns_goesOn X = some false ∧ f_Turns_beginNext X = some (true, X'))) ∧ X'.1 59 2 = Int32.ofNat t ∧ Rn c A hp nb oc U' W' D T C n X' V' M' ∧ U' 2 = Int32.ofNat t ∧ U' 3 = W' 63 ∧ U' 4 = U 4 ∧ U' 0 = U 0 ∧ W' 62 = Int32.ofNat t ∧ W' 64 = Int32.ofNat t ∧ Gos c A V' M' t := by
      intro h1 h2
      rcases sk with ⟨s1, s2⟩ | ⟨t, ht, s1, s2, s3⟩
      · exact Or.inl ⟨by rw [h1]; exact s2, h2, by rw [bn]; exact s1⟩
      · obtain ⟨U', W', V', q1, q2, q3, q4, q5, q6, q7, q8, q9⟩ := fnd t ht s3
        exact Or.inr ⟨t, U', W', X9 X t, V', M13 M t, ht, by rw [h1]; exact s2, Or.inr ⟨h2, by rw [bn]; exact s1⟩, q1, q2, q3, q4, q5, q6, q7, q8, q9⟩
    have n62 : ¬ M.1 60 62 < 0 := by rw [e62, o_lt0 _ (by omega)]; exact fun q => q
    by_cases cl0 : U 3 ≤ 0
    · refine seek ?_ ?_
      · unfold f_M_turn
        rw [if_neg n62, if_pos (by rw [e63]; exact cl0)]
        rfl
      · unfold f_Turns_goesOn
        rw [if_pos (by rw [e59]; exact cl0)]
    · have go : f_Turns_goesOn X = some b := by
        unfold f_Turns_goesOn
        rw [if_neg (by rw [e59]; exact cl0), g1', Option.bind_some]
        cases b <;> rfl
      have mt : f_M_turn M = (if ¬ M.1 110 cur = 0 then (lp (b44_M_turn M) 10000 (1 : Int32)) else ((f_M_waits (Int32.ofNat cur) M).bind fun x41 => (if x41 = true then (lp (b44_M_turn M) 10000 (1 : Int32)) else some (Int32.ofNat cur, M)))) := by
        unfold f_M_turn
        rw [if_neg n62, if_neg (by rw [e63]; exact cl0), e62, if_pos (ixl (by omega) (by omega)), cl]
      cases b with
      | true =>
        right
        have al := g3 rfl
        rw [if_neg (fun q => q al), g2, if_pos al, Option.bind_some, if_neg (by decide)] at mt
        exact ⟨cur, U, W, X, V, M, hc, mt, Or.inl ⟨go, rfl⟩, by rw [e59]; exact u2, r, u2, u3, rfl, rfl, u4, u6, g5 rfl⟩
      | false =>
        refine seek ?_ go
        by_cases al : M.1 110 cur = 0
        · rw [if_neg (fun q => q al), g2, if_pos al, Option.bind_some, if_pos (by decide)] at mt
          exact mt
        · rw [if_pos al] at mt
          exact mt
