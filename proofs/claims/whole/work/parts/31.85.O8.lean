/-! O8 -/
def shM (M : MS) (q : Nat) : MS := (fun a => if a = 119 then (fun j => if j + 1 < q then M.1 119 (j + 1) else M.1 119 j) else M.1 a, M.2)
set_option maxRecDepth 20000 in
set_option maxHeartbeats 4000000 in
theorem shM_r (M : MS) (q : Nat) {a : Nat} (h : a ≠ 119) : (shM M q).1 a = M.1 a := by
  unfold shM
  dsimp only
  rw [if_neg h]
set_option maxRecDepth 20000 in
set_option maxHeartbeats 4000000 in
theorem shM_i (M : MS) (q j : Nat) : (shM M q).1 119 j = if j + 1 < q then M.1 119 (j + 1) else M.1 119 j := by
  unfold shM
  dsimp only
  rw [if_pos rfl]
set_option maxRecDepth 20000 in
set_option maxHeartbeats 4000000 in
theorem shM_1 (M : MS) : shM M 1 = M := by
  refine Prod.ext ?_ rfl
  funext a j
  by_cases e : a = 119
  · subst e; rw [shM_i, if_neg (by omega)]
  · rw [shM_r _ _ e]
set_option maxRecDepth 20000 in
set_option maxHeartbeats 4000000 in
theorem shM_s (M : MS) {q : Nat} (h : 1 ≤ q) : mw (shM M q) 119 (q - 1) ((shM M q).1 119 q) = shM M (q + 1) := by
  refine Prod.ext ?_ rfl
  funext a j
  by_cases e : a = 119
  · subst e
    rw [mw1, shM_i, shM_i, shM_i]
    by_cases c : j = q - 1
    · subst c
      rw [if_pos ⟨rfl, rfl⟩, if_neg (by omega), if_pos (by omega), Nat.sub_add_cancel h]
    · rw [if_neg (fun z => c z.2)]
      by_cases d : j + 1 < q
      · rw [if_pos d, if_pos (by omega)]
      · rw [if_neg d, if_neg (by omega)]
  · rw [mwr _ _ _ e, shM_r _ _ e, shM_r _ _ e]
set_option maxRecDepth 20000 in
set_option maxHeartbeats 4000000 in
theorem shift_eq {M : MS} {L : Nat} (hL : L ≤ 100) (e : M.1 60 76 = Int32.ofNat L) : ∃ z, lp (b624_M_others) 10000 ((1 : Int32), M) = some (z, shM M (if L = 0 then 1 else L)) := by
  have key : ∀ N q, 1 ≤ q → (q ≤ L ∨ q = 1) → L - q < N → ∃ z, lp (b624_M_others) N (Int32.ofNat q, shM M q) = some (z, shM M (if L = 0 then 1 else L)) := by
    intro N
    induction N with
    | zero => intro q h1 h2 h3; omega
    | succ N ih =>
      intro q h1 h2 h3
      have e' : (shM M q).1 60 76 = Int32.ofNat L := by rw [shM_r _ _ (by omega)]; exact e
      by_cases c : L ≤ q
      · refine ⟨Int32.ofNat q, lp_inr ?_⟩
        unfold b624_M_others
        rw [if_pos (by rw [e', o_le _ _ (by omega) (by omega)]; exact c)]
        have : (if L = 0 then 1 else L) = q := by split <;> omega
        rw [this]
      · have st : b624_M_others (Int32.ofNat q, shM M q) = some (.inl (Int32.ofNat (q + 1), shM M (q + 1))) := by
          unfold b624_M_others
          have c1 : ¬ (shM M q).1 60 76 ≤ Int32.ofNat q := by rw [e', o_le _ _ (by omega) (by omega)]; exact c
          have i2 : Int32.ofNat q - 1 = Int32.ofNat (q - 1) := by rw [o_subR q 1 (show 1 ≤ q by omega)]
          rw [if_neg c1, if_pos (ixl (show q < 100 by omega) (by omega)), i2, if_pos (ixl (show q - 1 < 100 by omega) (by omega)), o_cl _ (show q - 1 < 2147483648 by omega), o_cl _ (show q < 2147483648 by omega), o_addR]
          dsimp only [lt]
          rw [shM_s M h1]
        rw [lp_inl st]
        exact ih (q + 1) (by omega) (by omega) (by omega)
  have := key 10000 1 (by omega) (by omega) (by omega)
  rw [shM_1] at this
  exact this
set_option maxRecDepth 20000 in
set_option maxHeartbeats 4000000 in
theorem plain_47 {k : Kx} {T C : Nat → Nat} {n : Nat} {X : XS} {M : MS} {g g' : Nat → Int32} {h h' : Nat} {l l' : Nat → Int32} {od : Int32} (ok : k.c.Ok) (j : Jz k T C n X M g h l) (tr : Tr k.c.Mr k.c.rc 47 od g h l = some (g', h', l')) : Wo (f_Engine_doPlain (C (600 + 16 * k.t)) 47 (Int32.ofNat (caN k.c.Mr k.m + off k.c.Mr k.m k.i + 1)) X) (fun o => Wo (f_M_others 47 od M) (fun M' => OutA k (C (600 + 16 * k.t)) g' h' l' o M')) := by
  obtain ⟨v, ev⟩ := opr_at j.1 ok
  obtain ⟨hh, p1, p2⟩ := tr_def (by omega) (by omega) (by omega) (by omega) (by omega) (by omega) tr
  have tk : tkL 47 = [] ∧ ptL 47 = 1 := by decide
  rw [tk.1] at p1
  rw [tk.2] at p2
  have ep := popsK_nil p1
  obtain ⟨q1, q2, q3, q4⟩ := putT_v (by decide) p2
  subst ep q2 q3 q4
  have jx := j.x
  obtain ⟨⟨V, md⟩, z⟩ := j
  obtain ⟨t1, t2, t3⟩ := md.t6
  have tp := md.tp
  have d20 := tp.d20
  obtain ⟨L, nx, hL, hnx, o1, o2, o3, o4, o5, o6, o7⟩ := md.pr
  have l0 : Lv n (600 + 16 * k.t) := Lv_s (f := 0) t1 (by omega)
  have l5 : Lv n (605 + 16 * k.t) := Lv_s (f := 5) t1 (by omega)
  have l6 : Lv n (606 + 16 * k.t) := Lv_s (f := 6) t1 (by omega)
  have l47 : Lv n (1000 + 47) := Lv_f (by unfold Fx; omega)
  have c47 : C (1000 + 47) = 47 := md.rv.fx 47 (by unfold Fx; omega)
  have n0 : C (600 + 16 * k.t) ≠ 47 := by rw [← c47]; exact md.rv.ne l0 l47 (by omega)
  have n5 : C (605 + 16 * k.t) ≠ 47 := by rw [← c47]; exact md.rv.ne l5 l47 (by omega)
  have n6 : C (606 + 16 * k.t) ≠ 47 := by rw [← c47]; exact md.rv.ne l6 l47 (by omega)
  have r0 := md.rv.rd l0
  have rf := md.rv.rf (a := 47) (by unfold Fx; omega)
  have rf8 := md.rv.rf (a := 48) (by unfold Fx; omega)
  unfold f_Engine_doPlain f_M_others
  rw [ev, Option.bind_some, if_neg (by decide), if_neg (by decide), if_neg (by decide), if_neg (by decide), if_neg (by decide), if_neg (by decide), if_neg (by decide), if_neg (by decide), if_neg (by decide), if_pos rfl]
  rw [if_neg (show ¬ (47 : Int32) = 1 by decide), if_neg (show ¬ (47 : Int32) = 2 by decide), if_neg (show ¬ (47 : Int32) = 3 by decide), if_neg (show ¬ (47 : Int32) = 16 by decide), if_neg (show ¬ (47 : Int32) = 17 by decide), if_neg (show ¬ (47 : Int32) = 18 by decide), if_neg (show ¬ (47 : Int32) = 26 by decide), if_neg (show ¬ (47 : Int32) = 43 by decide), if_neg (show ¬ (47 : Int32) = 44 by decide), if_neg (show ¬ (47 : Int32) = 45 by decide), if_neg (show ¬ (47 : Int32) = 46 by decide), if_pos (show (47 : Int32) = 47 from rfl), o2]
  unfold f_Ports_receive
  rw [rf, o1]
  by_cases cL : L = 0
  · have z0 : Int32.ofNat L ≤ 0 := by rw [cL]; decide
    rw [if_pos z0, if_pos z0, Option.bind_some, Option.bind_some]
    dsimp only
    have j : Jz k T C n X M g hh _ := ⟨⟨V, md⟩, z⟩
    obtain ⟨X2, M2, u1, u2, u3⟩ := Z_pushi j q1 0
    obtain ⟨X3, M3, w1, w2, w3, w4⟩ := J_pushi j.1 q1 0
    rw [w2] at u2
    cases u2
    rw [if_pos jx, u1, w2, Option.bind_some, Option.bind_some]
    have e2 : M2.1 60 76 = Int32.ofNat L := by rw [w4]; exact o2
    obtain ⟨zz, sh⟩ := shift_eq hL e2
    rw [sh, Option.bind_some, if_pos cL, shM_1]
    dsimp only
    rw [e2, if_pos z0]
    refine W_some.mpr (W_some.mpr ?_)
    have em : mw M2 60 76 0 = M2 := by
      refine Prod.ext ?_ rfl
      funext a q
      rw [mw1]
      split
      · rename_i c
        rw [c.1, c.2, e2, cL]
        rfl
      · rfl
    show OutA k _ _ _ _ (0, X2) (mw M2 60 76 0)
    rw [em]
    exact out_go u3
  · have z0 : ¬ Int32.ofNat L ≤ 0 := by rw [o_leR _ _ (by omega) (by decide)]; show ¬ L ≤ 0; omega
    rw [if_neg z0, if_neg z0, Option.bind_some, o3, if_pos (show 0 ≤ Int32.ofNat nx ∧ Int32.ofNat nx ≤ 99 by rw [o_0le _ (by omega), o_leR _ _ (by omega) (by decide)]; exact ⟨trivial, by show nx ≤ 99; omega⟩), o_cl _ (by omega), rf8]
    have v0 : V.1 1048 nx = M.1 119 0 := by
      have := o4 0 (by omega)
      rw [Nat.add_zero, Nat.mod_eq_of_lt hnx] at this
      exact this
    rw [v0]
    obtain ⟨nx', hnx', hmod, ex⟩ : ∃ nx', nx' < 100 ∧ (∀ q, (nx' + q) % 100 = (nx + (q + 1)) % 100) ∧ (if (100 : Int32) ≤ Int32.ofNat nx + 1 then (lt (xw X 47 2 0) fun X5 => (lt (xw X5 47 0 ((X5.1 47 0) - 1)) fun X6 => some (M.1 119 0, X6))) else (lt (xw X 47 2 (Int32.ofNat nx + 1)) fun X7 => (lt (xw X7 47 0 ((X7.1 47 0) - 1)) fun X8 => some (M.1 119 0, X8)))) = some (M.1 119 0, xw (xw X 47 2 (Int32.ofNat nx')) 47 0 (Int32.ofNat (L - 1))) := by
      have el : ∀ w, (xw X 47 2 w).1 47 0 - 1 = Int32.ofNat (L - 1) := fun w => by rw [xw1, if_neg (by omega), rf, o1, o_subR L 1 (show 1 ≤ L by omega)]
      by_cases c : 99 ≤ nx
      · refine ⟨0, by omega, fun q => by omega, ?_⟩
        rw [if_pos (by rw [o_addR, o_leL _ _ (by decide) (show nx + 1 < 2147483648 by omega)]; show 100 ≤ nx + 1; omega)]
        dsimp only [lt]
        rw [el]
        rfl
      · refine ⟨nx + 1, by omega, fun q => by omega, ?_⟩
        rw [if_neg (by rw [o_addR, o_leL _ _ (by decide) (show nx + 1 < 2147483648 by omega)]; show ¬ 100 ≤ nx + 1; omega)]
        dsimp only [lt]
        rw [el, o_addR]
    rw [ex, Option.bind_some]
    dsimp only
    have jx' : xT (xw (xw X 47 2 (Int32.ofNat nx')) 47 0 (Int32.ofNat (L - 1))) (C (600 + 16 * k.t)) = some (14, 0) := jx
    rw [if_pos jx']
    have sc' : SC (xw (xw X 47 2 (Int32.ofNat nx')) 47 0 (Int32.ofNat (L - 1))) _ _ _ _ _ _ := (md.rv.sc t1).of2 rfl
    have rr : ∀ f, (xw (xw X 47 2 (Int32.ofNat nx')) 47 0 (Int32.ofNat (L - 1))).1 (C (600 + 16 * k.t)) f = V.1 (600 + 16 * k.t) f := fun f => by rw [xw1, if_neg (fun q => n0 q.1), xw1, if_neg (fun q => n0 q.1), r0]
    have p := pushi_eq sc' (bo := 22 * k.d + 12) (h := hh) (by rw [rr]; exact tp.v7) (by rw [rr]; exact tp.v8) q1 (by omega) (M.1 119 0)
    rw [p]
    have q := (putM_eq (f := 20 * k.t + k.d) (h := hh) md.f89 (by omega) tp.m114 q1 (M.1 119 0)).1
    rw [q, Option.bind_some]
    have mp := J_put md q1 (y := M.1 119 0) (v := M.1 119 0) (z := 0) (Or.inl ⟨rfl, rfl⟩)
    generalize hM2 : mw (mw (mw M 115 (22 * (20 * k.t + k.d) + 12 + hh) (M.1 119 0)) 116 (22 * (20 * k.t + k.d) + 12 + hh) 0) 114 (20 * k.t + k.d) (Int32.ofNat (hh + 1)) = M2 at mp
    have m60 : M2.1 60 = M.1 60 := by rw [← hM2, mwr _ _ _ (by omega), mwr _ _ _ (by omega), mwr _ _ _ (by omega)]
    have m119 : M2.1 119 = M.1 119 := by rw [← hM2, mwr _ _ _ (by omega), mwr _ _ _ (by omega), mwr _ _ _ (by omega)]
    have e2 : M2.1 60 76 = Int32.ofNat L := by rw [m60]; exact o2
    obtain ⟨zz, sh⟩ := shift_eq hL e2
    rw [Option.bind_some, sh, Option.bind_some, if_neg cL]
    dsimp only
    rw [shM_r _ _ (show 60 ≠ 119 by omega), e2, if_neg z0, o_subR L 1 (show 1 ≤ L by omega)]
    refine W_some.mpr (W_some.mpr ⟨k.A, k.nb, k.oc, k.W, T, C, n, by omega, by omega, fun _ _ _ => rfl, rfl, Or.inl ⟨rfl, ?_, ?_⟩⟩)
    · show (mw (shM M2 L) 60 76 _).1 60 90 = 0
      rw [mwi _ _ _ (by omega), shM_r _ _ (by omega), m60]; exact z
    · generalize hV2 : mw (mw (mw V (605 + 16 * k.t) (22 * k.d + 12 + hh) (M.1 119 0)) (606 + 16 * k.t) (22 * k.d + 12 + hh) 0) (600 + 16 * k.t) 8 (Int32.ofNat (hh + 1)) = V2 at mp
      refine ⟨mw (mw V2 (1000 + 47) 2 (Int32.ofNat nx')) (1000 + 47) 0 (Int32.ofNat (L - 1)), ?_⟩
      have vv : ∀ a, 1000 ≤ a → V2.1 a = V.1 a := fun a ha => by rw [← hV2, mwr _ _ _ (by omega), mwr _ _ _ (by omega), mwr _ _ _ (by omega)]
      have rvx := (mp.rv.f (a := 47) (by unfold Fx; omega) 2 (Int32.ofNat nx')).f (a := 47) (by unfold Fx; omega) 0 (Int32.ofNat (L - 1))
      have xe : xw (xw (xw (xw (xw X 47 2 (Int32.ofNat nx')) 47 0 (Int32.ofNat (L - 1))) (C (605 + 16 * k.t)) (22 * k.d + 12 + hh) (M.1 119 0)) (C (606 + 16 * k.t)) (22 * k.d + 12 + hh) 0) (C (600 + 16 * k.t)) 8 (Int32.ofNat (hh + 1)) = xw (xw (xw (xw (xw X (C (605 + 16 * k.t)) (22 * k.d + 12 + hh) (M.1 119 0)) (C (606 + 16 * k.t)) (22 * k.d + 12 + hh) 0) (C (600 + 16 * k.t)) 8 (Int32.ofNat (hh + 1))) 47 2 (Int32.ofNat nx')) 47 0 (Int32.ofNat (L - 1)) := by
        rw [xw_comm (xw X 47 2 (Int32.ofNat nx')) _ _ (Or.inl n5.symm), xw_comm X _ _ (Or.inl n5.symm)]
        rw [xw_comm (xw (xw X (C (605 + 16 * k.t)) (22 * k.d + 12 + hh) (M.1 119 0)) 47 2 (Int32.ofNat nx')) _ _ (Or.inl n6.symm), xw_comm (xw X (C (605 + 16 * k.t)) (22 * k.d + 12 + hh) (M.1 119 0)) _ _ (Or.inl n6.symm)]
        rw [xw_comm (xw (xw (xw X (C (605 + 16 * k.t)) (22 * k.d + 12 + hh) (M.1 119 0)) (C (606 + 16 * k.t)) (22 * k.d + 12 + hh) 0) 47 2 (Int32.ofNat nx')) _ _ (Or.inl n0.symm), xw_comm (xw (xw X (C (605 + 16 * k.t)) (22 * k.d + 12 + hh) (M.1 119 0)) (C (606 + 16 * k.t)) (22 * k.d + 12 + hh) 0) _ _ (Or.inl n0.symm)]
      show Md _ T C n (xw (xw (xw (xw (xw X 47 2 (Int32.ofNat nx')) 47 0 (Int32.ofNat (L - 1))) (C (605 + 16 * k.t)) (22 * k.d + 12 + hh) (M.1 119 0)) (C (606 + 16 * k.t)) (22 * k.d + 12 + hh) 0) (C (600 + 16 * k.t)) 8 (Int32.ofNat (hh + 1))) _ _ _ _ _
      rw [xe]
      refine mp.misc rvx ?_ ?_ ?_ ?_ ?_ ?_ ?_ (fun _ _ _ => rfl)
      · intro b h1 _ _ _; rw [mwr _ _ _ (by omega), mwr _ _ _ (by omega)]
      · rw [mwr _ _ _ (by omega), mwr _ _ _ (by omega)]; exact ⟨mp.tu.2.1, mp.tu.2.2.1, rfl⟩
      · intro b h1 h2; rw [mwr _ _ _ h2, shM_r _ _ (by omega)]
      · intro f h1 _ _ _; rw [mwi _ _ _ h1, shM_r _ _ (by omega)]
      · rw [← hM2]; rfl
      · exact mp.sr.congr (fun b h1 h2 => by rw [mwr _ _ _ (by omega), mwr _ _ _ (by omega)]) (fun b h1 h2 => by rw [mwr _ _ _ (by omega), shM_r _ _ (by omega)])
      · refine ⟨L - 1, nx', by omega, hnx', ?_, ?_, ?_, ?_, ?_, ?_, ?_⟩
        · rw [mw1, if_pos ⟨rfl, rfl⟩]
        · rw [mw1, if_pos ⟨rfl, rfl⟩]
        · rw [mwi _ _ _ (by omega), mw1, if_pos ⟨rfl, rfl⟩]
        · intro q hq
          rw [mwr _ _ _ (by omega), mwr _ _ _ (by omega), vv _ (by omega), mwr _ _ _ (by omega), shM_i, if_pos (by omega), m119, hmod]
          exact o4 (q + 1) (by omega)
        · rw [mwi _ _ _ (by omega), mwi _ _ _ (by omega), vv _ (by omega)]; exact o5
        · rw [mwi _ _ _ (by omega), shM_r _ _ (by omega), m60]; exact o6
        · intro q h1 h2
          rw [mwr _ _ _ (by omega), mwr _ _ _ (by omega), vv _ (by omega), mwr _ _ _ (by omega), shM_r _ _ (by omega), ← hM2, mwr _ _ _ (by omega), mwr _ _ _ (by omega), mwr _ _ _ (by omega)]
          exact o7 q h1 h2
