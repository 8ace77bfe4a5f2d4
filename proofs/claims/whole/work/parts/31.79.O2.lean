/-! O2 -/
/-- the ends of raising on both sides -/
def uwT (x : Int32) (x16 : Int32 × MS) : Option MS := (if 0 ≤ x16.1 then (if ixo (x16.2.1 60 89) 120 then (lt (mw x16.2 113 (x16.2.1 60 89).toNatClampNeg x16.1) fun M19 => (if ixo (M19.1 60 89) 120 then (lt (mw M19 114 (M19.1 60 89).toNatClampNeg 0) fun M21 => (if 10 ≤ M21.1 60 90 then ((f_M_putRef (M21.1 60 91) M21).bind fun x23 => some x23) else ((f_M_putRef 0 M21).bind fun x24 => some x24))) else none)) else none) else (if ixo x 6 then (lt (mw x16.2 109 x.toNatClampNeg 0) fun M26 => (lt (mw M26 110 x.toNatClampNeg 3) fun M27 => (if 10 ≤ M27.1 60 90 then (if ixo (M27.1 60 91) 1002 then (if M27.1 121 (M27.1 60 91).toNatClampNeg < 10 then (lt (mw M27 111 x.toNatClampNeg (100 + (M27.1 121 (M27.1 60 91).toNatClampNeg))) fun M31 => some M31) else (lt (mw M27 111 x.toNatClampNeg 110) fun M32 => some M32)) else none) else (lt (mw M27 111 x.toNatClampNeg (-(M27.1 60 90))) fun M33 => some M33)))) else none))
def rsT (x : Nat) (y : Int32) (x21 : Int32 × XS) : Option XS := (if ¬ y = 10 then (if (xT x21.2 x = some (14, 0)) then ((f_Strand_finish x 2 (-y) x21.2).bind fun x24 => some x24) else none) else ((f_Engine_thrownNumber x21.2).bind fun x25 => (if (xT x21.2 x = some (14, 0)) then ((f_Strand_finish x 2 x25 x21.2).bind fun x27 => some x27) else none)))
set_option maxRecDepth 20000 in
set_option maxHeartbeats 4000000 in
theorem found_ok {k : Kx} {T C : Nat → Nat} {n f x j N e : Nat} {z : Int32} {X : XS} {V M : MS} (ok : k.c.Ok) (mf : Mf k T C n X V M f x) (hz1 : f = 10 → z = Int32.ofNat (adH k.c.Mr k.A x)) (hz2 : f ≠ 10 → z = 0) (he : e < 20) (h1 : f_Engine_handlerFor (C (600 + 16 * k.t)) (Int32.ofNat f) X = some (encX k.c.Mr k.m (some j))) (cv : Cov k.S j (fun _ => 2) 1 (k.S.2.2.2.2.1 k.i)) : Wo (lp (b30_Engine_raise (C (600 + 16 * k.t)) (Int32.ofNat f) z) (N + 1) (Int32.ofNat e, X)) (fun s => Wo (lp (b5_M_unwind (Int32.ofNat k.t)) (N + 1) (Int32.ofNat j, M)) (fun p => Wo (sb s (rsT (C (600 + 16 * k.t)) (Int32.ofNat f))) (fun X' => Wo (uwT (Int32.ofNat k.t) p) (fun M' => ∃ V', Rn k.c k.A k.hp k.nb k.oc k.U k.W k.D T C n X' V' M')))) := by
  obtain ⟨⟨M1, g, h, md, ag⟩, ⟨f90, f1, f2⟩, thr⟩ := mf
  obtain ⟨t1, t2, t3⟩ := md.t6
  have d20 := md.tp.d20
  have r0 := md.rv.rd (Lv_s (f := 0) t1 (by omega) : Lv n (600 + 16 * k.t))
  have sx := (md.rv.sc t1).x
  have c1 : ¬ (20 : Int32) ≤ Int32.ofNat e := by rw [o_leL _ _ (by decide) (by omega)]; show ¬ 20 ≤ e; omega
  have c2 : ¬ X.1 (C (600 + 16 * k.t)) 2 ≤ 0 := by rw [r0, md.tp.v2, o_leR _ _ (by omega) (by decide)]; show ¬ k.d + 1 ≤ 0; omega
  have e89 : M.1 60 89 = Int32.ofNat (20 * k.t + k.d) := by rw [ag.2.2.1 89 (by omega) (by omega)]; exact md.f89
  obtain ⟨gp, _⟩ := ok
  obtain ⟨i0, i1, i2, i3, i4, i5, i6, i7⟩ := ins_facts gp md.mt.1 md.mt.2
  have js := i7 j cv.1
  have cl := caN_le gp md.mt.1.1 md.mt.1.2.1 js
  have hz : RefR k.c.Mr k.A z (if f = 10 then M.1 60 91 else 0) := by
    by_cases ef : f = 10
    · rw [if_pos ef, hz1 ef]
      obtain ⟨x1, x2, x3⟩ := thr ef
      exact Or.inr ⟨x, x1, rfl, x3⟩
    · rw [if_neg ef, hz2 ef]
      exact Or.inl ⟨rfl, rfl⟩
  obtain ⟨X', V', p1, M', p2, p3⟩ := catch_ok md ag cv hz
  have s1 : b30_Engine_raise (C (600 + 16 * k.t)) (Int32.ofNat f) z (Int32.ofNat e, X) = some (.inr (.inr X')) := by
    unfold b30_Engine_raise
    have q : ¬ encX k.c.Mr k.m (some j) = -1 := by
      show ¬ Int32.ofNat (caN k.c.Mr k.m + off k.c.Mr k.m j) = -1
      rw [n1_eq _ (by omega)]
      exact fun q => q
    rw [if_neg c1, if_pos sx, if_neg c2, h1, Option.bind_some, if_neg q]
    show (f_Strand_catchAt (C (600 + 16 * k.t)) (Int32.ofNat (caN k.c.Mr k.m + off k.c.Mr k.m j)) z X).bind _ = _
    rw [p1]
    rfl
  have nn : (0 : Int32) ≤ Int32.ofNat j := by rw [o_0le _ (by omega)]; trivial
  have m1 : b5_M_unwind (Int32.ofNat k.t) (Int32.ofNat j, M) = some (.inr (Int32.ofNat j, M)) := by
    unfold b5_M_unwind
    rw [if_pos nn]
  rw [lp_inr s1, W_some, lp_inr m1, W_some]
  show Wo (some X') _
  rw [W_some]
  have u : uwT (Int32.ofNat k.t) (Int32.ofNat j, M) = some M' := by
    have ix : ixo (Int32.ofNat (20 * k.t + k.d)) 120 := ixl (by omega) (by omega)
    have a1 : (mw M 113 (20 * k.t + k.d) (Int32.ofNat j)).1 60 89 = Int32.ofNat (20 * k.t + k.d) := by rw [mwr _ _ _ (by omega)]; exact e89
    have a2 : (mw (mw M 113 (20 * k.t + k.d) (Int32.ofNat j)) 114 (20 * k.t + k.d) 0).1 60 90 = Int32.ofNat f := by rw [mwr _ _ _ (by omega), mwr _ _ _ (by omega)]; exact f90
    have a3 : (mw (mw M 113 (20 * k.t + k.d) (Int32.ofNat j)) 114 (20 * k.t + k.d) 0).1 60 91 = M.1 60 91 := by rw [mwr _ _ _ (by omega), mwr _ _ _ (by omega)]
    unfold uwT
    rw [if_pos nn]
    dsimp only
    rw [e89, if_pos ix, o_cl _ (by omega)]
    dsimp only [lt]
    rw [a1, if_pos ix, o_cl _ (by omega), a2, a3]
    by_cases ef : f = 10
    · rw [if_pos ef] at p2
      rw [if_pos (by rw [o_leL _ _ (by decide) (by omega)]; show 10 ≤ f; omega), p2]
      rfl
    · rw [if_neg ef] at p2
      rw [if_neg (by rw [o_leL _ _ (by decide) (by omega)]; show ¬ 10 ≤ f; omega), p2]
      rfl
  rw [u, W_some]
  exact ⟨V', p3⟩
set_option maxRecDepth 20000 in
set_option maxHeartbeats 4000000 in
theorem raise_loop {T C : Nat → Nat} {n f x : Nat} {z : Int32} : ∀ d (k : Kx) N e X V M y, k.d = d → k.c.Ok → Mf k T C n X V M f x → (f = 10 → V.1 1040 11 = Int32.ofNat (kcode k.c.Mr (k.A.K x))) → (f = 10 → z = Int32.ofNat (adH k.c.Mr k.A x)) → (f ≠ 10 → z = 0) → e + d < 20 → d + 2 < N → f_M_handler M = some y → Wo (lp (b30_Engine_raise (C (600 + 16 * k.t)) (Int32.ofNat f) z) N (Int32.ofNat e, X)) (fun s => Wo (lp (b5_M_unwind (Int32.ofNat k.t)) N (y, M)) (fun p => Wo (sb s (rsT (C (600 + 16 * k.t)) (Int32.ofNat f))) (fun X' => Wo (uwT (Int32.ofNat k.t) p) (fun M' => ∃ V', Rn k.c k.A k.hp k.nb k.oc k.U k.W k.D T C n X' V' M')))) := by
  intro d
  induction d with
  | zero =>
    intro k N e X V M y hd ok mf hk hz1 hz2 he hN hy
    obtain ⟨N, rfl⟩ : ∃ N', N = N' + 1 := ⟨N - 1, by omega⟩
    obtain ⟨r, h1, h2, h3⟩ := handler_ok ok mf hk
    rw [hy] at h2
    cases h2
    have mf0 := mf
    obtain ⟨⟨M1, g, h, md, ag⟩, ⟨f90, f1, f2⟩, thr⟩ := mf
    obtain ⟨t1, t2, t3⟩ := md.t6
    have r0 := md.rv.rd (Lv_s (f := 0) t1 (by omega) : Lv n (600 + 16 * k.t))
    have sx := (md.rv.sc t1).x
    have e2 : X.1 (C (600 + 16 * k.t)) 2 = 1 := by rw [r0, md.tp.v2, hd]; rfl
    have c1 : ¬ (20 : Int32) ≤ Int32.ofNat e := by rw [o_leL _ _ (by decide) (by omega)]; show ¬ 20 ≤ e; omega
    have c2 : ¬ X.1 (C (600 + 16 * k.t)) 2 ≤ 0 := by rw [e2]; decide
    have e89 : M.1 60 89 = Int32.ofNat (20 * k.t + k.d) := by rw [ag.2.2.1 89 (by omega) (by omega)]; exact md.f89
    have e109 : M.1 109 k.t = 1 := by rw [ag.1 109 (by omega) (by omega), md.tp.m109, hd]; rfl
    cases r with
    | some j => exact found_ok ok mf0 hz1 hz2 (by omega) h1 (h3 j rfl).1
    | none =>
      have nB : ¬ (0 : Int32) ≤ -2 := by decide
      have lv := leave_1 sx e2
      have s1 : b30_Engine_raise (C (600 + 16 * k.t)) (Int32.ofNat f) z (Int32.ofNat e, X) = some (.inl (Int32.ofNat (e + 1), xw X (C (600 + 16 * k.t)) 2 0)) := by
        unfold b30_Engine_raise
        rw [if_neg c1, if_pos sx, if_neg c2, h1, Option.bind_some, if_pos (show encX k.c.Mr k.m none = -1 from rfl), lv, Option.bind_some, o_addR]
      have s2 : ∃ w, b30_Engine_raise (C (600 + 16 * k.t)) (Int32.ofNat f) z (Int32.ofNat (e + 1), xw X (C (600 + 16 * k.t)) 2 0) = some (.inr (.inl (w, xw X (C (600 + 16 * k.t)) 2 0))) := by
        refine ⟨Int32.ofNat (e + 1), ?_⟩
        unfold b30_Engine_raise
        by_cases c : (20 : Int32) ≤ Int32.ofNat (e + 1)
        · rw [if_pos c]
        · have sx' : xT (xw X (C (600 + 16 * k.t)) 2 0) (C (600 + 16 * k.t)) = some (14, 0) := sx
          have c3 : (xw X (C (600 + 16 * k.t)) 2 0).1 (C (600 + 16 * k.t)) 2 ≤ 0 := by rw [xw1, if_pos ⟨rfl, rfl⟩]; decide
          rw [if_neg c, if_pos sx', if_pos c3]
      obtain ⟨w, s2⟩ := s2
      have m1 : b5_M_unwind (Int32.ofNat k.t) (-2, M) = some (.inr (-2, M)) := by
        unfold b5_M_unwind
        rw [if_neg nB, if_pos (ixl t2 (by omega)), o_cl _ (by omega), if_pos (by rw [e109]; decide)]
      obtain ⟨N, rfl⟩ : ∃ N', N = N' + 1 := ⟨N - 1, by omega⟩
      rw [lp_inl s1, lp_inr s2, W_some]
      show Wo (lp (b5_M_unwind (Int32.ofNat k.t)) (N + 1 + 1) (-2, M)) _
      rw [lp_inr m1, W_some]
      have l0 : Lv n (600 + 16 * k.t) := Lv_s (f := 0) t1 (by omega)
      obtain ⟨gp, ht0, him, hkp⟩ := ok
      have him' : IM k.c.Mr k.c.rc k.c.main (xw X (C (600 + 16 * k.t)) 2 0) T := (md.rv.w l0 2 0).im ht0 him
      have fin : ∃ a, Wo (sb (Sum.inl (w, xw X (C (600 + 16 * k.t)) 2 0)) (rsT (C (600 + 16 * k.t)) (Int32.ofNat f))) (fun X' => X' = xw (xw (xw (xw X (C (600 + 16 * k.t)) 2 0) (C (600 + 16 * k.t)) 2 0) (C (600 + 16 * k.t)) 0 2) (C (600 + 16 * k.t)) 1 a) ∧ uwT (Int32.ofNat k.t) (-2, M) = some (mw (mw (mw M 109 k.t 0) 110 k.t 3) 111 k.t a) := by
        have sx' : xT (xw X (C (600 + 16 * k.t)) 2 0) (C (600 + 16 * k.t)) = some (14, 0) := sx
        have u90 : (mw (mw M 109 k.t 0) 110 k.t 3).1 60 90 = Int32.ofNat f := by rw [mwr _ _ _ (by omega), mwr _ _ _ (by omega)]; exact f90
        by_cases ef : f = 10
        · subst ef
          obtain ⟨x1, x2, x3⟩ := thr rfl
          have ob := md.hr.ob x x1
          have u91 : (mw (mw M 109 k.t 0) 110 k.t 3).1 60 91 = Int32.ofNat (k.A.os x) := by rw [mwr _ _ _ (by omega), mwr _ _ _ (by omega)]; exact x3
          have u121 : (mw (mw M 109 k.t 0) 110 k.t 3).1 121 (k.A.os x) = Int32.ofNat (k.A.K x) := by rw [mwr _ _ _ (by omega), mwr _ _ _ (by omega), ag.1 121 (by omega) (by omega)]; exact ob.m121
          have e40 : (xw X (C (600 + 16 * k.t)) 2 0).1 40 11 = Int32.ofNat (kcode k.c.Mr (k.A.K x)) := by
            have := (md.rv.w l0 2 0).rf (a := 40) (by unfold Fx; omega)
            rw [this, mwr _ _ _ (by omega)]
            exact hk rfl
          have nk := NK_le k.c.Mr
          have os := ob.os
          unfold sb rsT uwT f_Engine_thrownNumber
          dsimp only
          rw [if_neg (show ¬ ¬ Int32.ofNat 10 = 10 from fun q => q rfl), kinds_51' him' gp, Option.bind_some, e40, if_neg nB, if_pos (ixl t2 (by omega)), o_cl _ (by omega)]
          dsimp only [lt]
          rw [u90, if_pos (show (10 : Int32) ≤ Int32.ofNat 10 by decide), u91, if_pos (ixl os.2 (by omega)), o_cl _ (by omega), u121]
          have k10 := (gp_k10 gp).1
          rcases ob.ok with ⟨k1, k2, k3, k4⟩ | ⟨k1, k2⟩
          · have kl := kn_lt (show k.A.K x < 10 by omega) k3
            have p1 : ¬ Int32.ofNat (NK k.c.Mr) ≤ Int32.ofNat (kcode k.c.Mr (k.A.K x)) := by
              unfold kcode
              rw [if_pos (by omega), o_le _ _ (by omega) (by omega)]
              omega
            have p2 : Int32.ofNat (k.A.K x) < 10 := by rw [o_ltR _ _ (by omega) (by decide)]; show k.A.K x < 10; omega
            have p3 : f_Image_sourceKind_51 (Int32.ofNat (kcode k.c.Mr (k.A.K x))) (xw X (C (600 + 16 * k.t)) 2 0) = Int32.ofNat (k.A.K x) := by
              obtain ⟨b, L, _, _, _, _, h5⟩ := him'
              have := h5 (k.A.K x) (by omega) k3
              unfold f_Image_sourceKind_51 kcode
              rw [if_pos (show k.A.K x < 10 by omega), if_pos (by rw [o_0le _ (by omega), o_leR _ _ (by omega) (by decide)]; exact ⟨trivial, by show kn k.c.Mr (k.A.K x) ≤ 9; omega⟩), o_cl _ (by omega)]
              exact this
            rw [if_neg p1, if_pos p2, p3, Option.bind_some, if_pos sx', finish_eq sx']
            exact ⟨_, W_some.mpr rfl, rfl⟩
          · have p1 : Int32.ofNat (NK k.c.Mr) ≤ Int32.ofNat (kcode k.c.Mr (k.A.K x)) := by
              unfold kcode
              rw [if_neg (by omega)]
              split
              · rw [o_le _ _ (by omega) (by omega)]; omega
              · rw [o_le _ _ (by omega) (by omega)]; omega
            have p2 : ¬ Int32.ofNat (k.A.K x) < 10 := by rw [o_ltR _ _ (by omega) (by decide)]; show ¬ k.A.K x < 10; omega
            rw [if_pos p1, if_neg p2, Option.bind_some, if_pos sx', finish_eq sx']
            exact ⟨_, W_some.mpr rfl, rfl⟩
        · have nf : ¬ Int32.ofNat f = 10 := by rw [o_eqR _ _ (by omega) (by decide)]; exact ef
          have lf : ¬ (10 : Int32) ≤ Int32.ofNat f := by rw [o_leL _ _ (by decide) (by omega)]; show ¬ 10 ≤ f; omega
          unfold sb rsT uwT
          dsimp only
          rw [if_pos nf, if_pos sx', finish_eq sx', if_neg nB, if_pos (ixl t2 (by omega)), o_cl _ (by omega)]
          dsimp only [lt]
          rw [u90, if_neg lf]
          exact ⟨_, W_some.mpr rfl, rfl⟩
      obtain ⟨a, w1, w2⟩ := fin
      refine w1.mono ?_
      intro X' eX
      rw [w2, W_some, eX]
      refine ⟨mw (mw (mw (mw V (600 + 16 * k.t) 2 0) (600 + 16 * k.t) 2 0) (600 + 16 * k.t) 0 2) (600 + 16 * k.t) 1 a, ?_⟩
      refine md.dead ((((md.rv.w l0 _ _).w l0 _ _).w l0 _ _).w l0 _ _) ?_ ?_ ?_ ?_ ?_ ag.2.2.2 ?_ ?_ ?_ ?_
      · intro b hb
        rw [mwr _ _ _ hb, mwr _ _ _ hb, mwr _ _ _ hb, mwr _ _ _ hb]
      · intro b h1 h2 h3 h4 h5
        rw [mwr _ _ _ h4, mwr _ _ _ h3, mwr _ _ _ h2]
        exact ag.1 b h5 h1
      · intro q hq
        rw [mwr _ _ _ (by omega), mwr _ _ _ (by omega), mwr _ _ _ (by omega)]
        exact ag.2.1 q hq
      · intro b q h1 h2 h3
        rw [mwi _ _ _ h3, mwi _ _ _ h3, mwi _ _ _ h3, ag.1 b (by omega) (by omega)]
      · intro b h1 h2 h3
        rw [mwr _ _ _ (by omega), mwr _ _ _ (by omega), mwr _ _ _ (by omega)]
        exact ag.2.2.1 b h2 h3
      · rw [mwr _ _ _ (by omega), mwr _ _ _ (by omega), mw1, if_pos ⟨rfl, rfl⟩]
      · rw [mwi _ _ _ (by omega), mwi _ _ _ (by omega), mw1, if_pos ⟨rfl, rfl⟩]
      · rw [mw1, if_pos ⟨rfl, rfl⟩, mw1, if_pos ⟨rfl, rfl⟩]
      · refine Or.inr ⟨?_, ?_⟩
        · rw [mwr _ _ _ (by omega), mw1, if_pos ⟨rfl, rfl⟩]
        · rw [mwi _ _ _ (by omega), mw1, if_pos ⟨rfl, rfl⟩]
  | succ d ih =>
    intro k N e X V M y hd ok mf hk hz1 hz2 he hN hy
    obtain ⟨N, rfl⟩ : ∃ N', N = N' + 1 := ⟨N - 1, by omega⟩
    obtain ⟨r, h1, h2, h3⟩ := handler_ok ok mf hk
    rw [hy] at h2
    cases h2
    cases r with
    | some j => exact found_ok ok mf hz1 hz2 (by omega) h1 (h3 j rfl).1
    | none =>
      obtain ⟨m, i, S, X', V', M', l1, l2, l3, l4⟩ := leave_ok mf hd
      obtain ⟨⟨M1, g, h, md, ag⟩, ⟨f90, f1, f2⟩, thr⟩ := mf
      obtain ⟨t1, t2, t3⟩ := md.t6
      have d20 := md.tp.d20
      have r0 := md.rv.rd (Lv_s (f := 0) t1 (by omega) : Lv n (600 + 16 * k.t))
      have sx := (md.rv.sc t1).x
      have c1 : ¬ (20 : Int32) ≤ Int32.ofNat e := by rw [o_leL _ _ (by decide) (by omega)]; show ¬ 20 ≤ e; omega
      have c2 : ¬ X.1 (C (600 + 16 * k.t)) 2 ≤ 0 := by rw [r0, md.tp.v2, o_leR _ _ (by omega) (by decide)]; show ¬ k.d + 1 ≤ 0; omega
      have e89 : M.1 60 89 = Int32.ofNat (20 * k.t + k.d) := by rw [ag.2.2.1 89 (by omega) (by omega)]; exact md.f89
      have e109 : M.1 109 k.t = Int32.ofNat (d + 2) := by rw [ag.1 109 (by omega) (by omega), md.tp.m109, hd]
      have nB : ¬ (0 : Int32) ≤ -2 := by decide
      have hk' : f = 10 → V'.1 1040 11 = Int32.ofNat (kcode (k.fr d m i S).c.Mr ((k.fr d m i S).A.K x)) := fun q => by rw [l4]; exact hk q
      obtain ⟨r', h1', h2', h3'⟩ := handler_ok (k := k.fr d m i S) ok l3 hk'
      have s1 : b30_Engine_raise (C (600 + 16 * k.t)) (Int32.ofNat f) z (Int32.ofNat e, X) = some (.inl (Int32.ofNat (e + 1), X')) := by
        unfold b30_Engine_raise
        rw [if_neg c1, if_pos sx, if_neg c2, h1, Option.bind_some, if_pos (show encX k.c.Mr k.m none = -1 from rfl), l1, Option.bind_some, o_addR]
      have m1 : b5_M_unwind (Int32.ofNat k.t) (-2, M) = some (.inl (encM r', M')) := by
        unfold b5_M_unwind
        rw [if_neg nB, if_pos (ixl t2 (by omega)), o_cl _ (by omega), if_neg (by rw [e109, o_leR _ _ (by omega) (by decide)]; show ¬ d + 2 ≤ 1; omega)]
        dsimp only [lt]
        rw [e109, o_subR _ 1 (show 1 ≤ d + 2 by omega), mwr _ _ _ (show 60 ≠ 109 by omega), e89, o_subR _ 1 (show 1 ≤ 20 * k.t + k.d by omega)]
        have eM : mw (mw M 109 k.t (Int32.ofNat (d + 2 - OfNat.ofNat 1))) 60 89 (Int32.ofNat (20 * k.t + k.d - OfNat.ofNat 1)) = M' := by
          rw [l2, show d + 2 - OfNat.ofNat 1 = d + 1 from rfl, show 20 * k.t + k.d - OfNat.ofNat 1 = 20 * k.t + d by show 20 * k.t + k.d - 1 = _; omega]
        rw [eM, h2']
        rfl
      rw [lp_inl s1]
      show Wo _ (fun s => Wo (lp (b5_M_unwind (Int32.ofNat k.t)) (N + 1) (-2, M)) _)
      rw [lp_inl m1]
      exact ih (k.fr d m i S) N (e + 1) X' V' M' (encM r') rfl ok l3 hk' hz1 hz2 (by omega) (by omega) h2'
set_option maxRecDepth 20000 in
set_option maxHeartbeats 4000000 in
/-- an exception, from the innermost method outwards -/
theorem raise_ok {k : Kx} {T C : Nat → Nat} {n f x : Nat} {X : XS} {V M : MS} (ok : k.c.Ok) (mf : Mf k T C n X V M f x) : Wo (f_Engine_raise (C (600 + 16 * k.t)) (Int32.ofNat f) X) (fun X' => Wo (f_M_unwind (Int32.ofNat k.t) M) (fun M' => ∃ V', Rn k.c k.A k.hp k.nb k.oc k.U k.W k.D T C n X' V' M')) := by
  obtain ⟨⟨M1, g, h, md, ag⟩, ⟨f90, f1, f2⟩, thr⟩ := mf
  obtain ⟨t1, t2, t3⟩ := md.t6
  have d20 := md.tp.d20
  have hr := md.hr
  have rf := md.rv.rf (a := 40) (by unfold Fx; omega)
  obtain ⟨z, ez, hz1, hz2, kk, ek, hk⟩ : ∃ z, ((if ¬ Int32.ofNat f = 10 then some 0 else some (X.1 40 10)) : Option Int32) = some z ∧ (f = 10 → z = Int32.ofNat (adH k.c.Mr k.A x)) ∧ (f ≠ 10 → z = 0) ∧ ∃ kk, f_Memory_kindOf z X = some kk ∧ (f = 10 → kk = Int32.ofNat (kcode k.c.Mr (k.A.K x))) := by
    by_cases ef : f = 10
    · subst ef
      obtain ⟨x1, x2, x3⟩ := thr rfl
      have bd := hr.bd x1
      have w4 := wz4 k.c.Mr (k.A.K x) (k.A.n x)
      refine ⟨_, if_neg (fun q => q rfl), fun _ => by rw [rf]; exact x2, fun q => absurd rfl q, _, ?_, fun _ => (hr.ob x x1).h0⟩
      unfold f_Memory_kindOf
      rw [rf, x2, word_eq md.rv (by omega)]
      rfl
    · refine ⟨0, if_pos (by rw [o_eqR _ _ (by omega) (by decide)]; exact ef), fun q => absurd q ef, fun _ => rfl, V.1 4 0, ?_, fun q => absurd q ef⟩
      unfold f_Memory_kindOf
      rw [show (0 : Int32) = Int32.ofNat 0 from rfl, word_eq md.rv (by omega)]
      rfl
  have rv' := md.rv.f (a := 40) (by unfold Fx; omega) 11 kk
  have vr : ∀ a, a ≠ 1040 → (mw V (1000 + 40) 11 kk).1 a = V.1 a := fun a ha => mwr _ _ _ (by omega)
  have md' : Md k T C n (xw X 40 11 kk) (mw V (1000 + 40) 11 kk) M1 g h (k.S.2.2.2.2.1 k.i) := by
    obtain ⟨m0, m1, m2, m3, m4, m5, m6, m7, m8, m9, m10, m11, m12⟩ := md
    obtain ⟨q0, q1, q2, q3, q4, q5, q6, q7, q8, q9, q10, q11, q12⟩ := m3
    refine ⟨rv', m1, m2, ⟨q0, q1, ?_, q3, q4, q5, ?_, ?_, ?_, ?_, ?_, ?_, ?_⟩, ?_, ?_, ?_, ?_, ?_, ?_, m10, ?_, m12⟩
    · rw [vr _ (by omega)]; exact q2
    · rw [vr _ (by omega)]; exact q6
    · rw [vr _ (by omega)]; exact q7
    · rw [vr _ (by omega)]; exact q8
    · rw [vr _ (by omega)]; exact q9
    · exact q10.congr (fun s _ => by rw [vr _ (by omega)]) (fun s _ => by rw [vr _ (by omega)]) (fun _ _ => rfl) (fun _ _ => rfl)
    · rw [vr _ (by omega)]; exact q11
    · rw [vr _ (by omega)]; exact q12
    · intro q hq
      exact (m4 q hq).congr (fun s _ => by rw [vr _ (by omega)]) (fun s _ => by rw [vr _ (by omega)]) (by rw [vr _ (by omega)]) (by rw [vr _ (by omega)]) (by rw [vr _ (by omega)]) (fun _ _ => rfl) (fun _ _ => rfl) rfl rfl rfl rfl
    · intro u hu hne
      have := m9.2.1
      exact (m5 u hu hne).congr (fun j hj => vr _ (by omega)) (fun _ _ _ => rfl) (fun _ _ _ _ _ => rfl) (fun _ _ _ _ _ => rfl)
    · exact m6.congr (fun a ha => vr _ (by omega)) (fun _ _ _ _ _ => rfl) (fun _ _ => rfl)
    · exact m7.congr (fun a h1 h2 => vr _ (by omega)) (fun _ _ _ => rfl)
    · exact m8.congr (fun a h1 h2 => vr _ (by omega)) (fun _ _ _ => rfl) (fun _ _ => rfl)
    · rw [mwi _ _ _ (by omega)]; exact m9
    · rw [vr 1059 (by omega), mwi _ _ _ (by omega), mwi _ _ _ (by omega)]; exact m11
  have mf' : Mf k T C n (xw X 40 11 kk) (mw V (1000 + 40) 11 kk) M f x := ⟨⟨M1, g, h, md', ag⟩, ⟨f90, f1, f2⟩, fun q => by rw [mwi _ _ _ (by omega)]; exact thr q⟩
  have hk' : f = 10 → (mw V (1000 + 40) 11 kk).1 1040 11 = Int32.ofNat (kcode k.c.Mr (k.A.K x)) := fun q => by rw [mw1, if_pos ⟨rfl, rfl⟩]; exact hk q
  obtain ⟨r, h1, h2, h3⟩ := handler_ok ok mf' hk'
  have lo := raise_loop k.d k 10000 0 _ _ M _ rfl ok mf' hk' hz1 hz2 (by omega) (by omega) h2
  obtain ⟨s, l1, p, l2, X', l3, M', l4, l5⟩ := lo
  refine ⟨X', ?_, M', ?_, l5⟩
  · unfold f_Engine_raise
    rw [ez, Option.bind_some, ek, Option.bind_some]
    dsimp only [lt]
    have l1' : lp (b30_Engine_raise (C (600 + 16 * k.t)) (Int32.ofNat f) z) 10000 ((0 : Int32), xw X 40 11 kk) = some s := l1
    rw [l1', Option.bind_some]
    exact l3
  · unfold f_M_unwind
    rw [h2, Option.bind_some, l2, Option.bind_some]
    exact l4
