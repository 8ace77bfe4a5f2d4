/-! Q1 -/
set_option maxRecDepth 20000 in
set_option maxHeartbeats 4000000 in
theorem fnd_some {M : MS} {rc n r : Nat} : ∀ f c, fnd M rc n f c = some r → r < rc ∧ M.1 65 r = Int32.ofNat n := by
  intro f
  induction f with
  | zero => intro c h; cases h
  | succ f ih =>
    intro c h
    unfold fnd at h
    cases q : ownM M rc c n with
    | some m =>
      rw [q] at h
      cases h
      exact ⟨(ownM_some q).1, (ownM_some q).2.2.1⟩
    | none =>
      rw [q] at h
      dsimp only at h
      split at h
      · cases h
      · exact ih _ h
set_option maxRecDepth 20000 in
set_option maxHeartbeats 4000000 in
theorem argsK_s {M : MS} {r s : Nat} (h : M.1 67 r = M.1 67 s) : ∀ n, argsK M r n = argsK M s n
  | 0 => rfl
  | n + 1 => by
    show argK M r n :: argsK M r n = argK M s n :: argsK M s n
    rw [argsK_s h n]
    unfold argK
    rw [h]
set_option maxRecDepth 20000 in
set_option maxHeartbeats 4000000 in
theorem sig_same {Mr : MS} {kc rc main : Nat} (g : GP Mr kc rc main) {r s n : Nat} (hr : r < rc) (hs : s < rc) (hn : n < 8) (er : Mr.1 65 r = Int32.ofNat n) (es : Mr.1 65 s = Int32.ofNat n) : callK Mr r = callK Mr s ∧ Mr.1 68 r = Mr.1 68 s ∧ tkn Mr r = tkn Mr s ∧ Mr.1 66 r = Mr.1 66 s ∧ ¬ Mr.1 65 r = -2 := by
  obtain ⟨⟨X, T, h⟩, _⟩ := g
  have nn : ¬ Mr.1 65 r = -2 := by rw [er, n2_eq n (by omega)]; exact fun x => x
  have nn' : ¬ Mr.1 65 s = -2 := by rw [es, n2_eq n (by omega)]; exact fun x => x
  obtain ⟨q1, q2, q3, _⟩ := h.2.2.2.2.1.2.2.1 r s hr hs (by rw [er, es]) nn
  refine ⟨?_, q3, ?_, q1, nn⟩
  · unfold callK
    rw [if_neg nn, if_neg nn', q1, argsK_s q2]
  · unfold tkn
    rw [if_neg nn, if_neg nn', q1]
/-- what a call or a return leaves behind -/
def OutC (k : Kx) (T C : Nat → Nat) (n : Nat) (o : Int32 × XS) (M : MS) : Prop := (o.1 = -1 ∧ M.1 60 90 = 0 ∧ ∃ V, Rn k.c k.A k.hp k.nb k.oc k.U k.W k.D T C n o.2 V M) ∨ ∃ f x V, o.1 = Int32.ofNat f ∧ Mf k T C n o.2 V M f x
theorem outc_flt {k : Kx} {T C : Nat → Nat} {n : Nat} {X : XS} {M M1 : MS} {g : Nat → Int32} {h : Nat} (j : Jm k T C n X M1 g h (k.S.2.2.2.2.1 k.i)) (ag : Ag k M M1) {f : Nat} (h1 : 1 ≤ f) (h2 : f ≤ 9) (e : M.1 60 90 = Int32.ofNat f) : OutC k T C n (Int32.ofNat f, X) M := by
  obtain ⟨V, md⟩ := j
  exact Or.inr ⟨f, 0, V, rfl, ⟨⟨M1, g, h, md, ag⟩, ⟨e, h1, by omega⟩, fun q => by omega⟩⟩
set_option maxRecDepth 20000 in
set_option maxHeartbeats 4000000 in
/-- entering a method on both sides -/
theorem enter_ok {k : Kx} {T C : Nat → Nat} {n : Nat} {X : XS} {M : MS} {g' l' : Nat → Int32} {h' h1 r : Nat} (ok : k.c.Ok) (j : Jz k T C n X M (k.S.2.2.2.1 k.i) (k.S.2.2.1 k.i) (k.S.2.2.2.2.1 k.i)) (hr24 : r < 24) (hre : fm k.c.Mr 75 r) (pop : popsK (k.S.2.2.2.1 k.i) (callK k.c.Mr r) (k.S.2.2.1 k.i) = some h1) (put : putT (k.c.Mr.1 68 r) (k.S.2.2.2.1 k.i) h1 (k.S.2.2.2.2.1 k.i) = some (g', h', l')) (cv : Cov k.S (k.i + 1) g' h' l') (hop : opN k.c.Mr k.m k.i = 38 ∨ opN k.c.Mr k.m k.i = 39) : Wo ((f_Strand_enterTaking (C (600 + 16 * k.t)) (Int32.ofNat (rn k.c.Mr r)) (Int32.ofNat (caN k.c.Mr r)) (tkn k.c.Mr r) X).bind fun x4 => (if x4.1 = true then some ((-1 : Int32), x4.2) else some (9, x4.2))) (fun o => Wo (f_M_call (Int32.ofNat k.t) (Int32.ofNat r) M) (fun M' => OutC k T C n o M')) := by
  obtain ⟨⟨V, md⟩, z⟩ := j
  obtain ⟨t1, t2, t3⟩ := md.t6
  have d20 := md.tp.d20
  by_cases hd : k.d + 1 < 20
  · obtain ⟨X', V', M', e1, e2, e3, e4⟩ := call_ok ok md hr24 hre hd pop put cv hop
    rw [e1, Option.bind_some, if_pos rfl, e2]
    exact W_some.mpr (W_some.mpr (Or.inl ⟨rfl, by rw [e3]; exact z, V', e4⟩))
  · have r0 := md.rv.rd (Lv_s (f := 0) t1 (by omega) : Lv n (600 + 16 * k.t))
    have ed : X.1 (C (600 + 16 * k.t)) 2 = 20 := by rw [r0, md.tp.v2, show k.d + 1 = 20 by omega]; rfl
    rw [enterT_no (md.rv.sc t1) ed, Option.bind_some, if_neg (show ¬ false = true by decide)]
    have em : f_M_call (Int32.ofNat k.t) (Int32.ofNat r) M = some (mw M 60 90 9) := by
      unfold f_M_call
      have e9 : ¬ ¬ M.1 109 k.t = 20 := fun q => q (by rw [md.tp.m109, show k.d + 1 = 20 by omega]; rfl)
      rw [if_pos (ixl t2 (by omega)), o_cl _ (by omega), if_neg e9]
    rw [em]
    refine W_some.mpr (W_some.mpr ?_)
    exact outc_flt (f := 9) ⟨V, md⟩ ((Ag.refl k M).flt (Or.inl rfl) 9) (by omega) (by omega) (by rw [mw1, if_pos ⟨rfl, rfl⟩]; rfl)
set_option maxRecDepth 20000 in
set_option maxHeartbeats 4000000 in
theorem call38_ok {k : Kx} {T C : Nat → Nat} {n : Nat} {X : XS} {M : MS} {g' l' : Nat → Int32} {h' : Nat} (ok : k.c.Ok) (hop : opN k.c.Mr k.m k.i = 38) (j : Jz k T C n X M (k.S.2.2.2.1 k.i) (k.S.2.2.1 k.i) (k.S.2.2.2.2.1 k.i)) (tr : Tr k.c.Mr k.c.rc 38 (odI k.c.Mr k.m k.i) (k.S.2.2.2.1 k.i) (k.S.2.2.1 k.i) (k.S.2.2.2.2.1 k.i) = some (g', h', l')) (cv : Cov k.S (k.i + 1) g' h' l') : ∃ z, f_Image_at_51 (Int32.ofNat (caN k.c.Mr k.m + off k.c.Mr k.m k.i + 1)) X = some z ∧ Wo (f_Engine_doCall (C (600 + 16 * k.t)) 38 z X) (fun o => Wo (f_M_call (Int32.ofNat k.t) (odI k.c.Mr k.m k.i) M) (fun M' => OutC k T C n o M')) := by
  obtain ⟨i1, i2, i3, i4, _⟩ := j.1.im ok
  obtain ⟨f0, f1, f2, f3, f4, f5, f6, f7⟩ := ins_facts i2 i3 i4
  obtain ⟨r, hr, er, hst⟩ := f6.1.2.2.2.2.2.2.1 hop
  have r24 := (gp_k10 i2).2
  have od' : k.c.Mr.1 72 (60 * k.m + k.i) = Int32.ofNat r := er
  have hre : fm k.c.Mr 75 r := by
    refine (i2.2.2.1.2.2.2.2.1 k.m f0 i3.2.1).1 r ⟨k.i, f1, ?_, hr, od', hst⟩
    rw [f4, hop]
    rfl
  have rl := rn_lt (show r < 24 by omega) hre
  have l2 : ln (opN k.c.Mr k.m k.i) (odI k.c.Mr k.m k.i) = 2 := by
    unfold ln ln0
    rw [hop, if_neg (by omega), if_pos (by omega)]
  have a1 := opr_2 j.1 ok (by rw [l2]; omega)
  have oL : opL k.c.Mr k.m (opN k.c.Mr k.m k.i) (odI k.c.Mr k.m k.i) = [Int32.ofNat 38, k.c.Mr.1 79 (odI k.c.Mr k.m k.i).toNatClampNeg] := by
    unfold opL
    rw [hop, if_neg (by omega), if_neg (by omega), if_neg (by omega), if_neg (by omega), if_neg (by omega), if_pos rfl]
  rw [oL] at a1
  have a1' : f_Image_at_51 (Int32.ofNat (caN k.c.Mr k.m + off k.c.Mr k.m k.i + 1)) X = some (Int32.ofNat (rn k.c.Mr r)) := by
    rw [a1]
    show some (k.c.Mr.1 79 (odI k.c.Mr k.m k.i).toNatClampNeg &&& 255) = _
    rw [er, o_cl _ (by omega), i2.2.2.1.2.2.2.2.2.2.2.2.2.2 r hr]
    exact congrArg some (and255 (by show rn k.c.Mr r < 256; omega))
  refine ⟨_, a1', ?_⟩
  unfold Tr at tr
  rw [if_neg (by omega), if_neg (by omega), if_neg (by omega), if_neg (by omega), if_pos rfl, er, o_cl _ (by omega)] at tr
  unfold callT at tr
  cases hp : popsK (k.S.2.2.2.1 k.i) (callK k.c.Mr r) (k.S.2.2.1 k.i) with
  | none => rw [hp] at tr; cases tr
  | some h1 =>
    rw [hp] at tr
    have e := enter_ok ok j (by omega) hre hp tr cv (Or.inl hop)
    rw [er]
    unfold f_Engine_doCall f_Engine_callStatic
    rw [if_pos rfl, codeAt_51 i1 i2 (by omega) hre, Option.bind_some, takenBy_51 i1 i2 (by omega) hre, Option.bind_some, if_pos j.x]
    rw [W_bind]
    refine Wo.mono e ?_
    intro o ho
    exact W_some.mpr ho
set_option maxRecDepth 20000 in
set_option maxHeartbeats 4000000 in
theorem argsOf_eq {k : Kx} {T C : Nat → Nat} {n : Nat} {X : XS} {M : MS} {g : Nat → Int32} {h : Nat} {l : Nat → Int32} (j : Jm k T C n X M g h l) (ok : k.c.Ok) {nm r0 : Nat} (hn : nm < 8) (h0 : anyM k.c.Mr k.c.rc nm = some r0) : f_M_argumentsOf (Int32.ofNat nm) M = some (k.c.Mr.1 66 r0) := by
  obtain ⟨i1, i2, i3, i4, i5, i6⟩ := j.im ok
  obtain ⟨a1, a2, a3⟩ := anyM_some h0
  have r24 := (gp_k10 i2).2
  have e100 : ∀ m, m < k.c.rc → M.1 100 (24 + m) = k.c.Mr.1 65 m ∧ M.1 99 (24 + m) = k.c.Mr.1 66 m := by
    intro m hm
    rw [i5 100 _ (by unfold RunM; omega), i5 99 _ (by unfold RunM; omega)]
    have := i6.2.1 m hm
    rw [show 24 + m = 24 * 1 + m by omega]
    exact ⟨this.2.1, this.1⟩
  have key : ∀ N m, m ≤ r0 → r0 - m < N → lp (b2_M_argumentsOf (Int32.ofNat nm) M) N (Int32.ofNat m) = some (k.c.Mr.1 66 r0) := by
    intro N
    induction N with
    | zero => intro m h1 h2; omega
    | succ N ih =>
      intro m h1 h2
      have c1 : ¬ (24 : Int32) ≤ Int32.ofNat m := by rw [o_leL _ _ (by decide) (by omega)]; show ¬ 24 ≤ m; omega
      have ix : ixo (24 + Int32.ofNat m) 48 := by rw [o_addL]; exact ixl (show 24 + m < 48 by omega) (show 24 + m < 2147483648 by omega)
      have cl : (24 + Int32.ofNat m).toNatClampNeg = 24 + m := by rw [o_addL]; exact o_cl _ (show 24 + m < 2147483648 by omega)
      by_cases e : m = r0
      · subst e
        refine lp_inr ?_
        unfold b2_M_argumentsOf
        rw [if_neg c1, if_pos ix]
        simp only [cl]
        rw [(e100 m a1).1, if_neg (fun z => z a2), (e100 m a1).2]
      · have st : b2_M_argumentsOf (Int32.ofNat nm) M (Int32.ofNat m) = some (.inl (Int32.ofNat (m + 1))) := by
          unfold b2_M_argumentsOf
          rw [if_neg c1, if_pos ix]
          simp only [cl]
          rw [(e100 m (by omega)).1, if_pos (a3 m (by omega)), o_addR]
        rw [lp_inl st]
        exact ih (m + 1) (by omega) (by omega)
  exact key 10000 0 (by omega) (by omega)
set_option maxRecDepth 20000 in
set_option maxHeartbeats 4000000 in
/-- the method that an object has for a name, on both sides -/
theorem meth_ok {k : Kx} {T C : Nat → Nat} {n : Nat} {X : XS} {V M M2 : MS} {g : Nat → Int32} {h : Nat} {l : Nat → Int32} (md : Md k T C n X V M2 g h l) (ok : k.c.Ok) {x y : Int32} (rr : RefR k.c.Mr k.A x y) {nm : Nat} (hn : nm < 8) (hcl : fm k.c.Mr 78 nm) (h121 : M.1 121 = M2.1 121) (hmf : ∀ a i, ¬ RunM a i → M.1 a i = k.c.M0.1 a i) : (x = 0 ∧ f_M_methodOf y (Int32.ofNat nm) M = some (-2, mw M 60 90 1)) ∨ (¬ x = 0 ∧ f_Engine_routineOf x (Int32.ofNat nm) X = some 255 ∧ ∃ z, f_M_methodOf y (Int32.ofNat nm) M = some (z, mw M 60 90 6)) ∨ (¬ x = 0 ∧ ∃ r, r < k.c.rc ∧ fm k.c.Mr 75 r ∧ k.c.Mr.1 65 r = Int32.ofNat nm ∧ f_Engine_routineOf x (Int32.ofNat nm) X = some (Int32.ofNat (rn k.c.Mr r)) ∧ f_M_methodOf y (Int32.ofNat nm) M = some (Int32.ofNat r, mw M 60 90 0)) := by
  rcases rr.cases md.hr with ⟨n1, n2⟩ | ⟨q, hq, n1, n2, n3, n4, n5, n6, n7⟩
  · refine Or.inl ⟨n1, ?_⟩
    unfold f_M_methodOf
    rw [if_pos (by rw [n2]; exact Int32.le_refl _), if_neg (fun z => z n2)]
  · obtain ⟨gp, ht0, him, hkp⟩ := ok
    have ok : k.c.Ok := ⟨gp, ht0, him, hkp⟩
    have him' := md.rv.im ht0 him
    obtain ⟨r1, r2, r3, r4, r5, r6, r7, r8⟩ := arr_ok md ok hq
    have k10 := (gp_k10 gp).1
    have r24 := (gp_k10 gp).2
    have e121 : M.1 121 y.toNatClampNeg = Int32.ofNat (k.A.K q) := by rw [n7, h121]; exact (md.hr.ob q hq).m121
    have e10 : ((10 : Int32) ≤ Int32.ofNat (k.A.K q)) ↔ 10 ≤ k.A.K q := by rw [o_leL _ _ (by decide) (by omega)]
    by_cases cK : 10 ≤ k.A.K q
    · refine Or.inr (Or.inl ⟨n3, ?_, -2, ?_⟩)
      · unfold f_Engine_routineOf
        rw [n1, r2, Option.bind_some, if_pos (decide_eq_true cK)]
      · unfold f_M_methodOf
        rw [if_neg n5, if_pos n6, e121, if_pos (e10.mpr cK), if_pos n4]
    · have ob := (md.hr.ob q hq).ok
      have hk : k.A.K q < k.c.kc ∧ fm k.c.Mr 76 (k.A.K q) ∧ fm k.c.Mr 77 (k.A.K q) := by rcases ob with w | w; exact ⟨w.1, w.2.1, w.2.2.1⟩; omega
      have ek : kcode k.c.Mr (k.A.K q) = kn k.c.Mr (k.A.K q) := by unfold kcode; rw [if_pos (by omega)]
      have ro : f_Engine_routineOf x (Int32.ofNat nm) X = some (mnum k.c.Mr (fnd k.c.Mr k.c.rc nm 10 (k.A.K q)) &&& 255) := by
        unfold f_Engine_routineOf
        rw [n1, r2, Option.bind_some, if_neg (fun z => cK (of_decide_eq_true z)), r1, Option.bind_some, ek, routineFor_51 him' gp hk.1 hk.2.2 hn]
        rfl
      have n10 : ¬ (10 : Int32) ≤ Int32.ofNat (k.A.K q) := fun w => cK (e10.mp w)
      have i98 : (80 + 8 * Int32.ofNat (k.A.K q)) + Int32.ofNat nm = Int32.ofNat (80 + (8 * k.A.K q + nm)) := by
        rw [o_mulL, o_addL, o_add]
        congr 1
        show 80 + 8 * k.A.K q + nm = _
        omega
      have e98 : M.1 98 (80 + (8 * k.A.K q + nm)) = enc (-2) (fnd k.c.Mr k.c.rc nm 10 (k.A.K q)) := by
        rw [hmf 98 _ (by unfold RunM; omega)]
        have := (hkp.1 (k.A.K q) hk.1).2.2.2 nm hn
        rw [show 80 + (8 * k.A.K q + nm) = 80 * 1 + (8 * k.A.K q + nm) by omega, this]
      have ix : ixo (Int32.ofNat (80 + (8 * k.A.K q + nm))) 160 := ixl (by omega) (by omega)
      have cl : (Int32.ofNat (80 + (8 * k.A.K q + nm))).toNatClampNeg = 80 + (8 * k.A.K q + nm) := o_cl _ (by omega)
      cases hf : fnd k.c.Mr k.c.rc nm 10 (k.A.K q) with
      | none =>
        rw [hf] at ro e98
        have e98' : M.1 98 (80 + (8 * k.A.K q + nm)) = -2 := e98
        refine Or.inr (Or.inl ⟨n3, ?_, -2, ?_⟩)
        · rw [ro]
          exact congrArg some (show (255 : Int32) &&& 255 = 255 by decide)
        · unfold f_M_methodOf
          rw [if_neg n5, if_pos n6, e121, if_neg n10, i98, if_pos ix, if_pos n4]
          simp only [cl]
          rw [e98', if_neg (by decide)]
      | some r =>
        obtain ⟨hr, er⟩ := fnd_some _ _ hf
        have hre : fm k.c.Mr 75 r := gp.2.2.1.2.2.2.2.2.2.1 (k.A.K q) nm r hk.1 hn hk.2.1 hcl hf
        have rl := rn_lt (show r < 24 by omega) hre
        rw [hf] at ro e98
        have e98' : M.1 98 (80 + (8 * k.A.K q + nm)) = Int32.ofNat r := e98
        refine Or.inr (Or.inr ⟨n3, r, hr, hre, er, ?_, ?_⟩)
        · rw [ro]
          unfold mnum
          dsimp only
          rw [if_neg hre, gp.2.2.1.2.2.2.2.2.2.2.2.2.2 r hr]
          exact congrArg some (and255 (by show rn k.c.Mr r < 256; omega))
        · unfold f_M_methodOf
          rw [if_neg n5, if_pos n6, e121, if_neg n10, i98, if_pos ix, if_pos n4]
          simp only [cl]
          rw [e98', if_pos (by rw [o_0le _ (by omega)]; trivial)]
