/-! Q2 -/
set_option maxRecDepth 20000 in
set_option maxHeartbeats 4000000 in
theorem call39_ok {k : Kx} {T C : Nat → Nat} {n : Nat} {X : XS} {M : MS} {g' l' : Nat → Int32} {h' : Nat} (ok : k.c.Ok) (hop : opN k.c.Mr k.m k.i = 39) (j : Jz k T C n X M (k.S.2.2.2.1 k.i) (k.S.2.2.1 k.i) (k.S.2.2.2.2.1 k.i)) (tr : Tr k.c.Mr k.c.rc 39 (odI k.c.Mr k.m k.i) (k.S.2.2.2.1 k.i) (k.S.2.2.1 k.i) (k.S.2.2.2.2.1 k.i) = some (g', h', l')) (cv : Cov k.S (k.i + 1) g' h' l') : ∃ z, f_Image_at_51 (Int32.ofNat (caN k.c.Mr k.m + off k.c.Mr k.m k.i + 1)) X = some z ∧ Wo (f_Engine_doCall (C (600 + 16 * k.t)) 39 z X) (fun o => Wo ((f_M_argumentsOf (odI k.c.Mr k.m k.i) M).bind fun x99 => ((f_M_peek x99 M).bind fun x100 => ((f_M_methodOf x100 (odI k.c.Mr k.m k.i) M).bind fun x101 => (if ¬ x101.2.1 60 90 = 0 then some x101.2 else ((f_M_call (Int32.ofNat k.t) x101.1 x101.2).bind fun x103 => some x103))))) (fun M' => OutC k T C n o M')) := by
  obtain ⟨i1, i2, i3, i4, i5, i6⟩ := j.1.im ok
  obtain ⟨f0, f1, f2, f3, f4, f5, f6, f7⟩ := ins_facts i2 i3 i4
  obtain ⟨nm, hn, en, r0, hr0⟩ := f6.1.2.2.2.2.2.2.2.1 hop
  have r24 := (gp_k10 i2).2
  obtain ⟨a1, a2, a3⟩ := anyM_some hr0
  have od' : k.c.Mr.1 72 (60 * k.m + k.i) = Int32.ofNat nm := en
  have hcl : fm k.c.Mr 78 nm := by
    refine (i2.2.2.1.2.2.2.2.1 k.m f0 i3.2.1).2.2.1 nm ⟨k.i, f1, Or.inl ⟨?_, hn, od'⟩⟩
    rw [f4, hop]
    rfl
  have l2 : ln (opN k.c.Mr k.m k.i) (odI k.c.Mr k.m k.i) = 2 := by
    unfold ln ln0
    rw [hop, if_neg (by omega), if_pos (by omega)]
  have b1 := opr_2 j.1 ok (by rw [l2]; omega)
  have oL : opL k.c.Mr k.m (opN k.c.Mr k.m k.i) (odI k.c.Mr k.m k.i) = [Int32.ofNat 39, odI k.c.Mr k.m k.i] := by
    unfold opL
    rw [hop, if_neg (by omega), if_neg (by omega), if_neg (by omega), if_neg (by omega), if_neg (by omega), if_neg (by omega), if_pos (by decide)]
  rw [oL] at b1
  have b1' : f_Image_at_51 (Int32.ofNat (caN k.c.Mr k.m + off k.c.Mr k.m k.i + 1)) X = some (Int32.ofNat nm) := by
    rw [b1]
    show some (odI k.c.Mr k.m k.i &&& 255) = _
    rw [en]
    exact congrArg some (and255 (by omega))
  refine ⟨_, b1', ?_⟩
  unfold Tr at tr
  rw [if_neg (by omega), if_neg (by omega), if_neg (by omega), if_neg (by omega), if_neg (by omega), if_pos rfl, en, o_cl _ (by omega), hr0] at tr
  have tr' : callT k.c.Mr r0 (k.S.2.2.2.1 k.i) (k.S.2.2.1 k.i) (k.S.2.2.2.2.1 k.i) = some (g', h', l') := tr
  unfold callT at tr'
  cases hp : popsK (k.S.2.2.2.1 k.i) (callK k.c.Mr r0) (k.S.2.2.1 k.i) with
  | none => rw [hp] at tr'; cases tr'
  | some h1 =>
    rw [hp] at tr'
    have put : putT (k.c.Mr.1 68 r0) (k.S.2.2.2.1 k.i) h1 (k.S.2.2.2.2.1 k.i) = some (g', h', l') := tr'
    obtain ⟨eT, u5, eC, na, hna, e66, eN⟩ := tN_eq i2 a1
    have nst : ¬ k.c.Mr.1 65 r0 = -2 := by rw [a2, n2_eq nm (by omega)]; exact fun x => x
    rw [if_neg nst] at eN
    have hp' := hp
    rw [eC] at hp'
    obtain ⟨hh, hargs⟩ := popsK_ls _ _ _ hp'
    have gk := hargs 0 (by omega)
    have gk2 : k.S.2.2.2.1 k.i h1 = 2 := by
      have : kdX k.c.Mr r0 0 = 2 := by unfold kdX; rw [if_neg nst, if_pos rfl]
      rw [← this, ← gk, Nat.add_zero]
    obtain ⟨x, v, w1, w2, w3⟩ := J_peek j.1 (q := na) (by omega)
    rw [show k.S.2.2.1 k.i - 1 - na = h1 by omega] at w3
    have rr := w3.2 gk2
    have tkb : f_Image_takenByName_51 (Int32.ofNat nm) X = tkn k.c.Mr r0 := by
      obtain ⟨b, L, _, _, _, h4, _⟩ := i1
      unfold f_Image_takenByName_51
      rw [if_pos (by rw [o_0le _ (by omega), o_leR _ _ (by omega) (by decide)]; exact ⟨trivial, by show nm ≤ 7; omega⟩), o_cl _ (by omega), h4 nm hn]
      unfold nmF
      rw [hr0]
    have tk1 : tkn k.c.Mr r0 - 1 = Int32.ofNat na := by
      rw [eT, eN, o_subR (na + 1) 1 (show 1 ≤ na + 1 by omega)]
      rfl
    have ao := argsOf_eq j.1 ok hn hr0
    rw [en, ao, Option.bind_some, e66, w2, Option.bind_some]
    unfold f_Engine_doCall f_Engine_callName
    rw [if_neg (by decide), if_pos rfl, if_pos j.x, tkb, tk1, w1, Option.bind_some]
    obtain ⟨⟨V, md⟩, z⟩ := j
    have j : Jz k T C n X M (k.S.2.2.2.1 k.i) (k.S.2.2.1 k.i) (k.S.2.2.2.2.1 k.i) := ⟨⟨V, md⟩, z⟩
    have w90 : ∀ v, (mw M 60 90 v).1 60 90 = v := fun v => by rw [mw1, if_pos ⟨rfl, rfl⟩]
    rcases meth_ok md ok rr hn hcl (M := M) rfl i5 with ⟨c1, c2⟩ | ⟨c1, c2, zz, c3⟩ | ⟨c1, r, hr, hre, er, c2, c3⟩
    · rw [if_neg (fun q => q c1), c2, Option.bind_some, Option.bind_some, if_pos (show ¬ (mw M 60 90 1).1 60 90 = 0 by rw [w90]; decide)]
      refine W_some.mpr (W_some.mpr ?_)
      exact outc_flt (f := 1) j.1 ((Ag.refl k M).flt (Or.inl rfl) 1) (by omega) (by omega) (w90 1)
    · have p255 : ¬ ¬ (255 : Int32) = 255 := fun q => q rfl
      rw [if_pos c1, c2, Option.bind_some, if_neg p255, c3, Option.bind_some, Option.bind_some, if_pos (show ¬ (mw M 60 90 6).1 60 90 = 0 by rw [w90]; decide)]
      refine W_some.mpr (W_some.mpr ?_)
      exact outc_flt (f := 6) j.1 ((Ag.refl k M).flt (Or.inl rfl) 6) (by omega) (by omega) (w90 6)
    · have rl := rn_lt (show r < 24 by omega) hre
      have p255 : ¬ Int32.ofNat (rn k.c.Mr r) = 255 := by rw [o_eqR _ _ (by omega) (by decide)]; show ¬ rn k.c.Mr r = 255; omega
      obtain ⟨s1, s2, s3, s4, s5⟩ := sig_same i2 hr a1 hn er a2
      have jz0 : Jz k T C n X (mw M 60 90 0) (k.S.2.2.2.1 k.i) (k.S.2.2.1 k.i) (k.S.2.2.2.2.1 k.i) := ⟨j.1.flt (Or.inl rfl) 0, w90 0⟩
      have e := enter_ok ok jz0 (show r < 24 by omega) hre (by rw [s1]; exact hp) (by rw [s2]; exact put) cv (Or.inr hop)
      rw [if_pos c1, c2, Option.bind_some, if_pos p255, codeAt_51 i1 i2 (by omega) hre, Option.bind_some, ← s3, c3, Option.bind_some, if_neg (fun q => q (w90 0))]
      rw [W_bind]
      refine Wo.mono e ?_
      intro o ho
      refine W_some.mpr ?_
      rw [W_bind]
      refine Wo.mono ho ?_
      intro M' hM'
      exact W_some.mpr hM'
theorem tk_g : tkL 40 = [] ∧ tkL 41 = [1] ∧ tkL 42 = [2] := by decide
set_option maxRecDepth 20000 in
set_option maxHeartbeats 4000000 in
/-- a value goes back to the method that called -/
theorem back_ok {k : Kx} {T C : Nat → Nat} {n op : Nat} {X1 : XS} {V1 M1 : MS} {g : Nat → Int32} {h : Nat} {l : Nat → Int32} (ok : k.c.Ok) (h40 : 40 ≤ op) (h42 : op ≤ 42) (md : Md k T C n X1 V1 M1 g h l) (z : M1.1 60 90 = 0) (e68 : k.c.Mr.1 68 k.m = Int32.ofNat (op - 40)) {x v : Int32} (vr : VR k (Int32.ofNat (op - 40)) x v) : Wo (f_Strand_leave (C (600 + 16 * k.t)) X1) (fun x6 => Wo (if ¬ x6.1 (C (600 + 16 * k.t)) 2 = 0 then (lt (xw x6 (C (600 + 16 * k.t)) 4 ((x6.1 (C (600 + 16 * k.t)) 4) + (f_P_bytesOf 38))) fun X9 => (if ¬ Int32.ofNat op = 41 then (if ¬ Int32.ofNat op = 42 then some ((-1 : Int32), X9) else ((f_Strand_pushRef (C (600 + 16 * k.t)) x X9).bind fun x12 => some ((-1), x12))) else ((f_Strand_push (C (600 + 16 * k.t)) x X9).bind fun x13 => some ((-1), x13)))) else ((f_Strand_finish (C (600 + 16 * k.t)) 1 0 x6).bind fun x14 => some ((-1), x14))) (fun o => Wo (lt (mw M1 109 k.t ((M1.1 109 k.t) - 1)) fun M5 => (if ¬ M5.1 109 k.t = 0 then (lt (mw M5 60 89 ((M5.1 60 89) - 1)) fun M7 => (if ¬ Int32.ofNat op = 41 then (if ¬ Int32.ofNat op = 42 then (if ixo (M7.1 60 89) 120 then (lt (mw M7 113 (M7.1 60 89).toNatClampNeg ((M7.1 113 (M7.1 60 89).toNatClampNeg) + 1)) fun M11 => some M11) else none) else ((f_M_putRef v M7).bind fun x12 => (if ixo (x12.1 60 89) 120 then (lt (mw x12 113 (x12.1 60 89).toNatClampNeg ((x12.1 113 (x12.1 60 89).toNatClampNeg) + 1)) fun M14 => some M14) else none))) else ((f_M_putInt v M7).bind fun x15 => (if ixo (x15.1 60 89) 120 then (lt (mw x15 113 (x15.1 60 89).toNatClampNeg ((x15.1 113 (x15.1 60 89).toNatClampNeg) + 1)) fun M17 => some M17) else none)))) else (lt (mw M5 110 k.t 2) fun M18 => some M18))) (fun M' => OutC k T C n o M'))) := by
  obtain ⟨t1, t2, t3⟩ := md.t6
  have d20 := md.tp.d20
  have l0 : Lv n (600 + 16 * k.t) := Lv_s (f := 0) t1 (by omega)
  have r0 := md.rv.rd l0
  have sx := (md.rv.sc t1).x
  by_cases hd : k.d = 0
  · have e2 : X1.1 (C (600 + 16 * k.t)) 2 = 1 := by rw [r0, md.tp.v2, hd]; rfl
    rw [leave_1 sx e2, W_some]
    have x20 : (xw X1 (C (600 + 16 * k.t)) 2 0).1 (C (600 + 16 * k.t)) 2 = 0 := by rw [xw1, if_pos ⟨rfl, rfl⟩]
    have sx' : xT (xw X1 (C (600 + 16 * k.t)) 2 0) (C (600 + 16 * k.t)) = some (14, 0) := sx
    rw [if_neg (fun q => q x20), finish_eq sx', Option.bind_some, W_some]
    have e109 : M1.1 109 k.t - 1 = 0 := by rw [md.tp.m109, hd]; decide
    dsimp only [lt]
    rw [e109]
    have m20 : (mw M1 109 k.t 0).1 109 k.t = 0 := by rw [mw1, if_pos ⟨rfl, rfl⟩]
    rw [if_neg (fun q => q m20), W_some]
    refine Or.inl ⟨rfl, ?_, mw (mw (mw (mw V1 (600 + 16 * k.t) 2 0) (600 + 16 * k.t) 2 0) (600 + 16 * k.t) 0 1) (600 + 16 * k.t) 1 0, ?_⟩
    · rw [mwr _ _ _ (by omega), mwr _ _ _ (by omega)]; exact z
    · refine md.dead ((((md.rv.w l0 _ _).w l0 _ _).w l0 _ _).w l0 _ _) ?_ ?_ ?_ ?_ ?_ rfl ?_ ?_ ?_ ?_
      · intro b hb
        rw [mwr _ _ _ hb, mwr _ _ _ hb, mwr _ _ _ hb, mwr _ _ _ hb]
      · intro b h1 h2 h3 h4 h5
        rw [mwr _ _ _ h3, mwr _ _ _ h2]
      · intro q hq
        rw [mwr _ _ _ (by omega), mwr _ _ _ (by omega)]
      · intro b q h1 h2 h3
        rw [mwi _ _ _ h3, mwi _ _ _ h3]
      · intro b h1 h2 h3
        rw [mwr _ _ _ (by omega), mwr _ _ _ (by omega)]
      · rw [mwr _ _ _ (by omega), mw1, if_pos ⟨rfl, rfl⟩]
      · rw [mwi _ _ _ (by omega), mwi _ _ _ (by omega), mw1, if_pos ⟨rfl, rfl⟩]
      · rw [mwr _ _ _ (by omega), mwr _ _ _ (by omega), mw1, if_pos ⟨rfl, rfl⟩]; exact md.tp.fl.1
      · refine Or.inl ⟨?_, ?_⟩
        · rw [mw1, if_pos ⟨rfl, rfl⟩]
        · rw [mwi _ _ _ (by omega), mw1, if_pos ⟨rfl, rfl⟩]
  · obtain ⟨d, hd'⟩ : ∃ d, k.d = d + 1 := ⟨k.d - 1, by omega⟩
    obtain ⟨m, i, S, h', g2, h2, l2, X2, V2, e1, md2, e3, put, cv, hop⟩ := leave_md md (Ag.refl k M1) hd'
    rw [e1, W_some]
    have e109 : M1.1 109 k.t - 1 = Int32.ofNat (d + 1) := by
      rw [md.tp.m109, hd', o_subR (d + 1 + 1) 1 (show 1 ≤ d + 1 + 1 by omega)]
      rfl
    have r2 := md2.rv.rd l0
    have v2 : X2.1 (C (600 + 16 * k.t)) 2 = Int32.ofNat (d + 1) := by rw [r2]; exact md2.tp.v2
    have v4 : X2.1 (C (600 + 16 * k.t)) 4 = Int32.ofNat (caN k.c.Mr m + off k.c.Mr m i) := by rw [r2]; exact md2.tp.v4
    have gp := ok.1
    have on := off_next gp md2.mt.1 md2.mt.2
    have ln2 : ln (opN k.c.Mr m i) (odI k.c.Mr m i) = 2 := by
      unfold ln ln0
      rcases hop with e | e <;> rw [e, if_neg (by omega), if_pos (by omega)]
    have on' : off k.c.Mr m (i + 1) = off k.c.Mr m i + 2 := by rw [← ln2]; exact on
    have pl : X2.1 (C (600 + 16 * k.t)) 4 + f_P_bytesOf 38 = Int32.ofNat (caN k.c.Mr m + off k.c.Mr m (i + 1)) := by
      rw [v4, show f_P_bytesOf 38 = Int32.ofNat 2 by decide, o_add, on']
      rfl
    have n0 : ¬ X2.1 (C (600 + 16 * k.t)) 2 = 0 := by rw [v2, o_eqR _ _ (by omega) (by decide)]; show ¬ d + 1 = 0; omega
    rw [if_pos n0]
    dsimp only [lt]
    rw [pl, e109]
    have m20 : ¬ (mw M1 109 k.t (Int32.ofNat (d + 1))).1 109 k.t = 0 := by rw [mw1, if_pos ⟨rfl, rfl⟩, o_eqR _ _ (by omega) (by decide)]; show ¬ d + 1 = 0; omega
    have e89 : (mw M1 109 k.t (Int32.ofNat (d + 1))).1 60 89 - 1 = Int32.ofNat (20 * k.t + d) := by
      rw [mwr _ _ _ (by omega), md.f89, hd', o_subR (20 * k.t + (d + 1)) 1 (show 1 ≤ 20 * k.t + (d + 1) by omega)]
      rfl
    rw [if_pos m20, e89]
    generalize hM2 : mw (mw M1 109 k.t (Int32.ofNat (d + 1))) 60 89 (Int32.ofNat (20 * k.t + d)) = M2 at *
    have z2 : M2.1 60 90 = 0 := by rw [← hM2, mwi _ _ _ (by omega), mwr _ _ _ (by omega)]; exact z
    have f89 : M2.1 60 89 = Int32.ofNat (20 * k.t + d) := md2.f89
    have ixF : ixo (Int32.ofNat (20 * k.t + d)) 120 := ixl (by omega) (by omega)
    have clF : (Int32.ofNat (20 * k.t + d)).toNatClampNeg = 20 * k.t + d := o_cl _ (by omega)
    have e113 : M2.1 113 (20 * k.t + d) = Int32.ofNat i := md2.tp.m113
    have fin : ∀ (y w q : Int32), (q = 1 ∧ y = w ∧ op = 41) ∨ (q = 2 ∧ RefR k.c.Mr k.A y w ∧ op = 42) → ∀ zz : Int32, zz = (if q = 1 then 0 else 1) → ∃ X3 M3, f_Strand_pushMarked (C (600 + 16 * k.t)) y zz (xw X2 (C (600 + 16 * k.t)) 4 (Int32.ofNat (caN k.c.Mr m + off k.c.Mr m (i + 1)))) = some X3 ∧ M3 = mw (mw (mw M2 115 (22 * (20 * k.t + d) + 12 + h') w) 116 (22 * (20 * k.t + d) + 12 + h') zz) 114 (20 * k.t + d) (Int32.ofNat (h' + 1)) ∧ h' < 10 ∧ OutC k T C n (-1, X3) (mw M3 113 (20 * k.t + d) (Int32.ofNat (i + 1))) := by
      intro y w q hq zz hzz
      have hqv : k.c.Mr.1 68 k.m = q := by
        rw [e68]
        rcases hq with ⟨a, _, b⟩ | ⟨a, _, b⟩ <;> rw [a, b] <;> rfl
      have hq0 : ¬ q = 0 := by rcases hq with ⟨a, _⟩ | ⟨a, _⟩ <;> rw [a] <;> decide
      rw [hqv] at put
      obtain ⟨p1, p2, p3, p4⟩ := putT_v hq0 put
      have hz : (zz = 0 ∧ y = w) ∨ (zz = 1 ∧ RefR (k.fr d m i S).c.Mr (k.fr d m i S).A y w) := by
        rcases hq with ⟨a, b, _⟩ | ⟨a, b, _⟩
        · left; rw [hzz, if_pos a]; exact ⟨rfl, b⟩
        · right; rw [hzz, if_neg (by rw [a]; decide)]; exact ⟨rfl, b⟩
      have md3 := J_put md2 p1 hz
      have ekd : kd zz = q := by
        rcases hq with ⟨a, b, _⟩ | ⟨a, b, _⟩
        · rw [hzz, if_pos a, a]; rfl
        · rw [hzz, if_neg (by rw [a]; decide), a]; rfl
      rw [ekd] at md3
      rw [p2, p3, p4] at cv
      have rnn := md3.next cv
      have sc2 := md2.rv.sc t1
      have sc3 : SC (xw X2 (C (600 + 16 * k.t)) 4 (Int32.ofNat (caN k.c.Mr m + off k.c.Mr m (i + 1)))) _ _ _ _ _ _ := sc2.of2 rfl
      have pe := push_eq sc3 (bo := 22 * d + 12) (h := h') (by rw [xw1, if_neg (by omega), r2]; exact md2.tp.v7) (by rw [xw1, if_neg (by omega), r2]; exact md2.tp.v8) p1 (by omega) y zz
      rw [xw_comm X2 _ _ (Or.inl sc2.n1.1), xw_comm _ _ _ (Or.inl sc2.n1.2.1), xw_comm _ _ _ (Or.inr (by omega))] at pe
      refine ⟨_, _, pe, rfl, p1, Or.inl ⟨rfl, ?_, _, rnn⟩⟩
      rw [mwr _ _ _ (by omega), mwr _ _ _ (by omega), mwr _ _ _ (by omega), mwr _ _ _ (by omega)]
      exact z2
    have m113 : ∀ w zz, (mw (mw (mw M2 115 (22 * (20 * k.t + d) + 12 + h') w) 116 (22 * (20 * k.t + d) + 12 + h') zz) 114 (20 * k.t + d) (Int32.ofNat (h' + 1))).1 113 (20 * k.t + d) = Int32.ofNat i := fun w zz => by
      rw [mwr _ _ _ (by omega), mwr _ _ _ (by omega), mwr _ _ _ (by omega)]; exact e113
    have m89 : ∀ w zz, (mw (mw (mw M2 115 (22 * (20 * k.t + d) + 12 + h') w) 116 (22 * (20 * k.t + d) + 12 + h') zz) 114 (20 * k.t + d) (Int32.ofNat (h' + 1))).1 60 89 = Int32.ofNat (20 * k.t + d) := fun w zz => by
      rw [mwr _ _ _ (by omega), mwr _ _ _ (by omega), mwr _ _ _ (by omega)]; exact f89
    have sx3 : xT (xw X2 (C (600 + 16 * k.t)) 4 (Int32.ofNat (caN k.c.Mr m + off k.c.Mr m (i + 1)))) (C (600 + 16 * k.t)) = some (14, 0) := (md2.rv.sc t1).x
    rcases (show op = 40 ∨ op = 41 ∨ op = 42 by omega) with o | o | o
    · subst o
      have n41 : ¬ Int32.ofNat 40 = 41 := by decide
      have n42 : ¬ Int32.ofNat 40 = 42 := by decide
      rw [if_pos n41, if_pos n42, if_pos n41, if_pos n42, f89, if_pos ixF, clF, e113, o_addR]
      have e0 : k.c.Mr.1 68 k.m = 0 := e68
      rw [e0] at put
      obtain ⟨p1, p2, p3⟩ := putT_0 put
      rw [p1, p2, p3] at cv
      have rnn := md2.next cv
      refine W_some.mpr (W_some.mpr (Or.inl ⟨rfl, ?_, _, rnn⟩))
      rw [mwr _ _ _ (by omega)]; exact z2
    · subst o
      have n41 : ¬ ¬ Int32.ofNat 41 = 41 := fun q => q rfl
      rw [if_neg n41, if_neg n41]
      obtain ⟨X3, M3, a1, a2, a3, a4⟩ := fin x v 1 (Or.inl ⟨rfl, vr.1 rfl, rfl⟩) 0 rfl
      have pm := (putM_eq f89 (by omega) md2.tp.m114 a3 v).1
      have px : f_Strand_push (C (600 + 16 * k.t)) x (xw X2 (C (600 + 16 * k.t)) 4 (Int32.ofNat (caN k.c.Mr m + off k.c.Mr m (i + 1)))) = some X3 := by
        unfold f_Strand_push
        rw [if_pos sx3, a1]
        rfl
      rw [px, pm, Option.bind_some, Option.bind_some, m89, if_pos ixF, clF, m113, o_addR, W_some, W_some]
      rw [a2] at a4
      exact a4
    · subst o
      have n41 : ¬ Int32.ofNat 42 = 41 := by decide
      have n42 : ¬ ¬ Int32.ofNat 42 = 42 := fun q => q rfl
      rw [if_pos n41, if_neg n42, if_pos n41, if_neg n42]
      obtain ⟨X3, M3, a1, a2, a3, a4⟩ := fin x v 2 (Or.inr ⟨rfl, vr.2 rfl, rfl⟩) 1 rfl
      have pm := (putM_eq f89 (by omega) md2.tp.m114 a3 v).2
      have px : f_Strand_pushRef (C (600 + 16 * k.t)) x (xw X2 (C (600 + 16 * k.t)) 4 (Int32.ofNat (caN k.c.Mr m + off k.c.Mr m (i + 1)))) = some X3 := by
        unfold f_Strand_pushRef
        rw [if_pos sx3, a1]
        rfl
      rw [px, pm, Option.bind_some, Option.bind_some, m89, if_pos ixF, clF, m113, o_addR, W_some, W_some]
      rw [a2] at a4
      exact a4
