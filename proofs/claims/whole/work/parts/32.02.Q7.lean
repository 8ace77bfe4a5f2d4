/-! Q7 -/
set_option maxRecDepth 20000 in
set_option maxHeartbeats 4000000 in
/-- one more thread, in the midst of an instruction -/
theorem Md.begin {k : Kx} {T C T' C' : Nat → Nat} {n n' : Nat} {X X' : XS} {V M V' M' : MS} {g : Nat → Int32} {h : Nat} {l : Nat → Int32} (md : Md k T C n X V M g h l) (hnb : k.nb < 6) (rv' : RV k.c.X0 k.c.T0 X' T' C' n' V') (hn' : k.nb < n') (hv : ∀ g, ¬ isS k.nb g → g ≠ 1040 → V'.1 g = V.1 g) (hv40 : ∀ f, V'.1 1040 f = if f = 2 then Int32.ofNat (k.nb + 1) else V.1 1040 f) (hm : ∀ a, a ≠ 60 → ¬ (109 ≤ a ∧ a ≤ 116) → M'.1 a = M.1 a) (h60 : ∀ f, M'.1 60 f = if f = 61 then Int32.ofNat (k.nb + 1) else M.1 60 f) (h9 : ∀ a q, 109 ≤ a → a ≤ 111 → q ≠ k.nb → M'.1 a q = M.1 a q) (h12 : ∀ a q, 112 ≤ a → a ≤ 114 → q ≠ 20 * k.nb → M'.1 a q = M.1 a q) (h15 : ∀ a q, 115 ≤ a → a ≤ 116 → ¬ (440 * k.nb ≤ q ∧ q < 440 * k.nb + 22) → M'.1 a q = M.1 a q) (d2 : M'.2 = M.2) (nt : ThR k.c.Mr k.c.kc k.c.rc k.A V' M' k.nb) : Md (k.ch k.A (k.nb + 1) k.oc k.W) T' C' n' X' V' M' g h l := by
  obtain ⟨t1, t2, t3⟩ := md.t6
  obtain ⟨m0, m1, m2, m3, m4, m5, m6, m7, m8, m9, m10, m11, m12⟩ := md
  obtain ⟨q0, q1, q2, q3, q4, q5, q6, q7, q8, q9, q10, q11, q12⟩ := m3
  have tn := m9.1
  have v : ∀ u j, u < k.nb → j < 16 → V'.1 (600 + j + 16 * u) = V.1 (600 + j + 16 * u) := fun u j hu hj => hv _ (by unfold isS; omega) (by omega)
  have v0 := v k.t 0 tn (by omega)
  have v5 := v k.t 5 tn (by omega)
  have v6 := v k.t 6 tn (by omega)
  have v9 := v k.t 9 tn (by omega)
  have v10 := v k.t 10 tn (by omega)
  have v11 := v k.t 11 tn (by omega)
  have f60 : ∀ f, f ≠ 61 → M'.1 60 f = M.1 60 f := fun f hf => by rw [h60, if_neg hf]
  have f40 : ∀ f, f ≠ 2 → V'.1 1040 f = V.1 1040 f := fun f hf => by rw [hv40, if_neg hf]
  refine ⟨rv', ?_, m2, ⟨q0, ?_, ?_, ?_, ?_, ?_, ?_, ?_, ?_, ?_, ?_, ?_, ?_⟩, ?_, ?_, ?_, ?_, ?_, ?_, ?_, ?_, d2.trans m12⟩
  · intro a i hr
    rw [← m1 a i hr]
    unfold RunM at hr
    by_cases e : a = 60
    · subst e; exact f60 i (by omega)
    · rw [hm a e (by omega)]
  · rw [h9 109 _ (by omega) (by omega) (by show k.t ≠ _; omega)]; exact q1
  · show V'.1 (600 + 0 + 16 * k.t) 2 = _
    rw [v0]; exact q2
  · rw [h12 112 _ (by omega) (by omega) (by show 20 * k.t + k.d ≠ _; omega)]; exact q3
  · rw [h12 113 _ (by omega) (by omega) (by show 20 * k.t + k.d ≠ _; omega)]; exact q4
  · rw [h12 114 _ (by omega) (by omega) (by show 20 * k.t + k.d ≠ _; omega)]; exact q5
  · show V'.1 (600 + 0 + 16 * k.t) 3 = _
    rw [v0]; exact q6
  · show V'.1 (600 + 0 + 16 * k.t) 4 = _
    rw [v0]; exact q7
  · show V'.1 (600 + 0 + 16 * k.t) 7 = _
    rw [v0]; exact q8
  · show V'.1 (600 + 0 + 16 * k.t) 8 = _
    rw [v0]; exact q9
  · refine q10.congr (fun s _ => ?_) (fun s _ => ?_) (fun s hs => h15 115 _ (by omega) (by omega) (by show ¬ (440 * k.nb ≤ 440 * k.t + (22 * k.d + s) ∧ _); omega)) (fun s hs => h15 116 _ (by omega) (by omega) (by show ¬ (440 * k.nb ≤ 440 * k.t + (22 * k.d + s) ∧ _); omega))
    · show V'.1 (600 + 5 + 16 * k.t) _ = _
      rw [v5]
    · show V'.1 (600 + 6 + 16 * k.t) _ = _
      rw [v6]
  · rw [h9 110 _ (by omega) (by omega) (by show k.t ≠ _; omega)]
    refine ⟨q11.1, ?_⟩
    show V'.1 (600 + 0 + 16 * k.t) 0 = _
    rw [v0]; exact q11.2
  · rw [h9 111 _ (by omega) (by omega) (by show k.t ≠ _; omega)]
    refine ⟨q12.1, ?_⟩
    show V'.1 (600 + 0 + 16 * k.t) 1 = _
    rw [v0]; exact q12.2
  · intro q hq
    have hq' : q < k.d := hq
    refine (m4 q hq).congr (fun s _ => ?_) (fun s _ => ?_) ?_ ?_ ?_ (fun s hs => h15 115 _ (by omega) (by omega) (by show ¬ (440 * k.nb ≤ 440 * k.t + (22 * q + s) ∧ _); omega)) (fun s hs => h15 116 _ (by omega) (by omega) (by show ¬ (440 * k.nb ≤ 440 * k.t + (22 * q + s) ∧ _); omega)) (h12 _ _ (by omega) (by omega) (by show 20 * k.t + q ≠ _; omega)) (h12 _ _ (by omega) (by omega) (by show 20 * k.t + (q + 1) ≠ _; omega)) (h12 _ _ (by omega) (by omega) (by show 20 * k.t + q ≠ _; omega)) (h12 _ _ (by omega) (by omega) (by show 20 * k.t + q ≠ _; omega))
    · show V'.1 (600 + 5 + 16 * k.t) _ = _
      rw [v5]
    · show V'.1 (600 + 6 + 16 * k.t) _ = _
      rw [v6]
    · show V'.1 (600 + 9 + 16 * k.t) _ = _
      rw [v9]
    · show V'.1 (600 + 10 + 16 * k.t) _ = _
      rw [v10]
    · show V'.1 (600 + 11 + 16 * k.t) _ = _
      rw [v11]
  · intro u hu hne
    have hu' : u < k.nb + 1 := hu
    by_cases e : u = k.nb
    · rw [e]; exact nt
    · exact (m5 u (by omega) hne).congr (fun j hj => v u j (by omega) hj) (fun a h1 h2 => h9 a u h1 h2 e) (fun a q h1 h2 h3 => h12 a _ h1 h2 (by omega)) (fun a s h1 h2 h3 => h15 a _ h1 h2 (by omega))
  · exact m6.congr (fun a ha => hv a (by unfold isS; omega) (by omega)) (fun a h1 h2 _ _ => hm a (by omega) (by omega)) (fun f hf => f60 f (by omega))
  · exact m7.congr (fun a h1 h2 => hv a (by unfold isS; omega) (by omega)) (fun a h1 h2 => hm a (by omega) (by omega))
  · exact m8.congr (fun a h1 h2 => hv a (by unfold isS; omega) (by omega)) (fun a h1 h2 => hm a (by omega) (by omega)) (fun f hf => f60 f (by omega))
  · exact ⟨by show k.t < k.nb + 1; omega, by show k.nb + 1 ≤ n'; omega, by rw [hv40, if_pos rfl], by rw [h60, if_pos rfl]⟩
  · rw [f60 89 (by omega)]; exact m10
  · refine ⟨?_, ?_, ?_, fun f h1 h2 => ?_⟩
    · rw [hv 1059 (by unfold isS; omega) (by omega)]; exact m11.1
    · rw [f40 0 (by omega)]; exact m11.2.1
    · rw [f40 1 (by omega)]; exact m11.2.2.1
    · rw [f60 f (by omega)]; exact m11.2.2.2 f h1 h2
set_option maxRecDepth 20000 in
set_option maxHeartbeats 4000000 in
theorem begin_ok {k : Kx} {T C : Nat → Nat} {n : Nat} {X : XS} {M : MS} {g g' : Nat → Int32} {h h' : Nat} {l' : Nat → Int32} (ok : k.c.Ok) (hop : opN k.c.Mr k.m k.i = 48) (j : Jz k T C n X M g h (k.S.2.2.2.2.1 k.i)) (tr : Tr k.c.Mr k.c.rc 48 (odI k.c.Mr k.m k.i) g h (k.S.2.2.2.2.1 k.i) = some (g', h', l')) : Wo ((f_Strand_pop (C (600 + 16 * k.t)) X).bind fun x50 => ((f_Engine_doBegin x50.1 x50.2).bind fun x51 => some (x51.1, x51.2))) (fun o => Wo (f_M_beginOther M) (fun M' => OutA k (C (600 + 16 * k.t)) g' h' l' o M')) := by
  obtain ⟨i1, i2, i3, i4, i5, i6⟩ := j.1.im ok
  obtain ⟨f0, f1, f2, f3, f4, f5, f6, f7⟩ := ins_facts i2 i3 i4
  obtain ⟨r0, hr0, ha0⟩ := f6.1.2.2.2.2.2.2.2.2.2.1 hop
  have r24 := (gp_k10 i2).2
  obtain ⟨a1, a2, a3⟩ := anyM_some hr0
  have hcl : fm k.c.Mr 78 0 := by
    refine (i2.2.2.1.2.2.2.2.1 k.m f0 i3.2.1).2.2.1 0 ⟨k.i, f1, Or.inr ⟨?_, rfl⟩⟩
    rw [f4, hop]
    rfl
  obtain ⟨hh, p1, p2⟩ := tr_def (by omega) (by omega) (by omega) (by omega) (by omega) (by omega) tr
  have tk : tkL 48 = [2] ∧ ptL 48 = 0 := by decide
  rw [tk.1] at p1
  rw [tk.2] at p2
  obtain ⟨a, ea, ga, p3⟩ := popsK_cons p1
  have ep := popsK_nil p3
  subst ep ea
  obtain ⟨q1, q2, q3⟩ := putT_0 p2
  rw [q1, q2, q3]
  obtain ⟨x, X1, y, M1, s1, s2, s3, s4, s5⟩ := Z_pop j
  have rr := s4.2 (g1 ga (by decide))
  have s3' := s3
  obtain ⟨⟨V1, md1⟩, z1⟩ := s3
  have w90 : ∀ v, (mw M1 60 90 v).1 60 90 = v := fun v => by rw [mw1, if_pos ⟨rfl, rfl⟩]
  have t6 := md1.t6
  have nb6 : k.nb ≤ 6 := by have := md1.nb1; have := md1.rv.no.1; omega
  have e40 : X1.1 40 2 = Int32.ofNat k.nb := by rw [md1.rv.rf (a := 40) (by unfold Fx; omega)]; exact md1.nb1.2.2.1
  rw [s1, Option.bind_some]
  unfold f_M_beginOther f_Engine_doBegin
  rw [s2, Option.bind_some]
  dsimp only
  rcases meth_ok md1 ok rr (nm := 0) (by omega) hcl (M := M1) rfl md1.mf with ⟨c1, c2⟩ | ⟨c1, c2, zz, c3⟩ | ⟨c1, r, hr, hre, er, c2, c3⟩
  · have c2' : f_M_methodOf y 0 M1 = some (-2, mw M1 60 90 1) := c2
    rw [if_neg (fun q => q c1), c2', Option.bind_some, Option.bind_some, if_pos (show ¬ (mw M1 60 90 1).1 60 90 = 0 by rw [w90]; decide)]
    refine W_some.mpr (W_some.mpr ?_)
    exact out_flt (f := 1) s3'.1 ((Ag.refl k M1).flt (Or.inl rfl) 1) (by omega) (by omega) (w90 1)
  · have c2' : f_Engine_routineOf x 0 X1 = some 255 := c2
    have c3' : f_M_methodOf y 0 M1 = some (zz, mw M1 60 90 6) := c3
    have p255 : ¬ ¬ (255 : Int32) = 255 := fun q => q rfl
    rw [if_pos c1, c2', Option.bind_some, if_neg p255, c3', Option.bind_some, Option.bind_some, if_pos (show ¬ (mw M1 60 90 6).1 60 90 = 0 by rw [w90]; decide)]
    refine W_some.mpr (W_some.mpr ?_)
    exact out_flt (f := 6) s3'.1 ((Ag.refl k M1).flt (Or.inl rfl) 6) (by omega) (by omega) (w90 6)
  · have c2' : f_Engine_routineOf x 0 X1 = some (Int32.ofNat (rn k.c.Mr r)) := c2
    have c3' : f_M_methodOf y 0 M1 = some (Int32.ofNat r, mw M1 60 90 0) := c3
    have rl := rn_lt (show r < 24 by omega) hre
    have p255 : ¬ Int32.ofNat (rn k.c.Mr r) = 255 := by rw [o_eqR _ _ (by omega) (by decide)]; show ¬ rn k.c.Mr r = 255; omega
    have e61 : (mw M1 60 90 0).1 60 61 = Int32.ofNat k.nb := by rw [mwi _ _ _ (by omega)]; exact md1.nb1.2.2.2
    rw [if_pos c1, c2', Option.bind_some, if_pos p255, e40, c3', Option.bind_some]
    dsimp only
    rw [if_neg (show ¬ ¬ (mw M1 60 90 0).1 60 90 = 0 from fun q => q (w90 0)), e61]
    have l6 : (Int32.ofNat k.nb < 6) ↔ k.nb < 6 := by rw [o_ltR _ _ (by omega) (by decide)]
    have q6 : (Int32.ofNat k.nb = 6) ↔ k.nb = 6 := by rw [o_eqR _ _ (by omega) (by decide)]
    by_cases c6 : k.nb = 6
    · rw [if_neg (show ¬ Int32.ofNat k.nb < 6 from fun q => by have := l6.mp q; omega), if_neg (show ¬ ¬ Int32.ofNat k.nb = 6 from fun q => q (q6.mpr c6))]
      dsimp only [lt]
      rw [if_pos (show ¬ (mw (mw M1 60 90 0) 60 90 7).1 60 90 = 0 by rw [mw1, if_pos ⟨rfl, rfl⟩]; decide)]
      refine W_some.mpr (W_some.mpr ?_)
      exact out_flt (f := 7) s3'.1 ((Ag.refl k M1).flt (Or.inl rfl) 0 |>.flt (Or.inl rfl) 7) (by omega) (by omega) (by rw [mw1, if_pos ⟨rfl, rfl⟩]; rfl)
    · have hnb : k.nb < 6 := by omega
      rw [if_pos (l6.mpr hnb), if_pos (show ¬ Int32.ofNat k.nb = 6 from fun q => c6 (q6.mp q))]
      have mdf := md1.flt (Or.inl rfl : (90 : Nat) = 90 ∨ (90 : Nat) = 91) 0
      obtain ⟨X', T', C', n', V', b1, b2, b3, b4, b5, b6, b7, b8, b9, b10, b11, b12, b13, b14, b15⟩ := begStr i2 ok.2.1 ok.2.2.1 md1.rv hnb md1.nb1.2.1 md1.nb1.2.2.1 (show r < 24 by omega) hre x 1
      obtain ⟨M', d1, d2, d3, d4, d5, d6, d7, d8, d9, d10, d11, d12, d13, d14, d15⟩ := begThr (M := mw M1 60 90 0) (r := r) hnb e61 y
      rw [b1, d1]
      obtain ⟨sg1, sg2, sg3, sg4, sg5⟩ := sig_same i2 hr a1 (show 0 < 8 by omega) er a2
      have yl : ¬ y ≤ 0 := by
        rcases rr.cases md1.hr with ⟨n1, n2⟩ | ⟨q, hq, n1, n2, n3, n4, n5, n6, n7⟩
        · exact absurd n1 c1
        · exact n5
      have tn1 : tN k.c.Mr r = 1 ∧ kdX k.c.Mr r 0 = 2 := by
        obtain ⟨eT, u5, eC, na, hna, e66, eN⟩ := tN_eq i2 hr
        rw [sg4, ha0] at e66
        have na0 : na = 0 := by
          rw [show (0 : Int32) = Int32.ofNat 0 from rfl, o_eq _ _ (by omega) (by omega)] at e66
          omega
        rw [if_neg sg5, na0] at eN
        refine ⟨eN, ?_⟩
        unfold kdX
        rw [if_neg sg5, if_pos rfl]
      have nt : ThR k.c.Mr k.c.kc k.c.rc k.A V' M' k.nb := newTh i2 (show r < 24 by omega) hre (u := x) (v := 1) (y := y) (Or.inr ⟨rfl, rr, yl, tn1.1, tn1.2⟩) b7 b8 b9 b10 b11 b12 b13 b14 b15 d5 d6 d7 d9 d10 d11 d13 d14
      have md' := mdf.begin hnb b2 b3 b5 b6 d2 d3 d4 d8 d12 d15 nt
      refine W_some.mpr (W_some.mpr ⟨k.A, k.nb + 1, k.oc, k.W, T', C', n', by omega, by omega, fun _ _ _ => rfl, b4 _ (Lv_s (f := 0) t6.1 (by omega)), Or.inl ⟨rfl, ?_, V', md'⟩⟩)
      rw [d3, if_neg (by omega)]
      exact w90 0
