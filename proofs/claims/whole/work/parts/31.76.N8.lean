/-! N8 -/
set_option maxRecDepth 20000 in
set_option maxHeartbeats 4000000 in
theorem trv_nat {Mr : MS} {kc rc main m t : Nat} (g : GP Mr kc rc main) (hm : m < 24) (hw : fm Mr 75 m) (ht : t < tcN Mr m) : Mr.1 74 (24 * m + 4 * t) = Int32.ofNat (frM Mr m t) ∧ Mr.1 74 (24 * m + 4 * t + 1) = Int32.ofNat (ttM Mr m t) ∧ Mr.1 74 (24 * m + 4 * t + 2) = Int32.ofNat (hdM Mr m t) ∧ frM Mr m t < ttM Mr m t ∧ ttM Mr m t ≤ sz Mr m ∧ hdM Mr m t < sz Mr m ∧ sz Mr m ≤ 60 ∧ Mr.1 73 m = Int32.ofNat (tcN Mr m) ∧ tcN Mr m ≤ 6 := by
  obtain ⟨s, tc, mm, h1, h2, h3, h4, h5, h6, h7, h8, h9⟩ := ty_facts g.2.1 hm hw
  have etc : tcN Mr m = tc := by unfold tcN; rw [h5, o_cl tc (by omega)]
  have esz : sz Mr m = s := by unfold sz; rw [h3, o_cl s (by omega)]
  obtain ⟨t1, t2, t3, t4, _⟩ := h9 t (by omega)
  have f1 : 0 ≤ Mr.1 74 (24 * m + 4 * t) := Int32.not_lt.mp t1
  obtain ⟨a, ha, ea⟩ := toN f1
  have q : 0 ≤ Mr.1 74 (24 * m + 4 * t + 1) := Int32.le_of_lt (Int32.lt_of_le_of_lt f1 (Int32.not_le.mp t2))
  obtain ⟨b, hb, eb⟩ := toNle (n := s) (by omega) q (Int32.not_lt.mp t3)
  obtain ⟨d, hd, ed⟩ := (le1_iff (by omega) _).mp t4
  have lab : a < b := by
    have := Int32.not_le.mp t2
    rw [ea, eb, o_lt a b (by omega) (by omega)] at this
    exact this
  have ga : frM Mr m t = a := by unfold frM; rw [ea, o_cl a (by omega)]
  have gb : ttM Mr m t = b := by unfold ttM; rw [eb, o_cl b (by omega)]
  have gd : hdM Mr m t = d := by unfold hdM; rw [ed, o_cl d (by omega)]
  rw [ga, gb, gd, esz, etc]
  exact ⟨ea, eb, ed, lab, hb, hd, h1, h5, h4⟩
def encX (Mr : MS) (m : Nat) (r : Option Nat) : Int32 := match r with
  | none => -1
  | some j => Int32.ofNat (caN Mr m + off Mr m j)
def encM (r : Option Nat) : Int32 := match r with
  | none => -2
  | some j => Int32.ofNat j
set_option maxRecDepth 20000 in
set_option maxHeartbeats 4000000 in
theorem handler_ok {k : Kx} {T C : Nat → Nat} {n : Nat} {X : XS} {V M : MS} {f x : Nat} (ok : k.c.Ok) (mf : Mf k T C n X V M f x) (hk : f = 10 → V.1 1040 11 = Int32.ofNat (kcode k.c.Mr (k.A.K x))) : ∃ r, f_Engine_handlerFor (C (600 + 16 * k.t)) (Int32.ofNat f) X = some (encX k.c.Mr k.m r) ∧ f_M_handler M = some (encM r) ∧ ∀ j, r = some j → Cov k.S j (fun _ => 2) 1 (k.S.2.2.2.2.1 k.i) ∧ j < 60 := by
  have fit := fun t ht => fits_ok ok mf hk (t := t) ht
  obtain ⟨⟨M1, g, h, md, ag⟩, ⟨f90, f1, f2⟩, thr⟩ := mf
  obtain ⟨gp, ht0, him, hkp⟩ := ok
  have him' := md.rv.im ht0 him
  obtain ⟨t1, t2, t3⟩ := md.t6
  have tp := md.tp
  have d20 := tp.d20
  have hmf := ag.mf md.mf
  obtain ⟨m24, mr, mty⟩ := md.mt.1
  have mrc := gp.2.2.1.2.2.1 _ m24 mr
  obtain ⟨i0, i1, i2, i3, i4, i5, i6, i7⟩ := ins_facts gp md.mt.1 md.mt.2
  obtain ⟨tr1, tr2⟩ := traps_51 him' gp m24 mr
  have hd51 := headAt_51 him' m24 mr
  have r0 := md.rv.rd (Lv_s (f := 0) t1 (by omega) : Lv n (600 + 16 * k.t))
  have cl := caN_le gp m24 mr i1
  have hpl : hpN k.c.Mr k.m < 100000 := by
    obtain ⟨_, l1⟩ := img_head k.c.Mr k.c.rc k.c.main (m := k.m) (j := 0) m24 mr (by omega)
    have := (imgL_le k.c.main gp.2.1).1
    omega
  have e3 : X.1 (C (600 + 16 * k.t)) 3 = Int32.ofNat (rn k.c.Mr k.m) := by rw [r0]; exact tp.v3
  have e4 : X.1 (C (600 + 16 * k.t)) 4 = Int32.ofNat (caN k.c.Mr k.m + off k.c.Mr k.m k.i) := by rw [r0]; exact tp.v4
  have eF : M.1 60 89 = Int32.ofNat (20 * k.t + k.d) := by rw [ag.2.2.1 89 (by omega) (by omega)]; exact md.f89
  have e112 : M.1 112 (20 * k.t + k.d) = Int32.ofNat k.m := by rw [ag.1 112 (by omega) (by omega)]; exact tp.m112
  have e113 : M.1 113 (20 * k.t + k.d) = Int32.ofNat k.i := by rw [ag.1 113 (by omega) (by omega)]; exact tp.m113
  have e105 : M.1 105 (24 + k.m) = Int32.ofNat (tcN k.c.Mr k.m) := by
    rw [hmf 105 _ (by unfold RunM; omega)]
    have := (hkp.2.1 k.m mrc).2.2.2.2
    rw [show 24 + k.m = 24 * 1 + k.m by omega, this]
    obtain ⟨s, tc, mm, h1, h2, h3, h4, h5, _⟩ := ty_facts gp.2.1 m24 mr
    unfold tcN
    rw [h5, o_cl tc (by omega)]
  have e106 : ∀ q, q < 576 → M.1 106 (576 + q) = k.c.Mr.1 74 q := by
    intro q hq
    rw [hmf 106 _ (by unfold RunM; omega)]
    have := hkp.2.2.1 q hq
    rw [show 576 + q = 576 * 1 + q by omega, this]
  unfold f_Engine_handlerFor f_M_handler
  rw [if_pos (md.rv.sc t1).x, e3, codeAt_51 him' gp m24 mr, Option.bind_some, hd51, o_addR, o_subR _ 1 (show 1 ≤ hpN k.c.Mr k.m + 9 by omega)]
  rw [show hpN k.c.Mr k.m + OfNat.ofNat 9 - OfNat.ofNat 1 = hpN k.c.Mr k.m + 8 from rfl, tr1, Option.bind_some, if_pos (by rw [eF]; exact ixl (by omega) (by omega))]
  have key : ∀ N t, t ≤ tcN k.c.Mr k.m → tcN k.c.Mr k.m - t < N → ∃ r, lp (b52_Engine_handlerFor (C (600 + 16 * k.t)) (Int32.ofNat f) X (Int32.ofNat (caN k.c.Mr k.m)) (Int32.ofNat (tcN k.c.Mr k.m))) N (Int32.ofNat t) = some (encX k.c.Mr k.m r) ∧ lp (b12_M_handler M) N (Int32.ofNat t) = some (encM r) ∧ ∀ j, r = some j → Cov k.S j (fun _ => 2) 1 (k.S.2.2.2.2.1 k.i) ∧ j < 60 := by
    intro N
    induction N with
    | zero => intro t h1 h2; omega
    | succ N ih =>
      intro t h1 h2
      have ix1 : ixo (24 + M.1 112 (M.1 60 89).toNatClampNeg) 48 := by rw [eF, o_cl _ (by omega), e112, o_addL]; exact ixl (show 24 + k.m < 48 by omega) (show 24 + k.m < 2147483648 by omega)
      have cl1 : (24 + M.1 112 (M.1 60 89).toNatClampNeg).toNatClampNeg = 24 + k.m := by rw [eF, o_cl _ (by omega), e112, o_addL]; exact o_cl _ (show 24 + k.m < 2147483648 by omega)
      by_cases e : t = tcN k.c.Mr k.m
      · refine ⟨none, ?_, ?_, by intro j hj; cases hj⟩
        · refine lp_inr ?_
          unfold b52_Engine_handlerFor
          rw [if_pos (by rw [e]; exact Int32.le_refl _)]
          rfl
        · refine lp_inr ?_
          unfold b12_M_handler
          rw [if_pos ix1, cl1, e105, if_pos (by rw [e]; exact Int32.le_refl _)]
          rfl
      · have ht : t < tcN k.c.Mr k.m := by omega
        obtain ⟨q1, q2, q3, q4, q5, q6, q7⟩ := trap_51 him' gp m24 mr ht
        obtain ⟨w1, w2, w3, _⟩ := trv_nat gp m24 mr ht
        obtain ⟨b, fb1, fb2⟩ := fit t ht
        have ol := off_le k.c.Mr k.m (sz k.c.Mr k.m)
        have o1 := off_le k.c.Mr k.m (frM k.c.Mr k.m t)
        have o2 := off_le k.c.Mr k.m (ttM k.c.Mr k.m t)
        have o3 := off_le k.c.Mr k.m (hdM k.c.Mr k.m t)
        have o4 := off_le k.c.Mr k.m k.i
        have n1 : ¬ Int32.ofNat (tcN k.c.Mr k.m) ≤ Int32.ofNat t := by rw [o_le _ _ (by omega) (by omega)]; omega
        have n2 : ¬ (6 : Int32) ≤ Int32.ofNat t := by rw [o_leL _ _ (by decide) (by omega)]; show ¬ 6 ≤ t; omega
        have pl : X.1 (C (600 + 16 * k.t)) 4 - Int32.ofNat (caN k.c.Mr k.m) = Int32.ofNat (off k.c.Mr k.m k.i) := by rw [e4, o_sub _ _ (by omega)]; congr 1; omega
        have hb0 : f_Image_headAt_51 (X.1 (C (600 + 16 * k.t)) 3) X + 9 + 7 * Int32.ofNat t = Int32.ofNat (hpN k.c.Mr k.m + 9 + 7 * t) := by rw [e3, hd51, o_addR, o_mulL, o_add]
        have fx : (Int32.ofNat (off k.c.Mr k.m k.i) < Int32.ofNat (off k.c.Mr k.m (frM k.c.Mr k.m t))) ↔ k.i < frM k.c.Mr k.m t := by rw [o_lt _ _ (by omega) (by omega)]; exact off_lt
        have tx : (Int32.ofNat (off k.c.Mr k.m (ttM k.c.Mr k.m t)) ≤ Int32.ofNat (off k.c.Mr k.m k.i)) ↔ ttM k.c.Mr k.m t ≤ k.i := by
          rw [o_le _ _ (by omega) (by omega)]
          have := off_lt (Mr := k.c.Mr) (m := k.m) (a := k.i) (b := ttM k.c.Mr k.m t)
          omega
        have mb : (576 + 24 * M.1 112 (M.1 60 89).toNatClampNeg) + 4 * Int32.ofNat t = Int32.ofNat (576 + (24 * k.m + 4 * t)) := by
          rw [eF, o_cl _ (by omega), e112, o_mulL, o_addL, o_mulL, o_add]
          congr 1
          show 576 + 24 * k.m + 4 * t = _
          omega
        have m3 : M.1 113 (M.1 60 89).toNatClampNeg = Int32.ofNat k.i := by rw [eF, o_cl _ (by omega), e113]
        have v0 : M.1 106 (Int32.ofNat (576 + (24 * k.m + 4 * t))).toNatClampNeg = Int32.ofNat (frM k.c.Mr k.m t) := by rw [o_cl _ (by omega), e106 _ (by omega)]; exact w1
        have v1 : M.1 106 (Int32.ofNat (576 + (24 * k.m + 4 * t)) + 1).toNatClampNeg = Int32.ofNat (ttM k.c.Mr k.m t) := by rw [o_addR, o_cl _ (show 576 + (24 * k.m + 4 * t) + 1 < 2147483648 by omega)]; exact (e106 (24 * k.m + 4 * t + 1) (by omega)).trans w2
        have v2 : M.1 106 (Int32.ofNat (576 + (24 * k.m + 4 * t)) + 2).toNatClampNeg = Int32.ofNat (hdM k.c.Mr k.m t) := by rw [o_addR, o_cl _ (show 576 + (24 * k.m + 4 * t) + 2 < 2147483648 by omega)]; exact (e106 (24 * k.m + 4 * t + 2) (by omega)).trans w3
        have v3 : M.1 106 (Int32.ofNat (576 + (24 * k.m + 4 * t)) + 3).toNatClampNeg = k.c.Mr.1 74 (24 * k.m + 4 * t + 3) := by rw [o_addR, o_cl _ (show 576 + (24 * k.m + 4 * t) + 3 < 2147483648 by omega)]; exact e106 (24 * k.m + 4 * t + 3) (by omega)
        have j0 : ixo (Int32.ofNat (576 + (24 * k.m + 4 * t))) 1152 := ixl (by omega) (by omega)
        have j1 : ixo (Int32.ofNat (576 + (24 * k.m + 4 * t)) + 1) 1152 := by rw [o_addR]; exact ixl (show 576 + (24 * k.m + 4 * t) + 1 < 1152 by omega) (show 576 + (24 * k.m + 4 * t) + 1 < 2147483648 by omega)
        have j2 : ixo (Int32.ofNat (576 + (24 * k.m + 4 * t)) + 2) 1152 := by rw [o_addR]; exact ixl (show 576 + (24 * k.m + 4 * t) + 2 < 1152 by omega) (show 576 + (24 * k.m + 4 * t) + 2 < 2147483648 by omega)
        have j3 : ixo (Int32.ofNat (576 + (24 * k.m + 4 * t)) + 3) 1152 := by rw [o_addR]; exact ixl (show 576 + (24 * k.m + 4 * t) + 3 < 1152 by omega) (show 576 + (24 * k.m + 4 * t) + 3 < 2147483648 by omega)
        have n3 : ¬ Int32.ofNat (tcN k.c.Mr k.m) ≤ Int32.ofNat t := n1
        have i74 : (Int32.ofNat k.i < Int32.ofNat (frM k.c.Mr k.m t)) ↔ k.i < frM k.c.Mr k.m t := by rw [o_lt _ _ (by omega) (by omega)]
        have i75 : (Int32.ofNat (ttM k.c.Mr k.m t) ≤ Int32.ofNat k.i) ↔ ttM k.c.Mr k.m t ≤ k.i := by rw [o_le _ _ (by omega) (by omega)]
        have stepX : (k.i < frM k.c.Mr k.m t ∨ ttM k.c.Mr k.m t ≤ k.i ∨ b = false) → b52_Engine_handlerFor (C (600 + 16 * k.t)) (Int32.ofNat f) X (Int32.ofNat (caN k.c.Mr k.m)) (Int32.ofNat (tcN k.c.Mr k.m)) (Int32.ofNat t) = some (.inl (Int32.ofNat (t + 1))) := by
          intro cs
          unfold b52_Engine_handlerFor
          rw [if_neg n1, if_neg n2, hb0, q1, Option.bind_some, pl, o_addR]
          by_cases c1 : k.i < frM k.c.Mr k.m t
          · rw [if_pos (fx.mpr c1)]
          · rw [if_neg (fun z => c1 (fx.mp z)), o_addR, q2, Option.bind_some]
            by_cases c2 : ttM k.c.Mr k.m t ≤ k.i
            · rw [if_pos (tx.mpr c2)]
            · rw [if_neg (fun z => c2 (tx.mp z)), o_addR, q4, Option.bind_some, fb1, Option.bind_some]
              have c3 : b = false := by rcases cs with z | z | z; exact absurd z c1; exact absurd z c2; exact z
              rw [if_neg (by rw [c3]; decide)]
        have stepM : (k.i < frM k.c.Mr k.m t ∨ ttM k.c.Mr k.m t ≤ k.i ∨ b = false) → b12_M_handler M (Int32.ofNat t) = some (.inl (Int32.ofNat (t + 1))) := by
          intro cs
          unfold b12_M_handler
          rw [if_pos ix1, cl1, e105, if_neg n1, mb, if_pos j0, m3, v0, o_addR]
          by_cases c1 : k.i < frM k.c.Mr k.m t
          · rw [if_pos (i74.mpr c1)]
          · rw [if_neg (fun z => c1 (i74.mp z)), if_pos j1, v1]
            by_cases c2 : ttM k.c.Mr k.m t ≤ k.i
            · rw [if_pos (i75.mpr c2)]
            · rw [if_neg (fun z => c2 (i75.mp z)), if_pos j3, v3, fb2, Option.bind_some]
              have c3 : b = false := by rcases cs with z | z | z; exact absurd z c1; exact absurd z c2; exact z
              rw [if_neg (by rw [c3]; decide)]
        by_cases cs : k.i < frM k.c.Mr k.m t ∨ ttM k.c.Mr k.m t ≤ k.i ∨ b = false
        · rw [lp_inl (stepX cs), lp_inl (stepM cs)]
          exact ih (t + 1) (by omega) (by omega)
        · have c1 : ¬ k.i < frM k.c.Mr k.m t := fun z => cs (Or.inl z)
          have c2 : ¬ ttM k.c.Mr k.m t ≤ k.i := fun z => cs (Or.inr (Or.inl z))
          have c3 : b = true := by cases b; exact absurd (Or.inr (Or.inr rfl)) cs; rfl
          refine ⟨some (hdM k.c.Mr k.m t), ?_, ?_, ?_⟩
          · refine lp_inr ?_
            unfold b52_Engine_handlerFor
            rw [if_neg n1, if_neg n2, hb0, q1, Option.bind_some, pl, if_neg (fun z => c1 (fx.mp z)), o_addR, q2, Option.bind_some, if_neg (fun z => c2 (tx.mp z)), o_addR, q4, Option.bind_some, fb1, Option.bind_some, if_pos c3, o_addR, q3, Option.bind_some, o_add]
            rfl
          · refine lp_inr ?_
            unfold b12_M_handler
            rw [if_pos ix1, cl1, e105, if_neg n1, mb, if_pos j0, m3, v0, if_neg (fun z => c1 (i74.mp z)), if_pos j1, v1, if_neg (fun z => c2 (i75.mp z)), if_pos j3, v3, fb2, Option.bind_some, if_pos c3, if_pos j2, v2]
            rfl
          · intro j hj
            cases hj
            obtain ⟨_, _, _, _, _, ty, _⟩ := i6
            exact ⟨ty t ht ⟨by omega, by omega⟩, by omega⟩
  exact key 10000 0 (by omega) (by omega)
