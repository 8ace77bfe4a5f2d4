/-! P5 -/
set_option maxRecDepth 20000 in
set_option maxHeartbeats 4000000 in
theorem Zv_pop {k : Kx} {T C : Nat → Nat} {n : Nat} {X : XS} {M : MS} {g : Nat → Int32} {h : Nat} {l : Nat → Int32} (j : Jz k T C n X M g (h + 1) l) : ∃ x X' M', f_Strand_pop (C (600 + 16 * k.t)) X = some (x, X') ∧ f_M_takeValue M = some (M.1 115 (440 * k.t + (22 * k.d + 12 + h)), M') ∧ Jz k T C n X' M' g h l ∧ VR k (g h) x (M.1 115 (440 * k.t + (22 * k.d + 12 + h))) ∧ (∀ {M0 : MS}, Ag k M0 M → Ag k M0 M') ∧ M'.1 115 = M.1 115 := by
  obtain ⟨⟨V, md⟩, z⟩ := j
  obtain ⟨x, v, e1, e2, e3, e4⟩ := md.pop
  have d20 := md.tp.d20
  have t6 := md.t6
  have h10 := md.tp.fr.le
  have a1 := take_eq md.f89 (by omega) md.tp.m114 (by omega)
  rw [fi] at a1
  rw [e2] at a1
  injection a1 with a1
  injection a1 with a1 _
  subst a1
  exact ⟨x, _, _, e1, e2, ⟨⟨_, e3⟩, by rw [mwr _ _ _ (by omega)]; exact z⟩, e4, fun a => a.take rfl, mwr _ _ _ (by omega)⟩
set_option maxRecDepth 20000 in
set_option maxHeartbeats 4000000 in
theorem pk_val {k : Kx} {T C : Nat → Nat} {n : Nat} {X : XS} {M : MS} {g : Nat → Int32} {h : Nat} {l : Nat → Int32} (j : Jm k T C n X M g h l) {q : Nat} (hq : q < h) : f_M_peek (Int32.ofNat q) M = some (M.1 115 (440 * k.t + (22 * k.d + 12 + (h - 1 - q)))) := by
  obtain ⟨V, md⟩ := j
  have d20 := md.tp.d20
  have t6 := md.t6
  have h10 := md.tp.fr.le
  have a2 := peekM_eq (q := q) md.f89 (by omega) md.tp.m114 (by omega) hq
  rw [fi] at a2
  exact a2
set_option maxRecDepth 20000 in
set_option maxHeartbeats 4000000 in
/-- own fields of a class, and those of the one above -/
theorem gp_own {Mr : MS} {kc rc main : Nat} (g : GP Mr kc rc main) {c : Nat} (hc : c < kc) : ∃ oi of, oi ≤ 6 ∧ of ≤ 6 ∧ Mr.1 62 c = Int32.ofNat oi ∧ Mr.1 63 c = Int32.ofNat of ∧ oi ≤ aI Mr c ∧ of ≤ aF Mr c ∧ (∀ d, d < c → Mr.1 61 c = Int32.ofNat d → aI Mr c = oi + aI Mr d ∧ aF Mr c = of + aF Mr d) := by
  have h10 := (gp_k10 g).1
  have ga := fun c hc => gp_all g (c := c) hc
  obtain ⟨⟨X, T, h⟩, _⟩ := g
  obtain ⟨e1, e2⟩ := all_X h.1 10 c (by omega) hc
  obtain ⟨a1, a2, a3, a4⟩ := ga c hc
  obtain ⟨h1, h2, h3, h4, h5, h6, h7, h8, _⟩ := h.1.2.2.2 c hc
  obtain ⟨oi, l1, q1⟩ := toNle (n := 6) (by omega) h5.1 h5.2
  obtain ⟨of, l2, q2⟩ := toNle (n := 6) (by omega) h6.1 h6.2
  rw [h2, h1, q1, e1, a1] at h7
  rw [h3, h1, q2, e2, a2] at h8
  refine ⟨oi, of, l1, l2, q1, q2, ?_, ?_, ?_⟩
  · rcases h4 with z | ⟨d, hd, z⟩
    · rw [if_pos z, Int32.add_zero, o_eq _ _ (by omega) (by omega)] at h7
      omega
    · have zn : ¬ Mr.1 61 c = -1 := by rw [z, n1_eq d (by omega)]; exact fun x => x
      obtain ⟨b1, b2, b3, b4⟩ := ga d (by omega)
      rw [if_neg zn, z, o_cl d (by omega), (all_X h.1 10 d (by omega) (by omega)).1, b1, o_add, o_eq _ _ (by omega) (by omega)] at h7
      omega
  · rcases h4 with z | ⟨d, hd, z⟩
    · rw [if_pos z, Int32.add_zero, o_eq _ _ (by omega) (by omega)] at h8
      omega
    · have zn : ¬ Mr.1 61 c = -1 := by rw [z, n1_eq d (by omega)]; exact fun x => x
      obtain ⟨b1, b2, b3, b4⟩ := ga d (by omega)
      rw [if_neg zn, z, o_cl d (by omega), (all_X h.1 10 d (by omega) (by omega)).2, b2, o_add, o_eq _ _ (by omega) (by omega)] at h8
      omega
  · intro d hd z
    have zn : ¬ Mr.1 61 c = -1 := by rw [z, n1_eq d (by omega)]; exact fun x => x
    obtain ⟨b1, b2, b3, b4⟩ := ga d (by omega)
    rw [if_neg zn, z, o_cl d (by omega), (all_X h.1 10 d (by omega) (by omega)).1, b1, o_add, o_eq _ _ (by omega) (by omega)] at h7
    rw [if_neg zn, z, o_cl d (by omega), (all_X h.1 10 d (by omega) (by omega)).2, b2, o_add, o_eq _ _ (by omega) (by omega)] at h8
    exact ⟨h7, h8⟩
set_option maxRecDepth 20000 in
set_option maxHeartbeats 4000000 in
theorem bel_le {c : Cx} (ok : c.Ok) {M : MS} (hM : ∀ a i, ¬ RunM a i → M.1 a i = c.M0.1 a i) {q : Nat} (hq : q < c.kc) : ∀ N K, K < c.kc → lp (b2_M_isBelow (Int32.ofNat q) M) N (Int32.ofNat K) = some true → aI c.Mr q ≤ aI c.Mr K ∧ aF c.Mr q ≤ aF c.Mr K := by
  obtain ⟨g, ht, _, hk⟩ := ok
  have hk10 := (gp_k10 g).1
  intro N
  induction N with
  | zero => intro K _ h; cases h
  | succ N ih =>
    intro K h1 h
    by_cases eq : K = q
    · subst eq; omega
    · have n2 : ¬ Int32.ofNat K = Int32.ofNat q := by rw [o_eq _ _ (by omega) (by omega)]; exact eq
      have e95 : M.1 95 (10 + K) = c.Mr.1 61 K := by
        rw [hM 95 (10 + K) (by unfold RunM; omega)]
        have := (hk.1 K h1).1
        rw [← this]
      have sm : b2_M_isBelow (Int32.ofNat q) M (Int32.ofNat K) = some (.inl (c.Mr.1 61 K)) := by
        unfold b2_M_isBelow
        rw [if_neg (by rw [o_lt0 _ (by omega)]; exact fun x => x), if_pos n2, o_addL, if_pos (ixl (show 10 + K < 20 by omega) (by omega)), o_cl _ (show 10 + K < 2147483648 by omega)]
        rw [show OfNat.ofNat 10 + K = 10 + K from rfl, e95]
      rw [lp_inl sm] at h
      rcases gp_up g h1 with z | ⟨d, hd, z⟩
      · exfalso
        rw [z] at h
        cases N with
        | zero => cases h
        | succ N =>
          have s2 : b2_M_isBelow (Int32.ofNat q) M (-1) = some (.inr false) := by
            unfold b2_M_isBelow
            rw [if_pos (by decide)]
          rw [lp_inr s2] at h
          cases h
      · rw [z] at h
        obtain ⟨oi, of, _, _, _, _, _, _, o9⟩ := gp_own g h1
        have := o9 d hd z
        have := ih d (by omega) h
        omega
theorem tk_f : tkL 27 = [2] ∧ ptL 27 = 1 ∧ tkL 28 = [1, 2] ∧ ptL 28 = 0 ∧ tkL 29 = [2] ∧ ptL 29 = 2 ∧ tkL 30 = [2, 2] ∧ ptL 30 = 0 := by decide
set_option maxRecDepth 20000 in
set_option maxHeartbeats 4000000 in
theorem od8 (w : Nat) (h : w < 2147483648) : Int32.ofNat w / 8 = Int32.ofNat (w / 8) := by
  apply Int32.toInt_inj.mp
  rw [Int32.toInt_div_of_ne_right _ _ (by decide), oi w h, oi (w / 8) (by omega)]
  show (w : Int).tdiv 8 = _
  rw [Int.tdiv_eq_ediv_of_nonneg (by omega)]
  omega
set_option maxRecDepth 20000 in
set_option maxHeartbeats 4000000 in
/-- the operand of 27 to 30: a class, and the number of a field of its objects -/
theorem fld_od {k : Kx} {T C : Nat → Nat} {n : Nat} {X : XS} {M : MS} {g : Nat → Int32} {h : Nat} {l : Nat → Int32} (j : Jm k T C n X M g h l) (ok : k.c.Ok) (o1 : 27 ≤ opN k.c.Mr k.m k.i) (o2 : opN k.c.Mr k.m k.i ≤ 30) : ∃ c nf, c < k.c.kc ∧ fm k.c.Mr 77 c ∧ odI k.c.Mr k.m k.i / 8 = Int32.ofNat c ∧ nf < (if opN k.c.Mr k.m k.i < 29 then aI k.c.Mr c else aF k.c.Mr c) ∧ f_Image_at_51 (Int32.ofNat (caN k.c.Mr k.m + off k.c.Mr k.m k.i) + 1) X = some (Int32.ofNat (kn k.c.Mr c)) ∧ f_Image_at_51 (Int32.ofNat (caN k.c.Mr k.m + off k.c.Mr k.m k.i) + 2) X = some (Int32.ofNat nf) ∧ M.1 108 (1440 + (60 * k.m + k.i)) = Int32.ofNat nf := by
  obtain ⟨i1, i2, i3, i4, i5, i6⟩ := j.im ok
  obtain ⟨f0, f1, f2, f3, f4, f5, f6, f7⟩ := ins_facts i2 i3 i4
  have k10 := (gp_k10 i2).1
  have po := f6.1
  obtain ⟨c, hc, h0, ec, hr⟩ : ∃ c, c < k.c.kc ∧ 0 ≤ odI k.c.Mr k.m k.i ∧ odI k.c.Mr k.m k.i / 8 = Int32.ofNat c ∧ odI k.c.Mr k.m k.i - odI k.c.Mr k.m k.i / 8 * 8 < (if opN k.c.Mr k.m k.i < 29 then k.c.Mr.1 62 c else k.c.Mr.1 63 c) := by
    by_cases z : opN k.c.Mr k.m k.i < 29
    · obtain ⟨c, a1, a2, a3, a4⟩ := po.2.2.2.2.1 (by omega)
      exact ⟨c, a1, a2, a3, by rw [if_pos z]; exact a4⟩
    · obtain ⟨c, a1, a2, a3, a4⟩ := po.2.2.2.2.2.1 (by omega)
      exact ⟨c, a1, a2, a3, by rw [if_neg z]; exact a4⟩
  obtain ⟨oi, of, v1, v2, v3, v4, v5, v6, _⟩ := gp_own i2 hc
  obtain ⟨b1, b2, b3, b4⟩ := gp_all i2 hc
  have hw : fm k.c.Mr 77 c := by
    refine (i2.2.2.1.2.2.2.2.1 k.m f0 i3.2.1).2.2.2.1 c (Or.inl ⟨k.i, f1, hc, Or.inr ⟨?_, h0, ec⟩⟩)
    rw [f4, o_leL _ _ (by decide) (by omega), o_leR _ _ (by omega) (by decide)]
    exact ⟨o1, o2⟩
  have kl := kn_lt (show c < 10 by omega) hw
  have nk := NK_le k.c.Mr
  obtain ⟨r, hr0, er, hr1⟩ : ∃ r : Nat, r < 8 ∧ odI k.c.Mr k.m k.i - odI k.c.Mr k.m k.i / 8 * 8 = Int32.ofNat r ∧ r < (if opN k.c.Mr k.m k.i < 29 then oi else of) := by
    obtain ⟨w, hw', ew⟩ := toN h0
    have ed := od8 w hw'
    rw [ew, ed, o_mulR, o_sub _ _ (show w / 8 * OfNat.ofNat 8 ≤ w by show w / 8 * 8 ≤ w; omega)] at hr ⊢
    have e8 : w - w / 8 * OfNat.ofNat 8 = w % 8 := by show w - w / 8 * 8 = w % 8; omega
    rw [e8] at hr ⊢
    refine ⟨w % 8, by omega, rfl, ?_⟩
    by_cases z : opN k.c.Mr k.m k.i < 29
    · rw [if_pos z, v3, o_lt _ _ (by omega) (by omega)] at hr
      rw [if_pos z]; exact hr
    · rw [if_neg z, v4, o_lt _ _ (by omega) (by omega)] at hr
      rw [if_neg z]; exact hr
  have l3 : ln (opN k.c.Mr k.m k.i) (odI k.c.Mr k.m k.i) = 3 := by
    unfold ln ln0
    rw [if_neg (by omega), if_neg (by omega), if_pos (by omega)]
  have a1 := ins_at i1 i2 i3 i4 (j := 1) (by omega)
  have a2 := ins_at i1 i2 i3 i4 (j := 2) (by omega)
  have e80 : k.c.Mr.1 80 c &&& 255 = Int32.ofNat (kn k.c.Mr c) := by
    rw [i2.2.2.1.2.2.2.2.2.2.2.2.2.1 c hc]
    exact and255 (by show kn k.c.Mr c < 256; omega)
  have e108 : M.1 108 (1440 + (60 * k.m + k.i)) = fldV k.c.Mr (60 * k.m + k.i) := by
    rw [i5 108 _ (by unfold RunM; omega)]
    have := (i6.2.2.2.1 (60 * k.m + k.i) (by have := i3.1; omega)).2.2
    rw [show 1440 + (60 * k.m + k.i) = 1440 * 1 + (60 * k.m + k.i) by omega, this]
  have icl : f_M_isClass (Int32.ofNat c) k.c.Mr = true := by
    obtain ⟨⟨X', T', hrs⟩, _⟩ := i2
    unfold f_M_isClass
    have : k.c.Mr.1 60 3 = Int32.ofNat k.c.kc := hrs.1.2.2.1
    rw [this, if_pos ((le1_iff (by omega) _).mpr ⟨c, hc, rfl⟩)]
  have odn : ¬ k.c.Mr.1 72 (60 * k.m + k.i) < 0 := Int32.not_lt.mpr h0
  have f4' : k.c.Mr.1 71 (60 * k.m + k.i) = Int32.ofNat (opN k.c.Mr k.m k.i) := f4
  have ec' : k.c.Mr.1 72 (60 * k.m + k.i) / 8 = Int32.ofNat c := ec
  have er' : k.c.Mr.1 72 (60 * k.m + k.i) - k.c.Mr.1 72 (60 * k.m + k.i) / 8 * 8 = Int32.ofNat r := er
  have op2 : 27 ≤ Int32.ofNat (opN k.c.Mr k.m k.i) ∧ Int32.ofNat (opN k.c.Mr k.m k.i) ≤ 30 := by
    rw [o_leL _ _ (by decide) (by omega), o_leR _ _ (by omega) (by decide)]
    exact ⟨o1, o2⟩
  by_cases z : opN k.c.Mr k.m k.i < 29
  · rw [if_pos z] at hr1
    have oL : opL k.c.Mr k.m (opN k.c.Mr k.m k.i) (odI k.c.Mr k.m k.i) = [Int32.ofNat (opN k.c.Mr k.m k.i), k.c.Mr.1 80 c, Int32.ofNat (aI k.c.Mr c - oi + r)] := by
      unfold opL
      rw [if_neg (by omega), if_neg (by omega), if_pos (by omega), er, ec, o_cl _ (by omega), b1, v3, o_sub _ _ v5, o_add]
    refine ⟨c, aI k.c.Mr c - oi + r, hc, hw, ec, by rw [if_pos z]; omega, ?_, ?_, ?_⟩
    · rw [o_addR, a1, oL]
      exact congrArg some e80
    · rw [o_addR]
      have a2' : f_Image_at_51 (Int32.ofNat (caN k.c.Mr k.m + off k.c.Mr k.m k.i + OfNat.ofNat 2)) X = _ := a2
      rw [a2', oL]
      exact congrArg some (and255 (by omega))
    · rw [e108]
      unfold fldV
      have n29 : ¬ (29 : Int32) ≤ Int32.ofNat (opN k.c.Mr k.m k.i) := by rw [o_leL _ _ (by decide) (by omega)]; show ¬ 29 ≤ opN k.c.Mr k.m k.i; omega
      rw [f4', if_pos op2, if_neg odn, er', ec', if_pos icl, if_neg n29, o_cl _ (by omega), b1, v3, o_sub _ _ v5, o_add]
  · rw [if_neg z] at hr1
    have oL : opL k.c.Mr k.m (opN k.c.Mr k.m k.i) (odI k.c.Mr k.m k.i) = [Int32.ofNat (opN k.c.Mr k.m k.i), k.c.Mr.1 80 c, Int32.ofNat (aF k.c.Mr c - of + r)] := by
      unfold opL
      rw [if_neg (by omega), if_neg (by omega), if_neg (by omega), if_pos (by omega), er, ec, o_cl _ (by omega), b2, v4, o_sub _ _ v6, o_add]
    refine ⟨c, aF k.c.Mr c - of + r, hc, hw, ec, by rw [if_neg z]; omega, ?_, ?_, ?_⟩
    · rw [o_addR, a1, oL]
      exact congrArg some e80
    · rw [o_addR]
      have a2' : f_Image_at_51 (Int32.ofNat (caN k.c.Mr k.m + off k.c.Mr k.m k.i + OfNat.ofNat 2)) X = _ := a2
      rw [a2', oL]
      exact congrArg some (and255 (by omega))
    · rw [e108]
      unfold fldV
      have n29 : (29 : Int32) ≤ Int32.ofNat (opN k.c.Mr k.m k.i) := by rw [o_leL _ _ (by decide) (by omega)]; show 29 ≤ opN k.c.Mr k.m k.i; omega
      rw [f4', if_pos op2, if_neg odn, er', ec', if_pos icl, if_pos n29, o_cl _ (by omega), b2, v4, o_sub _ _ v6, o_add]
