/-! P8 -/
set_option maxRecDepth 20000 in
set_option maxHeartbeats 4000000 in
theorem popsK_ls {g : Nat → Int32} {M : MS} {r : Nat} : ∀ u h h1, popsK g (lsK M r u) h = some h1 → h = h1 + u ∧ ∀ j, j < u → g (h1 + j) = kdX M r j := by
  intro u
  induction u with
  | zero =>
    intro h h1 e
    have := popsK_nil e
    exact ⟨by omega, fun j hj => by omega⟩
  | succ u ih =>
    intro h h1 e
    obtain ⟨a, ea, ga, e2⟩ := popsK_cons (show popsK g (kdX M r u :: lsK M r u) h = some h1 from e)
    obtain ⟨h2, h3⟩ := ih a h1 e2
    have kz : ¬ kdX M r u = 0 := by
      rcases kdX12 M r u with z | z <;> rw [z] <;> decide
    have ga' := g1 ga kz
    refine ⟨by omega, fun j hj => ?_⟩
    by_cases c : j = u
    · subst c; rw [← h2]; exact ga'
    · exact h3 j (by omega)
/-- how many values a method takes -/
def tN (M : MS) (r : Nat) : Nat := (tkn M r).toNatClampNeg
set_option maxRecDepth 20000 in
set_option maxHeartbeats 4000000 in
theorem tN_eq {Mr : MS} {kc rc main : Nat} (g : GP Mr kc rc main) {r : Nat} (hr : r < rc) : tkn Mr r = Int32.ofNat (tN Mr r) ∧ tN Mr r ≤ 5 ∧ callK Mr r = lsK Mr r (tN Mr r) ∧ (∃ n, n ≤ 4 ∧ Mr.1 66 r = Int32.ofNat n ∧ tN Mr r = if Mr.1 65 r = -2 then n else n + 1) := by
  obtain ⟨n, hn, e1, e2⟩ := tkn_le g hr
  have e3 : tN Mr r = if Mr.1 65 r = -2 then n else n + 1 := by
    unfold tN
    rw [e2, o_cl _ (by split <;> omega)]
  refine ⟨by rw [e2, e3], by rw [e3]; split <;> omega, ?_, n, hn, e1, e3⟩
  unfold callK
  rw [e3, e1, o_cl _ (by omega)]
  by_cases c : Mr.1 65 r = -2
  · rw [if_pos c, if_pos c, lsK_static c]
  · rw [if_neg c, if_neg c, lsK_named c]
set_option maxRecDepth 20000 in
set_option maxHeartbeats 4000000 in
theorem mf_0 (M : MS) (a lo : Nat) (v : Int32) : mf M a lo lo v = M := by
  refine Prod.ext ?_ rfl
  funext b j
  rw [mf1, if_neg (by omega)]
theorem mfr (M : MS) {a b : Nat} (lo hi : Nat) (v : Int32) (h : b ≠ a) : (mf M a lo hi v).1 b = M.1 b := by
  funext j
  rw [mf1, if_neg (fun q => h q.1)]
theorem mcr (M : MS) (f : Nat → Int32) {d b : Nat} (sp dp n : Nat) (h : b ≠ d) : (mc M f d sp dp n).1 b = M.1 b := by
  funext j
  rw [mc1, if_neg (fun q => h q.1)]
/-- both rows of slots cleared -/
def clM (M : MS) (lo q : Nat) : MS := mf (mf M 115 lo (lo + q) 0) 116 lo (lo + q) 0
set_option maxRecDepth 20000 in
set_option maxHeartbeats 4000000 in
theorem clM_s (M : MS) (lo q : Nat) : mw (mw (clM M lo q) 115 (lo + q) 0) 116 (lo + q) 0 = clM M lo (q + 1) := by
  refine Prod.ext ?_ rfl
  funext b j
  unfold clM
  rw [mw1, mw1, mf1, mf1, mf1, mf1]
  by_cases c6 : b = 116
  · subst c6
    by_cases e : j = lo + q
    · rw [if_pos ⟨rfl, e⟩, if_pos ⟨rfl, by omega, by omega⟩]
    · rw [if_neg (fun z => e z.2), if_neg (by omega)]
      by_cases d : lo ≤ j ∧ j < lo + q
      · rw [if_pos ⟨rfl, d⟩, if_pos ⟨rfl, by omega, by omega⟩]
      · rw [if_neg (fun z => d z.2), if_neg (by omega), if_neg (fun z => d (by omega)), if_neg (by omega)]
  · by_cases c5 : b = 115
    · subst c5
      rw [if_neg (by omega)]
      by_cases e : j = lo + q
      · rw [if_pos ⟨rfl, e⟩, if_neg (by omega), if_pos ⟨rfl, by omega, by omega⟩]
      · rw [if_neg (fun z => e z.2), if_neg (by omega)]
        by_cases d : lo ≤ j ∧ j < lo + q
        · rw [if_pos ⟨rfl, d⟩, if_neg (by omega), if_pos ⟨rfl, by omega, by omega⟩]
        · rw [if_neg (fun z => d z.2), if_neg (by omega), if_neg (fun z => d (by omega))]
    · rw [if_neg (fun z => c6 z.1), if_neg (fun z => c5 z.1), if_neg (fun z => c6 z.1), if_neg (fun z => c5 z.1), if_neg (fun z => c6 z.1), if_neg (fun z => c5 z.1)]
/-- a frame begun -/
def bfM (M : MS) (t D : Nat) (y : Int32) : MS := clM (mw (mw (mw (mw M 109 t (Int32.ofNat (D + 1))) 112 (20 * t + D) y) 113 (20 * t + D) 0) 114 (20 * t + D) 0) (440 * t + 22 * D) 22
set_option maxRecDepth 20000 in
set_option maxHeartbeats 4000000 in
theorem beginFrame_eq {M : MS} {t D : Nat} (ht : t < 6) (hD : D < 20) (e : M.1 109 t = Int32.ofNat D) (y : Int32) : f_M_beginFrame (Int32.ofNat t) y M = some (Int32.ofNat (20 * t + D), bfM M t D y) := by
  have e20 : 20 * Int32.ofNat t + M.1 109 (Int32.ofNat t).toNatClampNeg = Int32.ofNat (20 * t + D) := by rw [o_cl _ (by omega), e, o_mulL, o_add]
  have key : ∀ (M6 : MS) N q, q ≤ 22 → 22 - q < N → ∃ z, lp (b46_M_beginFrame (Int32.ofNat t) M) N (Int32.ofNat q, clM M6 (440 * t + 22 * D) q) = some (z, clM M6 (440 * t + 22 * D) 22) := by
    intro M6 N
    induction N with
    | zero => intro q h1 h2; omega
    | succ N ih =>
      intro q h1 h2
      by_cases c : q = 22
      · refine ⟨Int32.ofNat q, lp_inr ?_⟩
        unfold b46_M_beginFrame
        rw [if_pos (show (22 : Int32) ≤ Int32.ofNat q by rw [c]; decide), c]
      · have st : b46_M_beginFrame (Int32.ofNat t) M (Int32.ofNat q, clM M6 (440 * t + 22 * D) q) = some (.inl (Int32.ofNat (q + 1), clM M6 (440 * t + 22 * D) (q + 1))) := by
          unfold b46_M_beginFrame
          have ei : 22 * (20 * Int32.ofNat t + M.1 109 (Int32.ofNat t).toNatClampNeg) + Int32.ofNat q = Int32.ofNat (440 * t + 22 * D + q) := by
            rw [e20, o_mulL, o_add]
            congr 1
            show 22 * (20 * t + D) + q = _
            omega
          have c1 : ¬ (22 : Int32) ≤ Int32.ofNat q := by rw [o_leL _ _ (by decide) (by omega)]; show ¬ 22 ≤ q; omega
          have cl : (Int32.ofNat (440 * t + 22 * D + q)).toNatClampNeg = 440 * t + 22 * D + q := o_cl _ (by omega)
          rw [if_neg c1]
          dsimp only [lt]
          rw [ei, if_pos (ixl (by omega) (by omega)), o_addR]
          simp only [cl]
          rw [clM_s]
        rw [lp_inl st]
        exact ih (q + 1) (by omega) (by omega)
  have ix6 : ixo (Int32.ofNat t) 6 := ixl ht (by omega)
  have ixf : ixo (Int32.ofNat (20 * t + D)) 120 := ixl (by omega) (by omega)
  have clt : (Int32.ofNat t).toNatClampNeg = t := o_cl _ (by omega)
  have clf : (Int32.ofNat (20 * t + D)).toNatClampNeg = 20 * t + D := o_cl _ (by omega)
  unfold f_M_beginFrame
  rw [if_pos ix6]
  dsimp only [lt]
  rw [e20, if_pos ixf, clf, clt, e, o_addR]
  obtain ⟨z, hz⟩ := key (mw (mw (mw (mw M 109 t (Int32.ofNat (D + 1))) 112 (20 * t + D) y) 113 (20 * t + D) 0) 114 (20 * t + D) 0) 10000 0 (by omega) (by omega)
  have e0 : clM (mw (mw (mw (mw M 109 t (Int32.ofNat (D + 1))) 112 (20 * t + D) y) 113 (20 * t + D) 0) 114 (20 * t + D) 0) (440 * t + 22 * D) 0 = mw (mw (mw (mw M 109 t (Int32.ofNat (D + 1))) 112 (20 * t + D) y) 113 (20 * t + D) 0) 114 (20 * t + D) 0 := by
    exact (mf_0 _ _ _ _).trans (mf_0 _ _ _ _)
  rw [e0] at hz
  have hz' : lp (b46_M_beginFrame (Int32.ofNat t) M) 10000 ((0 : Int32), mw (mw (mw (mw M 109 t (Int32.ofNat (D + 1))) 112 (20 * t + D) y) 113 (20 * t + D) 0) 114 (20 * t + D) 0) = _ := hz
  rw [show D + OfNat.ofNat 1 = D + 1 from rfl, hz', Option.bind_some]
  rfl
/-- arguments copied -/
def cpM (M : MS) (s d q : Nat) : MS := mc (mc M (M.1 115) 115 s d q) (M.1 116) 116 s d q
def bodyC (u s d : Nat) (x : Int32 × MS) : Option ((Int32 × MS) ⊕ (Int32 × MS)) := (if Int32.ofNat u ≤ x.1 then some (.inr (x.1, x.2)) else (if ixo (Int32.ofNat s + x.1) 2640 then (if ixo (Int32.ofNat d + x.1) 2640 then (lt (mw x.2 115 (Int32.ofNat d + x.1).toNatClampNeg (x.2.1 115 (Int32.ofNat s + x.1).toNatClampNeg)) fun M19 => (lt (mw M19 116 (Int32.ofNat d + x.1).toNatClampNeg (vp_nar .boolean (M19.1 116 (Int32.ofNat s + x.1).toNatClampNeg))) fun M20 => some (.inl (x.1 + 1, M20)))) else none) else none))
set_option maxRecDepth 20000 in
set_option maxHeartbeats 4000000 in
theorem cpM_s {M : MS} {s d q : Nat} (hsd : s + q + 1 ≤ d) (hb : vp_nar .boolean (M.1 116 (s + q)) = M.1 116 (s + q)) : mw (mw (cpM M s d q) 115 (d + q) ((cpM M s d q).1 115 (s + q))) 116 (d + q) (vp_nar .boolean ((mw (cpM M s d q) 115 (d + q) ((cpM M s d q).1 115 (s + q))).1 116 (s + q))) = cpM M s d (q + 1) := by
  have r5 : ∀ j, (cpM M s d q).1 115 j = if d ≤ j ∧ j < d + q then M.1 115 (s + (j - d)) else M.1 115 j := fun j => by
    unfold cpM
    rw [mcr _ _ _ _ _ (by omega), mc1]
    simp
  have r6 : ∀ j, (cpM M s d q).1 116 j = if d ≤ j ∧ j < d + q then M.1 116 (s + (j - d)) else M.1 116 j := fun j => by
    unfold cpM
    rw [mc1, mcr _ _ _ _ _ (by omega)]
    simp
  rw [mwr _ _ _ (show 116 ≠ 115 by omega), r5, r6, if_neg (by omega), if_neg (by omega), hb]
  refine Prod.ext ?_ rfl
  funext b j
  rw [mw1, mw1]
  by_cases c6 : b = 116
  · subst c6
    have : (cpM M s d (q + 1)).1 116 j = if d ≤ j ∧ j < d + (q + 1) then M.1 116 (s + (j - d)) else M.1 116 j := by
      unfold cpM
      rw [mc1, mcr _ _ _ _ _ (by omega)]
      simp
    rw [this, r6]
    by_cases e : j = d + q
    · rw [if_pos ⟨rfl, e⟩, if_pos (by omega), e, show s + (d + q - d) = s + q by omega]
    · rw [if_neg (fun z => e z.2), if_neg (by omega)]
      by_cases g : d ≤ j ∧ j < d + q
      · rw [if_pos g, if_pos (by omega)]
      · rw [if_neg g, if_neg (by omega)]
  · by_cases c5 : b = 115
    · subst c5
      have : (cpM M s d (q + 1)).1 115 j = if d ≤ j ∧ j < d + (q + 1) then M.1 115 (s + (j - d)) else M.1 115 j := by
        unfold cpM
        rw [mcr _ _ _ _ _ (by omega), mc1]
        simp
      rw [this, r5, if_neg (by omega)]
      by_cases e : j = d + q
      · rw [if_pos ⟨rfl, e⟩, if_pos (by omega), e, show s + (d + q - d) = s + q by omega]
      · rw [if_neg (fun z => e z.2)]
        by_cases g : d ≤ j ∧ j < d + q
        · rw [if_pos g, if_pos (by omega)]
        · rw [if_neg g, if_neg (by omega)]
    · rw [if_neg (fun z => c6 z.1), if_neg (fun z => c5 z.1)]
      unfold cpM
      rw [mcr _ _ _ _ _ c6, mcr _ _ _ _ _ c5, mcr _ _ _ _ _ c6, mcr _ _ _ _ _ c5]
set_option maxRecDepth 20000 in
set_option maxHeartbeats 4000000 in
theorem bodyC_ok {M : MS} {u s d : Nat} (hsd : s + u ≤ d) (hd : d + u ≤ 2640) (hb : ∀ q, q < u → vp_nar .boolean (M.1 116 (s + q)) = M.1 116 (s + q)) : ∃ z, lp (bodyC u s d) 10000 ((0 : Int32), M) = some (z, cpM M s d u) := by
  have key : ∀ N q, q ≤ u → u - q < N → ∃ z, lp (bodyC u s d) N (Int32.ofNat q, cpM M s d q) = some (z, cpM M s d u) := by
    intro N
    induction N with
    | zero => intro q h1 h2; omega
    | succ N ih =>
      intro q h1 h2
      by_cases c : q = u
      · refine ⟨Int32.ofNat q, lp_inr ?_⟩
        unfold bodyC
        rw [if_pos (by rw [c]; exact Int32.le_refl _), c]
      · have st : bodyC u s d (Int32.ofNat q, cpM M s d q) = some (.inl (Int32.ofNat (q + 1), cpM M s d (q + 1))) := by
          unfold bodyC
          have c1 : ¬ Int32.ofNat u ≤ Int32.ofNat q := by rw [o_le _ _ (by omega) (by omega)]; omega
          have cs : (Int32.ofNat (s + q)).toNatClampNeg = s + q := o_cl _ (by omega)
          have cd : (Int32.ofNat (d + q)).toNatClampNeg = d + q := o_cl _ (by omega)
          rw [if_neg c1]
          dsimp only [lt]
          rw [o_add, o_add, if_pos (ixl (by omega) (by omega)), if_pos (ixl (by omega) (by omega)), o_addR]
          simp only [cs, cd]
          rw [cpM_s (by omega) (hb q (by omega))]
        rw [lp_inl st]
        exact ih (q + 1) (by omega) (by omega)
  have := key 10000 0 (by omega) (by omega)
  have e0 : cpM M s d 0 = M := by
    refine Prod.ext ?_ rfl
    funext b j
    unfold cpM
    rw [mc1, mc1, if_neg (by omega), if_neg (by omega)]
  rw [e0] at this
  exact this
set_option maxRecDepth 20000 in
set_option maxHeartbeats 4000000 in
/-- what a call leaves on the side of the reference -/
theorem callM_eq {M : MS} {t D r h1 u : Nat} (ht : t < 6) (h20 : 1 ≤ D) (hD : D < 20) (hr : r < 24) (e9 : M.1 109 t = Int32.ofNat D) (e89 : M.1 60 89 = Int32.ofNat (20 * t + (D - 1))) (e14 : M.1 114 (20 * t + (D - 1)) = Int32.ofNat (h1 + u)) (hh : h1 + u ≤ 10) (many : (if ¬ M.1 100 (24 + r) = -2 then M.1 99 (24 + r) + 1 else M.1 99 (24 + r) + 0) = Int32.ofNat u) (hb : ∀ q, q < u → vp_nar .boolean (M.1 116 (440 * t + (22 * (D - 1) + 12 + h1) + q)) = M.1 116 (440 * t + (22 * (D - 1) + 12 + h1) + q)) : f_M_call (Int32.ofNat t) (Int32.ofNat r) M = some (cpM (bfM (mw M 114 (20 * t + (D - 1)) (Int32.ofNat h1)) t D (Int32.ofNat r)) (440 * t + (22 * (D - 1) + 12 + h1)) (440 * t + 22 * D) u) := by
  have ix6 : ixo (Int32.ofNat t) 6 := ixl ht (by omega)
  have clt : (Int32.ofNat t).toNatClampNeg = t := o_cl _ (by omega)
  have ix24 : ixo (24 + Int32.ofNat r) 48 := by rw [o_addL]; exact ixl (show 24 + r < 48 by omega) (show 24 + r < 2147483648 by omega)
  have cl24 : (24 + Int32.ofNat r).toNatClampNeg = 24 + r := by rw [o_addL]; exact o_cl _ (show 24 + r < 2147483648 by omega)
  have ixF : ixo (M.1 60 89) 120 := by rw [e89]; exact ixl (by omega) (by omega)
  have clF : (M.1 60 89).toNatClampNeg = 20 * t + (D - 1) := by rw [e89]; exact o_cl _ (by omega)
  have nD : ¬ M.1 109 t = 20 := by rw [e9, o_eqR _ _ (by omega) (by decide)]; show ¬ D = 20; omega
  have tp := topAt_eq (M := M) e89 (by omega) e14
  have bf := beginFrame_eq (M := mw M 114 (20 * t + (D - 1)) (Int32.ofNat h1)) ht hD (by rw [mwr _ _ _ (by omega)]; exact e9) (Int32.ofNat r)
  have e114 : M.1 114 (20 * t + (D - 1)) - Int32.ofNat u = Int32.ofNat h1 := by rw [e14, o_sub _ _ (by omega), Nat.add_sub_cancel]
  have eS : Int32.ofNat (22 * (20 * t + (D - 1)) + 12 + (h1 + u)) - Int32.ofNat u = Int32.ofNat (440 * t + (22 * (D - 1) + 12 + h1)) := by
    rw [o_sub _ _ (by omega)]
    congr 1
    omega
  have eD : (22 : Int32) * Int32.ofNat (20 * t + D) = Int32.ofNat (440 * t + 22 * D) := by
    rw [o_mulL]
    congr 1
    show 22 * (20 * t + D) = _
    omega
  have hb' : ∀ q, q < u → vp_nar .boolean ((bfM (mw M 114 (20 * t + (D - 1)) (Int32.ofNat h1)) t D (Int32.ofNat r)).1 116 (440 * t + (22 * (D - 1) + 12 + h1) + q)) = (bfM (mw M 114 (20 * t + (D - 1)) (Int32.ofNat h1)) t D (Int32.ofNat r)).1 116 (440 * t + (22 * (D - 1) + 12 + h1) + q) := by
    intro q hq
    have : (bfM (mw M 114 (20 * t + (D - 1)) (Int32.ofNat h1)) t D (Int32.ofNat r)).1 116 (440 * t + (22 * (D - 1) + 12 + h1) + q) = M.1 116 (440 * t + (22 * (D - 1) + 12 + h1) + q) := by
      unfold bfM clM
      rw [mf1, if_neg (by omega), mfr _ _ _ _ (by omega), mwr _ _ _ (by omega), mwr _ _ _ (by omega), mwr _ _ _ (by omega), mwr _ _ _ (by omega), mwr _ _ _ (by omega)]
    rw [this]
    exact hb q hq
  obtain ⟨z, hz⟩ := bodyC_ok (M := bfM (mw M 114 (20 * t + (D - 1)) (Int32.ofNat h1)) t D (Int32.ofNat r)) (u := u) (s := 440 * t + (22 * (D - 1) + 12 + h1)) (d := 440 * t + 22 * D) (by omega) (by omega) hb'
  unfold f_M_call
  rw [if_pos ix6, clt, if_pos nD, if_pos ix24, cl24]
  by_cases cn : M.1 100 (24 + r) = -2
  · rw [if_neg (fun z => z cn)] at many
    have nn : ¬ ¬ M.1 100 (24 + r) = -2 := fun z => z cn
    have bq : b84_M_call' (Int32.ofNat r) M (Int32.ofNat (22 * (20 * t + (D - 1)) + 12 + (h1 + u))) (Int32.ofNat (20 * t + D), bfM (mw M 114 (20 * t + (D - 1)) (Int32.ofNat h1)) t D (Int32.ofNat r)) = bodyC u (440 * t + (22 * (D - 1) + 12 + h1)) (440 * t + 22 * D) := by
      funext x
      unfold b84_M_call' bodyC
      simp only [cl24, many, eS, eD]
    rw [if_neg nn, tp, Option.bind_some, if_pos ixF]
    dsimp only [lt]
    rw [clF, many, e114, bf, Option.bind_some, bq, hz]
    rfl
  · rw [if_pos cn] at many
    have bq : b84_M_call (Int32.ofNat r) M (Int32.ofNat (22 * (20 * t + (D - 1)) + 12 + (h1 + u))) (Int32.ofNat (20 * t + D), bfM (mw M 114 (20 * t + (D - 1)) (Int32.ofNat h1)) t D (Int32.ofNat r)) = bodyC u (440 * t + (22 * (D - 1) + 12 + h1)) (440 * t + 22 * D) := by
      funext x
      unfold b84_M_call bodyC
      simp only [cl24, many, eS, eD]
    rw [if_pos cn, tp, Option.bind_some, if_pos ixF]
    dsimp only [lt]
    rw [clF, many, e114, bf, Option.bind_some, bq, hz]
    rfl
