/-! U1 -/
theorem dX_pl {a : Nat} {x7 p x : Int32} {X : XS} (h : ¬ 3 < x7) : dX a x7 p x X = f_Engine_doPlain a x7 (p + 1) X := by
  unfold dX
  rw [if_neg h, bdx]
theorem dX_ar {a : Nat} {x7 p x : Int32} {X : XS} (h : 3 < x7) (h2 : ¬ 15 < x7) : dX a x7 p x X = f_Engine_doArithmetic a x7 X := by
  unfold dX
  rw [if_pos h, if_neg h2, bdx]
theorem dX_ju {a : Nat} {x7 p x : Int32} {X : XS} (h : 3 < x7) (h2 : 15 < x7) (h3 : f_P_jumps x7 = true) : dX a x7 p x X = f_Engine_doJump a x7 p X := by
  unfold dX
  rw [if_pos h, if_pos h2, if_pos h3, bdx]
set_option maxRecDepth 20000 in
set_option maxHeartbeats 4000000 in
theorem dX_26 (a : Nat) (p x : Int32) (X : XS) : dX a 26 p x X = (f_Image_at_51 (p + 1) X).bind fun z => f_Engine_doMake a 26 z X := by
  unfold dX
  rw [if_pos (by decide), if_pos (by decide), if_neg (by decide), if_pos (by decide)]
  congr 1
  funext z
  exact bdx _
set_option maxRecDepth 20000 in
set_option maxHeartbeats 4000000 in
theorem dX_31 (a : Nat) (p x : Int32) (X : XS) : dX a 31 p x X = (f_Image_at_51 (p + 1) X).bind fun z => f_Engine_doMake a 31 z X := by
  unfold dX
  rw [if_pos (by decide), if_pos (by decide), if_neg (by decide), if_neg (by decide), if_pos (by decide)]
  congr 1
  funext z
  exact bdx _
set_option maxRecDepth 20000 in
set_option maxHeartbeats 4000000 in
theorem dX_35 (a : Nat) (p x : Int32) (X : XS) : dX a 35 p x X = (f_Image_at_51 (p + 1) X).bind fun z => f_Engine_doMake a 35 z X := by
  unfold dX
  rw [if_pos (by decide), if_pos (by decide), if_neg (by decide), if_neg (by decide), if_neg (by decide), if_neg (by decide)]
  congr 1
  funext z
  exact bdx _
/-- what is known of the bytes from 16 on that neither jump nor make -/
abbrev Hi (x7 : Int32) : Prop := 3 < x7 ∧ 15 < x7 ∧ ¬ f_P_jumps x7 = true ∧ ¬ x7 = 26 ∧ ¬ x7 = 31 ∧ ¬ x7 = 35
set_option maxRecDepth 20000 in
set_option maxHeartbeats 4000000 in
theorem dX_fi {a : Nat} {x7 p x : Int32} {X : XS} (h : Hi x7) (h2 : f_P_usesField x7 = true) : dX a x7 p x X = f_Engine_doField a x7 p X := by
  obtain ⟨h1, h2', h3, h4, h5, h6⟩ := h
  unfold dX
  rw [if_pos h1, if_pos h2', if_neg h3, if_neg h4, if_neg h5, if_pos h6, if_pos h2, bdx]
theorem dX_34 (a : Nat) (p x : Int32) (X : XS) : dX a 34 p x X = f_Engine_doLength a X := by
  unfold dX
  rw [if_pos (by decide), if_pos (by decide), if_neg (by decide), if_neg (by decide), if_neg (by decide), if_pos (by decide), if_neg (by decide), if_neg (by decide), bdx]
set_option maxRecDepth 20000 in
set_option maxHeartbeats 4000000 in
theorem dX_lp {a : Nat} {x7 p x : Int32} {X : XS} (h : Hi x7) (n1 : ¬ f_P_usesField x7 = true) (n2 : ¬ x7 = 34) (h2 : 32 ≤ x7 ∧ x7 ≤ 37) : dX a x7 p x X = f_Engine_doPlace a x7 X := by
  obtain ⟨h1, h2', h3, h4, h5, h6⟩ := h
  unfold dX
  rw [if_pos h1, if_pos h2', if_neg h3, if_neg h4, if_neg h5, if_pos h6, if_neg n1, if_pos n2, if_pos h2, bdx]
abbrev Hj (x7 : Int32) : Prop := Hi x7 ∧ ¬ f_P_usesField x7 = true ∧ ¬ x7 = 34 ∧ ¬ (32 ≤ x7 ∧ x7 ≤ 37)
set_option maxRecDepth 20000 in
set_option maxHeartbeats 4000000 in
theorem dX_ca {a : Nat} {x7 p x : Int32} {X : XS} (h : Hj x7) (h2 : 38 ≤ x7 ∧ x7 ≤ 43) : dX a x7 p x X = (f_Image_at_51 (p + 1) X).bind fun z => f_Engine_doCall a x7 z X := by
  obtain ⟨⟨h1, h2', h3, h4, h5, h6⟩, n1, n2, n3⟩ := h
  unfold dX
  rw [if_pos h1, if_pos h2', if_neg h3, if_neg h4, if_neg h5, if_pos h6, if_neg n1, if_pos n2, if_neg n3, if_pos h2]
  congr 1
  funext z
  exact bdx _
theorem dX_48 (a : Nat) (p x : Int32) (X : XS) : dX a 48 p x X = ((f_Strand_pop a X).bind fun x50 => ((f_Engine_doBegin x50.1 x50.2).bind fun x51 => some (x51.1, x51.2))) := by
  unfold dX
  rw [if_pos (by decide), if_pos (by decide), if_neg (by decide), if_neg (by decide), if_neg (by decide), if_pos (by decide), if_neg (by decide), if_pos (by decide), if_neg (by decide), if_neg (by decide), if_neg (by decide)]
set_option maxRecDepth 20000 in
set_option maxHeartbeats 4000000 in
theorem dX_mo {a op : Nat} {p x : Int32} {X : XS} (h : op = 49 ∨ op = 50) : dX a (Int32.ofNat op) p x X = ((f_Strand_pop a X).bind fun x37 => ((f_Engine_doMonitor x37.1 (Int32.ofNat op) (x + 1) x37.2).bind fun x38 => some (x38.1, x38.2))) := by
  unfold dX
  rcases h with e | e <;> subst e
  · rw [if_pos (by decide), if_pos (by decide), if_neg (by decide), if_neg (by decide), if_neg (by decide), if_pos (by decide), if_neg (by decide), if_pos (by decide), if_neg (by decide), if_neg (by decide), if_pos (by decide), if_pos (by decide)]
  · rw [if_pos (by decide), if_pos (by decide), if_neg (by decide), if_neg (by decide), if_neg (by decide), if_pos (by decide), if_neg (by decide), if_pos (by decide), if_neg (by decide), if_neg (by decide), if_pos (by decide), if_neg (by decide), if_neg (by decide)]
theorem dX_51 (a : Nat) (p x : Int32) (X : XS) : dX a 51 p x X = (lt (xw X 40 1 1) fun X47 => some ((0 : Int32), X47)) := by
  unfold dX
  rw [if_pos (by decide), if_pos (by decide), if_neg (by decide), if_neg (by decide), if_neg (by decide), if_pos (by decide), if_neg (by decide), if_pos (by decide), if_neg (by decide), if_neg (by decide), if_pos (by decide), if_neg (by decide), if_pos (by decide), if_neg (by decide)]
abbrev Hk (x7 : Int32) : Prop := Hj x7 ∧ ¬ (38 ≤ x7 ∧ x7 ≤ 43) ∧ ¬ x7 = 48 ∧ ¬ x7 = 49 ∧ ¬ x7 = 50 ∧ ¬ x7 = 51
set_option maxRecDepth 20000 in
set_option maxHeartbeats 4000000 in
theorem dX_st {a : Nat} {x7 p x : Int32} {X : XS} (h : Hk x7) (h2 : 52 ≤ x7 ∧ x7 ≤ 55) : dX a x7 p x X = (f_Image_at_51 (p + 1) X).bind fun z => f_Engine_doStatic a x7 z X := by
  obtain ⟨⟨⟨h1, h2', h3, h4, h5, h6⟩, n1, n2, n3⟩, n4, n5, n6, n7, n8⟩ := h
  unfold dX
  rw [if_pos h1, if_pos h2', if_neg h3, if_neg h4, if_neg h5, if_pos h6, if_neg n1, if_pos n2, if_neg n3, if_neg n4, if_pos n5, if_neg n6, if_pos n7, if_pos n8, if_pos h2]
  congr 1
  funext z
  exact bdx _
set_option maxRecDepth 20000 in
set_option maxHeartbeats 4000000 in
theorem dX_pp {a : Nat} {x7 p x : Int32} {X : XS} (h : Hk x7) (h2 : ¬ (52 ≤ x7 ∧ x7 ≤ 55)) : dX a x7 p x X = f_Engine_doPlain a x7 (p + 1) X := by
  obtain ⟨⟨⟨h1, h2', h3, h4, h5, h6⟩, n1, n2, n3⟩, n4, n5, n6, n7, n8⟩ := h
  unfold dX
  rw [if_pos h1, if_pos h2', if_neg h3, if_neg h4, if_neg h5, if_pos h6, if_neg n1, if_pos n2, if_neg n3, if_neg n4, if_pos n5, if_neg n6, if_pos n7, if_pos n8, if_neg h2, bdx]
/-- the reference's instructions without a group -/
abbrev Lo (x3 : Int32) : Prop := ¬ (4 ≤ x3 ∧ x3 ≤ 15) ∧ ¬ (19 ≤ x3 ∧ x3 ≤ 25) ∧ ¬ (27 ≤ x3 ∧ x3 ≤ 30) ∧ ¬ (31 ≤ x3 ∧ x3 ≤ 37)
abbrev Lp (x3 : Int32) : Prop := Lo x3 ∧ ¬ x3 = 38 ∧ ¬ x3 = 39 ∧ ¬ (40 ≤ x3 ∧ x3 ≤ 42)
theorem tM2_b1 (o : Option MS) (x x3 : Int32) : (o.bind fun z => some ((1 : Int32), z)).bind (tM2 x x3) = o.bind (tM1 x x3) := by
  rw [bd1]
  exact congrArg (Option.bind o) (funext fun z => tM2_1 x x3 z)
theorem tM2_b0 (o : Option MS) (x x3 : Int32) : (o.bind fun z => some ((0 : Int32), z)).bind (tM2 x x3) = o.bind (tM0 x x3) := by
  rw [bd0]
  exact congrArg (Option.bind o) (funext fun z => tM2_0 x x3 z)
set_option maxRecDepth 20000 in
set_option maxHeartbeats 4000000 in
theorem sM_38 {x x4 : Int32} {M5 : MS} (z : M5.1 60 90 = 0) : sM x 38 x4 M5 = (f_M_call x x4 M5).bind (tM0 x 38) := by
  rw [sM_ot (by decide) (by decide) (by decide) (by decide)]
  unfold oM
  rw [if_pos rfl, if_neg (fun q => q z), bdi, tM2_b0]
set_option maxRecDepth 20000 in
set_option maxHeartbeats 4000000 in
theorem sM_39 {x x4 : Int32} {M5 : MS} : sM x 39 x4 M5 = ((f_M_argumentsOf x4 M5).bind fun x99 => ((f_M_peek x99 M5).bind fun x100 => ((f_M_methodOf x100 x4 M5).bind fun x101 => (if ¬ x101.2.1 60 90 = 0 then some x101.2 else ((f_M_call x x101.1 x101.2).bind fun x103 => some x103))))).bind (tM0 x 39) := by
  rw [sM_ot (by decide) (by decide) (by decide) (by decide)]
  unfold oM
  rw [if_neg (by decide), if_neg (by decide), ← tM2_b0]
  simp only [Option.bind_assoc]
set_option maxRecDepth 20000 in
set_option maxHeartbeats 4000000 in
theorem sM_gb {x x3 x4 : Int32} {M5 : MS} (h : Lo x3) (n1 : ¬ x3 = 38) (n2 : ¬ x3 = 39) (h2 : 40 ≤ x3 ∧ x3 ≤ 42) : sM x x3 x4 M5 = (f_M_giveBack x x3 M5).bind (tM0 x x3) := by
  obtain ⟨h1, h2', h3, h4⟩ := h
  rw [sM_ot h1 h2' h3 h4]
  unfold oM
  rw [if_neg n1, if_pos n2, if_pos h2, tM2_b0]
set_option maxRecDepth 20000 in
set_option maxHeartbeats 4000000 in
theorem sM_48 {x x4 : Int32} {M5 : MS} : sM x 48 x4 M5 = (f_M_beginOther M5).bind (tM1 x 48) := by
  rw [sM_ot (by decide) (by decide) (by decide) (by decide)]
  unfold oM
  rw [if_neg (by decide), if_pos (by decide), if_neg (by decide), if_neg (by decide), tM2_b1]
set_option maxRecDepth 20000 in
set_option maxHeartbeats 4000000 in
theorem sM_mo {x x4 : Int32} {op : Nat} {M5 : MS} (h : op = 49 ∨ op = 50) : sM x (Int32.ofNat op) x4 M5 = (f_M_monitor x (Int32.ofNat op) M5).bind (tM1 x (Int32.ofNat op)) := by
  rcases h with e | e <;> subst e
  · rw [sM_ot (by decide) (by decide) (by decide) (by decide)]
    unfold oM
    rw [if_neg (by decide), if_pos (by decide), if_neg (by decide), if_pos (by decide), if_pos (by decide), tM2_b1]
  · rw [sM_ot (by decide) (by decide) (by decide) (by decide)]
    unfold oM
    rw [if_neg (by decide), if_pos (by decide), if_neg (by decide), if_pos (by decide), if_neg (by decide), if_neg (by decide), tM2_b1]
set_option maxRecDepth 20000 in
set_option maxHeartbeats 4000000 in
theorem sM_st {x x3 x4 : Int32} {M5 : MS} (h : Lp x3) (n1 : ¬ x3 = 48) (n2 : ¬ x3 = 49) (n3 : ¬ x3 = 50) (h2 : 52 ≤ x3 ∧ x3 ≤ 55) : sM x x3 x4 M5 = (f_M_statics x3 x4 M5).bind (tM1 x x3) := by
  obtain ⟨⟨h1, h2', h3, h4⟩, h5, h6, h7⟩ := h
  rw [sM_ot h1 h2' h3 h4]
  unfold oM
  rw [if_neg h5, if_pos h6, if_neg h7, if_pos n1, if_neg n2, if_pos n3, if_pos h2, tM2_b1]
set_option maxRecDepth 20000 in
set_option maxHeartbeats 4000000 in
theorem sM_oo {x x3 x4 : Int32} {M5 : MS} (h : Lp x3) (n1 : ¬ x3 = 48) (n2 : ¬ x3 = 49) (n3 : ¬ x3 = 50) (h2 : ¬ (52 ≤ x3 ∧ x3 ≤ 55)) : sM x x3 x4 M5 = (f_M_others x3 x4 M5).bind (tM1 x x3) := by
  obtain ⟨⟨h1, h2', h3, h4⟩, h5, h6, h7⟩ := h
  rw [sM_ot h1 h2' h3 h4]
  unfold oM
  rw [if_neg h5, if_pos h6, if_neg h7, if_pos n1, if_neg n2, if_pos n3, if_neg h2, tM2_b1]
