/-! N4 -/
theorem nar_b0 : vp_nar .boolean 0 = 0 := by decide
theorem nar_b1 : vp_nar .boolean 1 = 1 := by decide
set_option maxRecDepth 20000 in
set_option maxHeartbeats 4000000 in
theorem SlR.nar {Mr : MS} {A : HG} {V M : MS} {t s : Nat} (h : SlR Mr A V M t s) : vp_nar .boolean (M.1 116 (440 * t + s)) = M.1 116 (440 * t + s) ∧ V.1 (606 + 16 * t) s = M.1 116 (440 * t + s) := by
  rcases h with ⟨a, b, c⟩ | ⟨a, b, c⟩
  · rw [a, b]; exact ⟨nar_b0, rfl⟩
  · rw [a, b]; exact ⟨nar_b1, rfl⟩
set_option maxRecDepth 20000 in
set_option maxHeartbeats 4000000 in
theorem SlR.hz {Mr : MS} {A : HG} {V M : MS} {t s : Nat} (h : SlR Mr A V M t s) : (M.1 116 (440 * t + s) = 0 ∧ V.1 (605 + 16 * t) s = M.1 115 (440 * t + s)) ∨ (M.1 116 (440 * t + s) = 1 ∧ RefR Mr A (V.1 (605 + 16 * t) s) (M.1 115 (440 * t + s))) := by
  rcases h with ⟨a, b, c⟩ | ⟨a, b, c⟩
  · exact Or.inl ⟨a, c⟩
  · exact Or.inr ⟨a, c⟩
set_option maxRecDepth 20000 in
set_option maxHeartbeats 4000000 in
theorem loadM_eq {M : MS} {f h a : Nat} (e : M.1 60 89 = Int32.ofNat f) (hf : f < 120) (e2 : M.1 114 f = Int32.ofNat h) (hh : h < 10) (ha : a < 12) : f_M_others 2 (Int32.ofNat a) M = some (mw (mw (mw M 115 (22 * f + 12 + h) (M.1 115 (22 * f + a))) 116 (22 * f + 12 + h) (vp_nar .boolean (M.1 116 (22 * f + a)))) 114 f (Int32.ofNat (h + 1))) := by
  have t := topAt_eq e hf e2
  have t2 := topAt_eq (M := mw M 115 (22 * f + 12 + h) (M.1 115 (22 * f + a))) (f := f) (h := h) (by rw [mw1, if_neg (by omega)]; exact e) hf (by rw [mw1, if_neg (by omega)]; exact e2)
  have ix : ixo (Int32.ofNat (22 * f + 12 + h)) 2640 := ixl (by omega) (by omega)
  have ixa : ixo (Int32.ofNat (22 * f + a)) 2640 := ixl (by omega) (by omega)
  have cl : (Int32.ofNat (22 * f + 12 + h)).toNatClampNeg = 22 * f + 12 + h := o_cl _ (by omega)
  have cla : (Int32.ofNat (22 * f + a)).toNatClampNeg = 22 * f + a := o_cl _ (by omega)
  have em : 22 * M.1 60 89 + Int32.ofNat a = Int32.ofNat (22 * f + a) := by rw [e, o_mulL, o_add]
  unfold f_M_others
  rw [if_neg (by decide), if_pos rfl, t, Option.bind_some, em, if_pos ixa, if_pos ix, cl, cla]
  dsimp only [lt]
  rw [t2, Option.bind_some, if_pos ix, cl, mwr _ _ _ (show 116 ≠ 115 by omega)]
  generalize hZ : vp_nar .boolean (M.1 116 (22 * f + a)) = z
  have e' : (mw (mw M 115 (22 * f + 12 + h) (M.1 115 (22 * f + a))) 116 (22 * f + 12 + h) z).1 60 89 = Int32.ofNat f := by rw [mw1, if_neg (by omega), mw1, if_neg (by omega)]; exact e
  have e2' : (mw (mw M 115 (22 * f + 12 + h) (M.1 115 (22 * f + a))) 116 (22 * f + 12 + h) z).1 114 f = Int32.ofNat h := by rw [mw1, if_neg (by omega), mw1, if_neg (by omega)]; exact e2
  rw [e', if_pos (ixl hf (by omega)), o_cl f (by omega), e2', o_addR]
set_option maxRecDepth 20000 in
set_option maxHeartbeats 4000000 in
theorem J_load {k : Kx} {T C : Nat → Nat} {n : Nat} {X : XS} {M : MS} {g : Nat → Int32} {h : Nat} {l : Nat → Int32} (j : Jm k T C n X M g h l) (hh : h < 10) {s : Nat} (hs : s < 12) (hl : ¬ l s = 0) : ∃ X' M', f_Strand_load (C (600 + 16 * k.t)) (Int32.ofNat s) X = some X' ∧ f_M_others 2 (Int32.ofNat s) M = some M' ∧ Jm k T C n X' M' (upd g h (l s)) (h + 1) l ∧ M'.1 60 = M.1 60 := by
  obtain ⟨V, md⟩ := j
  obtain ⟨t1, t2, t3⟩ := md.t6
  have tp := md.tp
  have d20 := tp.d20
  have r0 := md.rv.rd (Lv_s (f := 0) t1 (by omega) : Lv n (600 + 16 * k.t))
  have r5 := md.rv.rd (Lv_s (f := 5) t1 (by omega) : Lv n (605 + 16 * k.t))
  have r6 := md.rv.rd (Lv_s (f := 6) t1 (by omega) : Lv n (606 + 16 * k.t))
  have p := load_eq (md.rv.sc t1) (fb := 22 * k.d) (h := h) (by rw [r0]; exact tp.v7) (by rw [r0]; exact tp.v8) hh (by omega) hs
  have q := loadM_eq (f := 20 * k.t + k.d) (h := h) md.f89 (by omega) tp.m114 hh hs
  obtain ⟨s1, s2⟩ := tp.fr.loc s hs
  rw [r5, r6, s1.nar.2] at p
  rw [show 22 * (20 * k.t + k.d) + s = 440 * k.t + (22 * k.d + s) by omega, s1.nar.1] at q
  have jp := J_put md hh s1.hz
  have ek : kd (M.1 116 (440 * k.t + (22 * k.d + s))) = l s := by
    rcases s2 with z | z
    · exact absurd z hl
    · exact z.symm
  rw [ek] at jp
  exact ⟨_, _, p, q, ⟨_, jp⟩, by rw [mwr _ _ _ (by omega), mwr _ _ _ (by omega), mwr _ _ _ (by omega)]⟩
set_option maxRecDepth 20000 in
set_option maxHeartbeats 4000000 in
theorem copyM_eq {M : MS} {f h : Nat} (e : M.1 60 89 = Int32.ofNat f) (hf : f < 120) (e2 : M.1 114 f = Int32.ofNat (h + 1)) (hh : h + 1 < 10) (od : Int32) : f_M_others 16 od M = some (mw (mw (mw M 115 (22 * f + 12 + (h + 1)) (M.1 115 (22 * f + 12 + h))) 116 (22 * f + 12 + (h + 1)) (vp_nar .boolean (M.1 116 (22 * f + 12 + h)))) 114 f (Int32.ofNat (h + 2))) := by
  have t := topAt_eq e hf e2
  have t2 := topAt_eq (M := mw M 115 (22 * f + 12 + (h + 1)) (M.1 115 (22 * f + 12 + h))) (f := f) (h := h + 1) (by rw [mw1, if_neg (by omega)]; exact e) hf (by rw [mw1, if_neg (by omega)]; exact e2)
  have ix : ixo (Int32.ofNat (22 * f + 12 + (h + 1))) 2640 := ixl (by omega) (by omega)
  have ixa : ixo (Int32.ofNat (22 * f + 12 + h)) 2640 := ixl (by omega) (by omega)
  have cl : (Int32.ofNat (22 * f + 12 + (h + 1))).toNatClampNeg = 22 * f + 12 + (h + 1) := o_cl _ (by omega)
  have cla : (Int32.ofNat (22 * f + 12 + h)).toNatClampNeg = 22 * f + 12 + h := o_cl _ (by omega)
  have em : Int32.ofNat (22 * f + 12 + (h + 1)) - 1 = Int32.ofNat (22 * f + 12 + h) := by rw [o_subR _ 1 (show 1 ≤ 22 * f + 12 + (h + 1) by omega)]; rfl
  unfold f_M_others
  rw [if_neg (by decide), if_neg (by decide), if_neg (by decide), if_pos rfl, t, Option.bind_some, Option.bind_some, em, if_pos ixa, if_pos ix, cl, cla]
  dsimp only [lt]
  rw [t2, Option.bind_some, Option.bind_some, em, if_pos ixa, if_pos ix, cl, cla, mwr _ _ _ (show 116 ≠ 115 by omega)]
  generalize hZ : vp_nar .boolean (M.1 116 (22 * f + 12 + h)) = z
  have e' : (mw (mw M 115 (22 * f + 12 + (h + 1)) (M.1 115 (22 * f + 12 + h))) 116 (22 * f + 12 + (h + 1)) z).1 60 89 = Int32.ofNat f := by rw [mw1, if_neg (by omega), mw1, if_neg (by omega)]; exact e
  have e2' : (mw (mw M 115 (22 * f + 12 + (h + 1)) (M.1 115 (22 * f + 12 + h))) 116 (22 * f + 12 + (h + 1)) z).1 114 f = Int32.ofNat (h + 1) := by rw [mw1, if_neg (by omega), mw1, if_neg (by omega)]; exact e2
  rw [e', if_pos (ixl hf (by omega)), o_cl f (by omega), e2', o_addR]
set_option maxRecDepth 20000 in
set_option maxHeartbeats 4000000 in
theorem J_copy {k : Kx} {T C : Nat → Nat} {n : Nat} {X : XS} {M : MS} {g : Nat → Int32} {h : Nat} {l : Nat → Int32} (j : Jm k T C n X M g (h + 1) l) (hh : h + 1 < 10) (od : Int32) : ∃ X' M', f_Strand_copyTop (C (600 + 16 * k.t)) X = some X' ∧ f_M_others 16 od M = some M' ∧ Jm k T C n X' M' (upd g (h + 1) (g h)) (h + 2) l ∧ M'.1 60 = M.1 60 := by
  obtain ⟨V, md⟩ := j
  obtain ⟨t1, t2, t3⟩ := md.t6
  have tp := md.tp
  have d20 := tp.d20
  have r0 := md.rv.rd (Lv_s (f := 0) t1 (by omega) : Lv n (600 + 16 * k.t))
  have r5 := md.rv.rd (Lv_s (f := 5) t1 (by omega) : Lv n (605 + 16 * k.t))
  have r6 := md.rv.rd (Lv_s (f := 6) t1 (by omega) : Lv n (606 + 16 * k.t))
  have p := copyTop_eq (md.rv.sc t1) (bo := 22 * k.d + 12) (h := h) (by rw [r0]; exact tp.v7) (by rw [r0]; exact tp.v8) hh (by omega)
  have q := copyM_eq (f := 20 * k.t + k.d) (h := h) md.f89 (by omega) tp.m114 hh od
  obtain ⟨s1, s2⟩ := tp.fr.stk h (by omega)
  rw [r5, r6, s1.nar.2] at p
  rw [fi k.t k.d h, s1.nar.1] at q
  have jp := J_put md hh s1.hz
  rw [← s2] at jp
  exact ⟨_, _, p, q, ⟨_, jp⟩, by rw [mwr _ _ _ (by omega), mwr _ _ _ (by omega), mwr _ _ _ (by omega)]⟩
set_option maxRecDepth 20000 in
set_option maxHeartbeats 4000000 in
theorem storeM_eq {M : MS} {f h a : Nat} (e : M.1 60 89 = Int32.ofNat f) (hf : f < 120) (e2 : M.1 114 f = Int32.ofNat (h + 1)) (hh : h < 10) (ha : a < 12) : f_M_others 3 (Int32.ofNat a) M = some (mw (mw (mw M 116 (22 * f + a) (vp_nar .boolean (M.1 116 (22 * f + 12 + h)))) 114 f (Int32.ofNat h)) 115 (22 * f + a) (M.1 115 (22 * f + 12 + h))) := by
  have t := topAt_eq e hf e2
  have ix : ixo (Int32.ofNat (22 * f + 12 + h)) 2640 := ixl (by omega) (by omega)
  have ixa : ixo (Int32.ofNat (22 * f + a)) 2640 := ixl (by omega) (by omega)
  have cl : (Int32.ofNat (22 * f + 12 + h)).toNatClampNeg = 22 * f + 12 + h := o_cl _ (by omega)
  have cla : (Int32.ofNat (22 * f + a)).toNatClampNeg = 22 * f + a := o_cl _ (by omega)
  have em : Int32.ofNat (22 * f + 12 + (h + 1)) - 1 = Int32.ofNat (22 * f + 12 + h) := by rw [o_subR _ 1 (show 1 ≤ 22 * f + 12 + (h + 1) by omega)]; rfl
  have ea : 22 * M.1 60 89 + Int32.ofNat a = Int32.ofNat (22 * f + a) := by rw [e, o_mulL, o_add]
  unfold f_M_others
  rw [if_neg (by decide), if_neg (by decide), if_pos rfl, t, Option.bind_some, em, if_pos ix, ea, if_pos ixa, cl]
  simp only [lt, cla]
  generalize hZ : vp_nar .boolean (M.1 116 (22 * f + 12 + h)) = z
  have tk := take_eq (M := mw M 116 (22 * f + a) z) (f := f) (h := h) (by rw [mw1, if_neg (by omega)]; exact e) hf (by rw [mw1, if_neg (by omega)]; exact e2) hh
  rw [tk, Option.bind_some, if_pos ixa, mwr _ _ _ (show 115 ≠ 116 by omega)]
set_option maxRecDepth 20000 in
set_option maxHeartbeats 4000000 in
theorem J_store {k : Kx} {T C : Nat → Nat} {n : Nat} {X : XS} {M : MS} {g : Nat → Int32} {h : Nat} {l : Nat → Int32} (j : Jm k T C n X M g (h + 1) l) {s : Nat} (hs : s < 12) : ∃ X' M', f_Strand_store (C (600 + 16 * k.t)) (Int32.ofNat s) X = some X' ∧ f_M_others 3 (Int32.ofNat s) M = some M' ∧ Jm k T C n X' M' g h (upd l s (g h)) ∧ M'.1 60 = M.1 60 := by
  obtain ⟨V, md⟩ := j
  obtain ⟨t1, t2, t3⟩ := md.t6
  have tp := md.tp
  have d20 := tp.d20
  have h10 := tp.fr.le
  have l0 : Lv n (600 + 16 * k.t) := Lv_s (f := 0) t1 (by omega)
  have l5 : Lv n (605 + 16 * k.t) := Lv_s (f := 5) t1 (by omega)
  have l6 : Lv n (606 + 16 * k.t) := Lv_s (f := 6) t1 (by omega)
  have r0 := md.rv.rd l0
  have r5 := md.rv.rd l5
  have r6 := md.rv.rd l6
  have p := store_eq (md.rv.sc t1) (fb := 22 * k.d) (h := h) (by rw [r0]; exact tp.v7) (by rw [r0]; exact tp.v8) (by omega) (by omega) hs
  have q := storeM_eq (f := 20 * k.t + k.d) (h := h) md.f89 (by omega) tp.m114 (by omega) hs
  obtain ⟨s1, s2⟩ := tp.fr.stk h (by omega)
  rw [r5, r6, s1.nar.2] at p
  rw [show 22 * (20 * k.t + k.d) + s = 440 * k.t + (22 * k.d + s) by omega, fi k.t k.d h, s1.nar.1] at q
  refine ⟨_, _, p, q, ⟨mw (mw (mw (mw V (606 + 16 * k.t) (22 * k.d + s) (M.1 116 (440 * k.t + (22 * k.d + 12 + h)))) (600 + 16 * k.t) 8 (Int32.ofNat h)) (606 + 16 * k.t) (22 * k.d + 12 + h) 0) (605 + 16 * k.t) (22 * k.d + s) (V.1 (605 + 16 * k.t) (22 * k.d + 12 + h)), ?_⟩, by rw [mwr _ _ _ (by omega), mwr _ _ _ (by omega), mwr _ _ _ (by omega)]⟩
  generalize hz : M.1 116 (440 * k.t + (22 * k.d + 12 + h)) = z at *
  generalize hy : V.1 (605 + 16 * k.t) (22 * k.d + 12 + h) = y at *
  generalize hv : M.1 115 (440 * k.t + (22 * k.d + 12 + h)) = v at *
  have a5 : ∀ w, (mw (mw (mw (mw V (606 + 16 * k.t) (22 * k.d + s) z) (600 + 16 * k.t) 8 (Int32.ofNat h)) (606 + 16 * k.t) (22 * k.d + 12 + h) 0) (605 + 16 * k.t) (22 * k.d + s) y).1 (605 + 16 * k.t) w = if w = 22 * k.d + s then y else V.1 (605 + 16 * k.t) w := fun w => by
    rw [mw1, mwr _ _ _ (by omega), mwr _ _ _ (by omega), mwr _ _ _ (by omega)]; simp
  have a6 : ∀ w, (mw (mw (mw (mw V (606 + 16 * k.t) (22 * k.d + s) z) (600 + 16 * k.t) 8 (Int32.ofNat h)) (606 + 16 * k.t) (22 * k.d + 12 + h) 0) (605 + 16 * k.t) (22 * k.d + s) y).1 (606 + 16 * k.t) w = if w = 22 * k.d + 12 + h then 0 else if w = 22 * k.d + s then z else V.1 (606 + 16 * k.t) w := fun w => by
    rw [mwr _ _ _ (by omega), mw1, mwr _ _ _ (by omega), mw1]; simp
  have b5 : ∀ w, (mw (mw (mw M 116 (440 * k.t + (22 * k.d + s)) z) 114 (20 * k.t + k.d) (Int32.ofNat h)) 115 (440 * k.t + (22 * k.d + s)) v).1 115 w = if w = 440 * k.t + (22 * k.d + s) then v else M.1 115 w := fun w => by
    rw [mw1, mwr _ _ _ (by omega), mwr _ _ _ (by omega)]; simp
  have b6 : ∀ w, (mw (mw (mw M 116 (440 * k.t + (22 * k.d + s)) z) 114 (20 * k.t + k.d) (Int32.ofNat h)) 115 (440 * k.t + (22 * k.d + s)) v).1 116 w = if w = 440 * k.t + (22 * k.d + s) then z else M.1 116 w := fun w => by
    rw [mwr _ _ _ (by omega), mwr _ _ _ (by omega), mw1]; simp
  refine md.top ((((md.rv.w l6 _ _).w l0 _ _).w l6 _ _).w l5 _ _) ?_ ?_ ?_ ?_ ?_ ?_ ?_ rfl ?_ ?_ ?_
  · intro a h1 h2 h3
    rw [mwr _ _ _ h2, mwr _ _ _ h3, mwr _ _ _ h1, mwr _ _ _ h3]
  · intro f hf
    rw [mwr _ _ _ (by omega), mwr _ _ _ (by omega), mwi _ _ _ hf, mwr _ _ _ (by omega)]
  · intro jj hj
    rw [a5, a6, if_neg (by omega), if_neg (by omega), if_neg (by omega)]
    exact ⟨rfl, rfl⟩
  · intro a h1 h2 h3 _
    rw [mwr _ _ _ h2, mwr _ _ _ h1, mwr _ _ _ h3]
  · intro f _ _
    rw [mwr _ _ _ (by omega), mwr _ _ _ (by omega), mwr _ _ _ (by omega)]
  · intro qq hq
    rw [mwr _ _ _ (by omega), mwi _ _ _ hq, mwr _ _ _ (by omega)]
  · intro jj hj
    rw [b5, b6, if_neg (by omega), if_neg (by omega)]
    exact ⟨rfl, rfl⟩
  · rw [mwr _ _ _ (by omega), mwr _ _ _ (by omega), mw1, if_pos ⟨rfl, rfl⟩]
  · rw [mwr _ _ _ (by omega), mw1, if_pos ⟨rfl, rfl⟩]
  · obtain ⟨f1, f2, f3, f4⟩ := tp.fr
    refine ⟨by omega, ?_, ?_, ?_⟩
    · intro w hw
      by_cases e : w = s
      · subst e
        rw [b6, if_pos rfl]
        refine ⟨?_, by unfold upd; rw [if_pos rfl, s2]; exact Or.inr rfl⟩
        unfold SlR
        rw [a5, a6, b5, b6, if_pos rfl, if_neg (by omega), if_pos rfl, if_pos rfl, if_pos rfl]
        rcases s1.hz with ⟨z0, e⟩ | ⟨z1, e⟩
        · rw [hz] at z0; rw [hy, hv] at e
          exact Or.inl ⟨z0, z0, e⟩
        · rw [hz] at z1; rw [hy, hv] at e
          exact Or.inr ⟨z1, z1, e⟩
      · rw [b6, if_neg (by omega)]
        refine ⟨(f2 w hw).1.congr (by rw [a5, if_neg (by omega)]) (by rw [a6, if_neg (by omega), if_neg (by omega)]) (by rw [b5, if_neg (by omega)]) (by rw [b6, if_neg (by omega)]), ?_⟩
        unfold upd
        rw [if_neg e]
        exact (f2 w hw).2
    · intro w hw
      rw [b6, if_neg (by omega)]
      exact ⟨(f3 w (by omega)).1.congr (by rw [a5, if_neg (by omega)]) (by rw [a6, if_neg (by omega), if_neg (by omega)]) (by rw [b5, if_neg (by omega)]) (by rw [b6, if_neg (by omega)]), (f3 w (by omega)).2⟩
    · intro w h1 h2
      rw [a6]
      by_cases e : w = h
      · subst e; rw [if_pos rfl]
      · rw [if_neg (by omega), if_neg (by omega)]
        exact f4 w (by omega) h2
set_option maxRecDepth 20000 in
set_option maxHeartbeats 4000000 in
theorem swapM_eq {M : MS} {f h : Nat} (e : M.1 60 89 = Int32.ofNat f) (hf : f < 120) (e2 : M.1 114 f = Int32.ofNat (h + 2)) (hh : h + 2 ≤ 10) (od : Int32) : f_M_others 18 od M = some (mw (mw (mw (mw M 115 (22 * f + 12 + (h + 1)) (M.1 115 (22 * f + 12 + h))) 116 (22 * f + 12 + (h + 1)) (vp_nar .boolean (M.1 116 (22 * f + 12 + h)))) 115 (22 * f + 12 + h) (M.1 115 (22 * f + 12 + (h + 1)))) 116 (22 * f + 12 + h) (vp_nar .boolean (M.1 116 (22 * f + 12 + (h + 1))))) := by
  have t := topAt_eq e hf e2
  have ix : ixo (Int32.ofNat (22 * f + 12 + (h + 1))) 2640 := ixl (by omega) (by omega)
  have ixa : ixo (Int32.ofNat (22 * f + 12 + h)) 2640 := ixl (by omega) (by omega)
  have cl : (Int32.ofNat (22 * f + 12 + (h + 1))).toNatClampNeg = 22 * f + 12 + (h + 1) := o_cl _ (by omega)
  have cla : (Int32.ofNat (22 * f + 12 + h)).toNatClampNeg = 22 * f + 12 + h := o_cl _ (by omega)
  have em : Int32.ofNat (22 * f + 12 + (h + 2)) - 1 = Int32.ofNat (22 * f + 12 + (h + 1)) := by rw [o_subR _ 1 (show 1 ≤ 22 * f + 12 + (h + 2) by omega)]; rfl
  have em2 : Int32.ofNat (22 * f + 12 + (h + 2)) - 2 = Int32.ofNat (22 * f + 12 + h) := by rw [o_subR _ 2 (show 2 ≤ 22 * f + 12 + (h + 2) by omega)]; rfl
  unfold f_M_others
  rw [if_neg (by decide), if_neg (by decide), if_neg (by decide), if_neg (by decide), if_neg (by decide), if_pos rfl, t, Option.bind_some, em, em2, if_pos ix, if_pos ixa, cl, cla]
  dsimp only [lt]
  rw [mwr _ _ _ (show 116 ≠ 115 by omega)]
set_option maxRecDepth 20000 in
set_option maxHeartbeats 4000000 in
theorem J_swap {k : Kx} {T C : Nat → Nat} {n : Nat} {X : XS} {M : MS} {g : Nat → Int32} {h : Nat} {l : Nat → Int32} (j : Jm k T C n X M g (h + 2) l) (od : Int32) : ∃ X' M', f_Strand_swap (C (600 + 16 * k.t)) X = some X' ∧ f_M_others 18 od M = some M' ∧ Jm k T C n X' M' (upd (upd g (h + 1) (g h)) h (g (h + 1))) (h + 2) l ∧ M'.1 60 = M.1 60 := by
  obtain ⟨V, md⟩ := j
  obtain ⟨t1, t2, t3⟩ := md.t6
  have tp := md.tp
  have d20 := tp.d20
  have h10 := tp.fr.le
  have l0 : Lv n (600 + 16 * k.t) := Lv_s (f := 0) t1 (by omega)
  have l5 : Lv n (605 + 16 * k.t) := Lv_s (f := 5) t1 (by omega)
  have l6 : Lv n (606 + 16 * k.t) := Lv_s (f := 6) t1 (by omega)
  have r0 := md.rv.rd l0
  have r5 := md.rv.rd l5
  have r6 := md.rv.rd l6
  have p := swap_eq (md.rv.sc t1) (bo := 22 * k.d + 12) (h := h) (by rw [r0]; exact tp.v7) (by rw [r0]; exact tp.v8) (by omega)
  have q := swapM_eq (f := 20 * k.t + k.d) (h := h) md.f89 (by omega) tp.m114 (by omega) od
  obtain ⟨s1, s2⟩ := tp.fr.stk h (by omega)
  obtain ⟨u1, u2⟩ := tp.fr.stk (h + 1) (by omega)
  rw [r5, r6, s1.nar.2, show 22 * k.d + 12 + h + 1 = 22 * k.d + 12 + (h + 1) by omega, u1.nar.2] at p
  rw [fi k.t k.d h, fi k.t k.d (h + 1), s1.nar.1, u1.nar.1] at q
  refine ⟨_, _, p, q, ⟨mw (mw (mw (mw V (605 + 16 * k.t) (22 * k.d + 12 + (h + 1)) (V.1 (605 + 16 * k.t) (22 * k.d + 12 + h))) (606 + 16 * k.t) (22 * k.d + 12 + (h + 1)) (M.1 116 (440 * k.t + (22 * k.d + 12 + h)))) (605 + 16 * k.t) (22 * k.d + 12 + h) (V.1 (605 + 16 * k.t) (22 * k.d + 12 + (h + 1)))) (606 + 16 * k.t) (22 * k.d + 12 + h) (M.1 116 (440 * k.t + (22 * k.d + 12 + (h + 1)))), ?_⟩, by rw [mwr _ _ _ (by omega), mwr _ _ _ (by omega), mwr _ _ _ (by omega), mwr _ _ _ (by omega)]⟩
  have z1 := s1.hz
  have z2 := u1.hz
  generalize M.1 116 (440 * k.t + (22 * k.d + 12 + h)) = z at *
  generalize V.1 (605 + 16 * k.t) (22 * k.d + 12 + h) = y at *
  generalize M.1 115 (440 * k.t + (22 * k.d + 12 + h)) = v at *
  generalize M.1 116 (440 * k.t + (22 * k.d + 12 + (h + 1))) = z' at *
  generalize V.1 (605 + 16 * k.t) (22 * k.d + 12 + (h + 1)) = y' at *
  generalize M.1 115 (440 * k.t + (22 * k.d + 12 + (h + 1))) = v' at *
  generalize hP : 22 * k.d + 12 + h = P at *
  have hQ : 22 * k.d + 12 + (h + 1) = P + 1 := by omega
  rw [hQ] at *
  have a5 : ∀ w, (mw (mw (mw (mw V (605 + 16 * k.t) (P + 1) y) (606 + 16 * k.t) (P + 1) z) (605 + 16 * k.t) P y') (606 + 16 * k.t) P z').1 (605 + 16 * k.t) w = if w = P then y' else if w = P + 1 then y else V.1 (605 + 16 * k.t) w := fun w => by
    rw [mwr _ _ _ (by omega), mw1, mwr _ _ _ (by omega), mw1]; simp
  have a6 : ∀ w, (mw (mw (mw (mw V (605 + 16 * k.t) (P + 1) y) (606 + 16 * k.t) (P + 1) z) (605 + 16 * k.t) P y') (606 + 16 * k.t) P z').1 (606 + 16 * k.t) w = if w = P then z' else if w = P + 1 then z else V.1 (606 + 16 * k.t) w := fun w => by
    rw [mw1, mwr _ _ _ (by omega), mw1, mwr _ _ _ (by omega)]; simp
  have b5 : ∀ w, (mw (mw (mw (mw M 115 (440 * k.t + (P + 1)) v) 116 (440 * k.t + (P + 1)) z) 115 (440 * k.t + P) v') 116 (440 * k.t + P) z').1 115 w = if w = 440 * k.t + P then v' else if w = 440 * k.t + (P + 1) then v else M.1 115 w := fun w => by
    rw [mwr _ _ _ (by omega), mw1, mwr _ _ _ (by omega), mw1]; simp
  have b6 : ∀ w, (mw (mw (mw (mw M 115 (440 * k.t + (P + 1)) v) 116 (440 * k.t + (P + 1)) z) 115 (440 * k.t + P) v') 116 (440 * k.t + P) z').1 116 w = if w = 440 * k.t + P then z' else if w = 440 * k.t + (P + 1) then z else M.1 116 w := fun w => by
    rw [mw1, mwr _ _ _ (by omega), mw1, mwr _ _ _ (by omega)]; simp
  refine md.top ((((md.rv.w l5 _ _).w l6 _ _).w l5 _ _).w l6 _ _) ?_ ?_ ?_ ?_ ?_ ?_ ?_ rfl ?_ ?_ ?_
  · intro a h1 h2 h3
    rw [mwr _ _ _ h3, mwr _ _ _ h2, mwr _ _ _ h3, mwr _ _ _ h2]
  · intro f hf
    rw [mwr _ _ _ (by omega), mwr _ _ _ (by omega), mwr _ _ _ (by omega), mwr _ _ _ (by omega)]
  · intro jj hj
    rw [a5, a6, if_neg (by omega), if_neg (by omega), if_neg (by omega), if_neg (by omega)]
    exact ⟨rfl, rfl⟩
  · intro a h1 h2 h3 _
    rw [mwr _ _ _ h3, mwr _ _ _ h2, mwr _ _ _ h3, mwr _ _ _ h2]
  · intro f _ _
    rw [mwr _ _ _ (by omega), mwr _ _ _ (by omega), mwr _ _ _ (by omega), mwr _ _ _ (by omega)]
  · intro qq hq
    rw [mwr _ _ _ (by omega), mwr _ _ _ (by omega), mwr _ _ _ (by omega), mwr _ _ _ (by omega)]
  · intro jj hj
    rw [b5, b6, if_neg (by omega), if_neg (by omega), if_neg (by omega), if_neg (by omega)]
    exact ⟨rfl, rfl⟩
  · rw [mwr _ _ _ (by omega), mwr _ _ _ (by omega), mwr _ _ _ (by omega), mwr _ _ _ (by omega)]; exact tp.v8
  · rw [mwr _ _ _ (by omega), mwr _ _ _ (by omega), mwr _ _ _ (by omega), mwr _ _ _ (by omega)]; exact tp.m114
  · obtain ⟨f1, f2, f3, f4⟩ := tp.fr
    refine ⟨by omega, ?_, ?_, ?_⟩
    · intro w hw
      rw [b6, if_neg (by omega), if_neg (by omega)]
      exact ⟨(f2 w hw).1.congr (by rw [a5, if_neg (by omega), if_neg (by omega)]) (by rw [a6, if_neg (by omega), if_neg (by omega)]) (by rw [b5, if_neg (by omega), if_neg (by omega)]) (by rw [b6, if_neg (by omega), if_neg (by omega)]), (f2 w hw).2⟩
    · intro w hw
      by_cases e : w = h
      · subst e
        rw [hP, b6, if_pos rfl]
        refine ⟨?_, by unfold upd; rw [if_pos rfl]; exact u2⟩
        unfold SlR
        rw [a5, a6, b5, b6, if_pos rfl, if_pos rfl, if_pos rfl, if_pos rfl]
        rcases z2 with ⟨z0, e⟩ | ⟨z1, e⟩
        · exact Or.inl ⟨z0, z0, e⟩
        · exact Or.inr ⟨z1, z1, e⟩
      · by_cases e2 : w = h + 1
        · subst e2
          rw [show 22 * k.d + 12 + (h + 1) = P + 1 by omega, b6, if_neg (by omega), if_pos rfl]
          refine ⟨?_, by unfold upd; rw [if_neg e, if_pos rfl]; exact s2⟩
          unfold SlR
          rw [a5, a6, b5, b6, if_neg (by omega), if_pos rfl, if_neg (by omega), if_pos rfl, if_neg (by omega), if_pos rfl, if_neg (by omega), if_pos rfl]
          rcases z1 with ⟨z0, e⟩ | ⟨z1, e⟩
          · exact Or.inl ⟨z0, z0, e⟩
          · exact Or.inr ⟨z1, z1, e⟩
        · rw [b6, if_neg (by omega), if_neg (by omega)]
          refine ⟨(f3 w (by omega)).1.congr (by rw [a5, if_neg (by omega), if_neg (by omega)]) (by rw [a6, if_neg (by omega), if_neg (by omega)]) (by rw [b5, if_neg (by omega), if_neg (by omega)]) (by rw [b6, if_neg (by omega), if_neg (by omega)]), ?_⟩
          unfold upd
          rw [if_neg e, if_neg e2]
          exact (f3 w (by omega)).2
    · intro w h1 h2
      rw [a6, if_neg (by omega), if_neg (by omega)]
      exact f4 w h1 h2
