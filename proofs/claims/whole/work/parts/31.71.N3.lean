/-! N3 -/
set_option maxRecDepth 20000 in
set_option maxHeartbeats 4000000 in
theorem mwr (V : MS) {a b : Nat} (i : Nat) (v : Int32) (h : b ≠ a) : (mw V a i v).1 b = V.1 b := by
  unfold mw
  dsimp only
  rw [if_neg h]
theorem mwi (V : MS) {a i j : Nat} (v : Int32) (b : Nat) (h : j ≠ i) : (mw V a i v).1 b j = V.1 b j := by
  rw [mw1, if_neg (fun q => h q.2)]
def Jm (k : Kx) (T C : Nat → Nat) (n : Nat) (X : XS) (M : MS) (g : Nat → Int32) (h : Nat) (l : Nat → Int32) : Prop := ∃ V, Md k T C n X V M g h l
/-- values of a kind on both sides -/
def VR (k : Kx) (q : Int32) (x v : Int32) : Prop := (q = 1 → x = v) ∧ (q = 2 → RefR k.c.Mr k.A x v)
set_option maxRecDepth 20000 in
set_option maxHeartbeats 4000000 in
theorem SlR.vr {k : Kx} {V M : MS} {t s : Nat} (h : SlR k.c.Mr k.A V M t s) : VR k (kd (M.1 116 (440 * t + s))) (V.1 (605 + 16 * t) s) (M.1 115 (440 * t + s)) := by
  unfold VR kd
  rcases h with ⟨a, b, c⟩ | ⟨a, b, c⟩
  · rw [a]
    exact ⟨fun _ => c, fun q => absurd q (by decide)⟩
  · rw [a]
    exact ⟨fun q => absurd q (by decide), fun _ => c⟩
theorem fi (t d s : Nat) : 22 * (20 * t + d) + 12 + s = 440 * t + (22 * d + 12 + s) := by omega
set_option maxRecDepth 20000 in
set_option maxHeartbeats 4000000 in
theorem Md.pop {k : Kx} {T C : Nat → Nat} {n : Nat} {X : XS} {V M : MS} {g : Nat → Int32} {h : Nat} {l : Nat → Int32} (md : Md k T C n X V M g (h + 1) l) : ∃ x v, f_Strand_pop (C (600 + 16 * k.t)) X = some (x, xw (xw X (C (600 + 16 * k.t)) 8 (Int32.ofNat h)) (C (606 + 16 * k.t)) (22 * k.d + 12 + h) 0) ∧ f_M_takeValue M = some (v, mw M 114 (20 * k.t + k.d) (Int32.ofNat h)) ∧ Md k T C n (xw (xw X (C (600 + 16 * k.t)) 8 (Int32.ofNat h)) (C (606 + 16 * k.t)) (22 * k.d + 12 + h) 0) (mw (mw V (600 + 16 * k.t) 8 (Int32.ofNat h)) (606 + 16 * k.t) (22 * k.d + 12 + h) 0) (mw M 114 (20 * k.t + k.d) (Int32.ofNat h)) g h l ∧ VR k (g h) x v := by
  obtain ⟨t1, t2, t3⟩ := md.t6
  have tp := md.tp
  have d20 := tp.d20
  have h10 := tp.fr.le
  have l0 : Lv n (600 + 16 * k.t) := Lv_s (f := 0) t1 (by omega)
  have l5 : Lv n (605 + 16 * k.t) := Lv_s (f := 5) t1 (by omega)
  have l6 : Lv n (606 + 16 * k.t) := Lv_s (f := 6) t1 (by omega)
  have r0 := md.rv.rd l0
  have r5 := md.rv.rd l5
  have p := pop_eq (md.rv.sc t1) (bo := 22 * k.d + 12) (h := h) (by rw [r0]; exact tp.v7) (by rw [r0]; exact tp.v8) (by omega)
  have q := take_eq (f := 20 * k.t + k.d) (h := h) md.f89 (by omega) tp.m114 (by omega)
  rw [fi] at q
  obtain ⟨s1, s2⟩ := tp.fr.stk h (by omega)
  refine ⟨_, _, p, q, ?_, ?_⟩
  · refine md.top ((md.rv.w l0 8 _).w l6 _ _) ?_ ?_ ?_ ?_ ?_ ?_ ?_ rfl ?_ ?_ ?_
    · intro a h1 h2 h3
      rw [mwr _ _ _ h3, mwr _ _ _ h1]
    · intro f hf
      rw [mwr _ _ _ (by omega), mwi _ _ _ hf]
    · intro jj hj
      exact ⟨by rw [mwr _ _ _ (by omega), mwr _ _ _ (by omega)], by rw [mwi _ _ _ (by omega), mwr _ _ _ (by omega)]⟩
    · intro a h1 _ _ _
      rw [mwr _ _ _ h1]
    · intro f _ _
      rw [mwr _ _ _ (by omega)]
    · intro qq hq
      rw [mwi _ _ _ hq]
    · intro jj _
      rw [mwr _ _ _ (by omega), mwr _ _ _ (by omega)]
      exact ⟨rfl, rfl⟩
    · rw [mwr _ _ _ (by omega), mw1, if_pos ⟨rfl, rfl⟩]
    · rw [mw1, if_pos ⟨rfl, rfl⟩]
    · obtain ⟨f1, f2, f3, f4⟩ := tp.fr
      have a5 : (mw (mw V (600 + 16 * k.t) 8 (Int32.ofNat h)) (606 + 16 * k.t) (22 * k.d + 12 + h) 0).1 (605 + 16 * k.t) = V.1 (605 + 16 * k.t) := by rw [mwr _ _ _ (by omega), mwr _ _ _ (by omega)]
      have a6 : ∀ s, s ≠ 22 * k.d + 12 + h → (mw (mw V (600 + 16 * k.t) 8 (Int32.ofNat h)) (606 + 16 * k.t) (22 * k.d + 12 + h) 0).1 (606 + 16 * k.t) s = V.1 (606 + 16 * k.t) s := fun s hs => by rw [mwi _ _ _ hs, mwr _ _ _ (by omega)]
      have b5 : (mw M 114 (20 * k.t + k.d) (Int32.ofNat h)).1 115 = M.1 115 := mwr _ _ _ (by omega)
      have b6 : (mw M 114 (20 * k.t + k.d) (Int32.ofNat h)).1 116 = M.1 116 := mwr _ _ _ (by omega)
      refine ⟨by omega, ?_, ?_, ?_⟩
      · intro s hs
        rw [b6]
        exact ⟨(f2 s hs).1.congr (by rw [a5]) (a6 _ (by omega)) (by rw [b5]) (by rw [b6]), (f2 s hs).2⟩
      · intro s hs
        rw [b6]
        exact ⟨(f3 s (by omega)).1.congr (by rw [a5]) (a6 _ (by omega)) (by rw [b5]) (by rw [b6]), (f3 s (by omega)).2⟩
      · intro s h1 h2
        by_cases e : s = h
        · subst e; rw [mw1, if_pos ⟨rfl, rfl⟩]
        · rw [a6 _ (by omega)]; exact f4 s (by omega) h2
  · rw [r5, s2]
    exact s1.vr
set_option maxRecDepth 20000 in
set_option maxHeartbeats 4000000 in
theorem J_pop {k : Kx} {T C : Nat → Nat} {n : Nat} {X : XS} {M : MS} {g : Nat → Int32} {h : Nat} {l : Nat → Int32} (j : Jm k T C n X M g (h + 1) l) : ∃ x X' v M', f_Strand_pop (C (600 + 16 * k.t)) X = some (x, X') ∧ f_M_takeValue M = some (v, M') ∧ Jm k T C n X' M' g h l ∧ VR k (g h) x v := by
  obtain ⟨V, md⟩ := j
  obtain ⟨x, v, e1, e2, e3, e4⟩ := md.pop
  exact ⟨x, _, v, _, e1, e2, ⟨_, e3⟩, e4⟩
set_option maxRecDepth 20000 in
set_option maxHeartbeats 4000000 in
/-- a value is put on both sides -/
theorem J_put {k : Kx} {T C : Nat → Nat} {n : Nat} {X : XS} {V M : MS} {g : Nat → Int32} {h : Nat} {l : Nat → Int32} (md : Md k T C n X V M g h l) (hh : h < 10) {y v z : Int32} (hz : (z = 0 ∧ y = v) ∨ (z = 1 ∧ RefR k.c.Mr k.A y v)) : Md k T C n (xw (xw (xw X (C (605 + 16 * k.t)) (22 * k.d + 12 + h) y) (C (606 + 16 * k.t)) (22 * k.d + 12 + h) z) (C (600 + 16 * k.t)) 8 (Int32.ofNat (h + 1))) (mw (mw (mw V (605 + 16 * k.t) (22 * k.d + 12 + h) y) (606 + 16 * k.t) (22 * k.d + 12 + h) z) (600 + 16 * k.t) 8 (Int32.ofNat (h + 1))) (mw (mw (mw M 115 (22 * (20 * k.t + k.d) + 12 + h) v) 116 (22 * (20 * k.t + k.d) + 12 + h) z) 114 (20 * k.t + k.d) (Int32.ofNat (h + 1))) (upd g h (kd z)) (h + 1) l := by
  obtain ⟨t1, t2, t3⟩ := md.t6
  have tp := md.tp
  have d20 := tp.d20
  have l0 : Lv n (600 + 16 * k.t) := Lv_s (f := 0) t1 (by omega)
  have l5 : Lv n (605 + 16 * k.t) := Lv_s (f := 5) t1 (by omega)
  have l6 : Lv n (606 + 16 * k.t) := Lv_s (f := 6) t1 (by omega)
  rw [fi]
  have a5 : ∀ s, (mw (mw (mw V (605 + 16 * k.t) (22 * k.d + 12 + h) y) (606 + 16 * k.t) (22 * k.d + 12 + h) z) (600 + 16 * k.t) 8 (Int32.ofNat (h + 1))).1 (605 + 16 * k.t) s = if s = 22 * k.d + 12 + h then y else V.1 (605 + 16 * k.t) s := fun s => by rw [mwr _ _ _ (by omega), mwr _ _ _ (by omega), mw1]; simp
  have a6 : ∀ s, (mw (mw (mw V (605 + 16 * k.t) (22 * k.d + 12 + h) y) (606 + 16 * k.t) (22 * k.d + 12 + h) z) (600 + 16 * k.t) 8 (Int32.ofNat (h + 1))).1 (606 + 16 * k.t) s = if s = 22 * k.d + 12 + h then z else V.1 (606 + 16 * k.t) s := fun s => by rw [mwr _ _ _ (by omega), mw1, mwr _ _ _ (by omega)]; simp
  have b5 : ∀ s, (mw (mw (mw M 115 (440 * k.t + (22 * k.d + 12 + h)) v) 116 (440 * k.t + (22 * k.d + 12 + h)) z) 114 (20 * k.t + k.d) (Int32.ofNat (h + 1))).1 115 s = if s = 440 * k.t + (22 * k.d + 12 + h) then v else M.1 115 s := fun s => by rw [mwr _ _ _ (by omega), mwr _ _ _ (by omega), mw1]; simp
  have b6 : ∀ s, (mw (mw (mw M 115 (440 * k.t + (22 * k.d + 12 + h)) v) 116 (440 * k.t + (22 * k.d + 12 + h)) z) 114 (20 * k.t + k.d) (Int32.ofNat (h + 1))).1 116 s = if s = 440 * k.t + (22 * k.d + 12 + h) then z else M.1 116 s := fun s => by rw [mwr _ _ _ (by omega), mw1, mwr _ _ _ (by omega)]; simp
  refine md.top (((md.rv.w l5 _ _).w l6 _ _).w l0 _ _) ?_ ?_ ?_ ?_ ?_ ?_ ?_ rfl ?_ ?_ ?_
  · intro a h1 h2 h3
    rw [mwr _ _ _ h1, mwr _ _ _ h3, mwr _ _ _ h2]
  · intro f hf
    rw [mwi _ _ _ hf, mwr _ _ _ (by omega), mwr _ _ _ (by omega)]
  · intro jj hj
    rw [a5, a6, if_neg (by omega), if_neg (by omega)]
    exact ⟨rfl, rfl⟩
  · intro a h1 h2 h3 _
    rw [mwr _ _ _ h1, mwr _ _ _ h3, mwr _ _ _ h2]
  · intro f _ _
    rw [mwr _ _ _ (by omega), mwr _ _ _ (by omega), mwr _ _ _ (by omega)]
  · intro qq hq
    rw [mwi _ _ _ hq, mwr _ _ _ (by omega), mwr _ _ _ (by omega)]
  · intro jj hj
    rw [b5, b6, if_neg (by omega), if_neg (by omega)]
    exact ⟨rfl, rfl⟩
  · rw [mw1, if_pos ⟨rfl, rfl⟩]
  · rw [mw1, if_pos ⟨rfl, rfl⟩]
  · obtain ⟨f1, f2, f3, f4⟩ := tp.fr
    refine ⟨by omega, ?_, ?_, ?_⟩
    · intro s hs
      rw [b6, if_neg (by omega)]
      exact ⟨(f2 s hs).1.congr (by rw [a5, if_neg (by omega)]) (by rw [a6, if_neg (by omega)]) (by rw [b5, if_neg (by omega)]) (by rw [b6, if_neg (by omega)]), (f2 s hs).2⟩
    · intro s hs
      by_cases e : s = h
      · subst e
        rw [b6, if_pos rfl]
        refine ⟨?_, by unfold upd; rw [if_pos rfl]⟩
        unfold SlR
        rw [a5, a6, b5, b6, if_pos rfl, if_pos rfl, if_pos rfl, if_pos rfl]
        rcases hz with ⟨z0, e⟩ | ⟨z1, e⟩
        · exact Or.inl ⟨z0, z0, e⟩
        · exact Or.inr ⟨z1, z1, e⟩
      · rw [b6, if_neg (by omega)]
        refine ⟨(f3 s (by omega)).1.congr (by rw [a5, if_neg (by omega)]) (by rw [a6, if_neg (by omega)]) (by rw [b5, if_neg (by omega)]) (by rw [b6, if_neg (by omega)]), ?_⟩
        unfold upd
        rw [if_neg e]
        exact (f3 s (by omega)).2
    · intro s h1 h2
      rw [a6, if_neg (by omega)]
      exact f4 s (by omega) h2
set_option maxRecDepth 20000 in
set_option maxHeartbeats 4000000 in
theorem J_pushi {k : Kx} {T C : Nat → Nat} {n : Nat} {X : XS} {M : MS} {g : Nat → Int32} {h : Nat} {l : Nat → Int32} (j : Jm k T C n X M g h l) (hh : h < 10) (y : Int32) : ∃ X' M', f_Strand_push (C (600 + 16 * k.t)) y X = some X' ∧ f_M_putInt y M = some M' ∧ Jm k T C n X' M' (upd g h 1) (h + 1) l ∧ M'.1 60 = M.1 60 := by
  obtain ⟨V, md⟩ := j
  obtain ⟨t1, t2, t3⟩ := md.t6
  have tp := md.tp
  have d20 := tp.d20
  have r0 := md.rv.rd (Lv_s (f := 0) t1 (by omega) : Lv n (600 + 16 * k.t))
  have p := pushi_eq (md.rv.sc t1) (bo := 22 * k.d + 12) (h := h) (by rw [r0]; exact tp.v7) (by rw [r0]; exact tp.v8) hh (by omega) y
  have q := (putM_eq (f := 20 * k.t + k.d) (h := h) md.f89 (by omega) tp.m114 hh y).1
  exact ⟨_, _, p, q, ⟨_, J_put md hh (Or.inl ⟨rfl, rfl⟩)⟩, by rw [mwr _ _ _ (by omega), mwr _ _ _ (by omega), mwr _ _ _ (by omega)]⟩
set_option maxRecDepth 20000 in
set_option maxHeartbeats 4000000 in
theorem J_pushr {k : Kx} {T C : Nat → Nat} {n : Nat} {X : XS} {M : MS} {g : Nat → Int32} {h : Nat} {l : Nat → Int32} (j : Jm k T C n X M g h l) (hh : h < 10) {y v : Int32} (hr : RefR k.c.Mr k.A y v) : ∃ X' M', f_Strand_pushRef (C (600 + 16 * k.t)) y X = some X' ∧ f_M_putRef v M = some M' ∧ Jm k T C n X' M' (upd g h 2) (h + 1) l ∧ M'.1 60 = M.1 60 := by
  obtain ⟨V, md⟩ := j
  obtain ⟨t1, t2, t3⟩ := md.t6
  have tp := md.tp
  have d20 := tp.d20
  have r0 := md.rv.rd (Lv_s (f := 0) t1 (by omega) : Lv n (600 + 16 * k.t))
  have p := pushr_eq (md.rv.sc t1) (bo := 22 * k.d + 12) (h := h) (by rw [r0]; exact tp.v7) (by rw [r0]; exact tp.v8) hh (by omega) y
  have q := (putM_eq (f := 20 * k.t + k.d) (h := h) md.f89 (by omega) tp.m114 hh v).2
  exact ⟨_, _, p, q, ⟨_, J_put md hh (Or.inr ⟨rfl, hr⟩)⟩, by rw [mwr _ _ _ (by omega), mwr _ _ _ (by omega), mwr _ _ _ (by omega)]⟩
