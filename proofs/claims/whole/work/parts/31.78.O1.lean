/-! O1 -/
set_option maxRecDepth 20000 in
set_option maxHeartbeats 4000000 in
/-- one method is left: the one that called it is at work -/
theorem leave_md {k : Kx} {T C : Nat → Nat} {n : Nat} {X : XS} {V M M1 : MS} {g : Nat → Int32} {h : Nat} {l : Nat → Int32} {d : Nat} (md : Md k T C n X V M1 g h l) (ag : Ag k M M1) (hd : k.d = d + 1) : ∃ m i S h' g2 h2 l2 X' V', f_Strand_leave (C (600 + 16 * k.t)) X = some X' ∧ Md (k.fr d m i S) T C n X' V' (mw (mw M 109 k.t (Int32.ofNat (d + 1))) 60 89 (Int32.ofNat (20 * k.t + d))) (S.2.2.2.1 i) h' (S.2.2.2.2.1 i) ∧ V'.1 1040 = V.1 1040 ∧ putT (k.c.Mr.1 68 k.m) (S.2.2.2.1 i) h' (S.2.2.2.2.1 i) = some (g2, h2, l2) ∧ Cov S (i + 1) g2 h2 l2 ∧ (opN k.c.Mr m i = 38 ∨ opN k.c.Mr m i = 39) := by
  obtain ⟨t1, t2, t3⟩ := md.t6
  obtain ⟨m0, m1, m2, m3, m4, m5, m6, m7, m8, m9, m10, m11, m12⟩ := md
  obtain ⟨q0, q1, q2, q3, q4, q5, q6, q7, q8, q9, q10, q11, q12⟩ := m3
  obtain ⟨m, i, h', S, g2, h2, l2, s1, s2, s3, s4, s5, s6, s7, s8, s9, s10, s11, s12⟩ := m4 d (by omega)
  have l0 : Lv n (600 + 16 * k.t) := Lv_s (f := 0) t1 (by omega)
  have l9 : Lv n (609 + 16 * k.t) := Lv_s (f := 9) t1 (by omega)
  have l10 : Lv n (610 + 16 * k.t) := Lv_s (f := 10) t1 (by omega)
  have l11 : Lv n (611 + 16 * k.t) := Lv_s (f := 11) t1 (by omega)
  have r0 := m0.rd l0
  have le := leave_eq (m0.sc t1) (d := d) (by rw [r0, q2, hd]) (by omega)
  rw [m0.rd l9, m0.rd l10, m0.rd l11, s6, s7, s8] at le
  have vr : ∀ a, a ≠ 600 + 16 * k.t → (mw (mw (mw (mw (mw V (600 + 16 * k.t) 2 (Int32.ofNat (d + 1))) (600 + 16 * k.t) 3 (Int32.ofNat (rn k.c.Mr m))) (600 + 16 * k.t) 4 (Int32.ofNat (caN k.c.Mr m + off k.c.Mr m i))) (600 + 16 * k.t) 8 (Int32.ofNat h')) (600 + 16 * k.t) 7 (Int32.ofNat (22 * d + 12))).1 a = V.1 a := fun a ha => by rw [mwr _ _ _ ha, mwr _ _ _ ha, mwr _ _ _ ha, mwr _ _ _ ha, mwr _ _ _ ha]
  have mr : ∀ a, a ≠ 60 → a ≠ 109 → a ≠ 114 → (mw (mw M 109 k.t (Int32.ofNat (d + 1))) 60 89 (Int32.ofNat (20 * k.t + d))).1 a = M1.1 a := fun a h1 h2 h3 => by rw [mwr _ _ _ h1, mwr _ _ _ h2]; exact ag.1 a h3 h1
  have m60 : ∀ e, e ≠ 89 → e ≠ 90 → e ≠ 91 → (mw (mw M 109 k.t (Int32.ofNat (d + 1))) 60 89 (Int32.ofNat (20 * k.t + d))).1 60 e = M1.1 60 e := fun e h1 h2 h3 => by rw [mwi _ _ _ h1, mwr _ _ _ (by omega)]; exact ag.2.2.1 e h2 h3
  have m114 : ∀ q, q ≠ 20 * k.t + k.d → (mw (mw M 109 k.t (Int32.ofNat (d + 1))) 60 89 (Int32.ofNat (20 * k.t + d))).1 114 q = M1.1 114 q := fun q hq => by rw [mwr _ _ _ (by omega), mwr _ _ _ (by omega)]; exact ag.2.1 q hq
  have m24 : k.m < 24 := m2.1.1
  have put' : putT (k.c.Mr.1 68 k.m) (S.2.2.2.1 i) h' (S.2.2.2.2.1 i) = some (g2, h2, l2) := by
    rw [← hd, q3, o_cl _ (by omega)] at s10
    exact s10
  refine ⟨m, i, S, h', g2, h2, l2, _, _, le, ⟨((((m0.w l0 _ _).w l0 _ _).w l0 _ _).w l0 _ _).w l0 _ _, ?_, ⟨s1, s2⟩, ?_, ?_, ?_, ?_, ?_, ?_, ?_, ?_, ?_, ?_⟩, vr 1040 (by omega), put', s11, s12⟩
  · intro a q hr
    rw [← m1 a q hr]
    unfold RunM at hr
    by_cases e : a = 60
    · subst e; exact m60 q (by omega) (by omega) (by omega)
    · rw [mr a e (by omega) (by omega)]
  · refine ⟨by show d < 20; omega, ?_, ?_, ?_, ?_, ?_, ?_, ?_, ?_, ?_, ?_, ?_, ?_⟩
    · show (mw (mw M 109 k.t (Int32.ofNat (d + 1))) 60 89 (Int32.ofNat (20 * k.t + d))).1 109 k.t = Int32.ofNat (d + 1)
      rw [mwr _ _ _ (by omega), mw1, if_pos ⟨rfl, rfl⟩]
    · show (mw (mw (mw (mw (mw V (600 + 16 * k.t) 2 (Int32.ofNat (d + 1))) (600 + 16 * k.t) 3 (Int32.ofNat (rn k.c.Mr m))) (600 + 16 * k.t) 4 (Int32.ofNat (caN k.c.Mr m + off k.c.Mr m i))) (600 + 16 * k.t) 8 (Int32.ofNat h')) (600 + 16 * k.t) 7 (Int32.ofNat (22 * d + 12))).1 (600 + 16 * k.t) 2 = _
      rw [mwi _ _ _ (by omega), mwi _ _ _ (by omega), mwi _ _ _ (by omega), mwi _ _ _ (by omega), mw1, if_pos ⟨rfl, rfl⟩]
    · rw [mr 112 (by omega) (by omega) (by omega)]; exact s3
    · rw [mr 113 (by omega) (by omega) (by omega)]; exact s4
    · rw [m114 _ (by show 20 * k.t + d ≠ _; omega)]; exact s5
    · show (mw (mw (mw (mw (mw V (600 + 16 * k.t) 2 (Int32.ofNat (d + 1))) (600 + 16 * k.t) 3 (Int32.ofNat (rn k.c.Mr m))) (600 + 16 * k.t) 4 (Int32.ofNat (caN k.c.Mr m + off k.c.Mr m i))) (600 + 16 * k.t) 8 (Int32.ofNat h')) (600 + 16 * k.t) 7 (Int32.ofNat (22 * d + 12))).1 (600 + 16 * k.t) 3 = _
      rw [mwi _ _ _ (by omega), mwi _ _ _ (by omega), mwi _ _ _ (by omega), mw1, if_pos ⟨rfl, rfl⟩]
    · show (mw (mw (mw (mw (mw V (600 + 16 * k.t) 2 (Int32.ofNat (d + 1))) (600 + 16 * k.t) 3 (Int32.ofNat (rn k.c.Mr m))) (600 + 16 * k.t) 4 (Int32.ofNat (caN k.c.Mr m + off k.c.Mr m i))) (600 + 16 * k.t) 8 (Int32.ofNat h')) (600 + 16 * k.t) 7 (Int32.ofNat (22 * d + 12))).1 (600 + 16 * k.t) 4 = _
      rw [mwi _ _ _ (by omega), mwi _ _ _ (by omega), mw1, if_pos ⟨rfl, rfl⟩]
    · show (mw (mw (mw (mw (mw V (600 + 16 * k.t) 2 (Int32.ofNat (d + 1))) (600 + 16 * k.t) 3 (Int32.ofNat (rn k.c.Mr m))) (600 + 16 * k.t) 4 (Int32.ofNat (caN k.c.Mr m + off k.c.Mr m i))) (600 + 16 * k.t) 8 (Int32.ofNat h')) (600 + 16 * k.t) 7 (Int32.ofNat (22 * d + 12))).1 (600 + 16 * k.t) 7 = _
      rw [mw1, if_pos ⟨rfl, rfl⟩]
    · show (mw (mw (mw (mw (mw V (600 + 16 * k.t) 2 (Int32.ofNat (d + 1))) (600 + 16 * k.t) 3 (Int32.ofNat (rn k.c.Mr m))) (600 + 16 * k.t) 4 (Int32.ofNat (caN k.c.Mr m + off k.c.Mr m i))) (600 + 16 * k.t) 8 (Int32.ofNat h')) (600 + 16 * k.t) 7 (Int32.ofNat (22 * d + 12))).1 (600 + 16 * k.t) 8 = _
      rw [mwi _ _ _ (by omega), mw1, if_pos ⟨rfl, rfl⟩]
    · exact s9.congr (fun s _ => by rw [vr _ (by omega)]) (fun s _ => by rw [vr _ (by omega)]) (fun s _ => by rw [mr 115 (by omega) (by omega) (by omega)]) (fun s _ => by rw [mr 116 (by omega) (by omega) (by omega)])
    · show (mw (mw M 109 k.t (Int32.ofNat (d + 1))) 60 89 (Int32.ofNat (20 * k.t + d))).1 110 k.t = 0 ∧ (mw (mw (mw (mw (mw V (600 + 16 * k.t) 2 (Int32.ofNat (d + 1))) (600 + 16 * k.t) 3 (Int32.ofNat (rn k.c.Mr m))) (600 + 16 * k.t) 4 (Int32.ofNat (caN k.c.Mr m + off k.c.Mr m i))) (600 + 16 * k.t) 8 (Int32.ofNat h')) (600 + 16 * k.t) 7 (Int32.ofNat (22 * d + 12))).1 (600 + 16 * k.t) 0 = 0
      rw [mr 110 (by omega) (by omega) (by omega), mwi _ _ _ (by omega), mwi _ _ _ (by omega), mwi _ _ _ (by omega), mwi _ _ _ (by omega), mwi _ _ _ (by omega)]
      exact q11
    · show (mw (mw M 109 k.t (Int32.ofNat (d + 1))) 60 89 (Int32.ofNat (20 * k.t + d))).1 111 k.t = 0 ∧ (mw (mw (mw (mw (mw V (600 + 16 * k.t) 2 (Int32.ofNat (d + 1))) (600 + 16 * k.t) 3 (Int32.ofNat (rn k.c.Mr m))) (600 + 16 * k.t) 4 (Int32.ofNat (caN k.c.Mr m + off k.c.Mr m i))) (600 + 16 * k.t) 8 (Int32.ofNat h')) (600 + 16 * k.t) 7 (Int32.ofNat (22 * d + 12))).1 (600 + 16 * k.t) 1 = 0
      rw [mr 111 (by omega) (by omega) (by omega), mwi _ _ _ (by omega), mwi _ _ _ (by omega), mwi _ _ _ (by omega), mwi _ _ _ (by omega), mwi _ _ _ (by omega)]
      exact q12
  · intro q hq
    have hq' : q < d := hq
    refine (m4 q (by omega)).congr ?_ ?_ ?_ ?_ ?_ ?_ ?_ ?_ ?_ ?_ ?_
    · intro s _; rw [vr _ (by omega)]
    · intro s _; rw [vr _ (by omega)]
    · rw [vr _ (by omega)]
    · rw [vr _ (by omega)]
    · rw [vr _ (by omega)]
    · intro s _; rw [mr _ (by omega) (by omega) (by omega)]
    · intro s _; rw [mr _ (by omega) (by omega) (by omega)]
    · rw [mr _ (by omega) (by omega) (by omega)]
    · rw [mr _ (by omega) (by omega) (by omega)]
    · rw [mr _ (by omega) (by omega) (by omega)]
    · exact m114 _ (by show 20 * k.t + q ≠ _; omega)
  · intro u hu hne
    have hne' : u ≠ k.t := hne
    refine (m5 u hu hne).congr (fun j hj => vr _ (by omega)) ?_ ?_ ?_
    · intro a h1 h2
      by_cases e : a = 109
      · subst e
        rw [mwr _ _ _ (by omega), mwi _ _ _ hne', ag.1 109 (by omega) (by omega)]
      · rw [mr a (by omega) e (by omega)]
    · intro a q h1 h2 h3
      by_cases e : a = 114
      · subst e; exact m114 _ (by omega)
      · rw [mr a (by omega) (by omega) e]
    · intro a s h1 h2 h3
      rw [mr a (by omega) (by omega) (by omega)]
  · exact m6.congr (fun a ha => vr _ (by omega)) (fun a h1 h2 _ _ => mr _ (by omega) (by omega) (by omega)) (fun e he => m60 e (by omega) (by omega) (by omega))
  · exact m7.congr (fun a h1 h2 => vr _ (by omega)) (fun a h1 h2 => mr _ (by omega) (by omega) (by omega))
  · exact m8.congr (fun a h1 h2 => vr _ (by omega)) (fun a h1 h2 => mr _ (by omega) (by omega) (by omega)) (fun e he => m60 e (by omega) (by omega) (by omega))
  · rw [vr 1040 (by omega), m60 61 (by omega) (by omega) (by omega)]; exact m9
  · rw [mw1, if_pos ⟨rfl, rfl⟩]
  · rw [vr 1040 (by omega), vr 1059 (by omega)]
    exact ⟨m11.1, m11.2.1, m11.2.2.1, fun e h1 h2 => by rw [m60 e (by omega) (by omega) (by omega)]; exact m11.2.2.2 e h1 h2⟩
  · exact ag.2.2.2.trans m12
set_option maxRecDepth 20000 in
set_option maxHeartbeats 4000000 in
theorem leave_ok {k : Kx} {T C : Nat → Nat} {n : Nat} {X : XS} {V M : MS} {f x d : Nat} (mf : Mf k T C n X V M f x) (hd : k.d = d + 1) : ∃ m i S X' V' M', f_Strand_leave (C (600 + 16 * k.t)) X = some X' ∧ M' = mw (mw M 109 k.t (Int32.ofNat (d + 1))) 60 89 (Int32.ofNat (20 * k.t + d)) ∧ Mf (k.fr d m i S) T C n X' V' M' f x ∧ V'.1 1040 = V.1 1040 := by
  obtain ⟨⟨M1, g, h, md, ag⟩, f90, thr⟩ := mf
  obtain ⟨m, i, S, h', g2, h2, l2, X', V', e1, e2, e3, _⟩ := leave_md md ag hd
  refine ⟨m, i, S, X', V', _, e1, rfl, ⟨⟨_, _, _, e2, ⟨fun _ _ _ => rfl, fun _ _ => rfl, fun _ _ _ => rfl, rfl⟩⟩, ?_, ?_⟩, e3⟩
  · rw [mwi _ _ _ (by omega), mwr _ _ _ (by omega)]; exact f90
  · intro e
    rw [e3, mwi _ _ _ (by omega), mwr _ _ _ (by omega)]
    exact thr e
set_option maxRecDepth 20000 in
set_option maxHeartbeats 4000000 in
/-- a thread ends by an exception, or returns from its first method -/
theorem Md.dead {k : Kx} {T C : Nat → Nat} {n : Nat} {X X' : XS} {V V' M1 M' : MS} {g : Nat → Int32} {h : Nat} {l : Nat → Int32} (md : Md k T C n X V M1 g h l) (rv' : RV k.c.X0 k.c.T0 X' T C n V') (hv : ∀ a, a ≠ 600 + 16 * k.t → V'.1 a = V.1 a) (hm : ∀ a, a ≠ 60 → a ≠ 109 → a ≠ 110 → a ≠ 111 → a ≠ 114 → M'.1 a = M1.1 a) (h14 : ∀ q, q ≠ 20 * k.t + k.d → M'.1 114 q = M1.1 114 q) (hm1 : ∀ a q, 109 ≤ a → a ≤ 111 → q ≠ k.t → M'.1 a q = M1.1 a q) (h60 : ∀ e, e ≠ 89 → e ≠ 90 → e ≠ 91 → M'.1 60 e = M1.1 60 e) (d2 : M'.2 = M1.2) (e9 : M'.1 109 k.t = 0) (v2 : V'.1 (600 + 16 * k.t) 2 = 0) (e1 : M'.1 111 k.t = V'.1 (600 + 16 * k.t) 1) (e0 : (M'.1 110 k.t = 2 ∧ V'.1 (600 + 16 * k.t) 0 = 1) ∨ (M'.1 110 k.t = 3 ∧ V'.1 (600 + 16 * k.t) 0 = 2)) : Rn k.c k.A k.hp k.nb k.oc k.U k.W k.D T C n X' V' M' := by
  obtain ⟨t1, t2, t3⟩ := md.t6
  obtain ⟨m0, m1, m2, m3, m4, m5, m6, m7, m8, m9, m10, m11, m12⟩ := md
  have d20 := m3.d20
  refine ⟨rv', ?_, ?_, ?_, ?_, ?_, ?_, ?_, d2.trans m12⟩
  · intro a i hr
    rw [← m1 a i hr]
    unfold RunM at hr
    by_cases e : a = 60
    · subst e; exact h60 i (by omega) (by omega) (by omega)
    · rw [hm a e (by omega) (by omega) (by omega) (by omega)]
  · intro u hu
    by_cases e : u = k.t
    · subst e
      exact Or.inr ⟨e9, v2, e1, e0⟩
    · refine (m5 u hu e).congr (fun j hj => hv _ (by omega)) (fun a h1 h2 => hm1 a u h1 h2 e) ?_ ?_
      · intro a q h1 h2 h3
        by_cases z : a = 114
        · subst z; exact h14 _ (by omega)
        · rw [hm a (by omega) (by omega) (by omega) (by omega) z]
      · intro a s h1 h2 h3
        rw [hm a (by omega) (by omega) (by omega) (by omega) (by omega)]
  · exact m6.congr (fun a ha => hv _ (by omega)) (fun a h1 h2 _ _ => hm _ (by omega) (by omega) (by omega) (by omega) (by omega)) (fun e he => h60 e (by omega) (by omega) (by omega))
  · exact m7.congr (fun a h1 h2 => hv _ (by omega)) (fun a h1 h2 => hm _ (by omega) (by omega) (by omega) (by omega) (by omega))
  · exact m8.congr (fun a h1 h2 => hv _ (by omega)) (fun a h1 h2 => hm _ (by omega) (by omega) (by omega) (by omega) (by omega)) (fun e he => h60 e (by omega) (by omega) (by omega))
  · rw [hv 1040 (by omega), h60 61 (by omega) (by omega) (by omega)]; exact m9.2
  · rw [hv 1040 (by omega), hv 1059 (by omega)]
    exact ⟨m11.1, m11.2.1, m11.2.2.1, fun e h1 h2 => by rw [h60 e (by omega) (by omega) (by omega)]; exact m11.2.2.2 e h1 h2⟩
