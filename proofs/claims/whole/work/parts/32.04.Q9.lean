/-! Q9 -/
set_option maxRecDepth 20000 in
set_option maxHeartbeats 4000000 in
theorem place_ok {X0 : XS} {T0 : Nat → Nat} {X : XS} {T C : Nat → Nat} {n : Nat} {V : MS} (r : RV X0 T0 X T C n V) {code len sz tp : Nat} (hc : code < 256) (hl : len ≤ 200) (h4 : 4 ≤ sz) (ha : code = 254 ∨ code = 255 → 5 ≤ sz) (htp : 1 ≤ tp) (hle : tp + sz ≤ 4001) (e7 : V.1 1041 7 = Int32.ofNat tp) (ew : f_Memory_wordsFor (Int32.ofNat code) (Int32.ofNat len) X = Int32.ofNat sz) : ∃ X' V', f_Memory_place (Int32.ofNat code) (Int32.ofNat len) X = some (Int32.ofNat tp, X') ∧ RV X0 T0 X' T C n V' ∧ (∀ a, a ≠ 4 → a ≠ 1041 → V'.1 a = V.1 a) ∧ (∀ f, V'.1 1041 f = if f = 7 then Int32.ofNat (tp + sz) else V.1 1041 f) ∧ ∀ j, V'.1 4 j = if j = tp then Int32.ofNat code else if (code = 254 ∨ code = 255) ∧ j = tp + 4 then Int32.ofNat len else if tp ≤ j ∧ j < tp + sz then 0 else V.1 4 j := by
  have l4 : Lv n 4 := Or.inl (by omega)
  have rf := r.rf (a := 41) (by unfold Fx; omega)
  have x7 : X.1 41 7 = Int32.ofNat tp := by rw [rf]; exact e7
  have n41 : C 4 ≠ 41 := by
    have c41 := r.fx 41 (by unfold Fx; omega)
    rw [← c41]
    exact r.ne l4 (Lv_f (by unfold Fx; omega)) (by omega)
  have hi : X.1 41 7 + f_Memory_wordsFor (Int32.ofNat code) (Int32.ofNat len) X = Int32.ofNat (tp + sz) := by rw [x7, ew, o_add]
  have key : ∀ N q, q ≤ sz → sz - q < N → lp (b38_Memory_place (Int32.ofNat code) (Int32.ofNat len) X) N (Int32.ofNat (tp + q), xf X (C 4) tp (tp + q) 0) = some (Int32.ofNat (tp + sz), xf X (C 4) tp (tp + sz) 0) := by
    intro N
    induction N with
    | zero => intro q h1 h2; omega
    | succ N ih =>
      intro q h1 h2
      by_cases c : q = sz
      · subst c
        refine lp_inr ?_
        unfold b38_Memory_place
        rw [hi, if_pos (Int32.le_refl _)]
      · have st : b38_Memory_place (Int32.ofNat code) (Int32.ofNat len) X (Int32.ofNat (tp + q), xf X (C 4) tp (tp + q) 0) = some (.inl (Int32.ofNat (tp + (q + 1)), xf X (C 4) tp (tp + (q + 1)) 0)) := by
          unfold b38_Memory_place
          have c1 : ¬ Int32.ofNat (tp + sz) ≤ Int32.ofNat (tp + q) := by rw [o_le _ _ (by omega) (by omega)]; omega
          rw [hi, if_neg c1]
          refine (Ez r.m1.1).trans ((Ez r.m1.2).trans ((if_pos (ixl (show tp + q < 4001 by omega) (by omega))).trans ?_))
          dsimp only [lt]
          rw [nar0, o_cl _ (show tp + q < 2147483648 by omega), xf_s _ _ _ _ _ (by omega), o_addR]
          rfl
        rw [lp_inl st]
        exact ih (q + 1) (by omega) (by omega)
  have k0 := key 10000 0 (by omega) (by omega)
  rw [Nat.add_zero, xf_0] at k0
  have w1 := r.fill l4 tp (tp + sz) 0
  have w2 := w1.w l4 tp (Int32.ofNat code)
  have m1 : f_Memory_wordsFor (Int32.ofNat code) (Int32.ofNat len) X = Int32.ofNat sz := ew
  have s4 : ¬ Int32.ofNat sz < 4 := by rw [o_ltR _ _ (by omega) (by decide)]; show ¬ sz < 4; omega
  have le1 : Int32.ofNat (tp + sz) ≤ Int32.ofNat 4001 := by rw [o_le _ _ (by omega) (by omega)]; omega
  have fin : ∀ X3 V3, RV X0 T0 X3 T C n V3 → V3.1 1041 = V.1 1041 → xw X3 41 7 (X3.1 41 7 + Int32.ofNat sz) = xw X3 41 7 (Int32.ofNat (tp + sz)) := by
    intro X3 V3 r3 e
    rw [r3.rf (a := 41) (by unfold Fx; omega)]
    have : V3.1 (1000 + 41) 7 = Int32.ofNat tp := by rw [show 1000 + 41 = 1041 from rfl, e]; exact e7
    rw [this, o_add]
  have p0 : f_Memory_place (Int32.ofNat code) (Int32.ofNat len) X = (if Int32.ofNat code = 254 then ((f_Memory_setWord (Int32.ofNat tp + 4) (Int32.ofNat len) (xw (xf X (C 4) tp (tp + sz) 0) (C 4) tp (Int32.ofNat code))).bind fun x31 => some (Int32.ofNat tp, xw x31 41 7 ((x31.1 41 7) + Int32.ofNat sz))) else (if ¬ Int32.ofNat code = 255 then some (Int32.ofNat tp, xw (xw (xf X (C 4) tp (tp + sz) 0) (C 4) tp (Int32.ofNat code)) 41 7 (((xw (xf X (C 4) tp (tp + sz) 0) (C 4) tp (Int32.ofNat code)).1 41 7) + Int32.ofNat sz)) else ((f_Memory_setWord (Int32.ofNat tp + 4) (Int32.ofNat len) (xw (xf X (C 4) tp (tp + sz) 0) (C 4) tp (Int32.ofNat code))).bind fun x35 => some (Int32.ofNat tp, xw x35 41 7 ((x35.1 41 7) + Int32.ofNat sz))))) := by
    unfold f_Memory_place
    rw [m1, if_neg s4]
    refine (Ez r.m1.1).trans ((Ez r.m1.2).trans ?_)
    rw [x7, o_add, if_pos le1, k0, Option.bind_some]
    refine (Ez r.m1.1).trans ((Ez r.m1.2).trans ((if_pos (ixl (show tp < 4001 by omega) (by omega))).trans ?_))
    dsimp only [lt]
    rw [cw_eq, Nat.mod_eq_of_lt (show code < 65536 by omega), o_cl _ (show tp < 2147483648 by omega)]
  have v4 : ∀ j, (mw (mf V 4 tp (tp + sz) 0) 4 tp (Int32.ofNat code)).1 4 j = if j = tp then Int32.ofNat code else if tp ≤ j ∧ j < tp + sz then 0 else V.1 4 j := fun j => by
    rw [mw1, mf1]; simp
  have vo : ∀ a, a ≠ 4 → (mw (mf V 4 tp (tp + sz) 0) 4 tp (Int32.ofNat code)).1 a = V.1 a := fun a h => by rw [mwr _ _ _ h, mfr _ _ _ _ h]
  by_cases ca : code = 254 ∨ code = 255
  · have h5 := ha ca
    obtain ⟨X3, s1, s2⟩ := setWord_eq w2 (j := tp + 4) (by omega) (by omega) len
    rw [Nat.mod_eq_of_lt (show len < 65536 by omega)] at s2
    have s1' : f_Memory_setWord (Int32.ofNat tp + 4) (Int32.ofNat len) (xw (xf X (C 4) tp (tp + sz) 0) (C 4) tp (Int32.ofNat code)) = some X3 := by rw [o_addR]; exact s1
    have w3 := s2.f (a := 41) (by unfold Fx; omega) 7 (Int32.ofNat (tp + sz))
    have e1041 : (mw (mw (mf V 4 tp (tp + sz) 0) 4 tp (Int32.ofNat code)) 4 (tp + 4) (Int32.ofNat len)).1 1041 = V.1 1041 := by rw [mwr _ _ _ (by omega), vo _ (by omega)]
    refine ⟨_, _, ?_, w3, ?_, ?_, ?_⟩
    · rw [p0]
      rcases ca with e | e <;> subst e
      · rw [if_pos (show Int32.ofNat 254 = 254 from rfl), s1', Option.bind_some, fin X3 _ s2 e1041]
      · rw [if_neg (show ¬ Int32.ofNat 255 = 254 by decide), if_neg (show ¬ ¬ Int32.ofNat 255 = 255 from fun z => z rfl), s1', Option.bind_some, fin X3 _ s2 e1041]
    · intro a h1 h2; rw [mwr _ _ _ h2, mwr _ _ _ h1]; exact vo a h1
    · intro f; rw [mw1, e1041]; simp
    · intro j
      rw [mwr _ _ _ (by omega), mw1, v4]
      simp only [true_and, ca]
      by_cases e1 : j = tp + 4
      · rw [if_pos e1, if_neg (by omega), if_pos e1]
      · rw [if_neg e1, if_neg e1]
  · have w3 := w2.f (a := 41) (by unfold Fx; omega) 7 (Int32.ofNat (tp + sz))
    have n254 : ¬ Int32.ofNat code = 254 := by rw [o_eqR _ _ (by omega) (by decide)]; exact fun z => ca (Or.inl z)
    have n255 : ¬ Int32.ofNat code = 255 := by rw [o_eqR _ _ (by omega) (by decide)]; exact fun z => ca (Or.inr z)
    refine ⟨_, _, ?_, w3, ?_, ?_, ?_⟩
    · rw [p0, if_neg n254, if_pos n255, fin _ _ w2 (vo _ (by omega))]
    · intro a h1 h2; rw [mwr _ _ _ h2]; exact vo a h1
    · intro f; rw [mw1, vo 1041 (by omega)]; simp
    · intro j
      rw [mwr _ _ _ (by omega), v4]
      simp only [ca, false_and, if_false]
/-- the reference's new object -/
def alM (x y x1 : Int32) (M : MS) : Option (Int32 × MS) := ((lp (b48_M_make M) 10000 (1 : Int32)).bind fun x6 => (if ixo x6 1002 then (lt (mw M 121 x6.toNatClampNeg x) fun M8 => (lt (mw M8 122 x6.toNatClampNeg y) fun M9 => (lt (mw M9 123 x6.toNatClampNeg (M9.1 60 86)) fun M10 => (lt (mw M10 124 x6.toNatClampNeg 0) fun M11 => (lt (mw M11 125 x6.toNatClampNeg 0) fun M12 => ((f_M_cellsOf x y M12).bind fun x13 => ((lp (b118_M_make x13) 10000 ((0 : Int32), M12)).bind fun x22 => (lt (mw x22.2 60 86 ((x22.2.1 60 86) + x13)) fun M23 => (lt (mw M23 60 87 ((M23.1 60 87) + x1)) fun M24 => (if ixo (M24.1 60 95) 1002 then (lt (mw M24 129 (M24.1 60 95).toNatClampNeg x6) fun M26 => (lt (mw M26 60 95 ((M26.1 60 95) + 1)) fun M27 => some (x6, M27))) else none)))))))))) else none))
theorem make_eq (x y : Int32) (M : MS) : f_M_make x y M = (f_M_sizeOf x y M).bind fun x1 => (if (M.1 60 87) + x1 ≤ M.1 60 59 then alM x y x1 M else ((f_M_collect M).bind fun x28 => (if (x28.1 60 87) + x1 ≤ x28.1 60 59 then alM x y x1 x28 else (lt (mw x28 60 90 9) fun M55 => some (0, M55))))) := rfl
set_option maxRecDepth 20000 in
set_option maxHeartbeats 4000000 in
theorem free_ex {os : Nat → Nat} {N : Nat} (hN : N ≤ 1000) : ∃ o, 1 ≤ o ∧ o < 1002 ∧ ∀ k, k < N → os k ≠ o := by
  apply Classical.byContradiction
  intro hc
  have all : ∀ o, 1 ≤ o → o < 1002 → ∃ k, k < N ∧ os k = o := by
    intro o h1 h2
    apply Classical.byContradiction
    intro hn
    exact hc ⟨o, h1, h2, fun k hk e => hn ⟨k, hk, e⟩⟩
  have cl : ∀ m, m ≤ 1001 → ∃ f : Nat → Nat, (∀ i, i < m → f i < N) ∧ ∀ i j, i < m → j < m → f i = f j → i = j := by
    intro m hm
    refine ⟨fun i => if h : ∃ k, k < N ∧ os k = i + 1 then h.choose else 0, ?_, ?_⟩
    · intro i hi
      have h := all (i + 1) (by omega) (by omega)
      show (if h : ∃ k, k < N ∧ os k = i + 1 then h.choose else 0) < N
      rw [dif_pos h]
      exact h.choose_spec.1
    · intro i j hi hj e
      have h1 := all (i + 1) (by omega) (by omega)
      have h2 := all (j + 1) (by omega) (by omega)
      have e' : (if h : ∃ k, k < N ∧ os k = i + 1 then h.choose else 0) = (if h : ∃ k, k < N ∧ os k = j + 1 then h.choose else 0) := e
      rw [dif_pos h1, dif_pos h2] at e'
      have a1 := h1.choose_spec.2
      have a2 := h2.choose_spec.2
      rw [e'] at a1
      omega
  have pig : ∀ N m (f : Nat → Nat), N < m → (∀ i, i < m → f i < N) → ∃ i j, i < m ∧ j < m ∧ i ≠ j ∧ f i = f j := by
    intro N
    induction N with
    | zero => intro m f h1 h2; have := h2 0 (by omega); omega
    | succ N ih =>
      intro m f h1 h2
      by_cases c : ∃ i, i < m - 1 ∧ f i = f (m - 1)
      · obtain ⟨i, a, b⟩ := c
        exact ⟨i, m - 1, by omega, by omega, by omega, b⟩
      · -- move the greatest away
        have g := ih (m - 1) (fun i => if f i = N then f (m - 1) else f i) (by omega) (fun i hi => by
          show (if f i = N then f (m - 1) else f i) < N
          have a := h2 i (by omega)
          have b := h2 (m - 1) (by omega)
          have d : f i ≠ f (m - 1) := fun e => c ⟨i, hi, e⟩
          by_cases e : f i = N
          · rw [if_pos e]; omega
          · rw [if_neg e]; omega)
        obtain ⟨i, j, a1, a2, a3, a4⟩ := g
        have a4' : (if f i = N then f (m - 1) else f i) = (if f j = N then f (m - 1) else f j) := a4
        have d1 : f i ≠ f (m - 1) := fun e => c ⟨i, a1, e⟩
        have d2 : f j ≠ f (m - 1) := fun e => c ⟨j, a2, e⟩
        refine ⟨i, j, by omega, by omega, a3, ?_⟩
        by_cases e1 : f i = N
        · by_cases e2 : f j = N
          · rw [e1, e2]
          · rw [if_pos e1, if_neg e2] at a4'
            exact absurd a4'.symm d2
        · by_cases e2 : f j = N
          · rw [if_neg e1, if_pos e2] at a4'
            exact absurd a4' d1
          · rw [if_neg e1, if_neg e2] at a4'
            exact a4'
  obtain ⟨f, f1, f2⟩ := cl 1001 (by omega)
  obtain ⟨i, j, a1, a2, a3, a4⟩ := pig N 1001 f (by omega) f1
  exact a3 (f2 i j a1 a2 a4)
set_option maxRecDepth 20000 in
set_option maxHeartbeats 4000000 in
/-- the first number that no object has -/
theorem first_free {M : MS} {A : HG} {Mr : MS} {kc hp : Nat} {V : MS} (hr : HR Mr kc A hp V M) (hkc : kc ≤ 10) : ∃ o, 1 ≤ o ∧ o < 1002 ∧ (∀ k, k < A.N → A.os k ≠ o) ∧ lp (b48_M_make M) 10000 (1 : Int32) = some (Int32.ofNat o) := by
  obtain ⟨o1, h1, h2, h3⟩ := free_ex (os := A.os) hr.N1000.1
  have neg1 : M.1 121 o1 = -1 := by
    rcases hr.free o1 h1 h2 with ⟨k, hk, e⟩ | e
    · exact absurd e (h3 k hk)
    · exact e
  have key : ∀ N q, 1 ≤ q → q ≤ o1 → o1 - q < N → ∃ o, q ≤ o ∧ o ≤ o1 ∧ M.1 121 o < 0 ∧ lp (b48_M_make M) N (Int32.ofNat q) = some (Int32.ofNat o) := by
    intro N
    induction N with
    | zero => intro q a b c; omega
    | succ N ih =>
      intro q a b c
      have ix : ixo (Int32.ofNat q) 1002 := ixl (by omega) (by omega)
      have cl : (Int32.ofNat q).toNatClampNeg = q := o_cl _ (by omega)
      by_cases d : M.1 121 q < 0
      · refine ⟨q, by omega, b, d, lp_inr ?_⟩
        unfold b48_M_make
        rw [if_pos ix, cl, if_pos d]
      · have st : b48_M_make M (Int32.ofNat q) = some (.inl (Int32.ofNat (q + 1))) := by
          unfold b48_M_make
          rw [if_pos ix, cl, if_neg d, o_addR]
        have ne : q ≠ o1 := fun e => d (by rw [e, neg1]; decide)
        rw [lp_inl st]
        obtain ⟨o, b1, b2, b3⟩ := ih (q + 1) (by omega) (by omega) (by omega)
        exact ⟨o, by omega, b2, b3⟩
  obtain ⟨o, a1, a2, a3, a4⟩ := key 10000 1 (by omega) h1 (by omega)
  refine ⟨o, a1, by omega, fun k hk e => ?_, a4⟩
  have ob := hr.ob k hk
  rw [← e, ob.m121] at a3
  have kb : A.K k < 2147483648 := by
    rcases ob.ok with z | z <;> omega
  rw [o_lt0 _ kb] at a3
  exact a3
