/-! N6 -/
/-- a stable state of a run -/
def Rn (c : Cx) (A : HG) (hp nb oc : Nat) (U W : Nat → Int32) (D : Int64) (T C : Nat → Nat) (n : Nat) (X : XS) (V M : MS) : Prop := (RV c.X0 c.T0 X T C n V) ∧ (∀ a i, ¬ RunM a i → M.1 a i = c.M0.1 a i) ∧ (∀ u, u < nb → ThR c.Mr c.kc c.rc A V M u) ∧ (HR c.Mr c.kc A hp V M) ∧ (StR c.Mr A V M) ∧ (PoR oc V M) ∧ (nb ≤ n ∧ V.1 1040 2 = Int32.ofNat nb ∧ M.1 60 61 = Int32.ofNat nb) ∧ (V.1 1059 = U ∧ V.1 1040 0 = 1 ∧ V.1 1040 1 = W 1 ∧ ∀ f, 62 ≤ f → f ≤ 64 → M.1 60 f = W f) ∧ (M.2 = D)
theorem Rn.rv {c : Cx} {A : HG} {hp nb oc : Nat} {U W : Nat → Int32} {D : Int64} {T C : Nat → Nat} {n : Nat} {X : XS} {V M : MS} (h0 : Rn c A hp nb oc U W D T C n X V M) : RV c.X0 c.T0 X T C n V := h0.1
theorem Rn.mf {c : Cx} {A : HG} {hp nb oc : Nat} {U W : Nat → Int32} {D : Int64} {T C : Nat → Nat} {n : Nat} {X : XS} {V M : MS} (h0 : Rn c A hp nb oc U W D T C n X V M) : ∀ a i, ¬ RunM a i → M.1 a i = c.M0.1 a i := h0.2.1
theorem Rn.th {c : Cx} {A : HG} {hp nb oc : Nat} {U W : Nat → Int32} {D : Int64} {T C : Nat → Nat} {n : Nat} {X : XS} {V M : MS} (h0 : Rn c A hp nb oc U W D T C n X V M) : ∀ u, u < nb → ThR c.Mr c.kc c.rc A V M u := h0.2.2.1
theorem Rn.hr {c : Cx} {A : HG} {hp nb oc : Nat} {U W : Nat → Int32} {D : Int64} {T C : Nat → Nat} {n : Nat} {X : XS} {V M : MS} (h0 : Rn c A hp nb oc U W D T C n X V M) : HR c.Mr c.kc A hp V M := h0.2.2.2.1
theorem Rn.sr {c : Cx} {A : HG} {hp nb oc : Nat} {U W : Nat → Int32} {D : Int64} {T C : Nat → Nat} {n : Nat} {X : XS} {V M : MS} (h0 : Rn c A hp nb oc U W D T C n X V M) : StR c.Mr A V M := h0.2.2.2.2.1
theorem Rn.pr {c : Cx} {A : HG} {hp nb oc : Nat} {U W : Nat → Int32} {D : Int64} {T C : Nat → Nat} {n : Nat} {X : XS} {V M : MS} (h0 : Rn c A hp nb oc U W D T C n X V M) : PoR oc V M := h0.2.2.2.2.2.1
theorem Rn.nb1 {c : Cx} {A : HG} {hp nb oc : Nat} {U W : Nat → Int32} {D : Int64} {T C : Nat → Nat} {n : Nat} {X : XS} {V M : MS} (h0 : Rn c A hp nb oc U W D T C n X V M) : nb ≤ n ∧ V.1 1040 2 = Int32.ofNat nb ∧ M.1 60 61 = Int32.ofNat nb := h0.2.2.2.2.2.2.1
theorem Rn.tu {c : Cx} {A : HG} {hp nb oc : Nat} {U W : Nat → Int32} {D : Int64} {T C : Nat → Nat} {n : Nat} {X : XS} {V M : MS} (h0 : Rn c A hp nb oc U W D T C n X V M) : V.1 1059 = U ∧ V.1 1040 0 = 1 ∧ V.1 1040 1 = W 1 ∧ ∀ f, 62 ≤ f → f ≤ 64 → M.1 60 f = W f := h0.2.2.2.2.2.2.2.1
theorem Rn.dn {c : Cx} {A : HG} {hp nb oc : Nat} {U W : Nat → Int32} {D : Int64} {T C : Nat → Nat} {n : Nat} {X : XS} {V M : MS} (h0 : Rn c A hp nb oc U W D T C n X V M) : M.2 = D := h0.2.2.2.2.2.2.2.2
theorem FrR.mono {Mr : MS} {A : HG} {V M : MS} {t k : Nat} {g g' : Nat → Int32} {h : Nat} {l l' : Nat → Int32} (f : FrR Mr A V M t k g h l) (hg : ∀ j, j < h → g' j = g j) (hl : ∀ s, s < 12 → leK (l' s) (l s)) : FrR Mr A V M t k g' h l' := by
  obtain ⟨f1, f2, f3, f4⟩ := f
  exact ⟨f1, fun s hs => ⟨(f2 s hs).1, leK.trans (hl s hs) (f2 s hs).2⟩, fun j hj => ⟨(f3 j hj).1, by rw [hg j hj]; exact (f3 j hj).2⟩, f4⟩
set_option maxRecDepth 20000 in
set_option maxHeartbeats 4000000 in
/-- the instruction is done, the next is j -/
theorem Md.next {k : Kx} {T C : Nat → Nat} {n : Nat} {X : XS} {V M : MS} {g : Nat → Int32} {h : Nat} {l : Nat → Int32} (md : Md k T C n X V M g h l) {j : Nat} (cv : Cov k.S j g h l) : Rn k.c k.A k.hp k.nb k.oc k.U k.W k.D T C n (xw X (C (600 + 16 * k.t)) 4 (Int32.ofNat (caN k.c.Mr k.m + off k.c.Mr k.m j))) (mw V (600 + 16 * k.t) 4 (Int32.ofNat (caN k.c.Mr k.m + off k.c.Mr k.m j))) (mw M 113 (20 * k.t + k.d) (Int32.ofNat j)) := by
  obtain ⟨t1, t2, t3⟩ := md.t6
  obtain ⟨m0, m1, m2, m3, m4, m5, m6, m7, m8, m9, m10, m11, m12⟩ := md
  obtain ⟨q0, q1, q2, q3, q4, q5, q6, q7, q8, q9, q10, q11, q12⟩ := m3
  obtain ⟨c1, c2, c3, c4⟩ := cv
  have l0 : Lv n (600 + 16 * k.t) := Lv_s (f := 0) t1 (by omega)
  refine ⟨m0.w l0 _ _, ?_, ?_, ?_, ?_, ?_, ?_, ?_, m12⟩
  · intro a i hr
    rw [← m1 a i hr, mwr _ _ _ (by unfold RunM at hr; omega)]
  · intro u hu
    by_cases e : u = k.t
    · subst e
      refine Or.inl ⟨k.d, k.m, j, k.S, m2.1, c1, ⟨q0, ?_, ?_, ?_, ?_, ?_, ?_, ?_, ?_, ?_, ?_, ?_, ?_⟩, ?_⟩
      · rw [mwr _ _ _ (by omega)]; exact q1
      · rw [mwi _ _ _ (by omega)]; exact q2
      · rw [mwr _ _ _ (by omega)]; exact q3
      · rw [mw1, if_pos ⟨rfl, rfl⟩]
      · rw [mwr _ _ _ (by omega), c2]; exact q5
      · rw [mwi _ _ _ (by omega)]; exact q6
      · rw [mw1, if_pos ⟨rfl, rfl⟩]
      · rw [mwi _ _ _ (by omega)]; exact q8
      · rw [mwi _ _ _ (by omega), c2]; exact q9
      · rw [c2]
        refine FrR.mono (FrR.congr q10 ?_ ?_ ?_ ?_) c3 c4
        · intro s _; rw [mwr _ _ _ (by omega)]
        · intro s _; rw [mwr _ _ _ (by omega)]
        · intro s _; rw [mwr _ _ _ (by omega)]
        · intro s _; rw [mwr _ _ _ (by omega)]
      · rw [mwr _ _ _ (by omega), mwi _ _ _ (by omega)]; exact q11
      · rw [mwr _ _ _ (by omega), mwi _ _ _ (by omega)]; exact q12
      · intro q hq
        refine (m4 q hq).congr ?_ ?_ ?_ ?_ ?_ ?_ ?_ ?_ ?_ ?_ ?_
        · intro s _; rw [mwr _ _ _ (by omega)]
        · intro s _; rw [mwr _ _ _ (by omega)]
        · rw [mwr _ _ _ (by omega)]
        · rw [mwr _ _ _ (by omega)]
        · rw [mwr _ _ _ (by omega)]
        · intro s _; rw [mwr _ _ _ (by omega)]
        · intro s _; rw [mwr _ _ _ (by omega)]
        · rw [mwr _ _ _ (by omega)]
        · rw [mwr _ _ _ (by omega)]
        · rw [mwi _ _ _ (by omega)]
        · rw [mwr _ _ _ (by omega)]
    · refine (m5 u hu e).congr (fun j hj => mwr _ _ _ (by omega)) (fun a h1 h2 => by rw [mwr _ _ _ (by omega)]) ?_ (fun a s h1 h2 h3 => by rw [mwr _ _ _ (by omega)])
      intro a q h1 h2 h3
      by_cases e2 : a = 113
      · subst e2; rw [mwi _ _ _ (by omega)]
      · rw [mwr _ _ _ e2]
  · exact m6.congr (fun a ha => mwr _ _ _ (by omega)) (fun a h1 h2 _ _ => mwr _ _ _ (by omega)) (fun f hf => by rw [mwr _ _ _ (by omega)])
  · exact m7.congr (fun a h1 h2 => mwr _ _ _ (by omega)) (fun a h1 h2 => mwr _ _ _ (by omega))
  · exact m8.congr (fun a h1 h2 => mwr _ _ _ (by omega)) (fun a h1 h2 => mwr _ _ _ (by omega)) (fun f hf => by rw [mwr _ _ _ (by omega)])
  · rw [mwr _ _ _ (by omega), mwr _ _ _ (by omega)]; exact m9.2
  · rw [mwr _ _ _ (by omega), mwr _ _ _ (by omega), mwr _ _ _ (by omega)]; exact m11
set_option maxRecDepth 20000 in
set_option maxHeartbeats 4000000 in
/-- an instruction begins -/
theorem Rn.enter {c : Cx} {A : HG} {hp nb oc : Nat} {U W : Nat → Int32} {D : Int64} {T C : Nat → Nat} {n : Nat} {X : XS} {V M : MS} (r : Rn c A hp nb oc U W D T C n X V M) {t d m i : Nat} {S : FS} (ht : t < nb) (mt : MT c.Mr c.kc c.rc m S) (hs : S.1 i = true) (tp : TpR c.Mr A V M t d m i (S.2.2.2.1 i) (S.2.2.1 i) (S.2.2.2.2.1 i)) (lo : ∀ k, k < d → SuR c.Mr c.kc c.rc A V M t k) : Jm ⟨c, A, hp, nb, oc, t, d, m, i, S, U, upd W 1 0, D⟩ T C n (xw X 40 1 0) (mw (mw M 60 89 (Int32.ofNat (20 * t + d))) 60 90 0) (S.2.2.2.1 i) (S.2.2.1 i) (S.2.2.2.2.1 i) := by
  obtain ⟨r0, r1, r2, r3, r4, r5, r6, r7, r8⟩ := r
  have n6 := r0.no.1
  have hn : t < n := by omega
  have rv' := r0.f (a := 40) (by unfold Fx; omega) 1 0
  have vr : ∀ a, a ≠ 1040 → (mw V (1000 + 40) 1 0).1 a = V.1 a := fun a ha => mwr _ _ _ (by omega)
  have mr : ∀ a, a ≠ 60 → (mw (mw M 60 89 (Int32.ofNat (20 * t + d))) 60 90 0).1 a = M.1 a := fun a ha => by rw [mwr _ _ _ ha, mwr _ _ _ ha]
  have m60 : ∀ f, f ≠ 89 → f ≠ 90 → (mw (mw M 60 89 (Int32.ofNat (20 * t + d))) 60 90 0).1 60 f = M.1 60 f := fun f h1 h2 => by rw [mwi _ _ _ h2, mwi _ _ _ h1]
  refine ⟨mw V (1000 + 40) 1 0, rv', ?_, ⟨mt, hs⟩, ?_, ?_, ?_, ?_, ?_, ?_, ?_, ?_, ?_, r8⟩
  · intro a q hr
    rw [← r1 a q hr]
    by_cases e : a = 60
    · subst e; exact m60 q (by unfold RunM at hr; omega) (by unfold RunM at hr; omega)
    · rw [mr a e]
  · obtain ⟨q0, q1, q2, q3, q4, q5, q6, q7, q8, q9, q10, q11, q12⟩ := tp
    have v0 := vr (600 + 16 * t) (by omega)
    have v5 := vr (605 + 16 * t) (by omega)
    have v6 := vr (606 + 16 * t) (by omega)
    refine ⟨q0, ?_, ?_, ?_, ?_, ?_, ?_, ?_, ?_, ?_, q10.congr (fun s _ => by rw [v5]) (fun s _ => by rw [v6]) (fun s _ => by rw [mr 115 (by omega)]) (fun s _ => by rw [mr 116 (by omega)]), ?_, ?_⟩
    · rw [mr 109 (by omega)]; exact q1
    · rw [v0]; exact q2
    · rw [mr 112 (by omega)]; exact q3
    · rw [mr 113 (by omega)]; exact q4
    · rw [mr 114 (by omega)]; exact q5
    · rw [v0]; exact q6
    · rw [v0]; exact q7
    · rw [v0]; exact q8
    · rw [v0]; exact q9
    · rw [mr 110 (by omega), v0]; exact q11
    · rw [mr 111 (by omega), v0]; exact q12
  · intro q hq
    have hd := tp.d20
    refine (lo q hq).congr ?_ ?_ ?_ ?_ ?_ ?_ ?_ ?_ ?_ ?_ ?_
    · intro s _; rw [vr _ (by omega)]
    · intro s _; rw [vr _ (by omega)]
    · rw [vr _ (by omega)]
    · rw [vr _ (by omega)]
    · rw [vr _ (by omega)]
    · intro s _; rw [mr _ (by omega)]
    · intro s _; rw [mr _ (by omega)]
    · rw [mr _ (by omega)]
    · rw [mr _ (by omega)]
    · rw [mr _ (by omega)]
    · rw [mr _ (by omega)]
  · intro u hu _
    exact (r2 u hu).congr (fun j hj => vr _ (by have := r6.1; have hu2 : u < nb := hu; omega)) (fun a h1 h2 => by rw [mr _ (by omega)]) (fun a q h1 h2 h3 => by rw [mr _ (by omega)]) (fun a s h1 h2 h3 => by rw [mr _ (by omega)])
  · exact r3.congr (fun a ha => vr _ (by omega)) (fun a h1 h2 _ _ => mr _ (by omega)) (fun f hf => m60 f (by omega) (by omega))
  · exact r4.congr (fun a h1 h2 => vr _ (by omega)) (fun a h1 h2 => mr _ (by omega))
  · exact r5.congr (fun a h1 h2 => vr _ (by omega)) (fun a h1 h2 => mr _ (by omega)) (fun f hf => m60 f (by omega) (by omega))
  · refine ⟨ht, r6.1, ?_, ?_⟩
    · rw [mwi _ _ _ (by omega)]; exact r6.2.1
    · rw [m60 61 (by omega) (by omega)]; exact r6.2.2
  · rw [mwi _ _ _ (by omega), mw1, if_pos ⟨rfl, rfl⟩]
  · refine ⟨?_, ?_, ?_, ?_⟩
    · rw [vr _ (by omega)]; exact r7.1
    · rw [mwi _ _ _ (by omega)]; exact r7.2.1
    · rw [mw1, if_pos ⟨rfl, rfl⟩]
      have eu : upd W 1 0 1 = 0 := if_pos rfl
      exact eu.symm
    · intro f h1 h2
      rw [m60 f (by omega) (by omega)]
      have eu : upd W 1 0 f = W f := if_neg (by omega)
      show M.1 60 f = upd W 1 0 f
      rw [eu]
      exact r7.2.2.2 f h1 h2
set_option maxRecDepth 20000 in
set_option maxHeartbeats 4000000 in
/-- what is known of an instruction -/
theorem ins_facts {Mr : MS} {kc rc main m i : Nat} {S : FS} (g : GP Mr kc rc main) (mt : MT Mr kc rc m S) (hs : S.1 i = true) : m < rc ∧ i < sz Mr m ∧ sz Mr m ≤ 60 ∧ opN Mr m i < 56 ∧ Mr.1 71 (60 * m + i) = Int32.ofNat (opN Mr m i) ∧ fm Mr 88 (60 * m + i) ∧ TyAt Mr kc rc m (sz Mr m) (tcN Mr m) (frM Mr m) (ttM Mr m) (hdM Mr m) S i ∧ (∀ u, S.1 u = true → u < sz Mr m) := by
  obtain ⟨m24, mr, ⟨s, tc, tk, h1, h2, h3, h4, h5, h6⟩, h7, h8, h9⟩ := mt
  have hm := g.2.2.1.2.2.1 m m24 mr
  have es : sz Mr m = s := by unfold sz; rw [h2, o_cl s (by omega)]
  have et : tcN Mr m = tc := by unfold tcN; rw [h4, o_cl tc (by omega)]
  obtain ⟨f1, f2, f3, f4, f5, f6, f7⟩ := h6
  obtain ⟨i1, i2⟩ := f2 i hs
  obtain ⟨⟨X, T, hr⟩, _⟩ := g
  obtain ⟨o1, o2⟩ := opB hr hm h2 h1 i1
  rw [es, et]
  exact ⟨hm, i1, h1, o1, o2, (h7 i (by omega)).mpr hs, i2 (f3 i hs), fun u hu => (f2 u hu).1⟩
set_option maxRecDepth 20000 in
set_option maxHeartbeats 4000000 in
theorem ins_at {Mr : MS} {kc rc main m i : Nat} {S : FS} {X : XS} {T : Nat → Nat} (h : IM Mr rc main X T) (g : GP Mr kc rc main) (mt : MT Mr kc rc m S) (hs : S.1 i = true) {j : Nat} (hj : j < ln (opN Mr m i) (odI Mr m i)) : f_Image_at_51 (Int32.ofNat (caN Mr m + off Mr m i + j)) X = some ((opL Mr m (opN Mr m i) (odI Mr m i)).getD j 0 &&& 255) := by
  obtain ⟨f0, f1, f2, f3, f4, f5, f6, f7⟩ := ins_facts g mt hs
  have := code_at h g mt.1 mt.2.1 f1 (j := j) (by unfold lnF; rw [if_neg f5]; exact hj)
  rw [this]
  unfold insL
  rw [if_neg f5]
set_option maxRecDepth 20000 in
set_option maxHeartbeats 4000000 in
theorem off_next {Mr : MS} {kc rc main m i : Nat} {S : FS} (g : GP Mr kc rc main) (mt : MT Mr kc rc m S) (hs : S.1 i = true) : off Mr m (i + 1) = off Mr m i + ln (opN Mr m i) (odI Mr m i) := by
  obtain ⟨f0, f1, f2, f3, f4, f5, f6, f7⟩ := ins_facts g mt hs
  show off Mr m i + lnF Mr m i = _
  unfold lnF
  rw [if_neg f5]
set_option maxRecDepth 20000 in
set_option maxHeartbeats 4000000 in
/-- the first byte of an instruction -/
theorem op_at {Mr : MS} {kc rc main m i : Nat} {S : FS} {X : XS} {T : Nat → Nat} (h : IM Mr rc main X T) (g : GP Mr kc rc main) (mt : MT Mr kc rc m S) (hs : S.1 i = true) : f_Image_at_51 (Int32.ofNat (caN Mr m + off Mr m i)) X = some (if opN Mr m i = 1 ∧ ¬ (-128 ≤ odI Mr m i ∧ odI Mr m i ≤ 127) then 61 else Int32.ofNat (opN Mr m i)) := by
  obtain ⟨f0, f1, f2, f3, f4, f5, f6, f7⟩ := ins_facts g mt hs
  have := ins_at h g mt hs (j := 0) (by have := ln_le (opN Mr m i) (odI Mr m i); omega)
  rw [Nat.add_zero] at this
  rw [this]
  generalize opN Mr m i = op at *
  generalize odI Mr m i = od at *
  unfold opL
  by_cases e1 : op = 1
  · subst e1
    by_cases c : -128 ≤ od ∧ od ≤ 127
    · rw [if_pos rfl, if_pos c, if_neg (fun q => q.2 c)]; exact congrArg some (by show (1 : Int32) &&& 255 = 1; decide)
    · rw [if_pos rfl, if_neg c, if_pos ⟨rfl, c⟩]; exact congrArg some (by show (61 : Int32) &&& 255 = 61; decide)
  · have er : (if op = 1 ∧ ¬ (-128 ≤ od ∧ od ≤ 127) then 61 else Int32.ofNat op) = Int32.ofNat op := if_neg (fun q => e1 q.1)
    rw [er, if_neg e1]
    have key : ∀ r : List Int32, (Int32.ofNat op :: r).getD 0 0 &&& 255 = Int32.ofNat op := fun r => and255 (by omega)
    repeat' split
    all_goals exact congrArg some (key _)
