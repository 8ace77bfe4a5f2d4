/-! Q8 -/
set_option maxRecDepth 20000 in
set_option maxHeartbeats 4000000 in
/-- the same frames, with references that lead elsewhere -/
theorem FrR.hp {Mr : MS} {A A' : HG} {V M V' M' : MS} {t k : Nat} {g : Nat → Int32} {h : Nat} {l : Nat → Int32} (f : FrR Mr A V M t k g h l) (h6 : V'.1 (606 + 16 * t) = V.1 (606 + 16 * t)) (m6 : M'.1 116 = M.1 116) (hs : ∀ s, s < 22 → SlR Mr A V M t (22 * k + s) → SlR Mr A' V' M' t (22 * k + s)) : FrR Mr A' V' M' t k g h l := by
  obtain ⟨f1, f2, f3, f4⟩ := f
  refine ⟨f1, ?_, ?_, ?_⟩
  · intro s hs'
    rw [m6]
    exact ⟨hs s (by omega) (f2 s hs').1, (f2 s hs').2⟩
  · intro j hj
    rw [m6]
    refine ⟨?_, (f3 j hj).2⟩
    have := hs (12 + j) (by omega)
    rw [show 22 * k + (12 + j) = 22 * k + 12 + j by omega] at this
    exact this (f3 j hj).1
  · intro j h1 h2
    rw [h6]
    exact f4 j h1 h2
set_option maxRecDepth 20000 in
set_option maxHeartbeats 4000000 in
theorem SuR.hp {Mr : MS} {kc rc : Nat} {A A' : HG} {V M V' M' : MS} {t k : Nat} (f : SuR Mr kc rc A V M t k) (h6 : V'.1 (606 + 16 * t) = V.1 (606 + 16 * t)) (h9 : V'.1 (609 + 16 * t) = V.1 (609 + 16 * t)) (h10 : V'.1 (610 + 16 * t) = V.1 (610 + 16 * t)) (h11 : V'.1 (611 + 16 * t) = V.1 (611 + 16 * t)) (hm : ∀ a, 112 ≤ a → a ≤ 114 → M'.1 a = M.1 a) (m6 : M'.1 116 = M.1 116) (hs : ∀ s, s < 22 → SlR Mr A V M t (22 * k + s) → SlR Mr A' V' M' t (22 * k + s)) : SuR Mr kc rc A' V' M' t k := by
  obtain ⟨m, i, h, S, g', h', l', s1, s2, s3, s4, s5, s6, s7, s8, s9, s10, s11, s12⟩ := f
  refine ⟨m, i, h, S, g', h', l', s1, s2, ?_, ?_, ?_, ?_, ?_, ?_, s9.hp h6 m6 hs, ?_, s11, s12⟩
  · rw [hm 112 (by omega) (by omega)]; exact s3
  · rw [hm 113 (by omega) (by omega)]; exact s4
  · rw [hm 114 (by omega) (by omega)]; exact s5
  · rw [h9]; exact s6
  · rw [h10]; exact s7
  · rw [h11]; exact s8
  · rw [hm 112 (by omega) (by omega)]; exact s10
set_option maxRecDepth 20000 in
set_option maxHeartbeats 4000000 in
theorem TpR.hp {Mr : MS} {A A' : HG} {V M V' M' : MS} {t d m i : Nat} {g : Nat → Int32} {h : Nat} {l : Nat → Int32} (f : TpR Mr A V M t d m i g h l) (h0 : V'.1 (600 + 16 * t) = V.1 (600 + 16 * t)) (h6 : V'.1 (606 + 16 * t) = V.1 (606 + 16 * t)) (hm : ∀ a, 109 ≤ a → a ≤ 114 → M'.1 a = M.1 a) (m6 : M'.1 116 = M.1 116) (hs : ∀ s, s < 22 → SlR Mr A V M t (22 * d + s) → SlR Mr A' V' M' t (22 * d + s)) : TpR Mr A' V' M' t d m i g h l := by
  obtain ⟨q0, q1, q2, q3, q4, q5, q6, q7, q8, q9, q10, q11, q12⟩ := f
  have r := fun a h1 h2 => hm a h1 h2
  refine ⟨q0, ?_, ?_, ?_, ?_, ?_, ?_, ?_, ?_, ?_, q10.hp h6 m6 hs, ?_, ?_⟩
  · rw [r 109 (by omega) (by omega)]; exact q1
  · rw [h0]; exact q2
  · rw [r 112 (by omega) (by omega)]; exact q3
  · rw [r 113 (by omega) (by omega)]; exact q4
  · rw [r 114 (by omega) (by omega)]; exact q5
  · rw [h0]; exact q6
  · rw [h0]; exact q7
  · rw [h0]; exact q8
  · rw [h0]; exact q9
  · rw [r 110 (by omega) (by omega), h0]; exact q11
  · rw [r 111 (by omega) (by omega), h0]; exact q12
set_option maxRecDepth 20000 in
set_option maxHeartbeats 4000000 in
theorem ThR.hp {Mr : MS} {kc rc : Nat} {A A' : HG} {V M V' M' : MS} {t : Nat} (f : ThR Mr kc rc A V M t) (hv : ∀ j, j < 16 → j ≠ 5 → V'.1 (600 + j + 16 * t) = V.1 (600 + j + 16 * t)) (hm : ∀ a, 109 ≤ a → a ≤ 114 → M'.1 a = M.1 a) (m6 : M'.1 116 = M.1 116) (hs : ∀ d, V.1 (600 + 16 * t) 2 = Int32.ofNat (d + 1) → d < 20 → ∀ s, s < 22 * (d + 1) → SlR Mr A V M t s → SlR Mr A' V' M' t s) : ThR Mr kc rc A' V' M' t := by
  have v0 : V'.1 (600 + 16 * t) = V.1 (600 + 16 * t) := hv 0 (by omega) (by omega)
  have v6 : V'.1 (606 + 16 * t) = V.1 (606 + 16 * t) := hv 6 (by omega) (by omega)
  have v9 : V'.1 (609 + 16 * t) = V.1 (609 + 16 * t) := hv 9 (by omega) (by omega)
  have v10 : V'.1 (610 + 16 * t) = V.1 (610 + 16 * t) := hv 10 (by omega) (by omega)
  have v11 : V'.1 (611 + 16 * t) = V.1 (611 + 16 * t) := hv 11 (by omega) (by omega)
  rcases f with ⟨d, m, i, S, a1, a2, a3, a4⟩ | ⟨d1, d2, d3, d4⟩
  · have hs' := hs d a3.v2 a3.d20
    exact Or.inl ⟨d, m, i, S, a1, a2, a3.hp v0 v6 hm m6 (fun s h => hs' _ (by omega)), fun q hq => (a4 q hq).hp v6 v9 v10 v11 (fun a h1 h2 => hm a (by omega) h2) m6 (fun s h => hs' _ (by omega))⟩
  · refine Or.inr ⟨?_, ?_, ?_, ?_⟩
    · rw [hm 109 (by omega) (by omega)]; exact d1
    · rw [v0]; exact d2
    · rw [hm 111 (by omega) (by omega), v0]; exact d3
    · rw [hm 110 (by omega) (by omega), v0]; exact d4
/-- what of the reference's rows objects and their collection may change -/
def Hm (a f : Nat) : Prop := (121 ≤ a ∧ a ≤ 129) ∨ (a = 60 ∧ ((86 ≤ f ∧ f ≤ 88) ∨ f = 90 ∨ f = 91 ∨ f = 93 ∨ f = 95))
set_option maxRecDepth 20000 in
set_option maxHeartbeats 4000000 in
theorem Md.hp {k : Kx} {A' : HG} {T C : Nat → Nat} {n : Nat} {X X' : XS} {V M V' M' : MS} {g : Nat → Int32} {h : Nat} {l : Nat → Int32} (md : Md k T C n X V M g h l) (rv' : RV k.c.X0 k.c.T0 X' T C n V') (hv : ∀ a, a ≠ 4 → a ≠ 5 → a ≠ 1041 → a ≠ 1057 → (∀ u, u < 6 → a ≠ 605 + 16 * u) → V'.1 a = V.1 a) (hm : ∀ a f, ¬ Hm a f → M'.1 a f = M.1 a f) (d2 : M'.2 = M.2) (hs : ∀ u, u < k.nb → ∀ d, V.1 (600 + 16 * u) 2 = Int32.ofNat (d + 1) → d < 20 → ∀ s, s < 22 * (d + 1) → SlR k.c.Mr k.A V M u s → SlR k.c.Mr A' V' M' u s) (hr' : HR k.c.Mr k.c.kc A' k.hp V' M') (sr' : StR k.c.Mr A' V' M') : Md (k.ch A' k.nb k.oc k.W) T C n X' V' M' g h l := by
  obtain ⟨t1, t2, t3⟩ := md.t6
  obtain ⟨m0, m1, m2, m3, m4, m5, m6, m7, m8, m9, m10, m11, m12⟩ := md
  have hnb := m9.2.1
  have row : ∀ a, a ≤ 120 → a ≠ 60 → M'.1 a = M.1 a := fun a h1 h2 => by
    funext f
    exact hm a f (by unfold Hm; omega)
  have row6 : M'.1 116 = M.1 116 := row 116 (by omega) (by omega)
  have r60 : ∀ f, ¬ (86 ≤ f ∧ f ≤ 88) → f ≠ 90 → f ≠ 91 → f ≠ 93 → f ≠ 95 → M'.1 60 f = M.1 60 f := fun f h1 h2 h3 h4 h5 => hm 60 f (by unfold Hm; omega)
  have vS : ∀ u j, u < 6 → j < 16 → j ≠ 5 → V'.1 (600 + j + 16 * u) = V.1 (600 + j + 16 * u) := fun u j hu hj h5 => hv _ (by omega) (by omega) (by omega) (by omega) (fun w hw => by omega)
  have vO : ∀ a, 700 ≤ a → a ≠ 1041 → a ≠ 1057 → V'.1 a = V.1 a := fun a h1 h2 h3 => hv a (by omega) (by omega) h2 h3 (fun w hw => by omega)
  refine ⟨rv', ?_, m2, ?_, ?_, ?_, hr', sr', ?_, ?_, ?_, ?_, d2.trans m12⟩
  · intro a i hr
    rw [← m1 a i hr]
    exact hm a i (by unfold Hm; unfold RunM at hr; omega)
  · exact m3.hp (vS k.t 0 t2 (by omega) (by omega)) (vS k.t 6 t2 (by omega) (by omega)) (fun a h1 h2 => row a (by omega) (by omega)) row6 (fun s h => hs k.t m9.1 k.d m3.v2 m3.d20 _ (by omega))
  · intro q hq
    have hq' : q < k.d := hq
    exact (m4 q hq).hp (vS k.t 6 t2 (by omega) (by omega)) (vS k.t 9 t2 (by omega) (by omega)) (vS k.t 10 t2 (by omega) (by omega)) (vS k.t 11 t2 (by omega) (by omega)) (fun a h1 h2 => row a (by omega) (by omega)) row6 (fun s h => hs k.t m9.1 k.d m3.v2 m3.d20 _ (by omega))
  · intro u hu hne
    have hu' : u < k.nb := hu
    exact (m5 u hu hne).hp (fun j hj h5 => vS u j (by omega) hj h5) (fun a h1 h2 => row a (by omega) (by omega)) row6 (hs u hu)
  · exact m8.congr (fun a h1 h2 => vO a (by omega) (by omega) (by omega)) (fun a h1 h2 => row a (by omega) (by omega)) (fun f hf => r60 f (by omega) (by omega) (by omega) (by omega) (by omega))
  · refine ⟨m9.1, m9.2.1, ?_, ?_⟩
    · rw [vO 1040 (by omega) (by omega) (by omega)]; exact m9.2.2.1
    · rw [r60 61 (by omega) (by omega) (by omega) (by omega) (by omega)]; exact m9.2.2.2
  · rw [r60 89 (by omega) (by omega) (by omega) (by omega) (by omega)]; exact m10
  · rw [vO 1040 (by omega) (by omega) (by omega), vO 1059 (by omega) (by omega) (by omega)]
    exact ⟨m11.1, m11.2.1, m11.2.2.1, fun f h1 h2 => by rw [r60 f (by omega) (by omega) (by omega) (by omega) (by omega)]; exact m11.2.2.2 f h1 h2⟩
/-- one more object at the end -/
def HG.add (A : HG) (o K n : Nat) : HG := ⟨A.N + 1, fun j => if j = A.N then o else A.os j, fun j => if j = A.N then K else A.K j, fun j => if j = A.N then n else A.n j⟩
set_option maxRecDepth 20000 in
set_option maxHeartbeats 4000000 in
theorem add_ad (Mr : MS) (A : HG) (o K n : Nat) : ∀ j, j ≤ A.N → adH Mr (A.add o K n) j = adH Mr A j ∧ caH Mr (A.add o K n) j = caH Mr A j := by
  intro j
  induction j with
  | zero => intro _; exact ⟨rfl, rfl⟩
  | succ j ih =>
    intro h
    obtain ⟨a, b⟩ := ih (by omega)
    have e1 : (A.add o K n).K j = A.K j := if_neg (by omega)
    have e2 : (A.add o K n).n j = A.n j := if_neg (by omega)
    show adH Mr (A.add o K n) j + wzK Mr ((A.add o K n).K j) ((A.add o K n).n j) = _ ∧ caH Mr (A.add o K n) j + czK Mr ((A.add o K n).K j) ((A.add o K n).n j) = _
    rw [e1, e2, a, b]
    exact ⟨rfl, rfl⟩
set_option maxRecDepth 20000 in
set_option maxHeartbeats 4000000 in
theorem RefR.add {Mr : MS} {A : HG} {x v : Int32} (r : RefR Mr A x v) (o K n : Nat) : RefR Mr (A.add o K n) x v := by
  rcases r with z | ⟨q, hq, a, b⟩
  · exact Or.inl z
  · refine Or.inr ⟨q, by show q < A.N + 1; omega, ?_, ?_⟩
    · rw [(add_ad Mr A o K n q (by omega)).1]; exact a
    · have : (A.add o K n).os q = A.os q := if_neg (by omega)
      rw [this]; exact b
set_option maxRecDepth 20000 in
set_option maxHeartbeats 4000000 in
theorem SlR.add {Mr : MS} {A : HG} {V M V' M' : MS} {t s : Nat} (h : SlR Mr A V M t s) (o K n : Nat) (h5 : V'.1 (605 + 16 * t) = V.1 (605 + 16 * t)) (h6 : V'.1 (606 + 16 * t) = V.1 (606 + 16 * t)) (m5 : M'.1 115 = M.1 115) (m6 : M'.1 116 = M.1 116) : SlR Mr (A.add o K n) V' M' t s := by
  unfold SlR
  rw [h5, h6, m5, m6]
  rcases h with z | ⟨a, b, c⟩
  · exact Or.inl z
  · exact Or.inr ⟨a, b, c.add o K n⟩
