/-! T4 -/
theorem ad_one (Mr : MS) (A : HG) (k : Nat) : 1 ≤ adH Mr A k := by
  have := naH_le Mr A (fun _ => false) k
  omega
set_option maxRecDepth 20000 in
set_option maxHeartbeats 4000000 in
/-- a reference leads to the same object on both sides -/
theorem RefR.to {Mr : MS} {kc hp : Nat} {A : HG} {V M : MS} (hr : HR Mr kc A hp V M) {x v : Int32} (r : RefR Mr A x v) {k : Nat} (hk : k < A.N) : x = Int32.ofNat (adH Mr A k) ↔ v = Int32.ofNat (A.os k) := by
  obtain ⟨b1, b2, b3, b4⟩ := hr.N1000
  have l1 := adH_mono Mr A A.N hk
  have w1 := wz4 Mr (A.K k) (A.n k)
  have a1 := ad_one Mr A k
  have o1 := (hr.ob k hk).os
  rcases r with ⟨e1, e2⟩ | ⟨q, hq, e1, e2⟩
  · subst e1; subst e2
    constructor
    · intro z
      have : Int32.ofNat 0 = Int32.ofNat (adH Mr A k) := z
      rw [o_eq _ _ (by omega) (by omega)] at this
      omega
    · intro z
      have : Int32.ofNat 0 = Int32.ofNat (A.os k) := z
      rw [o_eq _ _ (by omega) (by omega)] at this
      omega
  · have l2 := adH_mono Mr A A.N hq
    have w2 := wz4 Mr (A.K q) (A.n q)
    have o2 := (hr.ob q hq).os
    rw [e1, e2, o_eq _ _ (by omega) (by omega), o_eq _ _ (by omega) (by omega)]
    constructor
    · intro z; rw [ad_inj (j := q) (k := k) (Mr := Mr) (A := A) (by omega)]
    · intro z; rw [hr.inj q k hq hk z]
set_option maxRecDepth 20000 in
set_option maxHeartbeats 4000000 in
/-- the class collects -/
theorem collC {Mr : MS} {kc hp : Nat} {A : HG} {V M : MS} (hr : HR Mr kc A hp V M) (hkc : kc ≤ 10) {X0 : XS} {T0 : Nat → Nat} {X : XS} {T C : Nat → Nat} {n nb : Nat} (r : RV X0 T0 X T C n V) (hn : nb ≤ n) (e40 : V.1 1040 2 = Int32.ofNat nb) (h58 : ∀ s, s < 8 → V.1 1058 s = 1) (hx7 : ∀ s, s < 8 → Rx Mr A (V.1 1057 s)) (hd : ∀ t, t < nb → dep V t ≤ 20 ∧ V.1 (600 + 16 * t) 2 = Int32.ofNat (dep V t)) (hx : ∀ t, t < nb → ∀ s, s < 22 * dep V t → ¬ V.1 (606 + 16 * t) s = 0 → Rx Mr A (V.1 (605 + 16 * t) s)) : ∃ X' V' Vp S, f_Engine_collect X = some X' ∧ RV X0 T0 X' T C n V' ∧ (∀ k, S k = true → k < A.N)
    ∧ (∀ k, ((k < A.N ∧ ∃ s, s < 8 ∧ V.1 1057 s = Int32.ofNat (adH Mr A k)) ∨ ∃ t, t < nb ∧ Rt Mr A V t (22 * dep V t) k) → S k = true)
    ∧ (∀ k k', S k = true → Ed Mr A V k k' → S k' = true)
    ∧ (∀ P : Nat → Prop, (∀ k, ((k < A.N ∧ ∃ s, s < 8 ∧ V.1 1057 s = Int32.ofNat (adH Mr A k)) ∨ ∃ t, t < nb ∧ Rt Mr A V t (22 * dep V t) k) → P k) → (∀ k k', k < A.N → P k → Ed Mr A V k k' → P k') → ∀ k, S k = true → P k)
    ∧ (∀ k, k < A.N → S k = true → Vp.1 4 (adH Mr A k + 3) = Int32.ofNat (naH Mr A S k))
    ∧ (∀ a, a ≠ 4 → a ≠ 5 → a ≠ 1041 → a ≠ 1057 → (∀ t, t < nb → a ≠ 605 + 16 * t) → V'.1 a = V.1 a)
    ∧ (V'.1 1041 0 = V.1 1041 0 + 1 ∧ V'.1 1041 7 = Int32.ofNat (naH Mr A S A.N) ∧ V'.1 1041 8 = V.1 1041 8)
    ∧ (∀ s, s < 8 → V'.1 1057 s = fwv Vp (V.1 1057 s))
    ∧ (∀ t, t < nb → ∀ s, V'.1 (605 + 16 * t) s = if s < 22 * dep V t ∧ ¬ V.1 (606 + 16 * t) s = 0 then fwv Vp (V.1 (605 + 16 * t) s) else V.1 (605 + 16 * t) s)
    ∧ (∀ k, k < A.N → S k = true → ∀ i, i < wzK Mr (A.K k) (A.n k) → V'.1 4 (naH Mr A S k + i) = if i = 3 then 0 else if faH Mr A k ≤ adH Mr A k + i then fwv Vp (V.1 4 (adH Mr A k + i)) else V.1 4 (adH Mr A k + i))
    ∧ ∀ p, p < 4001 → ∃ w, w < 65536 ∧ V'.1 4 p = Int32.ofNat w := by
  obtain ⟨b1, b2, b3, b4⟩ := hr.N1000
  have inb : ∀ k, k < A.N → adH Mr A k + wzK Mr (A.K k) (A.n k) ≤ 4001 ∧ 4 ≤ wzK Mr (A.K k) (A.n k) := fun k hk => by
    have l1 := adH_mono Mr A A.N hk
    have w1 := wz4 Mr (A.K k) (A.n k)
    omega
  have r1 := r.f (a := 41) (by unfold Fx; omega) 6 0
  have mx0 : MXS Mr A V (fun _ => False) (mw V 1041 6 0) := by
    refine ⟨0, fun _ => 0, ⟨?_, ?_, ?_, ?_, ?_, ?_, ?_⟩, ?_⟩
    · rw [mw1, if_pos ⟨rfl, rfl⟩]; rfl
    · intro f hf; rw [mwi _ _ _ hf]
    · intro j hj; omega
    · intro i j hi; omega
    · rintro k hk ⟨j, hj, _⟩; omega
    · intro p _; rw [mwr _ _ _ (by omega)]
    · intro a h4 h5 h41; rw [mwr _ _ _ h41]
    · intro k
      constructor
      · rintro ⟨j, hj, _⟩; omega
      · intro z; exact z.elim
  obtain ⟨X2, V2, p1, p2, p3⟩ := markS_ok hr r1 mx0 h58 hx7
  obtain ⟨z3, X3, V3, q1, q2, q3⟩ := markTs_ok hr p2 p3 hn e40 hd hx
  obtain ⟨z4, X4, V4, c, q, u1, u2, u3, u4, u5, u6⟩ := plan1_ok hr hkc q2 q3
  obtain ⟨z5, X5, Vp, w1, w1', w2, w3⟩ := plan2_ok hr hkc u2 u3
  have cN := u3.c
  have sN : ∀ k, mkB c q k = true → k < A.N := by
    intro k hk
    obtain ⟨j, hj, e⟩ := mkB_iff.mp hk
    rw [← e]; exact (u3.td j hj).1
  have vp1 : ∀ k, k < A.N → mkB c q k = true → Vp.1 4 (adH Mr A k + 3) = Int32.ofNat (naH Mr A (mkB c q) k) := by
    intro k hk hs
    rw [w3.w1 k hk (mkB_iff.mp hs), if_pos hk]
  have vp0 : ∀ k, k < A.N → ¬ mkB c q k = true → Vp.1 4 (adH Mr A k + 3) = 0 := by
    intro k hk hs
    rw [w3.w2 _ (fun j hj hi e => hs (by rw [ad_inj e]; exact mkB_iff.mpr hi))]
    exact (hr.ob k hk).h3
  have d0 : ∀ t, t < nb → dep Vp t = dep V t ∧ Vp.1 (600 + 16 * t) = V.1 (600 + 16 * t) ∧ Vp.1 (605 + 16 * t) = V.1 (605 + 16 * t) ∧ Vp.1 (606 + 16 * t) = V.1 (606 + 16 * t) := fun t ht => by
    have ht6 : t < 6 := by have := r.no.1; omega
    have e := w3.ot (600 + 16 * t) (by omega) (by omega) (by omega)
    refine ⟨by unfold dep; rw [e], e, w3.ot _ (by omega) (by omega) (by omega), w3.ot _ (by omega) (by omega) (by omega)⟩
  obtain ⟨X6, V6, x1, x2, x3, x4⟩ := fwdS_ok (Vp := Vp) hr w2 rfl (fun s hs => by rw [w3.ot 1058 (by omega) (by omega) (by omega)]; exact h58 s hs) (fun s hs => by rw [w3.ot 1057 (by omega) (by omega) (by omega)]; exact hx7 s hs)
  have d6 : ∀ t, t < nb → dep V6 t = dep V t ∧ V6.1 (600 + 16 * t) = V.1 (600 + 16 * t) ∧ V6.1 (605 + 16 * t) = V.1 (605 + 16 * t) ∧ V6.1 (606 + 16 * t) = V.1 (606 + 16 * t) := fun t ht => by
    have ht6 : t < 6 := by have := r.no.1; omega
    obtain ⟨g1, g2, g3, g4⟩ := d0 t ht
    have e := x3 (600 + 16 * t) (by omega)
    refine ⟨by rw [← g1]; unfold dep; rw [e], by rw [e]; exact g2, by rw [x3 _ (by omega)]; exact g3, by rw [x3 _ (by omega)]; exact g4⟩
  obtain ⟨z7, X7, V7, y1, y2, y3, y4⟩ := fwdTs_ok (Vp := Vp) hr x2 (x3 4 (by omega)) hn (by rw [x3 1040 (by omega), w3.ot 1040 (by omega) (by omega) (by omega)]; exact e40) (fun t ht => by obtain ⟨g1, g2, g3, g4⟩ := d6 t ht; rw [g1, g2]; exact hd t ht) (fun t ht s hs => by obtain ⟨g1, g2, g3, g4⟩ := d6 t ht; rw [g1] at hs; rw [g3, g4]; exact hx t ht s hs)
  have k7 : ∀ a, a = 4 ∨ a = 5 ∨ 1000 ≤ a → a ≠ 1057 → V7.1 a = Vp.1 a := fun a ha hb => by
    rw [y3 a (fun t ht => by have := r.no.1; omega), x3 a hb]
  obtain ⟨X8, V8, g1, g2, g3, g4, g5⟩ := fwdF_ok (Vp := Vp) hr hkc y2 w3 u3.qi cN (k7 4 (by omega) (by omega)) (k7 5 (by omega) (by omega)) (k7 1041 (by omega) (by omega)) ⟨k7 1045 (by omega) (by omega), k7 1046 (by omega) (by omega)⟩
  have nf : ∀ k p, k < A.N → adH Mr A k ≤ p → p < faH Mr A k → V8.1 4 p = Vp.1 4 p := by
    intro k p hk h1 h2
    refine g5 p (fun j hj e he hp => ?_)
    have f1 := fa_in Mr A k
    have f2 := fa_in Mr A (q j)
    have := apart (Mr := Mr) (A := A) (j := k) (k := q j) (p := p) h1 (by omega) (by omega) (by omega)
    subst this
    omega
  have nw : ∀ k p, k < A.N → adH Mr A k ≤ p → p < adH Mr A k + wzK Mr (A.K k) (A.n k) → p ≠ adH Mr A k + 3 → Vp.1 4 p = V.1 4 p := fun k p hk h1 h2 h3 => w3.wd h1 h2 h3
  have e83 : ∀ k, k < A.N → V8.1 4 (adH Mr A k + 3) = if mkB c q k = true then Int32.ofNat (naH Mr A (mkB c q) k) else 0 := by
    intro k hk
    have f1 := fa_in Mr A k
    rw [nf k _ hk (by omega) (by omega)]
    by_cases s : mkB c q k = true
    · rw [if_pos s]; exact vp1 k hk s
    · rw [if_neg s]; exact vp0 k hk s
  have fwW : ∀ x, Rx Mr A x → ∃ w, w < 65536 ∧ fwv Vp x = Int32.ofNat w := by
    intro x hx'
    unfold fwv
    rcases hx' with e | ⟨k, hk, e⟩
    · rw [if_pos e]; exact ⟨0, by omega, rfl⟩
    · have i1 := inb k hk
      have a1 := ad_one Mr A k
      have nx : ¬ x = 0 := by
        rw [e]
        intro z
        have : Int32.ofNat (adH Mr A k) = Int32.ofNat 0 := z
        rw [o_eq _ _ (by omega) (by omega)] at this
        omega
      rw [if_neg nx, e, o_cl _ (by omega)]
      by_cases s : mkB c q k = true
      · rw [vp1 k hk s]
        have := naH_le Mr A (mkB c q) k
        exact ⟨_, by omega, rfl⟩
      · rw [vp0 k hk s]; exact ⟨0, by omega, rfl⟩
  have w8 : ∀ p, p < 4001 → ∃ w, w < 65536 ∧ V8.1 4 p = Int32.ofNat w := by
    intro p hp
    by_cases z : ∃ j, j < c ∧ ∃ e, e < nrK Mr (A.K (q j)) (A.n (q j)) ∧ p = faH Mr A (q j) + e
    · obtain ⟨j, hj, e, he, ep⟩ := z
      have hq := (u3.td j hj).1
      have f1 := fa_in Mr A (q j)
      rw [ep, g4 j hj e he, nw (q j) _ hq (by omega) (by omega) (by omega)]
      exact fwW _ ((hr.ob (q j) hq).refs e he).rx
    · rw [g5 p (fun j hj e he ep => z ⟨j, hj, e, he, ep⟩)]
      by_cases z2 : ∃ j, j < A.N ∧ inq c q j ∧ p = adH Mr A j + 3
      · obtain ⟨j, hj, hi, ep⟩ := z2
        rw [ep, vp1 j hj (mkB_iff.mpr hi)]
        have := naH_le Mr A (mkB c q) j
        have := inb j hj
        exact ⟨_, by omega, rfl⟩
      · rw [w3.w2 p (fun j hj hi ep => z2 ⟨j, hj, hi, ep⟩)]
        exact hr.wd p hp
  have k8 : ∀ a, a = 1041 ∨ a = 1045 ∨ a = 1046 → V8.1 a = Vp.1 a := fun a ha => by rw [g3 a (by omega), k7 a (by omega) (by omega)]
  have v45 : V8.1 1045 = V.1 1045 ∧ V8.1 1046 = V.1 1046 := ⟨by rw [k8 _ (by omega), w3.ot _ (by omega) (by omega) (by omega)], by rw [k8 _ (by omega), w3.ot _ (by omega) (by omega) (by omega)]⟩
  have v41 : ∀ f, f ≠ 6 → V8.1 1041 f = V.1 1041 f := fun f hf => by rw [k8 _ (by omega), w3.mo f hf]
  obtain ⟨X9, V9, s1, s2, s3, s4, s5, s6⟩ := slide_ok (A := A) hkc b2 (fun k hk => (hr.ob k hk).ok) (mkB c q) g2 (fun k hk => by have f1 := fa_in Mr A k; have f2 := inb k hk; rw [nf k _ hk (by omega) (by omega), nw k _ hk (by omega) (by omega) (by omega)]; exact (hr.ob k hk).h0) (fun k hk h10 => by have f1 := fa_in Mr A k; have f2 := f1.2.2 h10; rw [nf k _ hk (by omega) (by omega), nw k _ hk (by omega) (by omega) (by omega)]; exact (hr.ob k hk).h4 h10) (fun c' h1 h2 => by rw [v45.1, v45.2]; exact hr.fld c' h1 h2) e83 (by rw [v41 7 (by omega)]; exact hr.top) w8
  refine ⟨X9, V9, Vp, mkB c q, ?_, s2, sN, ?_, ?_, ?_, vp1, ?_, ?_, ?_, ?_, ?_, s6⟩
  · unfold f_Engine_collect f_Memory_beginMarking f_Memory_plan
    dsimp only [lt]
    rw [Option.bind_some, p1, Option.bind_some, q1, Option.bind_some, u1, Option.bind_some, w1, Option.bind_some, Option.bind_some, w1', x1, Option.bind_some, y1, Option.bind_some, g1, Option.bind_some, s1, Option.bind_some]
  · intro k hk
    refine mkB_iff.mpr (u4 k ?_)
    rcases hk with z | z
    · exact Or.inl (Or.inr z)
    · exact Or.inr z
  · intro k k' hk he
    exact mkB_iff.mpr (u5 k k' (mkB_iff.mp hk) he)
  · intro P h1 h2 k hk
    refine u6 P (fun j hj => ?_) h2 k (mkB_iff.mp hk)
    rcases hj with (z | z) | z
    · exact z.elim
    · exact h1 j (Or.inl z)
    · exact h1 j (Or.inr z)
  · intro a h4 h5 h41 h57 ht
    rw [s3 a h4 h41, g3 a h4, y3 a ht, x3 a h57, w3.ot a h4 h5 h41]
  · rw [s4, if_pos rfl, v41 0 (by omega), s4, if_neg (by omega), if_pos rfl, s4, if_neg (by omega), if_neg (by omega), v41 8 (by omega)]
    exact ⟨rfl, rfl, rfl⟩
  · intro s hs
    rw [s3 1057 (by omega) (by omega), g3 1057 (by omega), y3 1057 (fun t ht => by have := r.no.1; omega), x4 s hs, w3.ot 1057 (by omega) (by omega) (by omega)]
  · intro t ht s
    have ht6 : t < 6 := by have := r.no.1; omega
    obtain ⟨i1, i2, i3, i4⟩ := d6 t ht
    rw [s3 _ (by omega) (by omega), g3 _ (by omega), y4 t ht s, i1, i3, i4]
  · intro k hk hs i hi
    rw [s5 k hk hs i hi]
    have f1 := fa_in Mr A k
    have f2 := inb k hk
    by_cases e3 : i = 3
    · rw [if_pos e3, if_pos e3]
    · rw [if_neg e3, if_neg e3]
      by_cases ef : faH Mr A k ≤ adH Mr A k + i
      · rw [if_pos ef]
        obtain ⟨j, hj, ej⟩ := mkB_iff.mp hs
        have := g4 j hj (adH Mr A k + i - faH Mr A k) (by rw [ej]; omega)
        rw [ej, show faH Mr A k + (adH Mr A k + i - faH Mr A k) = adH Mr A k + i by omega] at this
        rw [this, nw k _ hk (by omega) (by omega) (by omega)]
      · rw [if_neg ef, nf k _ hk (by omega) (by omega), nw k _ hk (by omega) (by omega) (by omega)]
