/-! U9 -/
set_option maxRecDepth 20000 in
set_option maxHeartbeats 4000000 in
theorem clearB {X0 : XS} {T0 : Nat → Nat} {X : XS} {T C : Nat → Nat} {n : Nat} {V : MS} (r : RV X0 T0 X T C n V) : ∃ z X' V', lp (b2_Memory_findBeginnings) 10000 ((0 : Int32), X) = some (z, X') ∧ RV X0 T0 X' T C n V' ∧ ∀ a, a ≠ 6 → V'.1 a = V.1 a := by
  have key : ∀ N i X1 V1, i ≤ 4001 → 4001 - i < N → RV X0 T0 X1 T C n V1 → (∀ a, a ≠ 6 → V1.1 a = V.1 a) → ∃ z X' V', lp (b2_Memory_findBeginnings) N (Int32.ofNat i, X1) = some (z, X') ∧ RV X0 T0 X' T C n V' ∧ ∀ a, a ≠ 6 → V'.1 a = V.1 a := by
    intro N
    induction N with
    | zero => intro i X1 V1 h1 h2; omega
    | succ N ih =>
      intro i X1 V1 h1 h2 r1 hv
      have m3 := r1.m3
      by_cases e : i = 4001
      · subst e
        refine ⟨Int32.ofNat 4001, X1, V1, lp_inr ?_, r1, hv⟩
        unfold b2_Memory_findBeginnings
        dsimp only
        rw [m3.1]
        show ocz (xL X1 1 (C 6)) none _ = _
        rw [m3.2]
        dsimp only [ocz]
        rw [if_pos (Int32.le_refl _)]
      · have st : b2_Memory_findBeginnings (Int32.ofNat i, X1) = some (.inl (Int32.ofNat (i + 1), xw X1 (C 6) i 0)) := by
          unfold b2_Memory_findBeginnings
          dsimp only
          rw [m3.1]
          show ocz (xL X1 1 (C 6)) none _ = _
          rw [m3.2]
          show (if Int32.ofNat 4001 ≤ Int32.ofNat i then _ else ocz (xL X1 1 (C 6)) none _) = _
          rw [if_neg (by rw [o_le _ _ (by omega) (by omega)]; omega), m3.2]
          show (if ixo (Int32.ofNat i) 4001 then _ else none) = _
          rw [if_pos (ixl (by omega) (by omega)), o_cl _ (by omega), o_addR]
        rw [lp_inl st]
        exact ih (i + 1) _ _ (by omega) (by omega) (r1.w (g := 6) (Or.inl (by omega)) i 0) (fun a ha => by rw [mwr _ _ _ ha]; exact hv a ha)
  exact key 10000 0 X V (by omega) (by omega) r (fun _ _ => rfl)
set_option maxRecDepth 20000 in
set_option maxHeartbeats 4000000 in
theorem findB {Mr : MS} {kc hp : Nat} {A : HG} {V M : MS} (hr : HR Mr kc A hp V M) (hkc : kc ≤ 10) {X0 : XS} {T0 : Nat → Nat} {X : XS} {T C : Nat → Nat} {n : Nat} {V1 : MS} (r : RV X0 T0 X T C n V1) (hv : ∀ a, a ≠ 6 → V1.1 a = V.1 a) : ∃ X' V', lp (b28_Memory_findBeginnings) 10000 ((1 : Int32), (1 : Int32), X) = some (Int32.ofNat (adH Mr A A.N), Int32.ofNat (adH Mr A A.N), X') ∧ RV X0 T0 X' T C n V' ∧ (∀ a, a ≠ 6 → V'.1 a = V.1 a) ∧ ∀ j, j < A.N → V'.1 6 (adH Mr A j) = 1 := by
  obtain ⟨b1, b2, b3, b4⟩ := hr.N1000
  have key : ∀ N k X1 V1, k ≤ A.N → A.N - k < N → RV X0 T0 X1 T C n V1 → (∀ a, a ≠ 6 → V1.1 a = V.1 a) → (∀ j, j < k → V1.1 6 (adH Mr A j) = 1) → ∃ X' V', lp (b28_Memory_findBeginnings) N (Int32.ofNat (adH Mr A k), Int32.ofNat (adH Mr A k), X1) = some (Int32.ofNat (adH Mr A A.N), Int32.ofNat (adH Mr A A.N), X') ∧ RV X0 T0 X' T C n V' ∧ (∀ a, a ≠ 6 → V'.1 a = V.1 a) ∧ ∀ j, j < A.N → V'.1 6 (adH Mr A j) = 1 := by
    intro N
    induction N with
    | zero => intro k X1 V1 h1 h2; omega
    | succ N ih =>
      intro k X1 V1 h1 h2 r1 hv1 hj
      have m3 := r1.m3
      have top : X1.1 41 7 = Int32.ofNat (adH Mr A A.N) := by rw [r1.rf (a := 41) (by unfold Fx; omega), hv1 _ (by omega)]; exact hr.top
      by_cases e : k = A.N
      · subst e
        refine ⟨X1, V1, lp_inr ?_, r1, hv1, hj⟩
        unfold b28_Memory_findBeginnings
        dsimp only
        rw [top, if_pos (Int32.le_refl _)]
      · have hk : k < A.N := by omega
        have l1 := adH_mono Mr A A.N hk
        have w1 := wz4 Mr (A.K k) (A.n k)
        have r2 := r1.w (g := 6) (Or.inl (by omega)) (adH Mr A k) 1
        have hv2 : ∀ a, a ≠ 6 → (mw V1 6 (adH Mr A k) 1).1 a = V.1 a := fun a ha => by rw [mwr _ _ _ ha]; exact hv1 a ha
        have ob := hr.ob k hk
        obtain ⟨fr, q1, q2, q3, q4, q5⟩ := obj_ok (A := A) hkc r2 ob.ok (by omega) (by rw [hv2 4 (by omega)]; exact ob.h0) (fun h => by rw [hv2 4 (by omega)]; exact ob.h4 h) (fun c h1 h2 => by rw [hv2 1045 (by omega), hv2 1046 (by omega)]; exact hr.fld c h1 h2)
        have st : b28_Memory_findBeginnings (Int32.ofNat (adH Mr A k), Int32.ofNat (adH Mr A k), X1) = some (.inl (Int32.ofNat (adH Mr A (k + 1)), Int32.ofNat (adH Mr A (k + 1)), xw X1 (C 6) (adH Mr A k) 1)) := by
          unfold b28_Memory_findBeginnings
          dsimp only
          rw [top, if_neg (by rw [o_le _ _ (by omega) (by omega)]; omega), m3.1]
          show ocz (xL X1 1 (C 6)) none _ = _
          rw [m3.2]
          show (if Int32.ofNat 4001 ≤ Int32.ofNat (adH Mr A k) then _ else ocz (xL X1 1 (C 6)) none _) = _
          rw [if_neg (by rw [o_le _ _ (by omega) (by omega)]; omega), m3.2]
          show (if ixo (Int32.ofNat (adH Mr A k)) 4001 then _ else none) = _
          rw [if_pos (ixl (by omega) (by omega)), o_cl _ (by omega)]
          dsimp only [lt]
          rw [q5, Option.bind_some, max4 w1.1 (by omega), o_add]
          rfl
        rw [lp_inl st]
        refine ih (k + 1) _ _ (by omega) (by omega) r2 hv2 (fun j hj' => ?_)
        rw [mw1]
        by_cases ej : j = k
        · subst ej; rw [if_pos ⟨rfl, rfl⟩]
        · by_cases ea : adH Mr A j = adH Mr A k
          · rw [if_pos ⟨rfl, ea⟩]
          · rw [if_neg (fun q => ea q.2)]; exact hj j (by omega)
  exact key 10000 0 X V1 (by omega) (by omega) r hv (fun j hj => by omega)
set_option maxRecDepth 20000 in
set_option maxHeartbeats 4000000 in
/-- a reference leads to where an object begins -/
theorem leads {Mr : MS} {kc hp : Nat} {A : HG} {V0 M : MS} (hr : HR Mr kc A hp V0 M) {X0 : XS} {T0 : Nat → Nat} {X : XS} {T C : Nat → Nat} {n : Nat} {V : MS} (r : RV X0 T0 X T C n V) (hb : ∀ j, j < A.N → V.1 6 (adH Mr A j) = 1) {x : Int32} (hx : Rx Mr A x) : f_Memory_leadsWell x X = some true := by
  unfold f_Memory_leadsWell
  rcases hx with e | ⟨k, hk, e⟩
  · rw [if_pos e]
  · obtain ⟨b1, b2, b3, b4⟩ := hr.N1000
    have l1 := adH_mono Mr A A.N hk
    have w1 := wz4 Mr (A.K k) (A.n k)
    have a1 := ad_one Mr A k
    have m3 := r.m3
    have r6 := r.rd (g := 6) (Or.inl (by omega))
    subst e
    rw [if_neg (by rw [o_eqR _ _ (by omega) (by decide)]; show ¬ adH Mr A k = 0; omega), if_neg (by rw [o_ltR _ _ (by omega) (by decide)]; show ¬ adH Mr A k < 1; omega), m3.1]
    show ocz (xL X 1 (C 6)) none _ = _
    rw [m3.2]
    show (if Int32.ofNat 4001 ≤ Int32.ofNat (adH Mr A k) then _ else ocz (xL X 1 (C 6)) none _) = _
    rw [if_neg (by rw [o_le _ _ (by omega) (by omega)]; omega), m3.2]
    show (if ixo (Int32.ofNat (adH Mr A k)) 4001 then _ else none) = _
    rw [if_pos (ixl (by omega) (by omega)), o_cl _ (by omega), r6, hb k hk, if_neg (by decide)]
set_option maxRecDepth 20000 in
set_option maxHeartbeats 4000000 in
theorem rowS {Mr : MS} {kc hp : Nat} {A : HG} {V0 M : MS} (hr : HR Mr kc A hp V0 M) {X0 : XS} {T0 : Nat → Nat} {X : XS} {T C : Nat → Nat} {n : Nat} {V : MS} (r : RV X0 T0 X T C n V) (hb : ∀ j, j < A.N → V.1 6 (adH Mr A j) = 1) (hx : ∀ s, s < 8 → Rx Mr A (V.1 1057 s)) : f_Memory_rowLeadsWell_57_58 8 X = some true := by
  have r57 := r.rf (a := 57) (by unfold Fx; omega)
  have key : ∀ N s, s ≤ 8 → 8 - s < N → lp (b3_Memory_rowLeadsWell_57_58 8 X) N (Int32.ofNat s) = some true := by
    intro N
    induction N with
    | zero => intro s h1 h2; omega
    | succ N ih =>
      intro s h1 h2
      by_cases e : s = 8
      · subst e
        refine lp_inr ?_
        unfold b3_Memory_rowLeadsWell_57_58
        rw [if_pos (by decide)]
      · have n8 : ¬ (8 : Int32) ≤ Int32.ofNat s := by rw [o_leL _ _ (by decide) (by omega)]; show ¬ 8 ≤ s; omega
        have st : b3_Memory_rowLeadsWell_57_58 8 X (Int32.ofNat s) = some (.inl (Int32.ofNat (s + 1))) := by
          unfold b3_Memory_rowLeadsWell_57_58
          rw [if_neg n8, if_neg n8, if_pos (ixl (by omega) (by omega)), o_cl _ (by omega), o_addR, r57, leads hr r hb (hx s (by omega)), Option.bind_some, if_pos rfl]
          split <;> rfl
        rw [lp_inl st]
        exact ih (s + 1) (by omega) (by omega)
  exact key 10000 0 (by omega) (by omega)
set_option maxRecDepth 20000 in
set_option maxHeartbeats 4000000 in
theorem rowT {Mr : MS} {kc hp : Nat} {A : HG} {V0 M : MS} (hr : HR Mr kc A hp V0 M) {X0 : XS} {T0 : Nat → Nat} {X : XS} {T C : Nat → Nat} {n : Nat} {V : MS} (r : RV X0 T0 X T C n V) (hb : ∀ j, j < A.N → V.1 6 (adH Mr A j) = 1) {t z : Nat} (ht : t < n) (hz : z ≤ 440) (hx : ∀ s, s < z → ¬ V.1 (606 + 16 * t) s = 0 → Rx Mr A (V.1 (605 + 16 * t) s)) : f_Memory_rowLeadsWell (C (605 + 16 * t)) (C (606 + 16 * t)) (Int32.ofNat z) X = some true := by
  have s := r.st t ht
  have r5 := r.rd (Lv_s (f := 5) ht (by omega) : Lv n (605 + 16 * t))
  have r6 := r.rd (Lv_s (f := 6) ht (by omega) : Lv n (606 + 16 * t))
  have key : ∀ N i, i ≤ z → z - i < N → lp (b3_Memory_rowLeadsWell (C (605 + 16 * t)) (C (606 + 16 * t)) (Int32.ofNat z) X) N (Int32.ofNat i) = some true := by
    intro N
    induction N with
    | zero => intro i h1 h2; omega
    | succ N ih =>
      intro i h1 h2
      by_cases e : i = z
      · subst e
        refine lp_inr ?_
        unfold b3_Memory_rowLeadsWell
        rw [if_pos (Int32.le_refl _)]
      · have st : b3_Memory_rowLeadsWell (C (605 + 16 * t)) (C (606 + 16 * t)) (Int32.ofNat z) X (Int32.ofNat i) = some (.inl (Int32.ofNat (i + 1))) := by
          unfold b3_Memory_rowLeadsWell
          rw [if_neg (by rw [o_le _ _ (by omega) (by omega)]; omega), s.l5]
          show (if Int32.ofNat 440 ≤ Int32.ofNat i then _ else ocz (xL X 0 (C (606 + 16 * t))) none _) = _
          rw [if_neg (by rw [o_le _ _ (by omega) (by omega)]; omega), s.l6]
          show (if Int32.ofNat 440 ≤ Int32.ofNat i then _ else (if ixo (Int32.ofNat i) 440 then (if X.1 (C (606 + 16 * t)) (Int32.ofNat i).toNatClampNeg = 0 then _ else (if ixo (Int32.ofNat i) 440 then _ else none)) else none)) = _
          rw [if_neg (by rw [o_le _ _ (by omega) (by omega)]; omega), if_pos (ixl (by omega) (by omega)), if_pos (ixl (by omega) (by omega)), o_cl _ (by omega), r6, r5, o_addR]
          by_cases c : V.1 (606 + 16 * t) i = 0
          · rw [if_pos c]
          · rw [if_neg c, leads hr r hb (hx i (by omega) c), Option.bind_some, if_pos rfl]
        rw [lp_inl st]
        exact ih (i + 1) (by omega) (by omega)
  exact key 10000 0 (by omega) (by omega)
