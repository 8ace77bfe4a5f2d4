/-! V1 -/
set_option maxRecDepth 20000 in
set_option maxHeartbeats 4000000 in
theorem fieldsW {Mr : MS} {kc hp : Nat} {A : HG} {V0 M : MS} (hr : HR Mr kc A hp V0 M) (hkc : kc ≤ 10) {X0 : XS} {T0 : Nat → Nat} {X : XS} {T C : Nat → Nat} {n : Nat} {V : MS} (r : RV X0 T0 X T C n V) (hv : ∀ a, a ≠ 6 → V.1 a = V0.1 a) (hb : ∀ j, j < A.N → V.1 6 (adH Mr A j) = 1) : f_Memory_fieldsLeadWell X = some true := by
  obtain ⟨b1, b2, b3, b4⟩ := hr.N1000
  have top : X.1 41 7 = Int32.ofNat (adH Mr A A.N) := by rw [r.rf (a := 41) (by unfold Fx; omega), hv _ (by omega)]; exact hr.top
  have obj : ∀ k, k < A.N → b2_Memory_fieldsLeadWell X (Int32.ofNat (adH Mr A k)) = some (.inl (Int32.ofNat (adH Mr A (k + 1)))) := by
    intro k hk
    have l1 := adH_mono Mr A A.N hk
    have w1 := wz4 Mr (A.K k) (A.n k)
    have ob := hr.ob k hk
    have fa := fa_in Mr A k
    obtain ⟨fr, q1, q2, q3, q4, q5⟩ := obj_ok (A := A) hkc r ob.ok (by omega) (by rw [hv 4 (by omega)]; exact ob.h0) (fun h => by rw [hv 4 (by omega)]; exact ob.h4 h) (fun c h1 h2 => by rw [hv 1045 (by omega), hv 1046 (by omega)]; exact hr.fld c h1 h2)
    have nrb : nrK Mr (A.K k) (A.n k) ≤ 4001 := by omega
    have key : ∀ N i, i ≤ nrK Mr (A.K k) (A.n k) → nrK Mr (A.K k) (A.n k) - i < N → lp (b25_Memory_fieldsLeadWell X (Int32.ofNat (adH Mr A k)) (Int32.ofNat fr) (Int32.ofNat (nrK Mr (A.K k) (A.n k)))) N (Int32.ofNat i) = some (.inl (Int32.ofNat (adH Mr A (k + 1)))) := by
      intro N
      induction N with
      | zero => intro i h1 h2; omega
      | succ N ih =>
        intro i h1 h2
        by_cases e : i = nrK Mr (A.K k) (A.n k)
        · refine lp_inr ?_
          unfold b25_Memory_fieldsLeadWell
          rw [e, if_pos (Int32.le_refl _), q5, Option.bind_some, max4 w1.1 (by omega), o_add]
          rfl
        · have hi : i < nrK Mr (A.K k) (A.n k) := by omega
          have ef := q3 (by omega)
          have fe : faH Mr A k = adH Mr A k + hdK (A.K k) + 2 * niK Mr (A.K k) (A.n k) := rfl
          have rr := (ob.refs i hi).rx
          have st : b25_Memory_fieldsLeadWell X (Int32.ofNat (adH Mr A k)) (Int32.ofNat fr) (Int32.ofNat (nrK Mr (A.K k) (A.n k))) (Int32.ofNat i) = some (.inl (Int32.ofNat (i + 1))) := by
            unfold b25_Memory_fieldsLeadWell
            rw [if_neg (by rw [o_le _ _ (by omega) (by omega)]; omega), o_add, word_eq r (by omega), Option.bind_some, hv 4 (by omega), ef, leads hr r hb rr, Option.bind_some, if_pos rfl, o_addR]
          rw [lp_inl st]
          exact ih (i + 1) (by omega) (by omega)
    unfold b2_Memory_fieldsLeadWell
    rw [top, if_neg (by rw [o_le _ _ (by omega) (by omega)]; omega), q2, Option.bind_some, q4, Option.bind_some]
    exact key 10000 0 (by omega) (by omega)
  have key : ∀ N k, k ≤ A.N → A.N - k < N → lp (b2_Memory_fieldsLeadWell X) N (Int32.ofNat (adH Mr A k)) = some true := by
    intro N
    induction N with
    | zero => intro k h1 h2; omega
    | succ N ih =>
      intro k h1 h2
      by_cases e : k = A.N
      · subst e
        refine lp_inr ?_
        unfold b2_Memory_fieldsLeadWell
        rw [top, if_pos (Int32.le_refl _)]
      · rw [lp_inl (obj k (by omega))]
        exact ih (k + 1) (by omega) (by omega)
  exact key 10000 0 (by omega) (by omega)
set_option maxRecDepth 20000 in
set_option maxHeartbeats 4000000 in
/-- all is sound -/
theorem sound_ok {c : Cx} (ok : c.Ok) {A : HG} {hp nb oc : Nat} {U W : Nat → Int32} {D : Int64} {T C : Nat → Nat} {n : Nat} {X : XS} {V M : MS} (r : Rn c A hp nb oc U W D T C n X V M) : ∃ X' V', f_P_sound X = some (true, X') ∧ Rn c A hp nb oc U W D T C n X' V' M := by
  have k10 := (gp_k10 ok.1).1
  have hr := r.hr
  obtain ⟨b1, b2, b3, b4⟩ := hr.N1000
  obtain ⟨z1, X1, V1, e1, r1, hv1⟩ := clearB r.rv
  obtain ⟨X2, V2, e2, r2, hv2, hb2⟩ := findB hr k10 r1 hv1
  have n6 := r.rv.no.1
  have hn := r.nb1.1
  have e40 : ¬ X.1 40 0 = 0 := by rw [r.rv.rf (a := 40) (by unfold Fx; omega), r.tu.2.1]; decide
  have x41 : X2.1 41 = V.1 1041 := by rw [r2.rf (a := 41) (by unfold Fx; omega), hv2 _ (by omega)]
  have x40 : X2.1 40 2 = Int32.ofNat nb := by rw [r2.rf (a := 40) (by unfold Fx; omega), hv2 _ (by omega)]; exact r.nb1.2.1
  obtain ⟨l1, l2, l3, l4⟩ := hr.lim
  have fb : f_Memory_findBeginnings X = some (true, X2) := by
    unfold f_Memory_findBeginnings
    rw [e1, Option.bind_some]
    dsimp only
    rw [e2, Option.bind_some]
    dsimp only
    unfold f_Memory_used
    rw [x41, hr.top, if_neg (fun q => q rfl), l1, o_subR _ 1 (show 1 ≤ adH c.Mr A A.N by omega), o_mulL, if_neg (by rw [o_lt _ _ (by omega) (show 2 * (adH c.Mr A A.N - 1) < 2147483648 by omega)]; show ¬ hp < 2 * (adH c.Mr A A.N - 1); omega), r2.m1.1]
    show ocz (xL X2 2 (C 4)) none _ = _
    rw [r2.m1.2]
    show (if Int32.ofNat 4001 < Int32.ofNat (adH c.Mr A A.N) then _ else _) = _
    rw [if_neg (by rw [o_lt _ _ (by omega) (by omega)]; omega)]
  have fs := fieldsW hr k10 r2 hv2 hb2
  have rs := rowS hr r2 hb2 (fun s hs => by rw [hv2 1057 (by omega)]; exact (r.sr s hs).2.1.rx)
  have lps : ∀ N t, t ≤ nb → nb - t < N → lp (b43_Engine_isSound (true, X2)) N (Int32.ofNat t) = some (true, X2) := by
    intro N
    induction N with
    | zero => intro t h1 h2; omega
    | succ N ih =>
      intro t h1 h2
      have fin : ((f_Memory_fieldsLeadWell X2).bind fun x10 => (if x10 = true then some (.inr (true, X2)) else some (.inr (false, X2))) : Option (Int32 ⊕ (Bool × XS))) = some (.inr (true, X2)) := by
        rw [fs, Option.bind_some, if_pos rfl]
      by_cases e : t = nb
      · subst e
        refine lp_inr ?_
        have ns : ¬ f_Engine_isStrand (Int32.ofNat t) X2 = true := by
          unfold f_Engine_isStrand
          rw [if_neg (by rw [o_lt0 _ (by omega)]; exact fun q => q), x40, if_pos (Int32.le_refl _)]
          decide
        unfold b43_Engine_isSound
        dsimp only
        by_cases c6 : (6 : Int32) ≤ Int32.ofNat t
        · rw [if_pos c6]; exact fin
        · rw [if_neg c6, if_neg ns]; exact fin
      · have htn : t < nb := by omega
        have s := r2.st t (by omega)
        have r0 := r2.rd (Lv_s (f := 0) (by omega) (by omega) : Lv n (600 + 16 * t))
        have cl : (Int32.ofNat t).toNatClampNeg = t := o_cl _ (by omega)
        have is : f_Engine_isStrand (Int32.ofNat t) X2 = true := by
          unfold f_Engine_isStrand
          rw [if_neg (by rw [o_lt0 _ (by omega)]; exact fun q => q), x40, if_neg (by rw [o_le _ _ (by omega) (by omega)]; omega), if_neg (by rw [o_leL _ _ (by decide) (by omega)]; show ¬ 6 ≤ t; omega), cl, s.r]
          rfl
        obtain ⟨⟨q1, q2⟩, q3, q4⟩ := ((r.th t htn).fr).ok hr
        have rt := rowT hr r2 hb2 (t := t) (z := 22 * dep V t) (by omega) (by omega) (fun s hs hz => by
          rw [hv2 _ (by omega)] at hz ⊢
          exact q3 s hs hz)
        have sl : f_Strand_slots (C (600 + 16 * t)) X2 = some (Int32.ofNat (22 * dep V t)) := by
          unfold f_Strand_slots
          rw [if_pos s.x, r0, hv2 _ (by omega), q2, o_mulR, Nat.mul_comm]
        have st : b43_Engine_isSound (true, X2) (Int32.ofNat t) = some (.inl (Int32.ofNat (t + 1))) := by
          unfold b43_Engine_isSound
          dsimp only
          rw [if_neg (by rw [o_leL _ _ (by decide) (by omega)]; show ¬ 6 ≤ t; omega), if_pos is, cl, s.r]
          dsimp only [ocz]
          rw [if_pos s.x, s.r5]
          dsimp only
          rw [if_pos s.x, s.r6]
          dsimp only
          rw [if_pos s.x, sl, Option.bind_some, rt, Option.bind_some, if_pos rfl, o_addR]
        rw [lp_inl st]
        exact ih (t + 1) (by omega) (by omega)
  refine ⟨X2, V2, ?_, ?_⟩
  · unfold f_P_sound f_Engine_isSound
    rw [if_pos e40, fb, Option.bind_some, if_pos rfl]
    dsimp only
    have lp0 : lp (b43_Engine_isSound (true, X2)) 10000 (0 : Int32) = some (true, X2) := lps 10000 0 (by omega) (by omega)
    rw [rs, Option.bind_some, if_pos rfl, lp0, Option.bind_some, if_pos rfl]
  · obtain ⟨r0', r1', r2', r3, r4, r5, r6, r7, r8⟩ := r
    refine ⟨r2, r1', ?_, ?_, ?_, ?_, ?_, ?_, r8⟩
    · intro u hu
      exact (r2' u hu).congr (fun j hj => hv2 _ (by omega)) (fun _ _ _ => rfl) (fun _ _ _ _ _ => rfl) (fun _ _ _ _ _ => rfl)
    · exact r3.congr (fun a ha => hv2 _ (by omega)) (fun _ _ _ _ _ => rfl) (fun _ _ => rfl)
    · exact r4.congr (fun a h1 h2 => hv2 _ (by omega)) (fun _ _ _ => rfl)
    · exact r5.congr (fun a h1 h2 => hv2 _ (by omega)) (fun _ _ _ => rfl) (fun _ _ => rfl)
    · rw [hv2 1040 (by omega)]; exact r6
    · rw [hv2 1040 (by omega), hv2 1059 (by omega)]; exact r7
