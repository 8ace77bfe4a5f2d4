/-! R6 -/
/-- where a reference leads once objects have moved -/
def fwv (Vp : MS) (x : Int32) : Int32 := if x = 0 then 0 else Vp.1 4 (x.toNatClampNeg + 3)
set_option maxRecDepth 20000 in
set_option maxHeartbeats 4000000 in
theorem fwd_eq {Mr : MS} {kc hp : Nat} {A : HG} {V0 M0 : MS} (hr : HR Mr kc A hp V0 M0) {X0 : XS} {T0 : Nat → Nat} {X : XS} {T C : Nat → Nat} {n : Nat} {V Vp : MS} (r : RV X0 T0 X T C n V) (h4 : ∀ k, k < A.N → V.1 4 (adH Mr A k + 3) = Vp.1 4 (adH Mr A k + 3)) {x : Int32} (hx : Rx Mr A x) : f_Memory_forwarded x X = some (fwv Vp x) := by
  unfold f_Memory_forwarded fwv
  rcases hx with e | ⟨k, hk, e⟩
  · rw [if_neg (fun q => q e), if_pos e]
  · have bd := hr.bd hk
    have wz := wz4 Mr (A.K k) (A.n k)
    have nz : ¬ x = 0 := by rw [e, o_eqR _ _ (by omega) (by decide)]; show ¬ adH Mr A k = 0; omega
    rw [if_pos nz, if_neg nz, e, o_addR, o_cl _ (by omega)]
    have w := word_eq r (j := adH Mr A k + 3) (by omega)
    have w' : f_Memory_word (Int32.ofNat (adH Mr A k + OfNat.ofNat 3)) X = some (V.1 4 (adH Mr A k + 3)) := w
    rw [w', h4 k hk]
    rfl
set_option maxRecDepth 20000 in
set_option maxHeartbeats 4000000 in
theorem fwdS_ok {Mr : MS} {kc hp : Nat} {A : HG} {V0 M0 : MS} (hr : HR Mr kc A hp V0 M0) {X0 : XS} {T0 : Nat → Nat} {X : XS} {T C : Nat → Nat} {n : Nat} {V Vp : MS} (r : RV X0 T0 X T C n V) (h4 : V.1 4 = Vp.1 4) (h58 : ∀ s, s < 8 → V.1 1058 s = 1) (hx : ∀ s, s < 8 → Rx Mr A (V.1 1057 s)) : ∃ X' V', f_Memory_forwardRow_57_58 8 X = some X' ∧ RV X0 T0 X' T C n V' ∧ (∀ a, a ≠ 1057 → V'.1 a = V.1 a) ∧ ∀ s, s < 8 → V'.1 1057 s = fwv Vp (V.1 1057 s) := by
  have key : ∀ N i X V', RV X0 T0 X T C n V' → i ≤ 8 → 8 - i < N → (∀ a, a ≠ 1057 → V'.1 a = V.1 a) → (∀ s, s < 8 → V'.1 1057 s = if s < i then fwv Vp (V.1 1057 s) else V.1 1057 s) → ∃ z X' V', lp (b3_Memory_forwardRow_57_58 8) N (Int32.ofNat i, X) = some (z, X') ∧ RV X0 T0 X' T C n V' ∧ (∀ a, a ≠ 1057 → V'.1 a = V.1 a) ∧ ∀ s, s < 8 → V'.1 1057 s = fwv Vp (V.1 1057 s) := by
    intro N
    induction N with
    | zero => intro i X V' _ h1 h2; omega
    | succ N ih =>
      intro i X V' r h1 h2 ho hs
      by_cases c : i = 8
      · subst c
        refine ⟨Int32.ofNat 8, X, V', lp_inr ?_, r, ho, fun s h => by rw [hs s h, if_pos h]⟩
        unfold b3_Memory_forwardRow_57_58
        rw [if_pos (show (8 : Int32) ≤ Int32.ofNat 8 by decide)]
      · have c1 : ¬ (8 : Int32) ≤ Int32.ofNat i := by rw [o_leL _ _ (by decide) (by omega)]; show ¬ 8 ≤ i; omega
        have cl : (Int32.ofNat i).toNatClampNeg = i := o_cl _ (by omega)
        have v58 : X.1 58 i = 1 := by rw [r.rf (a := 58) (by unfold Fx; omega), ho _ (by omega)]; exact h58 i (by omega)
        have v57 : X.1 57 i = V.1 1057 i := by
          rw [r.rf (a := 57) (by unfold Fx; omega)]
          exact (hs i (by omega)).trans (if_neg (by omega))
        have fw := fwd_eq hr r (Vp := Vp) (fun k hk => by rw [ho 4 (by omega), h4]) (hx i (by omega))
        have st : b3_Memory_forwardRow_57_58 8 (Int32.ofNat i, X) = some (.inl (Int32.ofNat (i + 1), xw X 57 i (fwv Vp (V.1 1057 i)))) := by
          unfold b3_Memory_forwardRow_57_58
          rw [if_neg c1, if_neg c1, if_pos (ixl (show i < 8 by omega) (by omega))]
          dsimp only
          rw [cl, v58, if_neg (by decide), v57, fw, Option.bind_some, o_addR]
        rw [lp_inl st]
        refine ih (i + 1) _ _ (r.f (a := 57) (by unfold Fx; omega) i _) (by omega) (by omega) (fun a ha => by rw [mwr _ _ _ (by omega)]; exact ho a ha) (fun s hs' => ?_)
        by_cases e : s = i
        · subst e; rw [mw1, if_pos ⟨rfl, rfl⟩, if_pos (by omega)]
        · rw [mwi _ _ _ e, hs s hs']
          by_cases d : s < i
          · rw [if_pos d, if_pos (by omega)]
          · rw [if_neg d, if_neg (by omega)]
  obtain ⟨z, X', V', e1, e2, e3, e4⟩ := key 10000 0 X V r (by omega) (by omega) (fun _ _ => rfl) (fun s _ => by rw [if_neg (by omega)])
  refine ⟨X', V', ?_, e2, e3, e4⟩
  unfold f_Memory_forwardRow_57_58
  have e1' : lp (b3_Memory_forwardRow_57_58 8) 10000 ((0 : Int32), X) = some (z, X') := e1
  rw [e1']
  rfl
set_option maxRecDepth 20000 in
set_option maxHeartbeats 4000000 in
theorem fwdT_ok {Mr : MS} {kc hp : Nat} {A : HG} {V0 M0 : MS} (hr : HR Mr kc A hp V0 M0) {X0 : XS} {T0 : Nat → Nat} {X : XS} {T C : Nat → Nat} {n : Nat} {V Vp : MS} (r : RV X0 T0 X T C n V) (h4 : V.1 4 = Vp.1 4) {t z : Nat} (ht : t < n) (hz : z ≤ 440) (hx : ∀ s, s < z → ¬ V.1 (606 + 16 * t) s = 0 → Rx Mr A (V.1 (605 + 16 * t) s)) : ∃ X' V', f_Memory_forwardRow (C (605 + 16 * t)) (C (606 + 16 * t)) (Int32.ofNat z) X = some X' ∧ RV X0 T0 X' T C n V' ∧ (∀ a, a ≠ 605 + 16 * t → V'.1 a = V.1 a) ∧ ∀ s, V'.1 (605 + 16 * t) s = if s < z ∧ ¬ V.1 (606 + 16 * t) s = 0 then fwv Vp (V.1 (605 + 16 * t) s) else V.1 (605 + 16 * t) s := by
  have n6 := r.no.1
  have l5 : Lv n (605 + 16 * t) := Lv_s (f := 5) ht (by omega)
  have l6 : Lv n (606 + 16 * t) := Lv_s (f := 6) ht (by omega)
  have key : ∀ N i X V', RV X0 T0 X T C n V' → i ≤ z → z - i < N → (∀ a, a ≠ 605 + 16 * t → V'.1 a = V.1 a) → (∀ s, V'.1 (605 + 16 * t) s = if s < i ∧ ¬ V.1 (606 + 16 * t) s = 0 then fwv Vp (V.1 (605 + 16 * t) s) else V.1 (605 + 16 * t) s) → ∃ y X' V', lp (b3_Memory_forwardRow (C (605 + 16 * t)) (C (606 + 16 * t)) (Int32.ofNat z)) N (Int32.ofNat i, X) = some (y, X') ∧ RV X0 T0 X' T C n V' ∧ (∀ a, a ≠ 605 + 16 * t → V'.1 a = V.1 a) ∧ ∀ s, V'.1 (605 + 16 * t) s = if s < z ∧ ¬ V.1 (606 + 16 * t) s = 0 then fwv Vp (V.1 (605 + 16 * t) s) else V.1 (605 + 16 * t) s := by
    intro N
    induction N with
    | zero => intro i X V' _ h1 h2; omega
    | succ N ih =>
      intro i X V' r h1 h2 ho hs
      have st := r.st t ht
      by_cases c : i = z
      · subst c
        refine ⟨Int32.ofNat i, X, V', lp_inr ?_, r, ho, hs⟩
        unfold b3_Memory_forwardRow
        rw [if_pos (Int32.le_refl _)]
      · have c1 : ¬ Int32.ofNat z ≤ Int32.ofNat i := by rw [o_le _ _ (by omega) (by omega)]; omega
        have c2 : ¬ Int32.ofNat 440 ≤ Int32.ofNat i := by rw [o_le _ _ (by omega) (by omega)]; omega
        have ix : ixo (Int32.ofNat i) 440 := ixl (by omega) (by omega)
        have cl : (Int32.ofNat i).toNatClampNeg = i := o_cl _ (by omega)
        have v6 : X.1 (C (606 + 16 * t)) i = V.1 (606 + 16 * t) i := by rw [r.rd l6, ho _ (by omega)]
        have v5 : X.1 (C (605 + 16 * t)) i = V.1 (605 + 16 * t) i := by rw [r.rd l5, hs, if_neg (by omega)]
        by_cases c0 : V.1 (606 + 16 * t) i = 0
        · have stp : b3_Memory_forwardRow (C (605 + 16 * t)) (C (606 + 16 * t)) (Int32.ofNat z) (Int32.ofNat i, X) = some (.inl (Int32.ofNat (i + 1), X)) := by
            unfold b3_Memory_forwardRow
            refine (if_neg c1).trans ((Ez st.l5).trans ((if_neg c2).trans ((Ez st.l6).trans ((if_neg c2).trans ((if_pos ix).trans ?_)))))
            simp only [cl]
            rw [v6, if_pos c0, o_addR]
          rw [lp_inl stp]
          refine ih (i + 1) X V' r (by omega) (by omega) ho (fun s => ?_)
          rw [hs]
          by_cases e : s = i
          · subst e; rw [if_neg (fun w => w.2 c0), if_neg (fun w => w.2 c0)]
          · by_cases d : s < i ∧ ¬ V.1 (606 + 16 * t) s = 0
            · rw [if_pos d, if_pos ⟨by omega, d.2⟩]
            · rw [if_neg d, if_neg (fun w => d ⟨by omega, w.2⟩)]
        · have fw := fwd_eq hr r (Vp := Vp) (fun k hk => by rw [ho 4 (by omega), h4]) (hx i (by omega) c0)
          have stp : b3_Memory_forwardRow (C (605 + 16 * t)) (C (606 + 16 * t)) (Int32.ofNat z) (Int32.ofNat i, X) = some (.inl (Int32.ofNat (i + 1), xw X (C (605 + 16 * t)) i (fwv Vp (V.1 (605 + 16 * t) i)))) := by
            unfold b3_Memory_forwardRow
            refine (if_neg c1).trans ((Ez st.l5).trans ((if_neg c2).trans ((Ez st.l6).trans ((if_neg c2).trans ((if_pos ix).trans ?_)))))
            simp only [cl]
            rw [v6, if_neg c0, if_pos ix, v5, fw, Option.bind_some, o_addR]
          rw [lp_inl stp]
          refine ih (i + 1) _ _ (r.w l5 i _) (by omega) (by omega) (fun a ha => by rw [mwr _ _ _ ha]; exact ho a ha) (fun s => ?_)
          by_cases e : s = i
          · subst e; rw [mw1, if_pos ⟨rfl, rfl⟩, if_pos ⟨by omega, c0⟩]
          · rw [mwi _ _ _ e, hs]
            by_cases d : s < i ∧ ¬ V.1 (606 + 16 * t) s = 0
            · rw [if_pos d, if_pos ⟨by omega, d.2⟩]
            · rw [if_neg d, if_neg (fun w => d ⟨by omega, w.2⟩)]
  obtain ⟨y, X', V', e1, e2, e3, e4⟩ := key 10000 0 X V r (by omega) (by omega) (fun _ _ => rfl) (fun s => by rw [if_neg (by omega)])
  refine ⟨X', V', ?_, e2, e3, e4⟩
  unfold f_Memory_forwardRow
  have e1' : lp (b3_Memory_forwardRow (C (605 + 16 * t)) (C (606 + 16 * t)) (Int32.ofNat z)) 10000 ((0 : Int32), X) = some (y, X') := e1
  rw [e1']
  rfl
set_option maxRecDepth 20000 in
set_option maxHeartbeats 4000000 in
theorem fwdTs_ok {Mr : MS} {kc hp : Nat} {A : HG} {V0 M0 : MS} (hr : HR Mr kc A hp V0 M0) {X0 : XS} {T0 : Nat → Nat} {X : XS} {T C : Nat → Nat} {n nb : Nat} {V Vp : MS} (r : RV X0 T0 X T C n V) (h4 : V.1 4 = Vp.1 4) (hn : nb ≤ n) (e40 : V.1 1040 2 = Int32.ofNat nb) (hd : ∀ t, t < nb → dep V t ≤ 20 ∧ V.1 (600 + 16 * t) 2 = Int32.ofNat (dep V t)) (hx : ∀ t, t < nb → ∀ s, s < 22 * dep V t → ¬ V.1 (606 + 16 * t) s = 0 → Rx Mr A (V.1 (605 + 16 * t) s)) : ∃ z X' V', lp (b106_Engine_collect) 10000 ((0 : Int32), X) = some (z, X') ∧ RV X0 T0 X' T C n V' ∧ (∀ a, (∀ t, t < nb → a ≠ 605 + 16 * t) → V'.1 a = V.1 a) ∧ ∀ t, t < nb → ∀ s, V'.1 (605 + 16 * t) s = if s < 22 * dep V t ∧ ¬ V.1 (606 + 16 * t) s = 0 then fwv Vp (V.1 (605 + 16 * t) s) else V.1 (605 + 16 * t) s := by
  have n6 := r.no.1
  have key : ∀ N t X V', RV X0 T0 X T C n V' → t ≤ nb → nb - t < N → (∀ a, (∀ u, u < t → a ≠ 605 + 16 * u) → V'.1 a = V.1 a) → (∀ u, u < t → ∀ s, V'.1 (605 + 16 * u) s = if s < 22 * dep V u ∧ ¬ V.1 (606 + 16 * u) s = 0 then fwv Vp (V.1 (605 + 16 * u) s) else V.1 (605 + 16 * u) s) → ∃ z X' V', lp (b106_Engine_collect) N (Int32.ofNat t, X) = some (z, X') ∧ RV X0 T0 X' T C n V' ∧ (∀ a, (∀ t, t < nb → a ≠ 605 + 16 * t) → V'.1 a = V.1 a) ∧ ∀ t, t < nb → ∀ s, V'.1 (605 + 16 * t) s = if s < 22 * dep V t ∧ ¬ V.1 (606 + 16 * t) s = 0 then fwv Vp (V.1 (605 + 16 * t) s) else V.1 (605 + 16 * t) s := by
    intro N
    induction N with
    | zero => intro t X V' _ h1 h2; omega
    | succ N ih =>
      intro t X V' r h1 h2 ho hs
      have e2 : X.1 40 2 = Int32.ofNat nb := by rw [r.rf (a := 40) (by unfold Fx; omega), ho _ (fun u hu => by omega)]; exact e40
      by_cases c : t = nb
      · subst c
        refine ⟨Int32.ofNat t, X, V', lp_inr ?_, r, ho, hs⟩
        unfold b106_Engine_collect
        by_cases c6 : (6 : Int32) ≤ Int32.ofNat t
        · rw [if_pos c6]
        · have ns : ¬ f_Engine_isStrand (Int32.ofNat t) X = true := by
            unfold f_Engine_isStrand
            rw [if_neg (by rw [o_lt0 _ (by omega)]; exact fun z => z), e2, if_pos (Int32.le_refl _)]
            decide
          rw [if_neg c6]
          dsimp only
          rw [if_neg ns]
      · have ht : t < n := by omega
        have c6 : ¬ (6 : Int32) ≤ Int32.ofNat t := by rw [o_leL _ _ (by decide) (by omega)]; show ¬ 6 ≤ t; omega
        have st := r.st t ht
        have cl : (Int32.ofNat t).toNatClampNeg = t := o_cl _ (by omega)
        have is : f_Engine_isStrand (Int32.ofNat t) X = true := by
          unfold f_Engine_isStrand
          rw [if_neg (by rw [o_lt0 _ (by omega)]; exact fun z => z), e2, if_neg (by rw [o_le _ _ (by omega) (by omega)]; omega), if_neg c6, cl]
          exact Ez st.r
        obtain ⟨d1, d2⟩ := hd t (by omega)
        have rowo : ∀ j, j ≠ 5 → j < 16 → V'.1 (600 + j + 16 * t) = V.1 (600 + j + 16 * t) := fun j h1 h2 => ho _ (fun u hu => by omega)
        have row0 : V'.1 (600 + 16 * t) = V.1 (600 + 16 * t) := rowo 0 (by omega) (by omega)
        have row6 : V'.1 (606 + 16 * t) = V.1 (606 + 16 * t) := rowo 6 (by omega) (by omega)
        have row5 : V'.1 (605 + 16 * t) = V.1 (605 + 16 * t) := ho _ (fun u hu => by omega)
        have sl : f_Strand_slots (C (600 + 16 * t)) X = some (Int32.ofNat (22 * dep V t)) := by
          unfold f_Strand_slots
          rw [if_pos st.x, r.rd (Lv_s (f := 0) ht (by omega) : Lv n (600 + 16 * t)), row0, d2, o_mulR, Nat.mul_comm]
        obtain ⟨X1, V1, e1, e3, e4, e5⟩ := fwdT_ok hr r (Vp := Vp) (by rw [ho 4 (fun u hu => by omega)]; exact h4) ht (z := 22 * dep V t) (by omega) (by rw [row6, row5]; exact hx t (by omega))
        rw [row6, row5] at e5
        have stp : b106_Engine_collect (Int32.ofNat t, X) = some (.inl (Int32.ofNat (t + 1), X1)) := by
          unfold b106_Engine_collect
          rw [if_neg c6]
          dsimp only
          rw [if_pos is, cl]
          refine (Ez st.r).trans ((if_pos st.x).trans ((Ez st.r5).trans ((Ez st.r).trans ((if_pos st.x).trans ((Ez st.r6).trans ((Ez st.r).trans ((if_pos st.x).trans ?_)))))))
          rw [sl, Option.bind_some, e1, Option.bind_some, o_addR]
        rw [lp_inl stp]
        refine ih (t + 1) X1 V1 e3 (by omega) (by omega) (fun a ha => ?_) (fun u hu s => ?_)
        · rw [e4 a (ha t (by omega))]
          exact ho a (fun u hu => ha u (by omega))
        · by_cases e : u = t
          · subst e; exact e5 s
          · rw [e4 _ (by omega)]
            exact hs u (by omega) s
  exact key 10000 0 X V r (by omega) (by omega) (fun _ _ => rfl) (fun u hu => by omega)
