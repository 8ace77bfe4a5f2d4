/-! R3 -/
def MXS (Mr : MS) (A : HG) (V0 : MS) (S : Nat → Prop) (V : MS) : Prop := ∃ c q, MX Mr A V0 c q V ∧ ∀ k, inq c q k ↔ S k
theorem MXS.congr {Mr : MS} {A : HG} {V0 V : MS} {S S' : Nat → Prop} (m : MXS Mr A V0 S V) (h : ∀ k, S k ↔ S' k) : MXS Mr A V0 S' V := by
  obtain ⟨c, q, a, b⟩ := m
  exact ⟨c, q, a, fun k => (b k).trans (h k)⟩
set_option maxRecDepth 20000 in
set_option maxHeartbeats 4000000 in
theorem mark_s {Mr : MS} {kc hp : Nat} {A : HG} {V0 M0 : MS} (hr : HR Mr kc A hp V0 M0) {X0 : XS} {T0 : Nat → Nat} {X : XS} {T C : Nat → Nat} {n : Nat} {V : MS} (r : RV X0 T0 X T C n V) {S : Nat → Prop} (m : MXS Mr A V0 S V) {x : Int32} (hx : x = 0 ∨ ∃ k, k < A.N ∧ x = Int32.ofNat (adH Mr A k)) : ∃ X' V', f_Memory_mark x X = some X' ∧ RV X0 T0 X' T C n V' ∧ MXS Mr A V0 (fun k => S k ∨ (k < A.N ∧ x = Int32.ofNat (adH Mr A k))) V' := by
  obtain ⟨c, q, a, b⟩ := m
  obtain ⟨X', V', c', q', e1, e2, e3, _, _, e4⟩ := mark_ok hr r a hx
  exact ⟨X', V', e1, e2, c', q', e3, fun k => (e4 k).trans (or_congr (b k) Iff.rfl)⟩
/-- what is known of a reference of the class -/
def Rx (Mr : MS) (A : HG) (x : Int32) : Prop := x = 0 ∨ ∃ k, k < A.N ∧ x = Int32.ofNat (adH Mr A k)
set_option maxRecDepth 20000 in
set_option maxHeartbeats 4000000 in
theorem RefR.rx {Mr : MS} {A : HG} {x v : Int32} (r : RefR Mr A x v) : Rx Mr A x := by
  rcases r with z | ⟨k, hk, a, b⟩
  · exact Or.inl z.1
  · exact Or.inr ⟨k, hk, a⟩
set_option maxRecDepth 20000 in
set_option maxHeartbeats 4000000 in
theorem markS_ok {Mr : MS} {kc hp : Nat} {A : HG} {V0 M0 : MS} (hr : HR Mr kc A hp V0 M0) {X0 : XS} {T0 : Nat → Nat} {X : XS} {T C : Nat → Nat} {n : Nat} {V : MS} (r : RV X0 T0 X T C n V) {S : Nat → Prop} (m : MXS Mr A V0 S V) (h58 : ∀ s, s < 8 → V0.1 1058 s = 1) (hx : ∀ s, s < 8 → Rx Mr A (V0.1 1057 s)) : ∃ X' V', f_Memory_markRow_57_58 8 X = some X' ∧ RV X0 T0 X' T C n V' ∧ MXS Mr A V0 (fun k => S k ∨ (k < A.N ∧ ∃ s, s < 8 ∧ V0.1 1057 s = Int32.ofNat (adH Mr A k))) V' := by
  have key : ∀ N i X V, RV X0 T0 X T C n V → i ≤ 8 → 8 - i < N → MXS Mr A V0 (fun k => S k ∨ (k < A.N ∧ ∃ s, s < i ∧ V0.1 1057 s = Int32.ofNat (adH Mr A k))) V → ∃ z X' V', lp (b3_Memory_markRow_57_58 8) N (Int32.ofNat i, X) = some (z, X') ∧ RV X0 T0 X' T C n V' ∧ MXS Mr A V0 (fun k => S k ∨ (k < A.N ∧ ∃ s, s < 8 ∧ V0.1 1057 s = Int32.ofNat (adH Mr A k))) V' := by
    intro N
    induction N with
    | zero => intro i X V _ h1 h2; omega
    | succ N ih =>
      intro i X V r h1 h2 m
      by_cases c : i = 8
      · subst c
        refine ⟨Int32.ofNat 8, X, V, lp_inr ?_, r, m⟩
        unfold b3_Memory_markRow_57_58
        rw [if_pos (show (8 : Int32) ≤ Int32.ofNat 8 by decide)]
      · have c1 : ¬ (8 : Int32) ≤ Int32.ofNat i := by rw [o_leL _ _ (by decide) (by omega)]; show ¬ 8 ≤ i; omega
        have cl : (Int32.ofNat i).toNatClampNeg = i := o_cl _ (by omega)
        have mm := m
        obtain ⟨cc, q, mx, _⟩ := mm
        have v58 : X.1 58 i = 1 := by rw [r.rf (a := 58) (by unfold Fx; omega), mx.ot _ (by omega) (by omega) (by omega)]; exact h58 i (by omega)
        have v57 : X.1 57 i = V0.1 1057 i := by rw [r.rf (a := 57) (by unfold Fx; omega), mx.ot _ (by omega) (by omega) (by omega)]
        obtain ⟨X', V', e1, e2, e3⟩ := mark_s hr r m (x := V0.1 1057 i) (hx i (by omega))
        have st : b3_Memory_markRow_57_58 8 (Int32.ofNat i, X) = some (.inl (Int32.ofNat (i + 1), X')) := by
          unfold b3_Memory_markRow_57_58
          rw [if_neg c1, if_neg c1, if_pos (ixl (show i < 8 by omega) (by omega))]
          dsimp only
          rw [cl, v58, if_neg (by decide), v57, e1, Option.bind_some, o_addR]
        rw [lp_inl st]
        refine ih (i + 1) X' V' e2 (by omega) (by omega) (e3.congr (fun k => ?_))
        constructor
        · intro z
          rcases z with (z | ⟨a, s, b, d⟩) | ⟨a, b⟩
          · exact Or.inl z
          · exact Or.inr ⟨a, s, by omega, d⟩
          · exact Or.inr ⟨a, i, by omega, b⟩
        · intro z
          rcases z with z | ⟨a, s, b, d⟩
          · exact Or.inl (Or.inl z)
          · by_cases e : s = i
            · subst e; exact Or.inr ⟨a, d⟩
            · exact Or.inl (Or.inr ⟨a, s, by omega, d⟩)
  obtain ⟨z, X', V', e1, e2, e3⟩ := key 10000 0 X V r (by omega) (by omega) (m.congr (fun k => ⟨Or.inl, fun z => by
    rcases z with z | ⟨_, s, b, _⟩
    · exact z
    · omega⟩))
  refine ⟨X', V', ?_, e2, e3⟩
  unfold f_Memory_markRow_57_58
  have e1' : lp (b3_Memory_markRow_57_58 8) 10000 ((0 : Int32), X) = some (z, X') := e1
  rw [e1']
  rfl
/-- what a thread's slots lead to -/
def Rt (Mr : MS) (A : HG) (V0 : MS) (t z k : Nat) : Prop := k < A.N ∧ ∃ s, s < z ∧ ¬ V0.1 (606 + 16 * t) s = 0 ∧ V0.1 (605 + 16 * t) s = Int32.ofNat (adH Mr A k)
set_option maxRecDepth 20000 in
set_option maxHeartbeats 4000000 in
theorem markT_ok {Mr : MS} {kc hp : Nat} {A : HG} {V0 M0 : MS} (hr : HR Mr kc A hp V0 M0) {X0 : XS} {T0 : Nat → Nat} {X : XS} {T C : Nat → Nat} {n : Nat} {V : MS} (r : RV X0 T0 X T C n V) {S : Nat → Prop} (m : MXS Mr A V0 S V) {t z : Nat} (ht : t < n) (hz : z ≤ 440) (hx : ∀ s, s < z → ¬ V0.1 (606 + 16 * t) s = 0 → Rx Mr A (V0.1 (605 + 16 * t) s)) : ∃ X' V', f_Memory_markRow (C (605 + 16 * t)) (C (606 + 16 * t)) (Int32.ofNat z) X = some X' ∧ RV X0 T0 X' T C n V' ∧ MXS Mr A V0 (fun k => S k ∨ Rt Mr A V0 t z k) V' := by
  have n6 := r.no.1
  have l5 : Lv n (605 + 16 * t) := Lv_s (f := 5) ht (by omega)
  have l6 : Lv n (606 + 16 * t) := Lv_s (f := 6) ht (by omega)
  have key : ∀ N i X V, RV X0 T0 X T C n V → i ≤ z → z - i < N → MXS Mr A V0 (fun k => S k ∨ Rt Mr A V0 t i k) V → ∃ y X' V', lp (b3_Memory_markRow (C (605 + 16 * t)) (C (606 + 16 * t)) (Int32.ofNat z)) N (Int32.ofNat i, X) = some (y, X') ∧ RV X0 T0 X' T C n V' ∧ MXS Mr A V0 (fun k => S k ∨ Rt Mr A V0 t z k) V' := by
    intro N
    induction N with
    | zero => intro i X V _ h1 h2; omega
    | succ N ih =>
      intro i X V r h1 h2 m
      have st := r.st t ht
      by_cases c : i = z
      · subst c
        refine ⟨Int32.ofNat i, X, V, lp_inr ?_, r, m⟩
        unfold b3_Memory_markRow
        rw [if_pos (Int32.le_refl _)]
      · have c1 : ¬ Int32.ofNat z ≤ Int32.ofNat i := by rw [o_le _ _ (by omega) (by omega)]; omega
        have c2 : ¬ Int32.ofNat 440 ≤ Int32.ofNat i := by rw [o_le _ _ (by omega) (by omega)]; omega
        have ix : ixo (Int32.ofNat i) 440 := ixl (by omega) (by omega)
        have cl : (Int32.ofNat i).toNatClampNeg = i := o_cl _ (by omega)
        have mm := m
        obtain ⟨cc, q, mx, _⟩ := mm
        have v6 : X.1 (C (606 + 16 * t)) i = V0.1 (606 + 16 * t) i := by rw [r.rd l6, mx.ot _ (by omega) (by omega) (by omega)]
        have v5 : X.1 (C (605 + 16 * t)) i = V0.1 (605 + 16 * t) i := by rw [r.rd l5, mx.ot _ (by omega) (by omega) (by omega)]
        by_cases c0 : V0.1 (606 + 16 * t) i = 0
        · have stp : b3_Memory_markRow (C (605 + 16 * t)) (C (606 + 16 * t)) (Int32.ofNat z) (Int32.ofNat i, X) = some (.inl (Int32.ofNat (i + 1), X)) := by
            unfold b3_Memory_markRow
            refine (if_neg c1).trans ((Ez st.l5).trans ((if_neg c2).trans ((Ez st.l6).trans ((if_neg c2).trans ((if_pos ix).trans ?_)))))
            simp only [cl]
            rw [v6, if_pos c0, o_addR]
          rw [lp_inl stp]
          refine ih (i + 1) X V r (by omega) (by omega) (m.congr (fun k => ?_))
          constructor
          · intro z'
            rcases z' with z' | ⟨a, s, b, d⟩
            · exact Or.inl z'
            · exact Or.inr ⟨a, s, by omega, d⟩
          · intro z'
            rcases z' with z' | ⟨a, s, b, d, e⟩
            · exact Or.inl z'
            · by_cases es : s = i
              · subst es; exact absurd c0 d
              · exact Or.inr ⟨a, s, by omega, d, e⟩
        · obtain ⟨X', V', e1, e2, e3⟩ := mark_s hr r m (x := V0.1 (605 + 16 * t) i) (hx i (by omega) c0)
          have stp : b3_Memory_markRow (C (605 + 16 * t)) (C (606 + 16 * t)) (Int32.ofNat z) (Int32.ofNat i, X) = some (.inl (Int32.ofNat (i + 1), X')) := by
            unfold b3_Memory_markRow
            refine (if_neg c1).trans ((Ez st.l5).trans ((if_neg c2).trans ((Ez st.l6).trans ((if_neg c2).trans ((if_pos ix).trans ?_)))))
            simp only [cl]
            rw [v6, if_neg c0, if_pos ix, v5, e1, Option.bind_some, o_addR]
          rw [lp_inl stp]
          refine ih (i + 1) X' V' e2 (by omega) (by omega) (e3.congr (fun k => ?_))
          constructor
          · intro z'
            rcases z' with (z' | ⟨a, s, b, d⟩) | ⟨a, b⟩
            · exact Or.inl z'
            · exact Or.inr ⟨a, s, by omega, d⟩
            · exact Or.inr ⟨a, i, by omega, c0, b⟩
          · intro z'
            rcases z' with z' | ⟨a, s, b, d, e⟩
            · exact Or.inl (Or.inl z')
            · by_cases es : s = i
              · subst es; exact Or.inr ⟨a, e⟩
              · exact Or.inl (Or.inr ⟨a, s, by omega, d, e⟩)
  obtain ⟨y, X', V', e1, e2, e3⟩ := key 10000 0 X V r (by omega) (by omega) (m.congr (fun k => ⟨Or.inl, fun z => by
    rcases z with z | ⟨_, s, b, _⟩
    · exact z
    · omega⟩))
  refine ⟨X', V', ?_, e2, e3⟩
  unfold f_Memory_markRow
  have e1' : lp (b3_Memory_markRow (C (605 + 16 * t)) (C (606 + 16 * t)) (Int32.ofNat z)) 10000 ((0 : Int32), X) = some (y, X') := e1
  rw [e1']
  rfl
/-- how deep a thread is, on the side of the class -/
def dep (V0 : MS) (t : Nat) : Nat := (V0.1 (600 + 16 * t) 2).toNatClampNeg
set_option maxRecDepth 20000 in
set_option maxHeartbeats 4000000 in
theorem markTs_ok {Mr : MS} {kc hp : Nat} {A : HG} {V0 M0 : MS} (hr : HR Mr kc A hp V0 M0) {X0 : XS} {T0 : Nat → Nat} {X : XS} {T C : Nat → Nat} {n nb : Nat} {V : MS} (r : RV X0 T0 X T C n V) {S : Nat → Prop} (m : MXS Mr A V0 S V) (hn : nb ≤ n) (e40 : V0.1 1040 2 = Int32.ofNat nb) (hd : ∀ t, t < nb → dep V0 t ≤ 20 ∧ V0.1 (600 + 16 * t) 2 = Int32.ofNat (dep V0 t)) (hx : ∀ t, t < nb → ∀ s, s < 22 * dep V0 t → ¬ V0.1 (606 + 16 * t) s = 0 → Rx Mr A (V0.1 (605 + 16 * t) s)) : ∃ z X' V', lp (b26_Engine_collect) 10000 ((0 : Int32), X) = some (z, X') ∧ RV X0 T0 X' T C n V' ∧ MXS Mr A V0 (fun k => S k ∨ ∃ t, t < nb ∧ Rt Mr A V0 t (22 * dep V0 t) k) V' := by
  have n6 := r.no.1
  have key : ∀ N t X V, RV X0 T0 X T C n V → t ≤ nb → nb - t < N → MXS Mr A V0 (fun k => S k ∨ ∃ u, u < t ∧ Rt Mr A V0 u (22 * dep V0 u) k) V → ∃ z X' V', lp (b26_Engine_collect) N (Int32.ofNat t, X) = some (z, X') ∧ RV X0 T0 X' T C n V' ∧ MXS Mr A V0 (fun k => S k ∨ ∃ u, u < nb ∧ Rt Mr A V0 u (22 * dep V0 u) k) V' := by
    intro N
    induction N with
    | zero => intro t X V _ h1 h2; omega
    | succ N ih =>
      intro t X V r h1 h2 m
      have mm := m
      obtain ⟨cc, q, mx, _⟩ := mm
      have e2 : X.1 40 2 = Int32.ofNat nb := by rw [r.rf (a := 40) (by unfold Fx; omega), mx.ot _ (by omega) (by omega) (by omega)]; exact e40
      by_cases c : t = nb
      · subst c
        refine ⟨Int32.ofNat t, X, V, lp_inr ?_, r, m⟩
        unfold b26_Engine_collect
        by_cases c6 : (6 : Int32) ≤ Int32.ofNat t
        · rw [if_pos c6]
        · have ns : ¬ f_Engine_isStrand (Int32.ofNat t) X = true := by
            unfold f_Engine_isStrand
            rw [if_neg (by rw [o_lt0 _ (by omega)]; exact fun z => z), e2, if_pos (Int32.le_refl _)]
            decide
          rw [if_neg c6]
          dsimp only
          rw [if_neg ns]
      · have ht : t < n := by omega
        have c6 : ¬ (6 : Int32) ≤ Int32.ofNat t := by rw [o_leL _ _ (by decide) (by omega)]; show ¬ 6 ≤ t; omega
        have st := r.st t ht
        have cl : (Int32.ofNat t).toNatClampNeg = t := o_cl _ (by omega)
        have is : f_Engine_isStrand (Int32.ofNat t) X = true := by
          unfold f_Engine_isStrand
          rw [if_neg (by rw [o_lt0 _ (by omega)]; exact fun z => z), e2, if_neg (by rw [o_le _ _ (by omega) (by omega)]; omega), if_neg c6, cl]
          exact Ez st.r
        obtain ⟨d1, d2⟩ := hd t (by omega)
        have sl : f_Strand_slots (C (600 + 16 * t)) X = some (Int32.ofNat (22 * dep V0 t)) := by
          unfold f_Strand_slots
          rw [if_pos st.x, r.rd (Lv_s (f := 0) ht (by omega) : Lv n (600 + 16 * t)), mx.ot _ (by omega) (by omega) (by omega), d2, o_mulR, Nat.mul_comm]
        obtain ⟨X', V', e1, e3, e4⟩ := markT_ok hr r m ht (z := 22 * dep V0 t) (by omega) (hx t (by omega))
        have stp : b26_Engine_collect (Int32.ofNat t, X) = some (.inl (Int32.ofNat (t + 1), X')) := by
          unfold b26_Engine_collect
          rw [if_neg c6]
          dsimp only
          rw [if_pos is, cl]
          refine (Ez st.r).trans ((if_pos st.x).trans ((Ez st.r5).trans ((Ez st.r).trans ((if_pos st.x).trans ((Ez st.r6).trans ((Ez st.r).trans ((if_pos st.x).trans ?_)))))))
          rw [sl, Option.bind_some, e1, Option.bind_some, o_addR]
        rw [lp_inl stp]
        refine ih (t + 1) X' V' e3 (by omega) (by omega) (e4.congr (fun k => ?_))
        constructor
        · intro z
          rcases z with (z | ⟨u, a, b⟩) | z
          · exact Or.inl z
          · exact Or.inr ⟨u, by omega, b⟩
          · exact Or.inr ⟨t, by omega, z⟩
        · intro z
          rcases z with z | ⟨u, a, b⟩
          · exact Or.inl (Or.inl z)
          · by_cases e : u = t
            · subst e; exact Or.inr b
            · exact Or.inl (Or.inr ⟨u, by omega, b⟩)
  exact key 10000 0 X V r (by omega) (by omega) (m.congr (fun k => ⟨Or.inl, fun z => by
    rcases z with z | ⟨u, a, _⟩
    · exact z
    · omega⟩))
