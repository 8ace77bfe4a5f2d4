/-! T1 -/
/-- what a frame of the reference leads to -/
def Rf (A : HG) (M0 : MS) (F h k : Nat) : Prop := k < A.N ∧ ∃ s, s < 12 + h ∧ ¬ M0.1 116 (22 * F + s) = 0 ∧ M0.1 115 (22 * F + s) = Int32.ofNat (A.os k)
def hiM (M0 : MS) (F : Nat) : Nat := (M0.1 114 F).toNatClampNeg
def dpM (M0 : MS) (t : Nat) : Nat := (M0.1 109 t).toNatClampNeg
set_option maxRecDepth 20000 in
set_option maxHeartbeats 4000000 in
theorem rootF_ok {Mr : MS} {kc hp : Nat} {A : HG} {V0 Mb : MS} (hr : HR Mr kc A hp V0 Mb) {M0 M Mx : MS} {S : Nat → Prop} (m : MYS A M0 S M) {F : Nat} (hF : F < 120) (hh : hiM M0 F ≤ 10) (eh : M0.1 114 F = Int32.ofNat (hiM M0 F)) (hv : ∀ s, s < 12 + hiM M0 F → ¬ M0.1 116 (22 * F + s) = 0 → Ry A (M0.1 115 (22 * F + s))) : ∃ z M', lp (b102_M_collect (Int32.ofNat F, Mx)) 10000 ((0 : Int32), M) = some (z, M') ∧ MYS A M0 (fun k => S k ∨ Rf A M0 F (hiM M0 F) k) M' := by
  have key : ∀ N i M, i ≤ 12 + hiM M0 F → 12 + hiM M0 F - i < N → MYS A M0 (fun k => S k ∨ (k < A.N ∧ ∃ s, s < i ∧ ¬ M0.1 116 (22 * F + s) = 0 ∧ M0.1 115 (22 * F + s) = Int32.ofNat (A.os k))) M → ∃ z M', lp (b102_M_collect (Int32.ofNat F, Mx)) N (Int32.ofNat i, M) = some (z, M') ∧ MYS A M0 (fun k => S k ∨ Rf A M0 F (hiM M0 F) k) M' := by
    intro N
    induction N with
    | zero => intro i M h1 h2; omega
    | succ N ih =>
      intro i M h1 h2 m
      have mm := m
      obtain ⟨mc, ml, pc, pl, my, _⟩ := mm
      have ixF : ixo (Int32.ofNat F) 120 := ixl hF (by omega)
      have clF : (Int32.ofNat F).toNatClampNeg = F := o_cl _ (by omega)
      have e14 : 12 + M.1 114 F = Int32.ofNat (12 + hiM M0 F) := by rw [my.ot 114 (by omega) (by omega) (by omega), eh, o_addL]
      by_cases c : i = 12 + hiM M0 F
      · subst c
        refine ⟨Int32.ofNat (12 + hiM M0 F), M, lp_inr ?_, m⟩
        unfold b102_M_collect
        dsimp only
        rw [if_pos ixF, clF, e14, if_pos (Int32.le_refl _)]
      · have c1 : ¬ Int32.ofNat (12 + hiM M0 F) ≤ Int32.ofNat i := by rw [o_le _ _ (by omega) (by omega)]; omega
        have ea : 22 * Int32.ofNat F + Int32.ofNat i = Int32.ofNat (22 * F + i) := by rw [o_mulL, o_add]
        have ix : ixo (Int32.ofNat (22 * F + i)) 2640 := ixl (by omega) (by omega)
        have cl : (Int32.ofNat (22 * F + i)).toNatClampNeg = 22 * F + i := o_cl _ (by omega)
        have v6 : M.1 116 (22 * F + i) = M0.1 116 (22 * F + i) := by rw [my.ot 116 (by omega) (by omega) (by omega)]
        have v5 : M.1 115 (22 * F + i) = M0.1 115 (22 * F + i) := by rw [my.ot 115 (by omega) (by omega) (by omega)]
        by_cases c0 : M0.1 116 (22 * F + i) = 0
        · have m0 : f_M_mark 0 M = some M := by unfold f_M_mark; rw [if_pos (by decide)]
          have st : b102_M_collect (Int32.ofNat F, Mx) (Int32.ofNat i, M) = some (.inl (Int32.ofNat (i + 1), M)) := by
            unfold b102_M_collect
            dsimp only
            rw [if_pos ixF, clF, e14, if_neg c1, ea, if_pos ix]
            simp only [cl]
            rw [v6, if_pos c0, m0, Option.bind_some, o_addR]
          rw [lp_inl st]
          refine ih (i + 1) M (by omega) (by omega) (m.congr (fun k => ?_))
          constructor
          · intro z
            rcases z with z | ⟨a, s, b, d⟩
            · exact Or.inl z
            · exact Or.inr ⟨a, s, by omega, d⟩
          · intro z
            rcases z with z | ⟨a, s, b, d, e⟩
            · exact Or.inl z
            · by_cases es : s = i
              · subst es; exact absurd c0 d
              · exact Or.inr ⟨a, s, by omega, d, e⟩
        · obtain ⟨M', e1, e2⟩ := markM_s hr m (v := M0.1 115 (22 * F + i)) (hv i (by omega) c0)
          have st : b102_M_collect (Int32.ofNat F, Mx) (Int32.ofNat i, M) = some (.inl (Int32.ofNat (i + 1), M')) := by
            unfold b102_M_collect
            dsimp only
            rw [if_pos ixF, clF, e14, if_neg c1, ea, if_pos ix]
            simp only [cl]
            rw [v6, if_neg c0, v5, e1, Option.bind_some, o_addR]
          rw [lp_inl st]
          refine ih (i + 1) M' (by omega) (by omega) (e2.congr (fun k => ?_))
          constructor
          · intro z
            rcases z with (z | ⟨a, s, b, d⟩) | ⟨a, b⟩
            · exact Or.inl z
            · exact Or.inr ⟨a, s, by omega, d⟩
            · exact Or.inr ⟨a, i, by omega, c0, b⟩
          · intro z
            rcases z with z | ⟨a, s, b, d, e⟩
            · exact Or.inl (Or.inl z)
            · by_cases es : s = i
              · subst es; exact Or.inr ⟨a, e⟩
              · exact Or.inl (Or.inr ⟨a, s, by omega, d, e⟩)
  exact key 10000 0 M (by omega) (by omega) (m.congr (fun k => ⟨Or.inl, fun z => by
    rcases z with z | ⟨_, s, b, _⟩
    · exact z
    · omega⟩))
/-- what is known of the frames of a thread that lives -/
def Fok (A : HG) (M0 : MS) (t : Nat) : Prop := M0.1 110 t = 0 → dpM M0 t ≤ 20 ∧ M0.1 109 t = Int32.ofNat (dpM M0 t) ∧ ∀ f, f < dpM M0 t → hiM M0 (20 * t + f) ≤ 10 ∧ M0.1 114 (20 * t + f) = Int32.ofNat (hiM M0 (20 * t + f)) ∧ ∀ s, s < 12 + hiM M0 (20 * t + f) → ¬ M0.1 116 (22 * (20 * t + f) + s) = 0 → Ry A (M0.1 115 (22 * (20 * t + f) + s))
def RtM (A : HG) (M0 : MS) (t k : Nat) : Prop := M0.1 110 t = 0 ∧ ∃ f, f < dpM M0 t ∧ Rf A M0 (20 * t + f) (hiM M0 (20 * t + f)) k
set_option maxRecDepth 20000 in
set_option maxHeartbeats 4000000 in
theorem rootTh_ok {Mr : MS} {kc hp : Nat} {A : HG} {V0 Mb : MS} (hr : HR Mr kc A hp V0 Mb) {M0 M Mx : MS} {S : Nat → Prop} (m : MYS A M0 S M) {t : Nat} (ht : t < 6) (fo : Fok A M0 t) : ∃ z M', lp (b76_M_collect (Int32.ofNat t, Mx)) 10000 (20 * Int32.ofNat t, M) = some (z, M') ∧ MYS A M0 (fun k => S k ∨ RtM A M0 t k) M' := by
  have ix6 : ixo (Int32.ofNat t) 6 := ixl ht (by omega)
  have clt : (Int32.ofNat t).toNatClampNeg = t := o_cl _ (by omega)
  by_cases al : M0.1 110 t = 0
  · obtain ⟨d20, e9, fr⟩ := fo al
    have key : ∀ N i M, i ≤ dpM M0 t → dpM M0 t - i < N → MYS A M0 (fun k => S k ∨ ∃ f, f < i ∧ Rf A M0 (20 * t + f) (hiM M0 (20 * t + f)) k) M → ∃ z M', lp (b76_M_collect (Int32.ofNat t, Mx)) N (Int32.ofNat (20 * t + i), M) = some (z, M') ∧ MYS A M0 (fun k => S k ∨ RtM A M0 t k) M' := by
      intro N
      induction N with
      | zero => intro i M h1 h2; omega
      | succ N ih =>
        intro i M h1 h2 m
        have mm := m
        obtain ⟨mc, ml, pc, pl, my, _⟩ := mm
        have a10 : ¬ ¬ M.1 110 t = 0 := fun q => q (by rw [my.ot 110 (by omega) (by omega) (by omega)]; exact al)
        have a9 : 20 * Int32.ofNat t + M.1 109 t = Int32.ofNat (20 * t + dpM M0 t) := by rw [my.ot 109 (by omega) (by omega) (by omega), e9, o_mulL, o_add]
        by_cases c : i = dpM M0 t
        · subst c
          refine ⟨Int32.ofNat (20 * t + dpM M0 t), M, lp_inr ?_, m.congr (fun k => or_congr Iff.rfl ⟨fun ⟨f, a, b⟩ => ⟨al, f, a, b⟩, fun ⟨_, f, a, b⟩ => ⟨f, a, b⟩⟩)⟩
          unfold b76_M_collect
          dsimp only
          rw [if_pos ix6, clt, if_neg a10, a9, if_pos (Int32.le_refl _)]
        · have c1 : ¬ Int32.ofNat (20 * t + dpM M0 t) ≤ Int32.ofNat (20 * t + i) := by rw [o_le _ _ (by omega) (by omega)]; omega
          obtain ⟨f1, f2, f3⟩ := fr i (by omega)
          obtain ⟨z, M', e1, e2⟩ := rootF_ok hr m (Mx := M) (F := 20 * t + i) (by omega) f1 f2 f3
          have st : b76_M_collect (Int32.ofNat t, Mx) (Int32.ofNat (20 * t + i), M) = some (.inl (Int32.ofNat (20 * t + (i + 1)), M')) := by
            unfold b76_M_collect
            dsimp only
            rw [if_pos ix6, clt, if_neg a10, a9, if_neg c1, e1, Option.bind_some, o_addR]
            rfl
          rw [lp_inl st]
          refine ih (i + 1) M' (by omega) (by omega) (e2.congr (fun k => ?_))
          constructor
          · intro z
            rcases z with (z | ⟨f, a, b⟩) | z
            · exact Or.inl z
            · exact Or.inr ⟨f, by omega, b⟩
            · exact Or.inr ⟨i, by omega, z⟩
          · intro z
            rcases z with z | ⟨f, a, b⟩
            · exact Or.inl (Or.inl z)
            · by_cases e : f = i
              · subst e; exact Or.inr b
              · exact Or.inl (Or.inr ⟨f, by omega, b⟩)
    have := key 10000 0 M (by omega) (by omega) (m.congr (fun k => ⟨Or.inl, fun z => by
      rcases z with z | ⟨f, a, _⟩
      · exact z
      · omega⟩))
    rw [Nat.add_zero] at this
    rw [o_mulL]
    exact this
  · have mm := m
    obtain ⟨mc, ml, pc, pl, my, _⟩ := mm
    refine ⟨20 * Int32.ofNat t, M, lp_inr ?_, m.congr (fun k => ⟨Or.inl, fun z => by
      rcases z with z | z
      · exact z
      · exact absurd z.1 al⟩)⟩
    unfold b76_M_collect
    dsimp only
    rw [if_pos ix6, clt, my.ot 110 (by omega) (by omega) (by omega), if_pos al]
set_option maxRecDepth 20000 in
set_option maxHeartbeats 4000000 in
theorem rootTs_ok {Mr : MS} {kc hp : Nat} {A : HG} {V0 Mb : MS} (hr : HR Mr kc A hp V0 Mb) {M0 M : MS} {nb : Nat} {S : Nat → Prop} (m : MYS A M0 S M) (hnb : nb ≤ 6) (e61 : M0.1 60 61 = Int32.ofNat nb) (fo : ∀ t, t < nb → Fok A M0 t) : ∃ z M', lp (b63_M_collect) 10000 ((0 : Int32), M) = some (z, M') ∧ MYS A M0 (fun k => S k ∨ ∃ t, t < nb ∧ RtM A M0 t k) M' := by
  have key : ∀ N t M, t ≤ nb → nb - t < N → MYS A M0 (fun k => S k ∨ ∃ u, u < t ∧ RtM A M0 u k) M → ∃ z M', lp (b63_M_collect) N (Int32.ofNat t, M) = some (z, M') ∧ MYS A M0 (fun k => S k ∨ ∃ t, t < nb ∧ RtM A M0 t k) M' := by
    intro N
    induction N with
    | zero => intro t M h1 h2; omega
    | succ N ih =>
      intro t M h1 h2 m
      have mm := m
      obtain ⟨mc, ml, pc, pl, my, _⟩ := mm
      have e : M.1 60 61 = Int32.ofNat nb := by rw [my.o60 61 (by omega)]; exact e61
      by_cases c : t = nb
      · subst c
        refine ⟨Int32.ofNat t, M, lp_inr ?_, m⟩
        unfold b63_M_collect
        dsimp only
        rw [e, if_pos (Int32.le_refl _)]
      · have c1 : ¬ Int32.ofNat nb ≤ Int32.ofNat t := by rw [o_le _ _ (by omega) (by omega)]; omega
        obtain ⟨z, M', e1, e2⟩ := rootTh_ok hr m (Mx := M) (t := t) (by omega) (fo t (by omega))
        have st : b63_M_collect (Int32.ofNat t, M) = some (.inl (Int32.ofNat (t + 1), M')) := by
          unfold b63_M_collect
          dsimp only
          rw [e, if_neg c1, e1, Option.bind_some, o_addR]
        rw [lp_inl st]
        refine ih (t + 1) M' (by omega) (by omega) (e2.congr (fun k => ?_))
        constructor
        · intro z
          rcases z with (z | ⟨u, a, b⟩) | z
          · exact Or.inl z
          · exact Or.inr ⟨u, by omega, b⟩
          · exact Or.inr ⟨t, by omega, z⟩
        · intro z
          rcases z with z | ⟨u, a, b⟩
          · exact Or.inl (Or.inl z)
          · by_cases e : u = t
            · subst e; exact Or.inr b
            · exact Or.inl (Or.inr ⟨u, by omega, b⟩)
  exact key 10000 0 M (by omega) (by omega) (m.congr (fun k => ⟨Or.inl, fun z => by
    rcases z with z | ⟨u, a, _⟩
    · exact z
    · omega⟩))
/-- an object of the reference holds a reference to another -/
def EdM (Mr : MS) (A : HG) (M0 : MS) (k k' : Nat) : Prop := k' < A.N ∧ ∃ j, j < nrK Mr (A.K k) (A.n k) ∧ M0.1 127 (caH Mr A k + niK Mr (A.K k) (A.n k) + j) = Int32.ofNat (A.os k')
