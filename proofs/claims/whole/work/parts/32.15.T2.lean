/-! T2 -/
/-- what the collection of the reference reads of an object -/
def Cok (Mr : MS) (kc : Nat) (A : HG) (M0 : MS) : Prop := ∀ k, k < A.N → KOk Mr kc (A.K k) (A.n k) ∧ (1 ≤ A.os k ∧ A.os k < 1002) ∧ M0.1 121 (A.os k) = Int32.ofNat (A.K k) ∧ M0.1 122 (A.os k) = Int32.ofNat (A.n k) ∧ M0.1 123 (A.os k) = Int32.ofNat (caH Mr A k) ∧ (A.K k < 10 → M0.1 96 (10 + A.K k) = Int32.ofNat (aI Mr (A.K k)) ∧ M0.1 97 (10 + A.K k) = Int32.ofNat (aF Mr (A.K k)) ∧ aI Mr (A.K k) ≤ 60 ∧ aF Mr (A.K k) ≤ 60)
set_option maxRecDepth 20000 in
set_option maxHeartbeats 4000000 in
theorem cells_M {Mr : MS} {kc : Nat} (hkc : kc ≤ 10) {A : HG} {M0 M : MS} (co : Cok Mr kc A M0) {k : Nat} (hk : k < A.N) (h96 : M.1 96 = M0.1 96) (h97 : M.1 97 = M0.1 97) : f_M_cellsOf (Int32.ofNat (A.K k)) (Int32.ofNat (A.n k)) M = some (Int32.ofNat (czK Mr (A.K k) (A.n k))) ∧ f_M_sizeOf (Int32.ofNat (A.K k)) (Int32.ofNat (A.n k)) M = some (Int32.ofNat (2 * wzK Mr (A.K k) (A.n k))) ∧ czK Mr (A.K k) (A.n k) ≤ 200 := by
  obtain ⟨hK, _, _, _, _, fa⟩ := co k hk
  rcases hK with ⟨z1, z2, z3, z4⟩ | ⟨z1, z2⟩
  · obtain ⟨e96, e97, l1, l2⟩ := fa (by omega)
    have ix : ixo (10 + Int32.ofNat (A.K k)) 20 := by rw [o_addL]; exact ixl (show 10 + A.K k < 20 by omega) (show 10 + A.K k < 2147483648 by omega)
    have cl : (10 + Int32.ofNat (A.K k)).toNatClampNeg = 10 + A.K k := by rw [o_addL]; exact o_cl _ (show 10 + A.K k < 2147483648 by omega)
    have cz : czK Mr (A.K k) (A.n k) = aI Mr (A.K k) + aF Mr (A.K k) := by unfold czK niK nrK; rw [if_pos (by omega), if_pos (by omega)]
    have wz : wzK Mr (A.K k) (A.n k) = 4 + 2 * aI Mr (A.K k) + aF Mr (A.K k) := by unfold wzK hdK niK nrK; rw [if_pos (by omega), if_pos (by omega), if_pos (by omega)]
    unfold f_M_cellsOf f_M_sizeOf
    rw [if_pos (by rw [o_ltR _ _ (by omega) (by decide)]; show A.K k < 10; omega), if_pos ix, if_pos (by rw [o_eqR _ _ (by omega) (by decide)]; show ¬ A.K k = 10; omega), if_pos (by rw [o_eqR _ _ (by omega) (by decide)]; show ¬ A.K k = 11; omega), if_pos ix, cl, h96, h97, e96, e97, o_add, cz, wz, o_mulL, o_addL, o_mulL, o_add]
    refine ⟨rfl, ?_, by omega⟩
    congr 2
    show 8 + 4 * aI Mr (A.K k) + 2 * aF Mr (A.K k) = _
    omega
  · have n10 : ¬ A.K k < 10 := by omega
    have cz : czK Mr (A.K k) (A.n k) = A.n k := by unfold czK niK nrK; rw [if_neg n10, if_neg n10]; split <;> omega
    unfold f_M_cellsOf f_M_sizeOf
    rw [if_neg (by rw [o_ltR _ _ (by omega) (by decide)]; exact n10), cz]
    refine ⟨rfl, ?_, z2⟩
    rcases z1 with e | e
    · have wz : wzK Mr (A.K k) (A.n k) = 5 + 2 * A.n k := by unfold wzK hdK niK nrK; rw [if_neg n10, if_neg n10, if_neg n10, if_pos e, if_pos e, Nat.add_zero]
      rw [if_neg (fun q => q (by rw [e]; rfl)), wz, o_mulL, o_addL]
      congr 2
      show 10 + 4 * A.n k = _
      omega
    · have wz : wzK Mr (A.K k) (A.n k) = 5 + A.n k := by unfold wzK hdK niK nrK; rw [if_neg n10, if_neg n10, if_neg n10, if_neg (by omega), if_neg (by omega)]
      rw [if_pos (by rw [e]; decide), if_neg (fun q => q (by rw [e]; rfl)), wz, o_mulL, o_addL]
      congr 2
      show 10 + 2 * A.n k = _
      omega
set_option maxRecDepth 20000 in
set_option maxHeartbeats 4000000 in
theorem dfs_ok {Mr : MS} {kc hp : Nat} {A : HG} {V0 Mb : MS} (hr : HR Mr kc A hp V0 Mb) (hkc : kc ≤ 10) {M0 M : MS} (co : Cok Mr kc A M0) (hv : ∀ k, k < A.N → ∀ j, j < nrK Mr (A.K k) (A.n k) → Ry A (M0.1 127 (caH Mr A k + niK Mr (A.K k) (A.n k) + j))) {R : Nat → Prop} (m : MYS A M0 R M) : ∃ M' mc ml, lp (b166_M_collect) 10000 M = some M' ∧ (∃ pl, MY A M0 mc ml 0 pl M') ∧ (∀ k, R k → inq mc ml k) ∧ (∀ k k', inq mc ml k → EdM Mr A M0 k k' → inq mc ml k') ∧ ∀ P : Nat → Prop, (∀ k, R k → P k) → (∀ k k', k < A.N → P k → EdM Mr A M0 k k' → P k') → ∀ k, inq mc ml k → P k := by
  have N1 := hr.N1000
  have inner : ∀ N i k (Mx : MS) p0 M mc ml pc pl, k < A.N → p0 < 1002 → Mx.1 60 93 = Int32.ofNat p0 → Mx.1 128 p0 = Int32.ofNat (A.os k) → Mx.1 121 (A.os k) = Int32.ofNat (A.K k) → MY A M0 mc ml pc pl M → i ≤ nrK Mr (A.K k) (A.n k) → nrK Mr (A.K k) (A.n k) - i < N → ∃ z M' mc' ml' pc' pl', lp (b238_M_collect Mx) N (Int32.ofNat (niK Mr (A.K k) (A.n k) + i), M) = some (z, M') ∧ MY A M0 mc' ml' pc' pl' M' ∧ mc ≤ mc' ∧ pc ≤ pc' ∧ pc' + mc = pc + mc' ∧ (∀ j, j < pc → pl' j = pl j) ∧ (∀ k', inq mc' ml' k' ↔ inq mc ml k' ∨ (k' < A.N ∧ ∃ j, i ≤ j ∧ j < nrK Mr (A.K k) (A.n k) ∧ M0.1 127 (caH Mr A k + niK Mr (A.K k) (A.n k) + j) = Int32.ofNat (A.os k'))) ∧ ∀ k', inq mc' ml' k' → inq mc ml k' ∨ inq pc' pl' k' := by
    intro N
    induction N with
    | zero => intro i k Mx p0 M mc ml pc pl _ _ _ _ _ _ h1 h2; omega
    | succ N ih =>
      intro i k Mx p0 M mc ml pc pl hk hp0 e93 e128 e121 my h1 h2
      have bd := hr.bd hk
      obtain ⟨hK, os, _, c122, c123, _⟩ := co k hk
      have ec : czK Mr (A.K k) (A.n k) = niK Mr (A.K k) (A.n k) + nrK Mr (A.K k) (A.n k) := rfl
      have cl0 : (Mx.1 60 93).toNatClampNeg = p0 := by rw [e93]; exact o_cl _ (by omega)
      have ixo' : ixo (Int32.ofNat (A.os k)) 1002 := ixl os.2 (by omega)
      have clo : (Int32.ofNat (A.os k)).toNatClampNeg = A.os k := o_cl _ (by omega)
      have m122 : M.1 122 (A.os k) = Int32.ofNat (A.n k) := by rw [my.ot 122 (by omega) (by omega) (by omega)]; exact c122
      have m123 : M.1 123 (A.os k) = Int32.ofNat (caH Mr A k) := by rw [my.ot 123 (by omega) (by omega) (by omega)]; exact c123
      have ce := (cells_M hkc (M := M) co hk (my.ot 96 (by omega) (by omega) (by omega)) (my.ot 97 (by omega) (by omega) (by omega))).1
      by_cases c : i = nrK Mr (A.K k) (A.n k)
      · refine ⟨Int32.ofNat (niK Mr (A.K k) (A.n k) + i), M, mc, ml, pc, pl, lp_inr ?_, my, Nat.le_refl _, Nat.le_refl _, rfl, fun _ _ => rfl, fun k' => ⟨Or.inl, fun z => ?_⟩, fun k' z => Or.inl z⟩
        · unfold b238_M_collect
          simp only [cl0, e128, clo, e121, m122]
          rw [if_pos ixo', ce, Option.bind_some, if_pos (by rw [o_le _ _ (by omega) (by omega)]; omega)]
        · rcases z with z | ⟨_, j, a, b, _⟩
          · exact z
          · omega
      · have c1 : ¬ Int32.ofNat (czK Mr (A.K k) (A.n k)) ≤ Int32.ofNat (niK Mr (A.K k) (A.n k) + i) := by rw [o_le _ _ (by omega) (by omega)]; omega
        have ry := hv k hk i (by omega)
        obtain ⟨M1, mc1, ml1, pc1, pl1, e1, e2, e3, e4, e5, e6, e7, e8⟩ := markM_ok hr my ry
        have v127 : M.1 127 (caH Mr A k + (niK Mr (A.K k) (A.n k) + i)) = M0.1 127 (caH Mr A k + niK Mr (A.K k) (A.n k) + i) := by
          rw [my.ot 127 (by omega) (by omega) (by omega), Nat.add_assoc]
        have cla : (Int32.ofNat (caH Mr A k + (niK Mr (A.K k) (A.n k) + i))).toNatClampNeg = caH Mr A k + (niK Mr (A.K k) (A.n k) + i) := o_cl _ (by omega)
        have st : b238_M_collect Mx (Int32.ofNat (niK Mr (A.K k) (A.n k) + i), M) = some (.inl (Int32.ofNat (niK Mr (A.K k) (A.n k) + (i + 1)), M1)) := by
          unfold b238_M_collect
          simp only [cl0, e128, clo, e121, m122, m123, o_add, cla, v127]
          rw [if_pos ixo', ce, Option.bind_some, if_neg c1, if_pos (ixl (by omega) (by omega)), e1, Option.bind_some, o_addR]
          rfl
        obtain ⟨z, M', mc', ml', pc', pl', f1, f2, f3, f4, f5, f6, f7, f8⟩ := ih (i + 1) k Mx p0 M1 mc1 ml1 pc1 pl1 hk hp0 e93 e128 e121 e2 (by omega) (by omega)
        rw [lp_inl st]
        refine ⟨z, M', mc', ml', pc', pl', f1, f2, by omega, by omega, by omega, fun j hj => by rw [f6 j (by omega), e6 j hj], fun k' => ?_, fun k' hk' => ?_⟩
        · rw [f7, e7]
          constructor
          · intro z
            rcases z with (z | ⟨a, b⟩) | ⟨a, j, b, d, e⟩
            · exact Or.inl z
            · exact Or.inr ⟨a, i, Nat.le_refl _, by omega, b⟩
            · exact Or.inr ⟨a, j, by omega, d, e⟩
          · intro z
            rcases z with z | ⟨a, j, b, d, e⟩
            · exact Or.inl (Or.inl z)
            · by_cases ej : j = i
              · subst ej; exact Or.inl (Or.inr ⟨a, e⟩)
              · exact Or.inr ⟨a, j, by omega, d, e⟩
        · rcases f8 k' hk' with y | y
          · rcases e8 k' y with w | ⟨j, hj, ej⟩
            · exact Or.inl w
            · exact Or.inr ⟨j, by omega, by rw [f6 j hj]; exact ej⟩
          · exact Or.inr y
  have outer : ∀ N M mc ml pc pl, MY A M0 mc ml pc pl M → 2 * (A.N - mc) + pc < N → (∀ k, R k → inq mc ml k) → (∀ k k', inq mc ml k → EdM Mr A M0 k k' → inq pc pl k ∨ inq mc ml k') → (∀ P : Nat → Prop, (∀ k, R k → P k) → (∀ k k', k < A.N → P k → EdM Mr A M0 k k' → P k') → ∀ k, inq mc ml k → P k) → ∃ M' mc ml, lp (b166_M_collect) N M = some M' ∧ (∃ pl, MY A M0 mc ml 0 pl M') ∧ (∀ k, R k → inq mc ml k) ∧ (∀ k k', inq mc ml k → EdM Mr A M0 k k' → inq mc ml k') ∧ ∀ P : Nat → Prop, (∀ k, R k → P k) → (∀ k k', k < A.N → P k → EdM Mr A M0 k k' → P k') → ∀ k, inq mc ml k → P k := by
    intro N
    induction N with
    | zero => intro M mc ml pc pl _ h; omega
    | succ N ih =>
      intro M mc ml pc pl my h i1 i2 i3
      obtain ⟨b1, b2⟩ := my.c
      by_cases c : pc = 0
      · subst c
        refine ⟨M, mc, ml, lp_inr ?_, ⟨pl, my⟩, i1, fun k k' hk he => ?_, i3⟩
        · unfold b166_M_collect
          rw [my.p93, if_pos (by decide)]
        · rcases i2 k k' hk he with ⟨j, hj, _⟩ | y
          · omega
          · exact y
      · obtain ⟨p, rfl⟩ : ∃ p, pc = p + 1 := ⟨pc - 1, by omega⟩
        obtain ⟨q1, q2⟩ := my.pl1 p (by omega)
        have hk : pl p < A.N := by
          obtain ⟨j, hj, ej⟩ := q1
          rw [← ej]
          exact my.ml1 j hj
        obtain ⟨hK, os, c121, c122, c123, fa⟩ := co (pl p) hk
        have e93 : M.1 60 93 - 1 = Int32.ofNat p := by rw [my.p93, o_subR (p + 1) 1 (show 1 ≤ p + 1 by omega)]; rfl
        have n0 : ¬ M.1 60 93 ≤ 0 := by rw [my.p93, o_leR _ _ (by omega) (by decide)]; show ¬ p + 1 ≤ 0; omega
        have x93 : (mw M 60 93 (Int32.ofNat p)).1 60 93 = Int32.ofNat p := by rw [mw1, if_pos ⟨rfl, rfl⟩]
        have x128 : (mw M 60 93 (Int32.ofNat p)).1 128 p = Int32.ofNat (A.os (pl p)) := by rw [mwr _ _ _ (by omega)]; exact q2
        have x121 : (mw M 60 93 (Int32.ofNat p)).1 121 (A.os (pl p)) = Int32.ofNat (A.K (pl p)) := by rw [mwr _ _ _ (by omega), my.ot 121 (by omega) (by omega) (by omega)]; exact c121
        have x122 : (mw M 60 93 (Int32.ofNat p)).1 122 (A.os (pl p)) = Int32.ofNat (A.n (pl p)) := by rw [mwr _ _ _ (by omega), my.ot 122 (by omega) (by omega) (by omega)]; exact c122
        have my' : MY A M0 mc ml p pl (mw M 60 93 (Int32.ofNat p)) := by
          refine ⟨fun k hk' => by rw [mwr _ _ _ (by omega)]; exact my.mk k hk', my.ml1, my.mli, x93, fun j hj => by rw [mwr _ _ _ (by omega)]; exact my.pl1 j (by omega), fun i j a b => my.pli i j (by omega) (by omega), fun a h1 h2 h3 => by rw [mwr _ _ _ h1]; exact my.ot a h1 h2 h3, fun f hf => by rw [mwi _ _ _ hf]; exact my.o60 f hf, my.d2⟩
        obtain ⟨z, M', mc', ml', pc', pl', f1, f2, f3, f4, f5, f6, f7, f8⟩ := inner 10000 0 (pl p) (mw M 60 93 (Int32.ofNat p)) p (mw M 60 93 (Int32.ofNat p)) mc ml p pl hk (by omega) x93 x128 x121 my' (by omega) (by have := (cells_M hkc (M := M0) co hk rfl rfl).2.2; unfold czK at this; omega)
        have from' : ((if ¬ (mw M 60 93 (Int32.ofNat p)).1 121 (A.os (pl p)) = 10 then (if ¬ (mw M 60 93 (Int32.ofNat p)).1 121 (A.os (pl p)) = 11 then (if ixo (10 + ((mw M 60 93 (Int32.ofNat p)).1 121 (A.os (pl p)))) 20 then some ((mw M 60 93 (Int32.ofNat p)).1 96 (10 + ((mw M 60 93 (Int32.ofNat p)).1 121 (A.os (pl p)))).toNatClampNeg) else none) else some 0) else some ((mw M 60 93 (Int32.ofNat p)).1 122 (A.os (pl p)))) : Option Int32) = some (Int32.ofNat (niK Mr (A.K (pl p)) (A.n (pl p)))) := by
          rw [x121, x122]
          rcases hK with ⟨z1, z2, z3, z4⟩ | ⟨z1, z2⟩
          · have ni : niK Mr (A.K (pl p)) (A.n (pl p)) = aI Mr (A.K (pl p)) := by unfold niK; rw [if_pos (by omega)]
            have ix : ixo (10 + Int32.ofNat (A.K (pl p))) 20 := by rw [o_addL]; exact ixl (show 10 + A.K (pl p) < 20 by omega) (show 10 + A.K (pl p) < 2147483648 by omega)
            have cl : (10 + Int32.ofNat (A.K (pl p))).toNatClampNeg = 10 + A.K (pl p) := by rw [o_addL]; exact o_cl _ (show 10 + A.K (pl p) < 2147483648 by omega)
            rw [if_pos (by rw [o_eqR _ _ (by omega) (by decide)]; show ¬ A.K (pl p) = 10; omega), if_pos (by rw [o_eqR _ _ (by omega) (by decide)]; show ¬ A.K (pl p) = 11; omega), if_pos ix, cl, mwr _ _ _ (show 96 ≠ 60 by omega), my.ot 96 (by omega) (by omega) (by omega), (fa (by omega)).1, ni]
          · have n10 : ¬ A.K (pl p) < 10 := by omega
            rcases z1 with e | e
            · have ni : niK Mr (A.K (pl p)) (A.n (pl p)) = A.n (pl p) := by unfold niK; rw [if_neg n10, if_pos e]
              rw [if_neg (fun w => w (by rw [e]; rfl)), ni]
            · have ni : niK Mr (A.K (pl p)) (A.n (pl p)) = 0 := by unfold niK; rw [if_neg n10, if_neg (by omega)]
              rw [if_pos (by rw [e]; decide), if_neg (fun w => w (by rw [e]; rfl)), ni]
              rfl
        have st : b166_M_collect M = some (.inl M') := by
          unfold b166_M_collect
          rw [if_neg n0]
          dsimp only [lt]
          rw [e93, x93, if_pos (ixl (show p < 1002 by omega) (by omega))]
          have clp : (Int32.ofNat p).toNatClampNeg = p := o_cl _ (by omega)
          have clo : (Int32.ofNat (A.os (pl p))).toNatClampNeg = A.os (pl p) := o_cl _ (by omega)
          simp only [clp, x128, clo]
          rw [if_pos (ixl os.2 (by omega)), from', Option.bind_some]
          have f1' : lp (b238_M_collect (mw M 60 93 (Int32.ofNat p))) 10000 (Int32.ofNat (niK Mr (A.K (pl p)) (A.n (pl p))), mw M 60 93 (Int32.ofNat p)) = some (z, M') := f1
          rw [f1']
          rfl
        rw [lp_inl st]
        refine ih M' mc' ml' pc' pl' f2 (by have := f2.c; omega) (fun k hk' => (f7 k).mpr (Or.inl (i1 k hk'))) ?_ ?_
        · intro k k' hk' he
          by_cases e : k = pl p
          · subst e
            obtain ⟨a, j, b, d⟩ := he
            exact Or.inr ((f7 k').mpr (Or.inr ⟨a, j, by omega, b, d⟩))
          · rcases f8 k hk' with y | y
            · rcases i2 k k' y he with ⟨j, hj, ej⟩ | w
              · have jn : j < p := by
                  rcases Nat.lt_or_ge j p with q | q
                  · exact q
                  · exfalso
                    have : j = p := by omega
                    subst this
                    exact e ej.symm
                exact Or.inl ⟨j, by omega, by rw [f6 j jn]; exact ej⟩
              · exact Or.inr ((f7 k').mpr (Or.inl w))
            · exact Or.inl y
        · intro P p1 p2 k hk'
          rcases (f7 k).mp hk' with y | ⟨a, j, _, b, d⟩
          · exact i3 P p1 p2 k y
          · exact p2 (pl p) k hk (i3 P p1 p2 (pl p) q1) ⟨a, j, b, d⟩
  obtain ⟨mc, ml, pc, pl, my, b, d⟩ := m
  have cc := my.c
  exact outer 10000 M mc ml pc pl my (by omega) (fun k hk => (b k).mpr hk) (fun k k' hk _ => Or.inl (d k ((b k).mp hk))) (fun P p1 _ k hk => p1 k ((b k).mp hk))
