/-! R9 -/
/-- the reference while it marks: ml are marked, pl lie on the pile -/
def MY (A : HG) (M0 : MS) (mc : Nat) (ml : Nat → Nat) (pc : Nat) (pl : Nat → Nat) (M : MS) : Prop := (∀ k, k < A.N → (¬ M.1 126 (A.os k) = 0 ↔ inq mc ml k)) ∧ (∀ j, j < mc → ml j < A.N) ∧ (∀ i j, i < mc → j < mc → ml i = ml j → i = j) ∧ (M.1 60 93 = Int32.ofNat pc) ∧ (∀ j, j < pc → inq mc ml (pl j) ∧ M.1 128 j = Int32.ofNat (A.os (pl j))) ∧ (∀ i j, i < pc → j < pc → pl i = pl j → i = j) ∧ (∀ a, a ≠ 60 → a ≠ 126 → a ≠ 128 → M.1 a = M0.1 a) ∧ (∀ f, f ≠ 93 → M.1 60 f = M0.1 60 f) ∧ (M.2 = M0.2)
theorem MY.mk {A : HG} {M0 : MS} {mc : Nat} {ml : Nat → Nat} {pc : Nat} {pl : Nat → Nat} {M : MS} (h0 : MY A M0 mc ml pc pl M) : ∀ k, k < A.N → (¬ M.1 126 (A.os k) = 0 ↔ inq mc ml k) := h0.1
theorem MY.ml1 {A : HG} {M0 : MS} {mc : Nat} {ml : Nat → Nat} {pc : Nat} {pl : Nat → Nat} {M : MS} (h0 : MY A M0 mc ml pc pl M) : ∀ j, j < mc → ml j < A.N := h0.2.1
theorem MY.mli {A : HG} {M0 : MS} {mc : Nat} {ml : Nat → Nat} {pc : Nat} {pl : Nat → Nat} {M : MS} (h0 : MY A M0 mc ml pc pl M) : ∀ i j, i < mc → j < mc → ml i = ml j → i = j := h0.2.2.1
theorem MY.p93 {A : HG} {M0 : MS} {mc : Nat} {ml : Nat → Nat} {pc : Nat} {pl : Nat → Nat} {M : MS} (h0 : MY A M0 mc ml pc pl M) : M.1 60 93 = Int32.ofNat pc := h0.2.2.2.1
theorem MY.pl1 {A : HG} {M0 : MS} {mc : Nat} {ml : Nat → Nat} {pc : Nat} {pl : Nat → Nat} {M : MS} (h0 : MY A M0 mc ml pc pl M) : ∀ j, j < pc → inq mc ml (pl j) ∧ M.1 128 j = Int32.ofNat (A.os (pl j)) := h0.2.2.2.2.1
theorem MY.pli {A : HG} {M0 : MS} {mc : Nat} {ml : Nat → Nat} {pc : Nat} {pl : Nat → Nat} {M : MS} (h0 : MY A M0 mc ml pc pl M) : ∀ i j, i < pc → j < pc → pl i = pl j → i = j := h0.2.2.2.2.2.1
theorem MY.ot {A : HG} {M0 : MS} {mc : Nat} {ml : Nat → Nat} {pc : Nat} {pl : Nat → Nat} {M : MS} (h0 : MY A M0 mc ml pc pl M) : ∀ a, a ≠ 60 → a ≠ 126 → a ≠ 128 → M.1 a = M0.1 a := h0.2.2.2.2.2.2.1
theorem MY.o60 {A : HG} {M0 : MS} {mc : Nat} {ml : Nat → Nat} {pc : Nat} {pl : Nat → Nat} {M : MS} (h0 : MY A M0 mc ml pc pl M) : ∀ f, f ≠ 93 → M.1 60 f = M0.1 60 f := h0.2.2.2.2.2.2.2.1
theorem MY.d2 {A : HG} {M0 : MS} {mc : Nat} {ml : Nat → Nat} {pc : Nat} {pl : Nat → Nat} {M : MS} (h0 : MY A M0 mc ml pc pl M) : M.2 = M0.2 := h0.2.2.2.2.2.2.2.2
set_option maxRecDepth 20000 in
set_option maxHeartbeats 4000000 in
theorem MY.c {A : HG} {M0 M : MS} {mc pc : Nat} {ml pl : Nat → Nat} (m : MY A M0 mc ml pc pl M) : mc ≤ A.N ∧ pc ≤ A.N := by
  constructor
  · apply Classical.byContradiction
    intro h
    obtain ⟨i, j, a, b, d, e⟩ := pig A.N mc ml (by omega) m.ml1
    exact d (m.mli i j a b e)
  · apply Classical.byContradiction
    intro h
    obtain ⟨i, j, a, b, d, e⟩ := pig A.N pc pl (by omega) (fun i hi => by
      obtain ⟨j, hj, e⟩ := (m.pl1 i hi).1
      rw [← e]
      exact m.ml1 j hj)
    exact d (m.pli i j a b e)
def Ry (A : HG) (v : Int32) : Prop := v = 0 ∨ ∃ k, k < A.N ∧ v = Int32.ofNat (A.os k)
set_option maxRecDepth 20000 in
set_option maxHeartbeats 4000000 in
theorem RefR.ry {Mr : MS} {A : HG} {x v : Int32} (r : RefR Mr A x v) : Ry A v := by
  rcases r with z | ⟨k, hk, a, b⟩
  · exact Or.inl z.2
  · exact Or.inr ⟨k, hk, b⟩
set_option maxRecDepth 20000 in
set_option maxHeartbeats 4000000 in
theorem markM_ok {Mr : MS} {kc hp : Nat} {A : HG} {V0 Mb : MS} (hr : HR Mr kc A hp V0 Mb) {M0 M : MS} {mc pc : Nat} {ml pl : Nat → Nat} (m : MY A M0 mc ml pc pl M) {v : Int32} (hv : Ry A v) : ∃ M' mc' ml' pc' pl', f_M_mark v M = some M' ∧ MY A M0 mc' ml' pc' pl' M' ∧ mc ≤ mc' ∧ pc ≤ pc' ∧ pc' + mc = pc + mc' ∧ (∀ j, j < pc → pl' j = pl j) ∧ (∀ k, inq mc' ml' k ↔ inq mc ml k ∨ (k < A.N ∧ v = Int32.ofNat (A.os k))) ∧ (∀ k, inq mc' ml' k → inq mc ml k ∨ inq pc' pl' k) := by
  have N1 := hr.N1000
  obtain ⟨c1, c2⟩ := m.c
  rcases hv with e | ⟨k, hk, e⟩
  · subst e
    refine ⟨M, mc, ml, pc, pl, ?_, m, Nat.le_refl _, Nat.le_refl _, rfl, fun _ _ => rfl, fun k => ⟨Or.inl, fun z => ?_⟩, fun k z => Or.inl z⟩
    · unfold f_M_mark
      rw [if_pos (by decide)]
    · rcases z with z | ⟨h1, h2⟩
      · exact z
      · exfalso
        have os := (hr.ob k h1).os
        rw [show (0 : Int32) = Int32.ofNat 0 from rfl, o_eq _ _ (by omega) (by omega)] at h2
        omega
  · subst e
    have os := (hr.ob k hk).os
    have x1 : ¬ Int32.ofNat (A.os k) ≤ 0 := by rw [o_leR _ _ (by omega) (by decide)]; show ¬ A.os k ≤ 0; omega
    have ix : ixo (Int32.ofNat (A.os k)) 1002 := ixl os.2 (by omega)
    have cl : (Int32.ofNat (A.os k)).toNatClampNeg = A.os k := o_cl _ (by omega)
    have uniq : ∀ k', k' < A.N → Int32.ofNat (A.os k) = Int32.ofNat (A.os k') → k' = k := by
      intro k' hk' e
      have os' := (hr.ob k' hk').os
      rw [o_eq _ _ (by omega) (by omega)] at e
      exact (hr.inj k k' hk hk' e).symm
    by_cases cm : inq mc ml k
    · refine ⟨M, mc, ml, pc, pl, ?_, m, Nat.le_refl _, Nat.le_refl _, rfl, fun _ _ => rfl, fun k' => ⟨Or.inl, fun z => ?_⟩, fun k z => Or.inl z⟩
      · unfold f_M_mark
        rw [if_neg x1, if_pos ix, cl, if_pos ((m.mk k hk).mpr cm)]
      · rcases z with z | ⟨h1, h2⟩
        · exact z
        · rw [uniq k' h1 h2]; exact cm
    · have w0 : M.1 126 (A.os k) = 0 := by
        apply Classical.byContradiction
        intro h
        exact cm ((m.mk k hk).mp h)
      have qn : ∀ j, j < mc → ml j ≠ k := fun j hj e => cm ⟨j, hj, e⟩
      have pn : ∀ j, j < pc → pl j ≠ k := fun j hj e => cm (by rw [← e]; exact (m.pl1 j hj).1)
      have pcl : pc < 1002 := by omega
      refine ⟨mw (mw (mw M 126 (A.os k) 1) 128 pc (Int32.ofNat (A.os k))) 60 93 (Int32.ofNat (pc + 1)), mc + 1, fun j => if j = mc then k else ml j, pc + 1, fun j => if j = pc then k else pl j, ?_, ?_, by omega, by omega, by omega, fun j hj => if_neg (by omega), ?_, ?_⟩
      · unfold f_M_mark
        have e93 : (mw M 126 (A.os k) 1).1 60 93 = Int32.ofNat pc := by rw [mwr _ _ _ (by omega)]; exact m.p93
        have e93' : (mw (mw M 126 (A.os k) 1) 128 pc (Int32.ofNat (A.os k))).1 60 93 = Int32.ofNat pc := by rw [mwr _ _ _ (by omega)]; exact e93
        rw [if_neg x1, if_pos ix, cl, if_neg (fun z => z w0)]
        dsimp only [lt]
        rw [e93, if_pos (ixl pcl (by omega)), o_cl _ (by omega), e93', o_addR]
      · have inq' : ∀ k', inq (mc + 1) (fun j => if j = mc then k else ml j) k' ↔ inq mc ml k' ∨ k' = k := by
          intro k'
          constructor
          · intro ⟨j, hj, e⟩
            have e' : (if j = mc then k else ml j) = k' := e
            by_cases z : j = mc
            · rw [if_pos z] at e'; exact Or.inr e'.symm
            · rw [if_neg z] at e'; exact Or.inl ⟨j, by omega, e'⟩
          · intro z
            rcases z with ⟨j, hj, e⟩ | z
            · exact ⟨j, by omega, by show (if j = mc then k else ml j) = k'; rw [if_neg (by omega)]; exact e⟩
            · exact ⟨mc, by omega, by show (if mc = mc then k else ml mc) = k'; rw [if_pos rfl, z]⟩
        refine ⟨?_, ?_, ?_, ?_, ?_, ?_, ?_, ?_, m.d2⟩
        · intro k' hk'
          rw [mwr _ _ _ (by omega), mwr _ _ _ (by omega), mw1, inq']
          by_cases z : A.os k' = A.os k
          · rw [if_pos ⟨rfl, z⟩]
            exact ⟨fun _ => Or.inr (hr.inj k' k hk' hk z), fun _ => by decide⟩
          · rw [if_neg (fun y => z y.2), m.mk k' hk']
            exact ⟨Or.inl, fun y => by rcases y with y | y; exact y; exact absurd (by rw [y]) z⟩
        · intro j hj
          show (if j = mc then k else ml j) < A.N
          by_cases z : j = mc
          · rw [if_pos z]; exact hk
          · rw [if_neg z]; exact m.ml1 j (by omega)
        · intro i j h1 h2 e0
          have e : (if i = mc then k else ml i) = (if j = mc then k else ml j) := e0
          by_cases z1 : i = mc
          · by_cases z2 : j = mc
            · omega
            · rw [if_pos z1, if_neg z2] at e
              exact absurd e.symm (qn j (by omega))
          · by_cases z2 : j = mc
            · rw [if_neg z1, if_pos z2] at e
              exact absurd e (qn i (by omega))
            · rw [if_neg z1, if_neg z2] at e
              exact m.mli i j (by omega) (by omega) e
        · rw [mw1, if_pos ⟨rfl, rfl⟩]
        · intro j hj
          show inq _ _ (if j = pc then k else pl j) ∧ _ = Int32.ofNat (A.os (if j = pc then k else pl j))
          rw [mwr _ _ _ (by omega), inq']
          by_cases z : j = pc
          · subst z
            rw [if_pos (show j = j from rfl), mw1, if_pos (show (128 : Nat) = 128 ∧ j = j from ⟨rfl, rfl⟩)]
            exact ⟨Or.inr rfl, rfl⟩
          · rw [mwi _ _ _ z, mwr _ _ _ (by omega), if_neg z]
            exact ⟨Or.inl (m.pl1 j (by omega)).1, (m.pl1 j (by omega)).2⟩
        · intro i j h1 h2 e0
          have e : (if i = pc then k else pl i) = (if j = pc then k else pl j) := e0
          by_cases z1 : i = pc
          · by_cases z2 : j = pc
            · omega
            · rw [if_pos z1, if_neg z2] at e
              exact absurd e.symm (pn j (by omega))
          · by_cases z2 : j = pc
            · rw [if_neg z1, if_pos z2] at e
              exact absurd e (pn i (by omega))
            · rw [if_neg z1, if_neg z2] at e
              exact m.pli i j (by omega) (by omega) e
        · intro a h1 h2 h3
          rw [mwr _ _ _ h1, mwr _ _ _ h3, mwr _ _ _ h2]
          exact m.ot a h1 h2 h3
        · intro f hf
          rw [mwi _ _ _ hf, mwr _ _ _ (by omega), mwr _ _ _ (by omega)]
          exact m.o60 f hf
      · intro k'
        constructor
        · intro ⟨j, hj, e⟩
          have e' : (if j = mc then k else ml j) = k' := e
          by_cases z : j = mc
          · rw [if_pos z] at e'; exact Or.inr ⟨by rw [← e']; exact hk, by rw [e']⟩
          · rw [if_neg z] at e'; exact Or.inl ⟨j, by omega, e'⟩
        · intro z
          rcases z with ⟨j, hj, e⟩ | ⟨h1, h2⟩
          · exact ⟨j, by omega, by show (if j = mc then k else ml j) = k'; rw [if_neg (by omega)]; exact e⟩
          · exact ⟨mc, by omega, by show (if mc = mc then k else ml mc) = k'; rw [if_pos rfl, uniq k' h1 h2]⟩
      · intro k' ⟨j, hj, e⟩
        have e' : (if j = mc then k else ml j) = k' := e
        by_cases z : j = mc
        · rw [if_pos z] at e'; exact Or.inr ⟨pc, by omega, by show (if pc = pc then k else pl pc) = k'; rw [if_pos rfl, e']⟩
        · rw [if_neg z] at e'; exact Or.inl ⟨j, by omega, e'⟩
/-- marking roots: all that is marked lies on the pile -/
def MYS (A : HG) (M0 : MS) (S : Nat → Prop) (M : MS) : Prop := ∃ mc ml pc pl, MY A M0 mc ml pc pl M ∧ (∀ k, inq mc ml k ↔ S k) ∧ ∀ k, S k → inq pc pl k
theorem MYS.congr {A : HG} {M0 M : MS} {S S' : Nat → Prop} (m : MYS A M0 S M) (h : ∀ k, S k ↔ S' k) : MYS A M0 S' M := by
  obtain ⟨mc, ml, pc, pl, a, b, d⟩ := m
  exact ⟨mc, ml, pc, pl, a, fun k => (b k).trans (h k), fun k z => d k ((h k).mpr z)⟩
set_option maxRecDepth 20000 in
set_option maxHeartbeats 4000000 in
theorem markM_s {Mr : MS} {kc hp : Nat} {A : HG} {V0 Mb : MS} (hr : HR Mr kc A hp V0 Mb) {M0 M : MS} {S : Nat → Prop} (m : MYS A M0 S M) {v : Int32} (hv : Ry A v) : ∃ M', f_M_mark v M = some M' ∧ MYS A M0 (fun k => S k ∨ (k < A.N ∧ v = Int32.ofNat (A.os k))) M' := by
  obtain ⟨mc, ml, pc, pl, a, b, d⟩ := m
  obtain ⟨M', mc', ml', pc', pl', e1, e2, e3, e4, e5, e6, e7, e8⟩ := markM_ok hr a hv
  refine ⟨M', e1, mc', ml', pc', pl', e2, fun k => (e7 k).trans (or_congr (b k) Iff.rfl), fun k z => ?_⟩
  have z' : inq mc' ml' k := (e7 k).mpr (or_congr (b k) Iff.rfl |>.mpr z)
  rcases e8 k z' with y | y
  · obtain ⟨j, hj, ej⟩ := d k ((b k).mp y)
    exact ⟨j, by omega, by rw [e6 j hj]; exact ej⟩
  · exact y
set_option maxRecDepth 20000 in
set_option maxHeartbeats 4000000 in
theorem rootS_ok {Mr : MS} {kc hp : Nat} {A : HG} {V0 Mb : MS} (hr : HR Mr kc A hp V0 Mb) {M0 M : MS} {S : Nat → Prop} (m : MYS A M0 S M) (hv : ∀ s, s < 8 → Ry A (M0.1 118 s)) : ∃ z M', lp (b39_M_collect) 10000 ((0 : Int32), M) = some (z, M') ∧ MYS A M0 (fun k => S k ∨ (k < A.N ∧ ∃ s, s < 8 ∧ M0.1 118 s = Int32.ofNat (A.os k))) M' := by
  have key : ∀ N i M, i ≤ 8 → 8 - i < N → MYS A M0 (fun k => S k ∨ (k < A.N ∧ ∃ s, s < i ∧ M0.1 118 s = Int32.ofNat (A.os k))) M → ∃ z M', lp (b39_M_collect) N (Int32.ofNat i, M) = some (z, M') ∧ MYS A M0 (fun k => S k ∨ (k < A.N ∧ ∃ s, s < 8 ∧ M0.1 118 s = Int32.ofNat (A.os k))) M' := by
    intro N
    induction N with
    | zero => intro i M h1 h2; omega
    | succ N ih =>
      intro i M h1 h2 m
      by_cases c : i = 8
      · subst c
        refine ⟨Int32.ofNat 8, M, lp_inr ?_, m⟩
        unfold b39_M_collect
        rw [if_pos (show (8 : Int32) ≤ Int32.ofNat 8 by decide)]
      · have c1 : ¬ (8 : Int32) ≤ Int32.ofNat i := by rw [o_leL _ _ (by decide) (by omega)]; show ¬ 8 ≤ i; omega
        have cl : (Int32.ofNat i).toNatClampNeg = i := o_cl _ (by omega)
        have mm := m
        obtain ⟨mc, ml, pc, pl, my, _⟩ := mm
        have v118 : M.1 118 i = M0.1 118 i := by rw [my.ot 118 (by omega) (by omega) (by omega)]
        obtain ⟨M', e1, e2⟩ := markM_s hr m (v := M0.1 118 i) (hv i (by omega))
        have st : b39_M_collect (Int32.ofNat i, M) = some (.inl (Int32.ofNat (i + 1), M')) := by
          unfold b39_M_collect
          rw [if_neg c1, if_pos (ixl (show i < 8 by omega) (by omega))]
          dsimp only
          rw [cl, v118, e1, Option.bind_some, o_addR]
        rw [lp_inl st]
        refine ih (i + 1) M' (by omega) (by omega) (e2.congr (fun k => ?_))
        constructor
        · intro z
          rcases z with (z | ⟨a, s, b, d⟩) | ⟨a, b⟩
          · exact Or.inl z
          · exact Or.inr ⟨a, s, by omega, d⟩
          · exact Or.inr ⟨a, i, by omega, b⟩
        · intro z
          rcases z with z | ⟨a, s, b, d⟩
          · exact Or.inl (Or.inl z)
          · by_cases e : s = i
            · subst e; exact Or.inr ⟨a, d⟩
            · exact Or.inl (Or.inr ⟨a, s, by omega, d⟩)
  exact key 10000 0 M (by omega) (by omega) (m.congr (fun k => ⟨Or.inl, fun z => by
    rcases z with z | ⟨_, s, b, _⟩
    · exact z
    · omega⟩))
