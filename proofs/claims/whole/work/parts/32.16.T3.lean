/-! T3 -/
/-- cells once objects have moved -/
def ncH (Mr : MS) (A : HG) (S : Nat → Bool) : Nat → Nat
  | 0 => 0
  | k + 1 => ncH Mr A S k + (if S k = true then czK Mr (A.K k) (A.n k) else 0)
set_option maxRecDepth 20000 in
set_option maxHeartbeats 4000000 in
theorem ncH_le (Mr : MS) (A : HG) (S : Nat → Bool) : ∀ k, ncH Mr A S k ≤ caH Mr A k
  | 0 => Nat.le_refl _
  | k + 1 => by
    have := ncH_le Mr A S k
    show ncH Mr A S k + (if S k = true then czK Mr (A.K k) (A.n k) else 0) ≤ caH Mr A k + czK Mr (A.K k) (A.n k)
    split <;> omega
theorem cnt_s (S : Nat → Bool) (k : Nat) : cnt S (k + 1) = cnt S k + (if S k = true then 1 else 0) := rfl
set_option maxRecDepth 20000 in
set_option maxHeartbeats 4000000 in
theorem copyC {M : MS} {Mb : MS} {o used at0 cz : Nat} {x2 x3 x4 : Int32} (ho : o < 1002) (e129 : Mb.1 129 x4.toNatClampNeg = Int32.ofNat o) (e123 : M.1 123 o = Int32.ofNat at0) (hu : used ≤ at0) (hb : at0 + cz ≤ 8200) : ∃ z M', lp (b60_M_sweep (Int32.ofNat used, x2, x3, x4, Mb) (Int32.ofNat cz)) 10000 ((0 : Int32), M) = some (z, M') ∧ (∀ a, a ≠ 127 → M'.1 a = M.1 a) ∧ (∀ q, M'.1 127 q = if used ≤ q ∧ q < used + cz then M.1 127 (at0 + (q - used)) else M.1 127 q) ∧ M'.2 = M.2 := by
  have ix : ixo (Int32.ofNat o) 1002 := ixl ho (by omega)
  have clo : (Int32.ofNat o).toNatClampNeg = o := o_cl _ (by omega)
  have key : ∀ N i M1, i ≤ cz → cz - i < N → (∀ a, a ≠ 127 → M1.1 a = M.1 a) → (∀ q, M1.1 127 q = if used ≤ q ∧ q < used + i then M.1 127 (at0 + (q - used)) else M.1 127 q) → M1.2 = M.2 → ∃ z M', lp (b60_M_sweep (Int32.ofNat used, x2, x3, x4, Mb) (Int32.ofNat cz)) N (Int32.ofNat i, M1) = some (z, M') ∧ (∀ a, a ≠ 127 → M'.1 a = M.1 a) ∧ (∀ q, M'.1 127 q = if used ≤ q ∧ q < used + cz then M.1 127 (at0 + (q - used)) else M.1 127 q) ∧ M'.2 = M.2 := by
    intro N
    induction N with
    | zero => intro i M1 h1 h2; omega
    | succ N ih =>
      intro i M1 h1 h2 ho' hq d2
      by_cases c : i = cz
      · subst c
        refine ⟨Int32.ofNat i, M1, lp_inr ?_, ho', hq, d2⟩
        unfold b60_M_sweep
        rw [if_pos (Int32.le_refl _)]
      · have c1 : ¬ Int32.ofNat cz ≤ Int32.ofNat i := by rw [o_le _ _ (by omega) (by omega)]; omega
        have e3 : M1.1 123 o = Int32.ofNat at0 := by rw [ho' 123 (by omega)]; exact e123
        have cl1 : (Int32.ofNat (at0 + i)).toNatClampNeg = at0 + i := o_cl _ (by omega)
        have cl2 : (Int32.ofNat (used + i)).toNatClampNeg = used + i := o_cl _ (by omega)
        have v : M1.1 127 (at0 + i) = M.1 127 (at0 + i) := by
          rw [hq]
          by_cases z : used ≤ at0 + i ∧ at0 + i < used + i
          · omega
          · rw [if_neg z]
        have st : b60_M_sweep (Int32.ofNat used, x2, x3, x4, Mb) (Int32.ofNat cz) (Int32.ofNat i, M1) = some (.inl (Int32.ofNat (i + 1), mw M1 127 (used + i) (M.1 127 (at0 + i)))) := by
          unfold b60_M_sweep
          rw [if_neg c1]
          simp only [e129, clo, e3, o_add, cl1, cl2, v]
          rw [if_pos ix, if_pos (ixl (by omega) (by omega)), if_pos (ixl (by omega) (by omega)), o_addR]
        rw [lp_inl st]
        refine ih (i + 1) _ (by omega) (by omega) (fun a ha => by rw [mwr _ _ _ ha]; exact ho' a ha) (fun q => ?_) d2
        rw [mw1]
        by_cases e : q = used + i
        · rw [if_pos ⟨rfl, e⟩, if_pos (by omega), e, show at0 + (used + i - used) = at0 + i by omega]
        · rw [if_neg (fun z => e z.2), hq]
          by_cases z : used ≤ q ∧ q < used + i
          · rw [if_pos z, if_pos (by omega)]
          · rw [if_neg z, if_neg (by omega)]
  exact key 10000 0 M (by omega) (by omega) (fun _ _ => rfl) (fun q => by rw [if_neg (by omega)]) rfl
set_option maxRecDepth 20000 in
set_option maxHeartbeats 4000000 in
theorem sweep_ok {Mr : MS} {kc : Nat} (hkc : kc ≤ 10) {A : HG} {M : MS} (S : Nat → Bool) (co : Cok Mr kc A M) (inj : ∀ j k, j < A.N → k < A.N → A.os j = A.os k → j = k) (hN : A.N ≤ 1000) (hca : caH Mr A A.N ≤ 4001) (hna : adH Mr A A.N ≤ 4001) (h129 : ∀ k, k < A.N → M.1 129 k = Int32.ofNat (A.os k)) (h126 : ∀ k, k < A.N → (¬ M.1 126 (A.os k) = 0 ↔ S k = true)) (e95 : M.1 60 95 = Int32.ofNat A.N) : ∃ M', f_M_sweep M = some M' ∧ (∀ a, a ≠ 60 → a ≠ 121 → a ≠ 123 → a ≠ 127 → a ≠ 129 → M'.1 a = M.1 a) ∧ (∀ f, M'.1 60 f = if f = 87 then Int32.ofNat (2 * (naH Mr A S A.N - 1)) else if f = 86 then Int32.ofNat (ncH Mr A S A.N) else if f = 95 then Int32.ofNat (cnt S A.N) else M.1 60 f) ∧ (∀ k, k < A.N → M'.1 121 (A.os k) = if S k = true then M.1 121 (A.os k) else -1) ∧ (∀ o, (∀ k, k < A.N → A.os k ≠ o) → M'.1 121 o = M.1 121 o) ∧ (∀ k, k < A.N → S k = true → M'.1 123 (A.os k) = Int32.ofNat (ncH Mr A S k) ∧ M'.1 129 (cnt S k) = Int32.ofNat (A.os k) ∧ ∀ i, i < czK Mr (A.K k) (A.n k) → M'.1 127 (ncH Mr A S k + i) = M.1 127 (caH Mr A k + i)) ∧ M'.2 = M.2 := by
  have ncm : ∀ k j, j < k → S j = true → ncH Mr A S j + czK Mr (A.K j) (A.n j) ≤ ncH Mr A S k := by
    intro k
    induction k with
    | zero => intro j h; omega
    | succ k ih =>
      intro j h hs
      show _ ≤ ncH Mr A S k + (if S k = true then czK Mr (A.K k) (A.n k) else 0)
      by_cases e : j = k
      · subst e; rw [if_pos hs]; omega
      · have := ih j (by omega) hs; omega
  have key : ∀ N k M1, k ≤ A.N → A.N - k < N → (∀ a, a ≠ 121 → a ≠ 123 → a ≠ 127 → a ≠ 129 → M1.1 a = M.1 a) → (∀ j, j < A.N → M1.1 121 (A.os j) = if j < k ∧ ¬ S j = true then -1 else M.1 121 (A.os j)) → (∀ o, (∀ j, j < A.N → A.os j ≠ o) → M1.1 121 o = M.1 121 o) → (∀ j, j < A.N → M1.1 123 (A.os j) = if j < k ∧ S j = true then Int32.ofNat (ncH Mr A S j) else M.1 123 (A.os j)) → (∀ j, j < k → S j = true → M1.1 129 (cnt S j) = Int32.ofNat (A.os j) ∧ ∀ i, i < czK Mr (A.K j) (A.n j) → M1.1 127 (ncH Mr A S j + i) = M.1 127 (caH Mr A j + i)) → (∀ q, k ≤ q → q < A.N → M1.1 129 q = M.1 129 q) → (∀ q, caH Mr A k ≤ q → M1.1 127 q = M.1 127 q) → M1.2 = M.2 → ∃ z M', lp (b9_M_sweep) N (Int32.ofNat (ncH Mr A S k), Int32.ofNat (2 * (naH Mr A S k - 1)), Int32.ofNat (cnt S k), Int32.ofNat k, M1) = some (Int32.ofNat (ncH Mr A S A.N), Int32.ofNat (2 * (naH Mr A S A.N - 1)), Int32.ofNat (cnt S A.N), z, M') ∧ (∀ a, a ≠ 121 → a ≠ 123 → a ≠ 127 → a ≠ 129 → M'.1 a = M.1 a) ∧ (∀ j, j < A.N → M'.1 121 (A.os j) = if j < A.N ∧ ¬ S j = true then -1 else M.1 121 (A.os j)) ∧ (∀ o, (∀ j, j < A.N → A.os j ≠ o) → M'.1 121 o = M.1 121 o) ∧ (∀ j, j < A.N → M'.1 123 (A.os j) = if j < A.N ∧ S j = true then Int32.ofNat (ncH Mr A S j) else M.1 123 (A.os j)) ∧ (∀ j, j < A.N → S j = true → M'.1 129 (cnt S j) = Int32.ofNat (A.os j) ∧ ∀ i, i < czK Mr (A.K j) (A.n j) → M'.1 127 (ncH Mr A S j + i) = M.1 127 (caH Mr A j + i)) ∧ M'.2 = M.2 := by
    intro N
    induction N with
    | zero => intro k M1 h1 h2; omega
    | succ N ih =>
      intro k M1 h1 h2 ho a1 a1' a3 a9 b9 b7 d2
      have e95' : M1.1 60 95 = Int32.ofNat A.N := by rw [ho 60 (by omega) (by omega) (by omega) (by omega)]; exact e95
      by_cases e : k = A.N
      · subst e
        refine ⟨Int32.ofNat A.N, M1, lp_inr ?_, ho, a1, a1', a3, a9, d2⟩
        unfold b9_M_sweep
        dsimp only
        rw [e95', if_pos (Int32.le_refl _)]
      · have hk : k < A.N := by omega
        obtain ⟨hK, os, c121, c122, c123, fa⟩ := co k hk
        have mono := caH_mono Mr A A.N hk
        have nl := ncH_le Mr A S k
        have nal := naH_le Mr A S k
        have cm := cnt_max S k
        have amono := adH_mono Mr A A.N hk
        obtain ⟨ce, se, cz200⟩ := cells_M hkc (M := M1) co hk (ho 96 (by omega) (by omega) (by omega) (by omega)) (ho 97 (by omega) (by omega) (by omega) (by omega))
        have c1 : ¬ Int32.ofNat A.N ≤ Int32.ofNat k := by rw [o_le _ _ (by omega) (by omega)]; omega
        have clk : (Int32.ofNat k).toNatClampNeg = k := o_cl _ (by omega)
        have clo : (Int32.ofNat (A.os k)).toNatClampNeg = A.os k := o_cl _ (by omega)
        have ixk : ixo (Int32.ofNat k) 1002 := ixl (by omega) (by omega)
        have ixq : ixo (Int32.ofNat (A.os k)) 1002 := ixl os.2 (by omega)
        have v129 : M1.1 129 k = Int32.ofNat (A.os k) := by rw [b9 k (Nat.le_refl _) hk]; exact h129 k hk
        have v121 : M1.1 121 (A.os k) = Int32.ofNat (A.K k) := by rw [a1 k hk, if_neg (by omega)]; exact c121
        have v122 : M1.1 122 (A.os k) = Int32.ofNat (A.n k) := by rw [ho 122 (by omega) (by omega) (by omega) (by omega)]; exact c122
        have v123 : M1.1 123 (A.os k) = Int32.ofNat (caH Mr A k) := by rw [a3 k hk, if_neg (by omega)]; exact c123
        have v126 : ¬ M1.1 126 (A.os k) = 0 ↔ S k = true := by rw [ho 126 (by omega) (by omega) (by omega) (by omega)]; exact h126 k hk
        by_cases cs : S k = true
        · have en : ncH Mr A S (k + 1) = ncH Mr A S k + czK Mr (A.K k) (A.n k) := by
            show ncH Mr A S k + (if S k = true then czK Mr (A.K k) (A.n k) else 0) = _
            rw [if_pos cs]
          have ea : naH Mr A S (k + 1) = naH Mr A S k + wzK Mr (A.K k) (A.n k) := by
            show naH Mr A S k + (if S k = true then wzK Mr (A.K k) (A.n k) else 0) = _
            rw [if_pos cs]
          have ec : cnt S (k + 1) = cnt S k + 1 := by rw [cnt_s, if_pos cs]
          obtain ⟨z, M2, f1, f2, f3, f4⟩ := copyC (M := M1) (Mb := M1) (o := A.os k) (used := ncH Mr A S k) (at0 := caH Mr A k) (cz := czK Mr (A.K k) (A.n k)) (x2 := Int32.ofNat (2 * (naH Mr A S k - 1))) (x3 := Int32.ofNat (cnt S k)) (x4 := Int32.ofNat k) os.2 (by rw [clk]; exact v129) v123 nl (by omega)
          have g121 : (mw M2 123 (A.os k) (Int32.ofNat (ncH Mr A S k))).1 121 (A.os k) = Int32.ofNat (A.K k) := by rw [mwr _ _ _ (by omega), f2 121 (by omega)]; exact v121
          have g122 : (mw M2 123 (A.os k) (Int32.ofNat (ncH Mr A S k))).1 122 (A.os k) = Int32.ofNat (A.n k) := by rw [mwr _ _ _ (by omega), f2 122 (by omega)]; exact v122
          have se2 := (cells_M hkc (M := mw M2 123 (A.os k) (Int32.ofNat (ncH Mr A S k))) co hk (by rw [mwr _ _ _ (by omega), f2 96 (by omega)]; exact ho 96 (by omega) (by omega) (by omega) (by omega)) (by rw [mwr _ _ _ (by omega), f2 97 (by omega)]; exact ho 97 (by omega) (by omega) (by omega) (by omega))).2.1
          have st : b9_M_sweep (Int32.ofNat (ncH Mr A S k), Int32.ofNat (2 * (naH Mr A S k - 1)), Int32.ofNat (cnt S k), Int32.ofNat k, M1) = some (.inl (Int32.ofNat (ncH Mr A S (k + 1)), Int32.ofNat (2 * (naH Mr A S (k + 1) - 1)), Int32.ofNat (cnt S (k + 1)), Int32.ofNat (k + 1), mw (mw M2 123 (A.os k) (Int32.ofNat (ncH Mr A S k))) 129 (cnt S k) (Int32.ofNat (A.os k)))) := by
            unfold b9_M_sweep
            dsimp only
            rw [e95', if_neg c1, if_pos ixk]
            simp only [clk, v129, clo, v121, v122]
            rw [if_pos ixq, ce, Option.bind_some, if_neg (v126.mpr cs), f1, Option.bind_some, if_pos ixq]
            dsimp only [lt]
            simp only [g121, g122]
            rw [se2, Option.bind_some, if_pos (ixl (show cnt S k < 1002 by omega) (by omega)), o_cl _ (show cnt S k < 2147483648 by omega), o_add, o_add, o_addR, o_addR, en, ea, ec]
            congr 4
            congr 1
            omega
          rw [lp_inl st]
          refine ih (k + 1) _ (by omega) (by omega) ?_ ?_ ?_ ?_ ?_ ?_ ?_ (by rw [← d2]; exact f4)
          · intro a h1 h2 h3 h4; rw [mwr _ _ _ h4, mwr _ _ _ h2, f2 a h3]; exact ho a h1 h2 h3 h4
          · intro j hj
            rw [mwr _ _ _ (by omega), mwr _ _ _ (by omega), f2 121 (by omega), a1 j hj]
            by_cases ej : j = k
            · subst ej; rw [if_neg (by omega), if_neg (fun w => w.2 cs)]
            · by_cases w : j < k ∧ ¬ S j = true
              · rw [if_pos w, if_pos ⟨by omega, w.2⟩]
              · rw [if_neg w, if_neg (fun y => w ⟨by omega, y.2⟩)]
          · intro o h; rw [mwr _ _ _ (by omega), mwr _ _ _ (by omega), f2 121 (by omega)]; exact a1' o h
          · intro j hj
            rw [mwr _ _ _ (by omega), mw1, f2 123 (by omega)]
            by_cases ej : j = k
            · subst ej; rw [if_pos ⟨rfl, rfl⟩, if_pos ⟨by omega, cs⟩]
            · rw [if_neg (fun w => ej (inj j k hj hk w.2)), a3 j hj]
              by_cases w : j < k ∧ S j = true
              · rw [if_pos w, if_pos ⟨by omega, w.2⟩]
              · rw [if_neg w, if_neg (fun y => w ⟨by omega, y.2⟩)]
          · intro j hj hs
            by_cases ej : j = k
            · subst ej
              refine ⟨by rw [mw1, if_pos ⟨rfl, rfl⟩], fun i hi => ?_⟩
              rw [mwr _ _ _ (by omega), mwr _ _ _ (by omega), f3, if_pos (by omega), Nat.add_sub_cancel_left]
              exact b7 _ (by omega)
            · obtain ⟨r1, r2⟩ := a9 j (by omega) hs
              have cj := cnt_step hs k (by omega)
              have nm := ncm k j (by omega) hs
              refine ⟨by rw [mwi _ _ _ (by omega), mwr _ _ _ (by omega), f2 129 (by omega)]; exact r1, fun i hi => ?_⟩
              rw [mwr _ _ _ (by omega), mwr _ _ _ (by omega), f3, if_neg (by omega)]
              exact r2 i hi
          · intro q h1' h2'
            rw [mwi _ _ _ (by omega), mwr _ _ _ (by omega), f2 129 (by omega)]
            exact b9 q (by omega) h2'
          · intro q hq
            have hq' : caH Mr A k + czK Mr (A.K k) (A.n k) ≤ q := hq
            rw [mwr _ _ _ (by omega), mwr _ _ _ (by omega), f3, if_neg (by omega)]
            exact b7 q (by omega)
        · have en : ncH Mr A S (k + 1) = ncH Mr A S k := by
            show ncH Mr A S k + (if S k = true then czK Mr (A.K k) (A.n k) else 0) = _
            rw [if_neg cs, Nat.add_zero]
          have ea : naH Mr A S (k + 1) = naH Mr A S k := by
            show naH Mr A S k + (if S k = true then wzK Mr (A.K k) (A.n k) else 0) = _
            rw [if_neg cs, Nat.add_zero]
          have ec : cnt S (k + 1) = cnt S k := by rw [cnt_s, if_neg cs, Nat.add_zero]
          have z126 : M1.1 126 (A.os k) = 0 := by
            apply Classical.byContradiction
            intro w
            exact cs (v126.mp w)
          have st : b9_M_sweep (Int32.ofNat (ncH Mr A S k), Int32.ofNat (2 * (naH Mr A S k - 1)), Int32.ofNat (cnt S k), Int32.ofNat k, M1) = some (.inl (Int32.ofNat (ncH Mr A S (k + 1)), Int32.ofNat (2 * (naH Mr A S (k + 1) - 1)), Int32.ofNat (cnt S (k + 1)), Int32.ofNat (k + 1), mw M1 121 (A.os k) (-1))) := by
            unfold b9_M_sweep
            dsimp only
            rw [e95', if_neg c1, if_pos ixk]
            simp only [clk, v129, clo, v121, v122]
            rw [if_pos ixq, ce, Option.bind_some, if_pos z126, o_addR, en, ea, ec]
          rw [lp_inl st]
          refine ih (k + 1) _ (by omega) (by omega) ?_ ?_ ?_ ?_ ?_ ?_ ?_ d2
          · intro a h1 h2 h3 h4; rw [mwr _ _ _ h1]; exact ho a h1 h2 h3 h4
          · intro j hj
            rw [mw1]
            by_cases ej : j = k
            · subst ej; rw [if_pos ⟨rfl, rfl⟩, if_pos ⟨by omega, cs⟩]
            · rw [if_neg (fun w => ej (inj j k hj hk w.2)), a1 j hj]
              by_cases w : j < k ∧ ¬ S j = true
              · rw [if_pos w, if_pos ⟨by omega, w.2⟩]
              · rw [if_neg w, if_neg (fun y => w ⟨by omega, y.2⟩)]
          · intro o h
            rw [mwi _ _ _ (fun w => h k hk w.symm)]; exact a1' o h
          · intro j hj
            rw [mwr _ _ _ (by omega), a3 j hj]
            by_cases ej : j = k
            · subst ej; rw [if_neg (by omega), if_neg (fun w => cs w.2)]
            · by_cases w : j < k ∧ S j = true
              · rw [if_pos w, if_pos ⟨by omega, w.2⟩]
              · rw [if_neg w, if_neg (fun y => w ⟨by omega, y.2⟩)]
          · intro j hj hs
            by_cases ej : j = k
            · subst ej; exact absurd hs cs
            · rw [mwr _ _ _ (by omega), mwr _ _ _ (by omega)]; exact a9 j (by omega) hs
          · intro q h1' h2'; rw [mwr _ _ _ (by omega)]; exact b9 q (by omega) h2'
          · intro q hq
            have hq' : caH Mr A k + czK Mr (A.K k) (A.n k) ≤ q := hq
            rw [mwr _ _ _ (by omega)]; exact b7 q (by omega)
  obtain ⟨z, M1, e1, e2, e3, e4, e5, e6, e7⟩ := key 10000 0 M (by omega) (by omega) (fun _ _ _ _ _ => rfl) (fun j _ => by rw [if_neg (by omega)]) (fun _ _ => rfl) (fun j _ => by rw [if_neg (by omega)]) (fun j hj => by omega) (fun _ _ _ => rfl) (fun _ _ => rfl) rfl
  have e1' : lp (b9_M_sweep) 10000 ((0 : Int32), (0 : Int32), (0 : Int32), (0 : Int32), M) = some (Int32.ofNat (ncH Mr A S A.N), Int32.ofNat (2 * (naH Mr A S A.N - 1)), Int32.ofNat (cnt S A.N), z, M1) := e1
  refine ⟨mw (mw (mw M1 60 95 (Int32.ofNat (cnt S A.N))) 60 86 (Int32.ofNat (ncH Mr A S A.N))) 60 87 (Int32.ofNat (2 * (naH Mr A S A.N - 1))), ?_, ?_, ?_, ?_, ?_, ?_, e7⟩
  · unfold f_M_sweep
    rw [e1']
    rfl
  · intro a h0 h1 h2 h3 h4; rw [mwr _ _ _ h0, mwr _ _ _ h0, mwr _ _ _ h0]; exact e2 a h1 h2 h3 h4
  · intro f
    rw [mw1, mw1, mw1, e2 60 (by omega) (by omega) (by omega) (by omega)]
    simp
  · intro k hk
    rw [mwr _ _ _ (by omega), mwr _ _ _ (by omega), mwr _ _ _ (by omega), e3 k hk]
    by_cases cs : S k = true
    · rw [if_neg (fun w => w.2 cs), if_pos cs]
    · rw [if_pos ⟨hk, cs⟩, if_neg cs]
  · intro o h
    rw [mwr _ _ _ (by omega), mwr _ _ _ (by omega), mwr _ _ _ (by omega)]
    exact e4 o h
  · intro k hk hs
    rw [mwr _ _ _ (by omega), mwr _ _ _ (by omega), mwr _ _ _ (by omega), mwr _ _ _ (by omega), mwr _ _ _ (by omega), mwr _ _ _ (by omega), mwr _ _ _ (by omega), mwr _ _ _ (by omega), mwr _ _ _ (by omega), e5 k hk, if_pos ⟨hk, hs⟩]
    exact ⟨rfl, e6 k hk hs⟩
