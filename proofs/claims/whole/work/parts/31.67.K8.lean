/-! K8 -/
/-- tags of the cells that a run writes -/
def RunT (g : Nat) : Prop := (4 ≤ g ∧ g ≤ 6) ∨ (600 ≤ g ∧ g < 700) ∨ (1040 ≤ g ∧ g ≤ 1041) ∨ (1045 ≤ g ∧ g ≤ 1050) ∨ (1056 ≤ g ∧ g ≤ 1059)
def Fx (a : Nat) : Prop := a = 40 ∨ a = 41 ∨ (45 ≤ a ∧ a ≤ 50) ∨ (56 ≤ a ∧ a ≤ 59)
/-- tags that have a cell when n threads have been made -/
def Lv (n g : Nat) : Prop := (4 ≤ g ∧ g ≤ 6) ∨ (600 ≤ g ∧ g < 600 + 16 * n ∧ ((g - 600) % 16 = 0 ∨ (g - 600) % 16 = 5 ∨ (g - 600) % 16 = 6 ∨ (g - 600) % 16 = 9 ∨ (g - 600) % 16 = 10 ∨ (g - 600) % 16 = 11)) ∨ (1000 ≤ g ∧ Fx (g - 1000))
/-- the cells of a thread, by their tags -/
def StC (X : XS) (C : Nat → Nat) (t : Nat) : Prop := (X.2.1 50 t = some (C (600 + 16 * t))) ∧ (xT X (C (600 + 16 * t)) = some (14, 0)) ∧ (X.2.1 (C (600 + 16 * t)) 5 = some (C (605 + 16 * t))) ∧ (X.2.1 (C (600 + 16 * t)) 6 = some (C (606 + 16 * t))) ∧ (X.2.1 (C (600 + 16 * t)) 9 = some (C (609 + 16 * t))) ∧ (X.2.1 (C (600 + 16 * t)) 10 = some (C (610 + 16 * t))) ∧ (X.2.1 (C (600 + 16 * t)) 11 = some (C (611 + 16 * t))) ∧ (xL X 0 (C (605 + 16 * t)) = some 440) ∧ (xL X 0 (C (606 + 16 * t)) = some 440) ∧ (xL X 0 (C (609 + 16 * t)) = some 20) ∧ (xL X 0 (C (610 + 16 * t)) = some 20) ∧ (xL X 0 (C (611 + 16 * t)) = some 20)
theorem StC.r {X : XS} {C : Nat → Nat} {t : Nat} (h0 : StC X C t) : X.2.1 50 t = some (C (600 + 16 * t)) := h0.1
theorem StC.x {X : XS} {C : Nat → Nat} {t : Nat} (h0 : StC X C t) : xT X (C (600 + 16 * t)) = some (14, 0) := h0.2.1
theorem StC.r5 {X : XS} {C : Nat → Nat} {t : Nat} (h0 : StC X C t) : X.2.1 (C (600 + 16 * t)) 5 = some (C (605 + 16 * t)) := h0.2.2.1
theorem StC.r6 {X : XS} {C : Nat → Nat} {t : Nat} (h0 : StC X C t) : X.2.1 (C (600 + 16 * t)) 6 = some (C (606 + 16 * t)) := h0.2.2.2.1
theorem StC.r9 {X : XS} {C : Nat → Nat} {t : Nat} (h0 : StC X C t) : X.2.1 (C (600 + 16 * t)) 9 = some (C (609 + 16 * t)) := h0.2.2.2.2.1
theorem StC.r10 {X : XS} {C : Nat → Nat} {t : Nat} (h0 : StC X C t) : X.2.1 (C (600 + 16 * t)) 10 = some (C (610 + 16 * t)) := h0.2.2.2.2.2.1
theorem StC.r11 {X : XS} {C : Nat → Nat} {t : Nat} (h0 : StC X C t) : X.2.1 (C (600 + 16 * t)) 11 = some (C (611 + 16 * t)) := h0.2.2.2.2.2.2.1
theorem StC.l5 {X : XS} {C : Nat → Nat} {t : Nat} (h0 : StC X C t) : xL X 0 (C (605 + 16 * t)) = some 440 := h0.2.2.2.2.2.2.2.1
theorem StC.l6 {X : XS} {C : Nat → Nat} {t : Nat} (h0 : StC X C t) : xL X 0 (C (606 + 16 * t)) = some 440 := h0.2.2.2.2.2.2.2.2.1
theorem StC.l9 {X : XS} {C : Nat → Nat} {t : Nat} (h0 : StC X C t) : xL X 0 (C (609 + 16 * t)) = some 20 := h0.2.2.2.2.2.2.2.2.2.1
theorem StC.l10 {X : XS} {C : Nat → Nat} {t : Nat} (h0 : StC X C t) : xL X 0 (C (610 + 16 * t)) = some 20 := h0.2.2.2.2.2.2.2.2.2.2.1
theorem StC.l11 {X : XS} {C : Nat → Nat} {t : Nat} (h0 : StC X C t) : xL X 0 (C (611 + 16 * t)) = some 20 := h0.2.2.2.2.2.2.2.2.2.2.2
/-- the rows of a run, by their tags: V; outside of them nothing differs from X0 -/
def RV (X0 : XS) (T0 : Nat → Nat) (X : XS) (T C : Nat → Nat) (n : Nat) (V : MS) : Prop := (∀ g, Lv n g → T (C g) = g ∧ C g < xA X ∧ X.1 (C g) = V.1 g) ∧ (∀ a, Fx a → C (1000 + a) = a) ∧ (∀ t, t < n → StC X C t) ∧ (X.2.1 41 1 = some (C 4) ∧ xL X 2 (C 4) = some 4001) ∧ (X.2.1 41 2 = some (C 5) ∧ xL X 0 (C 5) = some 1001) ∧ (X.2.1 41 3 = some (C 6) ∧ xL X 1 (C 6) = some 4001) ∧ (n ≤ 6 ∧ ∀ t, n ≤ t → t < 6 → X.2.1 50 t = none) ∧ (Mo T0 T X0 X ∧ TG T ∧ Un (fun g => ¬ RunT g) T0 X0 X)
theorem RV.tg {X0 : XS} {T0 : Nat → Nat} {X : XS} {T C : Nat → Nat} {n : Nat} {V : MS} (h0 : RV X0 T0 X T C n V) : ∀ g, Lv n g → T (C g) = g ∧ C g < xA X ∧ X.1 (C g) = V.1 g := h0.1
theorem RV.fx {X0 : XS} {T0 : Nat → Nat} {X : XS} {T C : Nat → Nat} {n : Nat} {V : MS} (h0 : RV X0 T0 X T C n V) : ∀ a, Fx a → C (1000 + a) = a := h0.2.1
theorem RV.st {X0 : XS} {T0 : Nat → Nat} {X : XS} {T C : Nat → Nat} {n : Nat} {V : MS} (h0 : RV X0 T0 X T C n V) : ∀ t, t < n → StC X C t := h0.2.2.1
theorem RV.m1 {X0 : XS} {T0 : Nat → Nat} {X : XS} {T C : Nat → Nat} {n : Nat} {V : MS} (h0 : RV X0 T0 X T C n V) : X.2.1 41 1 = some (C 4) ∧ xL X 2 (C 4) = some 4001 := h0.2.2.2.1
theorem RV.m2 {X0 : XS} {T0 : Nat → Nat} {X : XS} {T C : Nat → Nat} {n : Nat} {V : MS} (h0 : RV X0 T0 X T C n V) : X.2.1 41 2 = some (C 5) ∧ xL X 0 (C 5) = some 1001 := h0.2.2.2.2.1
theorem RV.m3 {X0 : XS} {T0 : Nat → Nat} {X : XS} {T C : Nat → Nat} {n : Nat} {V : MS} (h0 : RV X0 T0 X T C n V) : X.2.1 41 3 = some (C 6) ∧ xL X 1 (C 6) = some 4001 := h0.2.2.2.2.2.1
theorem RV.no {X0 : XS} {T0 : Nat → Nat} {X : XS} {T C : Nat → Nat} {n : Nat} {V : MS} (h0 : RV X0 T0 X T C n V) : n ≤ 6 ∧ ∀ t, n ≤ t → t < 6 → X.2.1 50 t = none := h0.2.2.2.2.2.2.1
theorem RV.ba {X0 : XS} {T0 : Nat → Nat} {X : XS} {T C : Nat → Nat} {n : Nat} {V : MS} (h0 : RV X0 T0 X T C n V) : Mo T0 T X0 X ∧ TG T ∧ Un (fun g => ¬ RunT g) T0 X0 X := h0.2.2.2.2.2.2.2
set_option maxRecDepth 20000 in
set_option maxHeartbeats 4000000 in
theorem Lv_run {n g : Nat} (hn : n ≤ 6) (h : Lv n g) : RunT g := by
  unfold Lv Fx at h
  unfold RunT
  omega
set_option maxRecDepth 20000 in
set_option maxHeartbeats 4000000 in
theorem StC.of2 {X X' : XS} {C : Nat → Nat} {t : Nat} (s : StC X C t) (e : X'.2 = X.2) : StC X' C t := by
  have eT : ∀ b, xT X' b = xT X b := fun b => by unfold xT hT; rw [e]
  have eL : ∀ t b, xL X' t b = xL X t b := fun t b => by unfold xL; rw [eT]
  obtain ⟨s0, s1, s2, s3, s4, s5, s6, s7, s8, s9, s10, s11⟩ := s
  refine ⟨?_, ?_, ?_, ?_, ?_, ?_, ?_, ?_, ?_, ?_, ?_, ?_⟩ <;> first | (rw [eT]; assumption) | (rw [e]; assumption) | (rw [eL]; assumption) | assumption
set_option maxRecDepth 20000 in
set_option maxHeartbeats 4000000 in
theorem RV.ne {X0 : XS} {T0 : Nat → Nat} {X : XS} {T C : Nat → Nat} {n : Nat} {V : MS} (r : RV X0 T0 X T C n V) {g g' : Nat} (h : Lv n g) (h' : Lv n g') (e : g ≠ g') : C g ≠ C g' := by
  intro q
  have a := (r.tg g h).1
  have b := (r.tg g' h').1
  rw [q, b] at a
  exact e a.symm
theorem Lv_s {n t f : Nat} (ht : t < n) (hf : f = 0 ∨ f = 5 ∨ f = 6 ∨ f = 9 ∨ f = 10 ∨ f = 11) : Lv n (600 + f + 16 * t) := by
  unfold Lv
  omega
theorem Lv_f {n a : Nat} (ha : Fx a) : Lv n (1000 + a) := Or.inr (Or.inr ⟨by omega, by rw [Nat.add_sub_cancel_left]; exact ha⟩)
set_option maxRecDepth 20000 in
set_option maxHeartbeats 4000000 in
theorem RV.sc {X0 : XS} {T0 : Nat → Nat} {X : XS} {T C : Nat → Nat} {n : Nat} {V : MS} (r : RV X0 T0 X T C n V) {t : Nat} (ht : t < n) : SC X (C (600 + 16 * t)) (C (605 + 16 * t)) (C (606 + 16 * t)) (C (609 + 16 * t)) (C (610 + 16 * t)) (C (611 + 16 * t)) := by
  obtain ⟨s0, s1, s2, s3, s4, s5, s6, s7, s8, s9, s10, s11⟩ := r.st t ht
  have v0 : Lv n (600 + 16 * t) := Lv_s (f := 0) ht (by omega)
  have v5 : Lv n (605 + 16 * t) := Lv_s (f := 5) ht (by omega)
  have v6 : Lv n (606 + 16 * t) := Lv_s (f := 6) ht (by omega)
  have v9 : Lv n (609 + 16 * t) := Lv_s (f := 9) ht (by omega)
  have v10 : Lv n (610 + 16 * t) := Lv_s (f := 10) ht (by omega)
  have v11 : Lv n (611 + 16 * t) := Lv_s (f := 11) ht (by omega)
  exact ⟨s1, s2, s3, s4, s5, s6, s7, s8, s9, s10, s11, ⟨r.ne v0 v5 (by omega), r.ne v0 v6 (by omega), r.ne v0 v9 (by omega), r.ne v0 v10 (by omega), r.ne v0 v11 (by omega)⟩, ⟨r.ne v5 v6 (by omega), r.ne v5 v9 (by omega), r.ne v5 v10 (by omega), r.ne v5 v11 (by omega)⟩, ⟨r.ne v6 v9 (by omega), r.ne v6 v10 (by omega), r.ne v6 v11 (by omega)⟩, ⟨r.ne v9 v10 (by omega), r.ne v9 v11 (by omega), r.ne v10 v11 (by omega)⟩⟩
set_option maxRecDepth 20000 in
set_option maxHeartbeats 4000000 in
/-- a row of a run is another -/
theorem RV.row {X0 : XS} {T0 : Nat → Nat} {X X' : XS} {T C : Nat → Nat} {n : Nat} {V V' : MS} (r : RV X0 T0 X T C n V) {g : Nat} (hg : Lv n g) (e2 : X'.2 = X.2) (ho : ∀ b, b ≠ C g → X'.1 b = X.1 b) (hv : ∀ k, k ≠ g → V'.1 k = V.1 k) (e : X'.1 (C g) = V'.1 g) : RV X0 T0 X' T C n V' := by
  have eT : ∀ b, xT X' b = xT X b := fun b => by unfold xT hT; rw [e2]
  have eL : ∀ t b, xL X' t b = xL X t b := fun t b => by unfold xL; rw [eT]
  have eA : xA X' = xA X := by unfold xA; rw [e2]
  obtain ⟨ba1, ba2, ba3⟩ := r.ba
  refine ⟨?_, r.fx, fun t ht => (r.st t ht).of2 e2, ?_, ?_, ?_, ?_, ?_, ba2, ?_⟩
  · intro k hk
    obtain ⟨h1, h2, h3⟩ := r.tg k hk
    refine ⟨h1, by rw [eA]; exact h2, ?_⟩
    by_cases q : k = g
    · subst q; exact e
    · rw [ho _ (r.ne hk hg q), hv k q]; exact h3
  · rw [e2, eL]; exact r.m1
  · rw [e2, eL]; exact r.m2
  · rw [e2, eL]; exact r.m3
  · rw [e2]; exact r.no
  · obtain ⟨b1, b2, b3⟩ := ba1
    exact ⟨⟨by rw [eA]; exact b1.1, b1.2.trans (aAl_2 e2)⟩, b2, fun b q h => by rw [eT]; exact b3 b q h⟩
  · intro b hb hr
    have q : b ≠ C g := by
      intro q
      have t1 : T b = T0 b := ba1.2.1 b hb
      have t2 := (r.tg g hg).1
      rw [← q, t1] at t2
      exact hr (by rw [t2]; exact Lv_run r.no.1 hg)
    rw [ho b q, e2]
    exact ba3 b hb hr
set_option maxRecDepth 20000 in
set_option maxHeartbeats 4000000 in
theorem RV.w {X0 : XS} {T0 : Nat → Nat} {X : XS} {T C : Nat → Nat} {n : Nat} {V : MS} (r : RV X0 T0 X T C n V) {g : Nat} (hg : Lv n g) (i : Nat) (v : Int32) : RV X0 T0 (xw X (C g) i v) T C n (mw V g i v) := by
  refine r.row hg rfl (fun b hb => ?_) (fun k hk => ?_) ?_
  · unfold xw; dsimp only; rw [if_neg hb]
  · unfold mw; dsimp only; rw [if_neg hk]
  · unfold xw mw
    dsimp only
    rw [if_pos rfl, if_pos rfl, (r.tg g hg).2.2]
set_option maxRecDepth 20000 in
set_option maxHeartbeats 4000000 in
theorem RV.f {X0 : XS} {T0 : Nat → Nat} {X : XS} {T C : Nat → Nat} {n : Nat} {V : MS} (r : RV X0 T0 X T C n V) {a : Nat} (ha : Fx a) (i : Nat) (v : Int32) : RV X0 T0 (xw X a i v) T C n (mw V (1000 + a) i v) := by
  have := r.w (g := 1000 + a) (Lv_f ha) i v
  rw [r.fx a ha] at this
  exact this
/-- the same on the tags -/
def mf (V : MS) (a lo hi : Nat) (v : Int32) : MS := (fun b => if b = a then (fun j => if lo ≤ j ∧ j < hi then v else V.1 a j) else V.1 b, V.2)
def mc (V : MS) (f : Nat → Int32) (d sp dp n : Nat) : MS := (fun b => if b = d then va_cpy f (V.1 d) sp dp n else V.1 b, V.2)
set_option maxRecDepth 20000 in
set_option maxHeartbeats 4000000 in
theorem mf1 (V : MS) (a lo hi : Nat) (v : Int32) (b j : Nat) : (mf V a lo hi v).1 b j = if b = a ∧ lo ≤ j ∧ j < hi then v else V.1 b j := by
  unfold mf
  dsimp only
  by_cases h : b = a
  · subst h; simp
  · simp [h]
set_option maxRecDepth 20000 in
set_option maxHeartbeats 4000000 in
theorem mc1 (V : MS) (f : Nat → Int32) (d sp dp n b j : Nat) : (mc V f d sp dp n).1 b j = if b = d ∧ dp ≤ j ∧ j < dp + n then f (sp + (j - dp)) else V.1 b j := by
  unfold mc va_cpy
  dsimp only
  by_cases h : b = d
  · subst h; simp
  · simp [h]
set_option maxRecDepth 20000 in
set_option maxHeartbeats 4000000 in
theorem RV.fill {X0 : XS} {T0 : Nat → Nat} {X : XS} {T C : Nat → Nat} {n : Nat} {V : MS} (r : RV X0 T0 X T C n V) {g : Nat} (hg : Lv n g) (lo hi : Nat) (v : Int32) : RV X0 T0 (xf X (C g) lo hi v) T C n (mf V g lo hi v) := by
  refine r.row hg rfl (fun b hb => ?_) (fun k hk => ?_) ?_
  · unfold xf; dsimp only; rw [if_neg hb]
  · unfold mf; dsimp only; rw [if_neg hk]
  · unfold xf mf
    dsimp only
    rw [if_pos rfl, if_pos rfl, (r.tg g hg).2.2]
set_option maxRecDepth 20000 in
set_option maxHeartbeats 4000000 in
theorem RV.cpy {X0 : XS} {T0 : Nat → Nat} {X : XS} {T C : Nat → Nat} {n : Nat} {V : MS} (r : RV X0 T0 X T C n V) {g g' : Nat} (hg : Lv n g) (hg' : Lv n g') (sp dp k : Nat) : RV X0 T0 (xc X (X.1 (C g')) (C g) sp dp k) T C n (mc V (V.1 g') g sp dp k) := by
  refine r.row hg rfl (fun b hb => ?_) (fun k hk => ?_) ?_
  · unfold xc; dsimp only; rw [if_neg hb]
  · unfold mc; dsimp only; rw [if_neg hk]
  · unfold xc mc
    dsimp only
    rw [if_pos rfl, if_pos rfl, (r.tg g hg).2.2, (r.tg g' hg').2.2]
theorem RV.rd {X0 : XS} {T0 : Nat → Nat} {X : XS} {T C : Nat → Nat} {n : Nat} {V : MS} (r : RV X0 T0 X T C n V) {g : Nat} (hg : Lv n g) : X.1 (C g) = V.1 g := (r.tg g hg).2.2
set_option maxRecDepth 20000 in
set_option maxHeartbeats 4000000 in
theorem RV.rf {X0 : XS} {T0 : Nat → Nat} {X : XS} {T C : Nat → Nat} {n : Nat} {V : MS} (r : RV X0 T0 X T C n V) {a : Nat} (ha : Fx a) : X.1 a = V.1 (1000 + a) := by
  have := r.rd (g := 1000 + a) (Lv_f ha)
  rw [r.fx a ha] at this
  exact this
set_option maxRecDepth 20000 in
set_option maxHeartbeats 4000000 in
theorem IM_un {Mr : MS} {rc main : Nat} {X X' : XS} {T T' : Nat → Nat} (h : IM Mr rc main X T) (ht : TG T) (hm : Mo T T' X X') (hu : Un (fun g => ¬ RunT g) T X X') : IM Mr rc main X' T' := by
  obtain ⟨b, L, ⟨h1, h2, h3, h4, h5, h6⟩, h7, h8, h9, h10⟩ := h
  have ha := xA130 X
  have u : ∀ a, a = 51 ∨ (53 ≤ a ∧ a ≤ 55) → X'.1 a = X.1 a ∧ X'.2.1 a = X.2.1 a := by
    intro a q
    refine hu a (by omega) ?_
    rw [ht a (by omega) (by omega) (by omega) (by omega) (by omega) (by omega) (by omega)]
    unfold RunT
    omega
  have hb := xT_lt h3
  have ub := hu b hb (by rw [h6]; unfold RunT; omega)
  refine ⟨b, L, ⟨?_, ?_, hm.2.2 b _ h3, h4, h5, ?_⟩, ?_, ?_, ?_, ?_⟩
  · rw [(u 51 (by omega)).1]; exact h1
  · rw [(u 51 (by omega)).2]; exact h2
  · rw [hm.2.1 b hb]; exact h6
  · intro j hj; rw [ub.1]; exact h7 j hj
  · rw [(u 53 (by omega)).1]; exact h8
  · rw [(u 54 (by omega)).1]; exact h9
  · rw [(u 55 (by omega)).1]; exact h10
theorem RV.im {X0 : XS} {T0 : Nat → Nat} {X : XS} {T C : Nat → Nat} {n : Nat} {V : MS} (r : RV X0 T0 X T C n V) (h0 : TG T0) {Mr : MS} {rc main : Nat} (h : IM Mr rc main X0 T0) : IM Mr rc main X T := IM_un h h0 r.ba.1 r.ba.2.2
