/-! V2 -/
set_option maxRecDepth 20000 in
set_option maxHeartbeats 4000000 in
/-- the rows of a run stand in a later state too -/
theorem RV.re {X0 : XS} {T0 : Nat → Nat} {X : XS} {T C : Nat → Nat} {n : Nat} {V : MS} (r : RV X0 T0 X T C n V) {X' : XS} {T' : Nat → Nat} {S : Nat → Prop} (hm : Mw T T' X X') (ht : TG T') (hu : Un S T X X') (hS : ∀ g, RunT g → S g) : RV X' T' X' T' C n V := by
  have hn := r.no.1
  have u : ∀ g, Lv n g → X'.1 (C g) = X.1 (C g) ∧ X'.2.1 (C g) = X.2.1 (C g) := fun g hg => hu _ (r.tg g hg).2.1 (by rw [(r.tg g hg).1]; exact hS g (Lv_run hn hg))
  have uf : ∀ a, Fx a → X'.2.1 a = X.2.1 a := by
    intro a ha
    have := (u (1000 + a) (Lv_f ha)).2
    rw [r.fx a ha] at this
    exact this
  have sl : ∀ t b L, xL X t b = some L → xL X' t b = some L := by
    intro t b L h
    rw [xL_iff] at h ⊢
    exact hm.2.2 _ _ h
  refine ⟨?_, r.fx, ?_, ?_, ?_, ?_, ?_, Mo.id T' rfl, ht, fun _ _ _ => ⟨rfl, rfl⟩⟩
  · intro g hg
    obtain ⟨h1, h2, h3⟩ := r.tg g hg
    exact ⟨by rw [hm.2.1 _ h2]; exact h1, Nat.lt_of_lt_of_le h2 hm.1, by rw [(u g hg).1]; exact h3⟩
  · intro t ht'
    obtain ⟨s0, s1, s2, s3, s4, s5, s6, s7, s8, s9, s10, s11⟩ := r.st t ht'
    have e := (u _ (Lv_s (f := 0) ht' (by omega) : Lv n (600 + 16 * t))).2
    refine ⟨?_, hm.2.2 _ _ s1, ?_, ?_, ?_, ?_, ?_, sl _ _ _ s7, sl _ _ _ s8, sl _ _ _ s9, sl _ _ _ s10, sl _ _ _ s11⟩
    · rw [uf 50 (by unfold Fx; omega)]; exact s0
    · rw [e]; exact s2
    · rw [e]; exact s3
    · rw [e]; exact s4
    · rw [e]; exact s5
    · rw [e]; exact s6
  · rw [uf 41 (by unfold Fx; omega)]; exact ⟨r.m1.1, sl _ _ _ r.m1.2⟩
  · rw [uf 41 (by unfold Fx; omega)]; exact ⟨r.m2.1, sl _ _ _ r.m2.2⟩
  · rw [uf 41 (by unfold Fx; omega)]; exact ⟨r.m3.1, sl _ _ _ r.m3.2⟩
  · rw [uf 50 (by unfold Fx; omega)]; exact r.no
/-- the row of the machine's own image -/
def R51 (X : XS) (T : Nat → Nat) : Prop := ∃ b L, X.2.1 51 2 = some b ∧ xT X b = some (0, L) ∧ (∃ k, k ≤ 7 ∧ L = 64 * 2 ^ k) ∧ T b = 3
/-- the machine may be booted: for the first time, or again -/
def BX (X : XS) (T : Nat → Nat) : Prop := R51 X T ∧ (∀ k, k < 8 → X.1 58 k = 1) ∧ ((∃ b, X.2.1 41 1 = some b ∧ xT X b = some (2, 0) ∧ ∀ t, t < 6 → X.2.1 50 t = none) ∨ ∃ C n V, RV X T X T C n V ∧ ∀ j, j < 4001 → ∃ w, w < 65536 ∧ V.1 4 j = Int32.ofNat w)
set_option maxRecDepth 20000 in
set_option maxHeartbeats 4000000 in
theorem R51_un {X X' : XS} {T T' : Nat → Nat} {S : Nat → Prop} (h : R51 X T) (ht : TG T) (hm : Mw T T' X X') (hu : Un S T X X') (h51 : S 1051) : R51 X' T' := by
  obtain ⟨b, L, h1, h2, h3, h4⟩ := h
  have := xA130 X
  have t51 := ht 51 (by omega) (by omega) (by omega) (by omega) (by omega) (by omega) (by omega)
  refine ⟨b, L, ?_, hm.2.2 _ _ h2, h3, by rw [hm.2.1 b (xT_lt h2)]; exact h4⟩
  rw [(hu 51 (by omega) (by rw [t51]; exact h51)).2]
  exact h1
set_option maxRecDepth 20000 in
set_option maxHeartbeats 4000000 in
theorem BX_un {X X' : XS} {T T' : Nat → Nat} {S : Nat → Prop} (h : BX X T) (ht : TG T) (ht' : TG T') (hm : Mw T T' X X') (hu : Un S T X X') (h51 : S 1051) (hS : ∀ g, RunT g → S g) : BX X' T' := by
  obtain ⟨h1, h2, h3⟩ := h
  have := xA130 X
  have f : ∀ a, a = 41 ∨ a = 50 ∨ a = 58 → X'.1 a = X.1 a ∧ X'.2.1 a = X.2.1 a := fun a ha => hu a (by omega) (by rw [ht a (by omega) (by omega) (by omega) (by omega) (by omega) (by omega) (by omega)]; exact hS _ (by unfold RunT; omega))
  refine ⟨R51_un h1 ht hm hu h51, ?_, ?_⟩
  · rw [(f 58 (by omega)).1]; exact h2
  · rcases h3 with ⟨b, a1, a2, a3⟩ | ⟨C, n, V, r, w⟩
    · exact Or.inl ⟨b, by rw [(f 41 (by omega)).2]; exact a1, hm.2.2 _ _ a2, by rw [(f 50 (by omega)).2]; exact a3⟩
    · exact Or.inr ⟨C, n, V, r.re hm ht' hu hS, w⟩
set_option maxRecDepth 20000 in
set_option maxHeartbeats 4000000 in
/-- a longer row was made -/
theorem aAl_row {X X' : XS} {b n n' : Nat} (h64 : 64 ≤ n) (h2 : 2 * n ≤ n') (e : X'.2.2 = X.2.2 ++ [(0, n')]) (e0 : X.2.1 51 2 = some b) (eb : xT X b = some (0, n)) (e1 : X'.2.1 51 2 = some (xA X)) (x1 : xT X' (xA X) = some (0, n')) (hp : ∀ a f, a = 30 ∨ a = 35 ∨ a = 51 ∨ a = 41 ∨ a = 50 → ¬ (a = 51 ∧ f = 2) → X'.2.1 a f = X.2.1 a f) (sh : ∀ b q, xT X b = some q → xT X' b = some q) : aAl X X' := by
  have s := aSm_app e
  simp only [List.map_cons, List.map_nil, List.sum_cons, List.sum_nil] at s
  have r0 : aRl X 51 2 = n := by unfold aRl; rw [e0]; dsimp only; rw [eb]
  have r1 : aRl X' 51 2 = n' := by unfold aRl; rw [e1]; dsimp only; rw [x1]
  have m : ∀ a f, a = 30 ∨ a = 35 ∨ a = 41 → aRl X a f ≤ aRl X' a f := fun a f ha => aRl_mono (hp a f (by omega) (by omega)) sh
  have h1 := m 30 2 (by omega)
  have h3 := m 35 2 (by omega)
  have h4 := m 41 1 (by omega)
  have h5 : aNs X' = aNs X := by
    unfold aNs
    rw [hp 50 0 (by omega) (by omega), hp 50 1 (by omega) (by omega), hp 50 2 (by omega) (by omega), hp 50 3 (by omega) (by omega), hp 50 4 (by omega) (by omega), hp 50 5 (by omega) (by omega)]
  unfold aAl aW
  omega
def CopT (g : Nat) : Prop := g = 3 ∨ g = 1051 ∨ (1053 ≤ g ∧ g ≤ 1055)
set_option maxRecDepth 20000 in
set_option maxHeartbeats 4000000 in
theorem pow64 {k j : Nat} (h : 64 * 2 ^ k < 64 * 2 ^ j) : 2 * (64 * 2 ^ k) ≤ 64 * 2 ^ j := by
  have : k < j := by
    apply Nat.lt_of_not_le
    intro q
    have := Nat.pow_le_pow_right (n := 2) (by omega) q
    omega
  have := Nat.pow_le_pow_right (n := 2) (by omega) (show k + 1 ≤ j by omega)
  rw [Nat.pow_succ] at this
  omega
set_option maxRecDepth 20000 in
set_option maxHeartbeats 4000000 in
/-- there is room for the other image's bytes -/
theorem room_51 {X : XS} {T : Nat → Nat} {n b L : Nat} (h : IMG 30 1 X T n b L) (ht : TG T) (h51 : R51 X T) : ∃ X' T' b' L', ((if Int32.ofNat L ≤ Int32.ofNat (aRl X 51 2) then some X else (ocz (X.2.1 30 2) none (fun a10 => (ocz (xL X 0 a10) none (fun n12 => (if ¬ (Int32.ofNat n12 < 0 ∨ 100000 < (Int32.ofNat n12).toNatClampNeg) then (lt (xn X 0 (Int32.ofNat n12).toNatClampNeg) fun X15 => (lt (xp X15 51 2 (some (xA X))) fun X16 => some X16)) else none)))))) : Option XS) = some X' ∧ X'.2.1 51 2 = some b' ∧ xT X' b' = some (0, L') ∧ L ≤ L' ∧ (∃ k, k ≤ 7 ∧ L' = 64 * 2 ^ k) ∧ T' b' = 3 ∧ Mo T T' X X' ∧ TG T' ∧ (∀ c, c < xA X → X'.1 c = X.1 c) ∧ ∀ c f, c < xA X → ¬ (c = 51 ∧ f = 2) → X'.2.1 c f = X.2.1 c f := by
  obtain ⟨i1, i2, i3, i4, ⟨k, hk, hL⟩, i6⟩ := h
  obtain ⟨b5, L5, r1, r2, ⟨k5, hk5, hL5⟩, r4⟩ := h51
  have e5 : aRl X 51 2 = L5 := by unfold aRl; rw [r1]; dsimp only; rw [r2]
  have p1 : 1 ≤ 2 ^ k := Nat.one_le_two_pow
  have p2 : 1 ≤ 2 ^ k5 := Nat.one_le_two_pow
  have p3 : 2 ^ k ≤ 2 ^ 7 := Nat.pow_le_pow_right (by omega) hk
  have p4 : 2 ^ k5 ≤ 2 ^ 7 := Nat.pow_le_pow_right (by omega) hk5
  have hge := xA130 X
  rw [e5]
  by_cases c : L ≤ L5
  · refine ⟨X, T, b5, L5, ?_, r1, r2, c, ⟨k5, hk5, hL5⟩, r4, Mo.id T rfl, ht, fun _ _ => rfl, fun _ _ _ _ => rfl⟩
    rw [if_pos (by rw [o_le _ _ (by omega) (by omega)]; exact c)]
  · refine ⟨xp (xn X 0 L) 51 2 (some (xA X)), fun e => if e = xA X then 3 else T e, xA X, L, ?_, ?_, ?_, Nat.le_refl _, ⟨k, hk, hL⟩, if_pos rfl, ⟨⟨?_, ?_⟩, ?_, ?_⟩, ?_, ?_, ?_⟩
    · rw [if_neg (by rw [o_le _ _ (by omega) (by omega)]; exact c)]
      refine (Ez i2).trans ((Ez (xL_iff.mpr i3)).trans ?_)
      rw [o_cl _ (by omega), if_pos (by rw [o_lt0 _ (by omega)]; exact fun q => q.elim id (fun q => absurd q (by omega)))]
    · rw [xp2, if_pos ⟨rfl, rfl⟩]
    · rw [xTp, xTn, if_pos rfl]
    · rw [xAp, xAn]; omega
    · refine aAl_row (b := b5) (n := L5) (n' := L) (by omega) (by rw [hL, hL5]; exact pow64 (by omega)) rfl r1 r2 ?_ ?_ ?_ ?_
      · rw [xp2, if_pos ⟨rfl, rfl⟩]
      · rw [xTp, xTn, if_pos rfl]
      · intro a f ha hn
        rw [xp2, if_neg hn, xn2, if_neg (by omega)]
      · intro e q hq
        have := xT_lt hq
        rw [xTp, xTn, if_neg (by omega)]
        exact hq
    · intro e he
      exact if_neg (by omega)
    · intro e q hq
      have := xT_lt hq
      rw [xTp, xTn, if_neg (by omega)]
      exact hq
    · intro a a1 a2 a3 a4 a5 a6 a7
      show (if a = xA X then _ else T a) = _
      rw [if_neg (by omega)]
      exact ht a a1 a2 a3 a4 a5 a6 a7
    · intro e he
      funext j
      rw [xp1, xn1, if_neg (by omega)]
    · intro e f he hn
      rw [xp2, if_neg hn, xn2, if_neg (by omega)]
