/-! Q4 -/
/-- tags and cells of a thread that is made -/
def tgS (T : Nat → Nat) (A n : Nat) : Nat → Nat := fun b => if b = A then 600 + 16 * n else if b = A + 1 then 605 + 16 * n else if b = A + 2 then 606 + 16 * n else if b = A + 3 then 609 + 16 * n else if b = A + 4 then 610 + 16 * n else if b = A + 5 then 611 + 16 * n else T b
def clS (C : Nat → Nat) (A n : Nat) : Nat → Nat := fun g => if g = 600 + 16 * n then A else if g = 605 + 16 * n then A + 1 else if g = 606 + 16 * n then A + 2 else if g = 609 + 16 * n then A + 3 else if g = 610 + 16 * n then A + 4 else if g = 611 + 16 * n then A + 5 else C g
def isS (n g : Nat) : Prop := g = 600 + 16 * n ∨ g = 605 + 16 * n ∨ g = 606 + 16 * n ∨ g = 609 + 16 * n ∨ g = 610 + 16 * n ∨ g = 611 + 16 * n
set_option maxRecDepth 20000 in
set_option maxHeartbeats 4000000 in
theorem clS_o {C : Nat → Nat} {A n g : Nat} (h : ¬ isS n g) : clS C A n g = C g := by
  unfold isS at h
  unfold clS
  rw [if_neg (by omega), if_neg (by omega), if_neg (by omega), if_neg (by omega), if_neg (by omega), if_neg (by omega)]
theorem tgS_lt {T : Nat → Nat} {A n b : Nat} (h : b < A) : tgS T A n b = T b := by
  unfold tgS
  rw [if_neg (by omega), if_neg (by omega), if_neg (by omega), if_neg (by omega), if_neg (by omega), if_neg (by omega)]
set_option maxRecDepth 20000 in
set_option maxHeartbeats 4000000 in
theorem clS_i (C : Nat → Nat) (A n : Nat) : clS C A n (600 + 16 * n) = A ∧ clS C A n (605 + 16 * n) = A + 1 ∧ clS C A n (606 + 16 * n) = A + 2 ∧ clS C A n (609 + 16 * n) = A + 3 ∧ clS C A n (610 + 16 * n) = A + 4 ∧ clS C A n (611 + 16 * n) = A + 5 := by
  unfold clS
  refine ⟨?_, ?_, ?_, ?_, ?_, ?_⟩
  · rw [if_pos rfl]
  · rw [if_neg (by omega), if_pos rfl]
  · rw [if_neg (by omega), if_neg (by omega), if_pos rfl]
  · rw [if_neg (by omega), if_neg (by omega), if_neg (by omega), if_pos rfl]
  · rw [if_neg (by omega), if_neg (by omega), if_neg (by omega), if_neg (by omega), if_pos rfl]
  · rw [if_neg (by omega), if_neg (by omega), if_neg (by omega), if_neg (by omega), if_neg (by omega), if_pos rfl]
set_option maxRecDepth 20000 in
set_option maxHeartbeats 4000000 in
theorem tgS_i (T : Nat → Nat) (A n : Nat) : tgS T A n A = 600 + 16 * n ∧ tgS T A n (A + 1) = 605 + 16 * n ∧ tgS T A n (A + 2) = 606 + 16 * n ∧ tgS T A n (A + 3) = 609 + 16 * n ∧ tgS T A n (A + 4) = 610 + 16 * n ∧ tgS T A n (A + 5) = 611 + 16 * n := by
  unfold tgS
  refine ⟨?_, ?_, ?_, ?_, ?_, ?_⟩
  · rw [if_pos rfl]
  · rw [if_neg (by omega), if_pos rfl]
  · rw [if_neg (by omega), if_neg (by omega), if_pos rfl]
  · rw [if_neg (by omega), if_neg (by omega), if_neg (by omega), if_pos rfl]
  · rw [if_neg (by omega), if_neg (by omega), if_neg (by omega), if_neg (by omega), if_pos rfl]
  · rw [if_neg (by omega), if_neg (by omega), if_neg (by omega), if_neg (by omega), if_neg (by omega), if_pos rfl]
set_option maxRecDepth 20000 in
set_option maxHeartbeats 4000000 in
theorem aAl_new {X X' : XS} {n : Nat} (hn : n < 6) (e : X'.2.2 = X.2.2 ++ [(14, 0), (0, 440), (0, 440), (0, 20), (0, 20), (0, 20)]) (h0 : X.2.1 50 n = none) {a0 : Nat} (h1 : X'.2.1 50 n = some a0) (hp : ∀ a f, a = 30 ∨ a = 35 ∨ a = 51 ∨ a = 41 ∨ a = 50 → ¬ (a = 50 ∧ f = n) → X'.2.1 a f = X.2.1 a f) (sh : ∀ b q, xT X b = some q → xT X' b = some q) : aAl X X' := by
  have s := aSm_app e
  simp only [List.map_cons, List.map_nil, List.sum_cons, List.sum_nil] at s
  have m1 := aRl_mono (hp 30 2 (by omega) (by omega)) sh
  have m2 := aRl_mono (hp 35 2 (by omega) (by omega)) sh
  have m3 := aRl_mono (hp 51 2 (by omega) (by omega)) sh
  have m4 := aRl_mono (hp 41 1 (by omega) (by omega)) sh
  have o0 : aOn (X.2.1 50 n) = 0 := by rw [h0]; rfl
  have o1 : aOn (X'.2.1 50 n) = 1 := by rw [h1]; rfl
  have oo : ∀ t, t ≠ n → aOn (X'.2.1 50 t) = aOn (X.2.1 50 t) := fun t ht => by rw [hp 50 t (by omega) (by omega)]
  have h5 : aNs X' = aNs X + 1 := by
    unfold aNs
    rcases (show n = 0 ∨ n = 1 ∨ n = 2 ∨ n = 3 ∨ n = 4 ∨ n = 5 by omega) with e | e | e | e | e | e <;> subst e
    · rw [o0, o1, oo 1 (by omega), oo 2 (by omega), oo 3 (by omega), oo 4 (by omega), oo 5 (by omega)]; omega
    · rw [o0, o1, oo 0 (by omega), oo 2 (by omega), oo 3 (by omega), oo 4 (by omega), oo 5 (by omega)]; omega
    · rw [o0, o1, oo 0 (by omega), oo 1 (by omega), oo 3 (by omega), oo 4 (by omega), oo 5 (by omega)]; omega
    · rw [o0, o1, oo 0 (by omega), oo 1 (by omega), oo 2 (by omega), oo 4 (by omega), oo 5 (by omega)]; omega
    · rw [o0, o1, oo 0 (by omega), oo 1 (by omega), oo 2 (by omega), oo 3 (by omega), oo 5 (by omega)]; omega
    · rw [o0, o1, oo 0 (by omega), oo 1 (by omega), oo 2 (by omega), oo 3 (by omega), oo 4 (by omega)]
  unfold aAl aW
  omega
set_option maxRecDepth 20000 in
set_option maxHeartbeats 4000000 in
/-- one more thread is made -/
theorem RV.new {X0 : XS} {T0 : Nat → Nat} {X : XS} {T C : Nat → Nat} {n : Nat} {V : MS} (r : RV X0 T0 X T C n V) (hn : n < 6) : ∃ V', RV X0 T0 (xp (newS X) 50 n (some (xA X))) (tgS T (xA X) n) (clS C (xA X) n) (n + 1) V' ∧ ∀ g, ¬ isS n g → V'.1 g = V.1 g := by
  have A130 := xA130 X
  obtain ⟨i0, i5, i6, i9, i10, i11⟩ := clS_i C (xA X) n
  obtain ⟨j0, j5, j6, j9, j10, j11⟩ := tgS_i T (xA X) n
  obtain ⟨k0, k5, k6, k9, k10, k11⟩ := newS_t X
  obtain ⟨n5, n6, n9, n10, n11⟩ := newS_r X
  obtain ⟨ba1, ba2, ba3⟩ := r.ba
  have nA := newS_A X
  have dec : ∀ g, isS n g ∨ ¬ isS n g := fun g => by unfold isS; omega
  have V'e : ∃ V' : MS, (∀ g, isS n g → V'.1 g = fun _ => 0) ∧ ∀ g, ¬ isS n g → V'.1 g = V.1 g := by
    refine ⟨(fun g => if g = 600 + 16 * n ∨ g = 605 + 16 * n ∨ g = 606 + 16 * n ∨ g = 609 + 16 * n ∨ g = 610 + 16 * n ∨ g = 611 + 16 * n then (fun _ => 0) else V.1 g, V.2), fun g h => ?_, fun g h => ?_⟩
    · exact if_pos h
    · exact if_neg h
  obtain ⟨V', v1, v2⟩ := V'e
  have old : ∀ b, b < xA X → (xp (newS X) 50 n (some (xA X))).1 b = X.1 b ∧ xT (xp (newS X) 50 n (some (xA X))) b = xT X b ∧ ∀ j, ¬ (b = 50 ∧ j = n) → (xp (newS X) 50 n (some (xA X))).2.1 b j = X.2.1 b j := by
    intro b hb
    obtain ⟨a1, a2, a3⟩ := newS_lt X hb
    refine ⟨by rw [xp1]; exact a1, by rw [xTp]; exact a3, fun j hj => ?_⟩
    rw [xp2, if_neg hj, a2]
  have lold : ∀ t b L, b < xA X → xL X t b = some L → xL (xp (newS X) 50 n (some (xA X))) t b = some L := by
    intro t b L hb h
    rw [xL_iff] at h ⊢
    rw [(old b hb).2.1]
    exact h
  have notS : ∀ g, Lv n g → ¬ isS n g := by
    intro g h
    unfold Lv Fx at h
    unfold isS
    omega
  have Cn : ∀ g, Lv n g → clS C (xA X) n g = C g := fun g h => clS_o (notS g h)
  have hC : ∀ g, Lv n g → C g < xA X := fun g h => (r.tg g h).2.1
  refine ⟨V', ⟨?_, ?_, ?_, ?_, ?_, ?_, ?_, ?_, ?_, ?_⟩, v2⟩
  · intro g hg
    have eA : xA (xp (newS X) 50 n (some (xA X))) = xA X + 6 := by rw [xAp, nA]
    rcases dec g with h | h
    · rw [v1 g h, eA]
      have z : ∀ q, q < 6 → (xp (newS X) 50 n (some (xA X))).1 (xA X + q) = fun _ => 0 := fun q hq => by rw [xp1]; exact newS_0 X (by omega) (by omega)
      unfold isS at h
      rcases h with e | e | e | e | e | e <;> subst e
      · rw [i0]; exact ⟨j0, by omega, z 0 (by omega)⟩
      · rw [i5]; exact ⟨j5, by omega, z 1 (by omega)⟩
      · rw [i6]; exact ⟨j6, by omega, z 2 (by omega)⟩
      · rw [i9]; exact ⟨j9, by omega, z 3 (by omega)⟩
      · rw [i10]; exact ⟨j10, by omega, z 4 (by omega)⟩
      · rw [i11]; exact ⟨j11, by omega, z 5 (by omega)⟩
    · have hg' : Lv n g := by
        unfold Lv Fx at hg ⊢
        unfold isS at h
        omega
      obtain ⟨a1, a2, a3⟩ := r.tg g hg'
      rw [Cn g hg', v2 g h, tgS_lt a2, eA, (old _ a2).1]
      exact ⟨a1, by omega, a3⟩
  · intro a ha
    rw [clS_o (by unfold isS; unfold Fx at ha; omega)]
    exact r.fx a ha
  · intro t ht
    by_cases e : t = n
    · subst e
      have z : ∀ j, (xp (newS X) 50 t (some (xA X))).2.1 (xA X) j = (newS X).2.1 (xA X) j := fun j => by rw [xp2, if_neg (by omega)]
      refine ⟨?_, ?_, ?_, ?_, ?_, ?_, ?_, ?_, ?_, ?_, ?_, ?_⟩
      · rw [xp2, if_pos ⟨rfl, rfl⟩, i0]
      · rw [i0, xTp]; exact k0
      · rw [i0, i5, z]; exact n5
      · rw [i0, i6, z]; exact n6
      · rw [i0, i9, z]; exact n9
      · rw [i0, i10, z]; exact n10
      · rw [i0, i11, z]; exact n11
      · rw [i5, xL_iff, xTp]; exact k5
      · rw [i6, xL_iff, xTp]; exact k6
      · rw [i9, xL_iff, xTp]; exact k9
      · rw [i10, xL_iff, xTp]; exact k10
      · rw [i11, xL_iff, xTp]; exact k11
    · have ht' : t < n := by omega
      obtain ⟨s0, s1, s2, s3, s4, s5, s6, s7, s8, s9, s10, s11⟩ := r.st t ht'
      have l0 : Lv n (600 + 16 * t) := Lv_s (f := 0) ht' (by omega)
      have l5 : Lv n (605 + 16 * t) := Lv_s (f := 5) ht' (by omega)
      have l6 : Lv n (606 + 16 * t) := Lv_s (f := 6) ht' (by omega)
      have l9 : Lv n (609 + 16 * t) := Lv_s (f := 9) ht' (by omega)
      have l10 : Lv n (610 + 16 * t) := Lv_s (f := 10) ht' (by omega)
      have l11 : Lv n (611 + 16 * t) := Lv_s (f := 11) ht' (by omega)
      have n50 : C (600 + 16 * t) ≠ 50 := by
        have c50 := r.fx 50 (by unfold Fx; omega)
        rw [← c50]
        exact r.ne l0 (Lv_f (by unfold Fx; omega)) (by omega)
      have o0 := old _ (hC _ l0)
      refine ⟨?_, ?_, ?_, ?_, ?_, ?_, ?_, ?_, ?_, ?_, ?_, ?_⟩
      · rw [Cn _ l0, (old 50 (by omega)).2.2 t (by omega)]; exact s0
      · rw [Cn _ l0, o0.2.1]; exact s1
      · rw [Cn _ l0, Cn _ l5, o0.2.2 _ (fun q => n50 q.1)]; exact s2
      · rw [Cn _ l0, Cn _ l6, o0.2.2 _ (fun q => n50 q.1)]; exact s3
      · rw [Cn _ l0, Cn _ l9, o0.2.2 _ (fun q => n50 q.1)]; exact s4
      · rw [Cn _ l0, Cn _ l10, o0.2.2 _ (fun q => n50 q.1)]; exact s5
      · rw [Cn _ l0, Cn _ l11, o0.2.2 _ (fun q => n50 q.1)]; exact s6
      · rw [Cn _ l5]; exact lold _ _ _ (hC _ l5) s7
      · rw [Cn _ l6]; exact lold _ _ _ (hC _ l6) s8
      · rw [Cn _ l9]; exact lold _ _ _ (hC _ l9) s9
      · rw [Cn _ l10]; exact lold _ _ _ (hC _ l10) s10
      · rw [Cn _ l11]; exact lold _ _ _ (hC _ l11) s11
  · have l : Lv n 4 := Or.inl (by omega)
    rw [Cn _ l, (old 41 (by omega)).2.2 _ (by omega)]
    exact ⟨r.m1.1, lold _ _ _ (hC _ l) r.m1.2⟩
  · have l : Lv n 5 := Or.inl (by omega)
    rw [Cn _ l, (old 41 (by omega)).2.2 _ (by omega)]
    exact ⟨r.m2.1, lold _ _ _ (hC _ l) r.m2.2⟩
  · have l : Lv n 6 := Or.inl (by omega)
    rw [Cn _ l, (old 41 (by omega)).2.2 _ (by omega)]
    exact ⟨r.m3.1, lold _ _ _ (hC _ l) r.m3.2⟩
  · refine ⟨by omega, fun t h1 h2 => ?_⟩
    rw [(old 50 (by omega)).2.2 t (by omega)]
    exact r.no.2 t (by omega) h2
  · obtain ⟨⟨b1, b0⟩, b2, b3⟩ := ba1
    refine ⟨⟨by rw [xAp, nA]; omega, b0.trans (aAl_new hn (by simp [newS, nxr, xn, xp]) (r.no.2 n (Nat.le_refl _) hn) (a0 := xA X) (by rw [xp2, if_pos ⟨rfl, rfl⟩]) (fun a f ha hn => (old a (by omega)).2.2 f hn) (fun b q h => by rw [(old b (xT_lt h)).2.1]; exact h))⟩, fun b hb => by rw [tgS_lt (by omega)]; exact b2 b hb, fun b q h => ?_⟩
    have := b3 b q h
    rw [(old b (xT_lt this)).2.1]
    exact this
  · intro a h1 h2 h3 h4 h5 h6 h7
    rw [tgS_lt (by omega)]
    exact ba2 a h1 h2 h3 h4 h5 h6 h7
  · intro b hb hr
    have hb' : b < xA X := by have := ba1.1.1; omega
    obtain ⟨u1, u2⟩ := ba3 b hb hr
    refine ⟨by rw [(old b hb').1]; exact u1, ?_⟩
    rw [← u2]
    funext j
    refine (old b hb').2.2 j (fun q => ?_)
    apply hr
    have e50 : T b = 1000 + 50 := by rw [q.1]; exact ba2 50 (by omega) (by omega) (by omega) (by omega) (by omega) (by omega) (by omega)
    rw [ba1.2.1 b hb] at e50
    rw [e50]
    unfold RunT
    omega
