/-! V4 -/
set_option maxRecDepth 20000 in
set_option maxHeartbeats 4000000 in
theorem IMu {Mr : MS} {rc main : Nat} {X X' : XS} {T T' : Nat → Nat} {S : Nat → Prop} (h : IM Mr rc main X T) (ht : TG T) (hm : Mw T T' X X') (hu : Un S T X X') (s3 : S 3) (s51 : S 1051) (s53 : S 1053) (s54 : S 1054) (s55 : S 1055) : IM Mr rc main X' T' := by
  obtain ⟨b, L, ⟨h1, h2, h3, h4, h5, h6⟩, h7, h8, h9, h10⟩ := h
  have ha := xA130 X
  have u : ∀ a, a = 51 ∨ a = 53 ∨ a = 54 ∨ a = 55 → X'.1 a = X.1 a ∧ X'.2.1 a = X.2.1 a := by
    intro a q
    refine hu a (by omega) ?_
    rw [ht a (by omega) (by omega) (by omega) (by omega) (by omega) (by omega) (by omega)]
    rcases q with e | e | e | e <;> subst e <;> assumption
  have hb := xT_lt h3
  have ub := hu b hb (by rw [h6]; exact s3)
  refine ⟨b, L, ⟨?_, ?_, hm.2.2 b _ h3, h4, h5, ?_⟩, ?_, ?_, ?_, ?_⟩
  · rw [(u 51 (by omega)).1]; exact h1
  · rw [(u 51 (by omega)).2]; exact h2
  · rw [hm.2.1 b hb]; exact h6
  · intro j hj; rw [ub.1]; exact h7 j hj
  · rw [(u 53 (by omega)).1]; exact h8
  · rw [(u 54 (by omega)).1]; exact h9
  · rw [(u 55 (by omega)).1]; exact h10
set_option maxRecDepth 20000 in
set_option maxHeartbeats 4000000 in
theorem aAl_mem {X X' : XS} {b : Nat} (e : X'.2.2 = X.2.2 ++ [(2, 4001), (0, 1001), (1, 4001)]) (e0 : X.2.1 41 1 = some b) (eb : xT X b = some (2, 0)) (e1 : X'.2.1 41 1 = some (xA X)) (x1 : xT X' (xA X) = some (2, 4001)) (hp : ∀ a f, a = 30 ∨ a = 35 ∨ a = 51 ∨ a = 50 → X'.2.1 a f = X.2.1 a f) (sh : ∀ b q, xT X b = some q → xT X' b = some q) : aAl X X' := by
  have s := aSm_app e
  simp only [List.map_cons, List.map_nil, List.sum_cons, List.sum_nil] at s
  have r0 : aRl X 41 1 = 0 := by unfold aRl; rw [e0]; dsimp only; rw [eb]
  have r1 : aRl X' 41 1 = 4001 := by unfold aRl; rw [e1]; dsimp only; rw [x1]
  have h1 := aRl_mono (hp 30 2 (by omega)) sh
  have h3 := aRl_mono (hp 35 2 (by omega)) sh
  have h4 := aRl_mono (hp 51 2 (by omega)) sh
  have h5 : aNs X' = aNs X := by
    unfold aNs
    rw [hp 50 0 (by omega), hp 50 1 (by omega), hp 50 2 (by omega), hp 50 3 (by omega), hp 50 4 (by omega), hp 50 5 (by omega)]
  unfold aAl aW
  omega
def memX (X : XS) : XS := xp (xn (xp (xn (xp (xn X 2 4001) 41 1 (some (xA X))) 0 1001) 41 2 (some (xA X + 1))) 1 4001) 41 3 (some (xA X + 2))
theorem memX_A (X : XS) : xA (memX X) = xA X + 3 := by
  unfold memX
  rw [xAp, xAn, xAp, xAn, xAp, xAn]
set_option maxRecDepth 20000 in
set_option maxHeartbeats 4000000 in
theorem memX_1 (X : XS) {b : Nat} (hb : b < xA X) : (memX X).1 b = X.1 b := by
  unfold memX
  funext j
  simp only [xp1, xn1, xAp, xAn]
  rw [if_neg (by omega), if_neg (by omega), if_neg (by omega)]
set_option maxRecDepth 20000 in
set_option maxHeartbeats 4000000 in
theorem memX_0 (X : XS) : (memX X).1 (xA X) = fun _ => 0 := by
  unfold memX
  funext j
  simp only [xp1, xn1, xAp, xAn]
  rw [if_neg (by omega), if_neg (by omega), if_pos trivial]
set_option maxRecDepth 20000 in
set_option maxHeartbeats 4000000 in
theorem memX_2 (X : XS) {b : Nat} (hb : b < xA X) (f : Nat) : (memX X).2.1 b f = if b = 41 ∧ f = 3 then some (xA X + 2) else if b = 41 ∧ f = 2 then some (xA X + 1) else if b = 41 ∧ f = 1 then some (xA X) else X.2.1 b f := by
  unfold memX
  simp only [xp2, xn2, xAp, xAn]
  rw [if_neg (show ¬ b = xA X + 1 + 1 by omega), if_neg (show ¬ b = xA X + 1 by omega), if_neg (show ¬ b = xA X by omega)]
theorem memX_T (X : XS) (b : Nat) : xT (memX X) b = if b = xA X + 2 then some (1, 4001) else if b = xA X + 1 then some (0, 1001) else if b = xA X then some (2, 4001) else xT X b := by
  unfold memX
  simp only [xTp, xTn, xAp, xAn]
set_option maxRecDepth 20000 in
set_option maxHeartbeats 4000000 in
/-- the rows of the memory are there -/
theorem memRows {X : XS} {T : Nat → Nat} (ht : TG T) (h : (∃ b, X.2.1 41 1 = some b ∧ xT X b = some (2, 0) ∧ ∀ t, t < 6 → X.2.1 50 t = none) ∨ ∃ C n V, RV X T X T C n V ∧ ∀ j, j < 4001 → ∃ w, w < 65536 ∧ V.1 4 j = Int32.ofNat w) : ∃ a1 n3, X.2.1 41 1 = some a1 ∧ xL X 2 a1 = some n3 ∧ ∃ X' T' C n V, ((if 4001 ≤ Int32.ofNat n3 then some X else (lt (xn X 2 4001) fun X6 => (lt (xp X6 41 1 (some (xA X))) fun X7 => (lt (xn X7 0 1001) fun X8 => (lt (xp X8 41 2 (some (xA X7))) fun X9 => (lt (xn X9 1 4001) fun X10 => (lt (xp X10 41 3 (some (xA X9))) fun X11 => some X11))))))) : Option XS) = some X' ∧ RV X' T' X' T' C n V ∧ (∀ j, j < 4001 → ∃ w, w < 65536 ∧ V.1 4 j = Int32.ofNat w) ∧ Mo T T' X X' ∧ TG T' ∧ Un (fun g => g ≠ 1041) T X X' := by
  have hge := xA130 X
  rcases h with ⟨b, h1, h2, h3⟩ | ⟨C, n, V, r, w⟩
  · refine ⟨b, 0, h1, xL_iff.mpr h2, memX X, fun e => if e = xA X then 4 else if e = xA X + 1 then 5 else if e = xA X + 2 then 6 else T e, fun g => if g = 4 then xA X else if g = 5 then xA X + 1 else if g = 6 then xA X + 2 else g - 1000, 0, (fun g => (memX X).1 (if g = 4 then xA X else if g = 5 then xA X + 1 else if g = 6 then xA X + 2 else g - 1000), 0), ?_, ?_, ?_, ?_, ?_, ?_⟩
    · rw [if_neg (by decide)]
      unfold memX
      simp only [lt, xAp, xAn]
    · have ht' : TG (fun e => if e = xA X then 4 else if e = xA X + 1 then 5 else if e = xA X + 2 then 6 else T e) := by
        intro a a1 a2 a3 a4 a5 a6 a7
        show (if a = xA X then _ else _) = _
        rw [if_neg (by omega), if_neg (by omega), if_neg (by omega)]
        exact ht a a1 a2 a3 a4 a5 a6 a7
      refine ⟨?_, ?_, ?_, ?_, ?_, ?_, ?_, Mo.id _ rfl, ht', fun _ _ _ => ⟨rfl, rfl⟩⟩
      · intro g hg
        unfold Lv Fx at hg
        refine ⟨?_, ?_, rfl⟩
        · dsimp only
          by_cases e4 : g = 4
          · subst e4; simp
          · by_cases e5 : g = 5
            · subst e5; simp
            · by_cases e6 : g = 6
              · subst e6; simp
              · rw [if_neg e4, if_neg e5, if_neg e6]
                have q : (if g - 1000 = xA X then 4 else if g - 1000 = xA X + 1 then 5 else if g - 1000 = xA X + 2 then 6 else T (g - 1000)) = 1000 + (g - 1000) := ht' (g - 1000) (by omega) (by omega) (by omega) (by omega) (by omega) (by omega) (by omega)
                rw [q]
                omega
        · rw [memX_A]
          dsimp only
          by_cases e4 : g = 4
          · rw [if_pos e4]; omega
          · by_cases e5 : g = 5
            · rw [if_neg e4, if_pos e5]; omega
            · by_cases e6 : g = 6
              · rw [if_neg e4, if_neg e5, if_pos e6]; omega
              · rw [if_neg e4, if_neg e5, if_neg e6]; omega
      · intro a ha
        unfold Fx at ha
        show (if 1000 + a = 4 then _ else _) = _
        rw [if_neg (by omega), if_neg (by omega), if_neg (by omega)]
        omega
      · intro t ht
        omega
      · show _ = some (xA X) ∧ xL (memX X) 2 (xA X) = _
        rw [memX_2 X (by omega), xL_iff, memX_T]
        simp
      · show _ = some (xA X + 1) ∧ xL (memX X) 0 (xA X + 1) = _
        rw [memX_2 X (by omega), xL_iff, memX_T]
        simp
      · show _ = some (xA X + 2) ∧ xL (memX X) 1 (xA X + 2) = _
        rw [memX_2 X (by omega), xL_iff, memX_T]
        simp
      · refine ⟨by omega, fun t _ ht => ?_⟩
        rw [memX_2 X (by omega), if_neg (by omega), if_neg (by omega), if_neg (by omega)]
        exact h3 t ht
    · intro j hj
      refine ⟨0, by omega, ?_⟩
      show (memX X).1 (xA X) j = _
      rw [memX_0]
      rfl
    · have sh : ∀ b q, xT X b = some q → xT (memX X) b = some q := by
        intro b q hq
        have := xT_lt hq
        rw [memX_T, if_neg (by omega), if_neg (by omega), if_neg (by omega)]
        exact hq
      refine ⟨⟨by rw [memX_A]; omega, ?_⟩, ?_, sh⟩
      · refine aAl_mem (b := b) (by simp [memX, xn, xp]) h1 h2 ?_ ?_ ?_ sh
        · rw [memX_2 X (by omega)]; simp
        · rw [memX_T]; simp
        · intro a f ha
          rw [memX_2 X (by omega), if_neg (by omega), if_neg (by omega), if_neg (by omega)]
      · intro e he
        show (if e = xA X then _ else _) = _
        rw [if_neg (by omega), if_neg (by omega), if_neg (by omega)]
    · intro a a1 a2 a3 a4 a5 a6 a7
      show (if a = xA X then _ else _) = _
      rw [if_neg (by omega), if_neg (by omega), if_neg (by omega)]
      exact ht a a1 a2 a3 a4 a5 a6 a7
    · intro c hc hs
      have x41 : c ≠ 41 := by
        intro q
        subst q
        exact hs (ht 41 (by omega) (by omega) (by omega) (by omega) (by omega) (by omega) (by omega))
      refine ⟨memX_1 X hc, ?_⟩
      funext f
      rw [memX_2 X hc, if_neg (fun q => x41 q.1), if_neg (fun q => x41 q.1), if_neg (fun q => x41 q.1)]
  · refine ⟨C 4, 4001, r.m1.1, r.m1.2, X, T, C, n, V, ?_, r, w, Mo.id T rfl, ht, fun _ _ _ => ⟨rfl, rfl⟩⟩
    rw [if_pos (by decide)]
set_option maxRecDepth 20000 in
set_option maxHeartbeats 4000000 in
/-- how many fields the objects of a class have -/
theorem memLoop {Mr : MS} {kc rc main : Nat} (gp : GP Mr kc rc main) {X0 : XS} {T0 : Nat → Nat} (ht0 : TG T0) (him : IM Mr rc main X0 T0) {T C : Nat → Nat} {n : Nat} : ∀ N i X V, i ≤ 10 → 10 - i < N → RV X0 T0 X T C n V → (∀ c, c < kc → fm Mr 77 c → kn Mr c < i → V.1 1045 (kn Mr c) = Int32.ofNat (aI Mr c) ∧ V.1 1046 (kn Mr c) = Int32.ofNat (aF Mr c)) → ∃ X' V', lp b40_Memory_start_51 N (Int32.ofNat i, X) = some (Int32.ofNat 10, X') ∧ RV X0 T0 X' T C n V' ∧ (∀ g, g ≠ 1045 → g ≠ 1046 → V'.1 g = V.1 g) ∧ ∀ c, c < kc → fm Mr 77 c → V'.1 1045 (kn Mr c) = Int32.ofNat (aI Mr c) ∧ V'.1 1046 (kn Mr c) = Int32.ofNat (aF Mr c) := by
  have hk10 := (gp_k10 gp).1
  have hNK := NK_le Mr
  intro N
  induction N with
  | zero => intro i X V h1 h2; omega
  | succ N ih =>
    intro i X V h1 h2 r hc
    have im := r.im ht0 him
    by_cases e : i = 10
    · subst e
      refine ⟨X, V, lp_inr ?_, r, fun _ _ _ => rfl, fun c h3 h4 => hc c h3 h4 ?_⟩
      · unfold b40_Memory_start_51
        rw [if_pos (by show (10 : Int32) ≤ Int32.ofNat 10; decide)]
      · have := kn_lt (by omega) h4
        omega
    · have hi : i < 10 := by omega
      have n10 : ¬ (10 : Int32) ≤ Int32.ofNat i := by rw [o_leL _ _ (by decide) (by omega)]; show ¬ 10 ≤ i; omega
      have cl : (Int32.ofNat i).toNatClampNeg = i := o_cl _ (by omega)
      have ix : ixo (Int32.ofNat i) 10 := ixl hi (by omega)
      have step : ∃ v w, b40_Memory_start_51 (Int32.ofNat i, X) = some (.inl (Int32.ofNat (i + 1), xw (xw X 45 i v) 46 i w)) ∧ ∀ c, c < kc → fm Mr 77 c → kn Mr c = i → v = Int32.ofNat (aI Mr c) ∧ w = Int32.ofNat (aF Mr c) := by
        by_cases hk : i < NK Mr
        · obtain ⟨c, c1, c2, c3⟩ := sel_ex (S := fmB Mr 77) 10 i hk
          have c2 : fm Mr 77 c := fmB_iff.mp c2
          have ck : c < kc := by
            apply Nat.lt_of_not_le
            intro q
            have := gp.2.2.1.2.2.2.1 c c1 c2
            omega
          have c3 : kn Mr c = i := c3
          have i1 := ints_51 im gp ck c2
          have im2 := (r.f (a := 45) (by unfold Fx; omega) i (Int32.ofNat (aI Mr c))).im ht0 him
          have i2 := ints_51 im2 gp ck c2
          rw [c3] at i1 i2
          refine ⟨Int32.ofNat (aI Mr c), Int32.ofNat (aF Mr c), ?_, ?_⟩
          · have nk : ¬ Int32.ofNat (NK Mr) ≤ Int32.ofNat i := by rw [o_le _ _ (by omega) (by omega)]; omega
            unfold b40_Memory_start_51
            dsimp only
            rw [if_neg n10, kinds_51' im gp, Option.bind_some, if_neg nk, i1.1, Option.bind_some, Option.bind_some, if_pos ix, cl]
            show ((f_Image_kinds_51 (xw X 45 i (Int32.ofNat (aI Mr c)))).bind _) = _
            rw [kinds_51' im2 gp, Option.bind_some, if_neg nk, i2.2, Option.bind_some, o_addR]
          · intro c' h3 h4 h5
            have : c' = c := cnt_inj (fmB_iff.mpr h4) (fmB_iff.mpr c2) (show kn Mr c' = kn Mr c by rw [h5, c3])
            subst this
            exact ⟨rfl, rfl⟩
        · refine ⟨0, 0, ?_, ?_⟩
          · have nk : Int32.ofNat (NK Mr) ≤ Int32.ofNat i := by rw [o_le _ _ (by omega) (by omega)]; omega
            have im2 := (r.f (a := 45) (by unfold Fx; omega) i 0).im ht0 him
            unfold b40_Memory_start_51
            dsimp only
            rw [if_neg n10, kinds_51' im gp, Option.bind_some, if_pos nk, Option.bind_some, if_pos ix, cl]
            show ((f_Image_kinds_51 (xw X 45 i 0)).bind _) = _
            rw [kinds_51' im2 gp, Option.bind_some, if_pos nk, o_addR]
          · intro c' h3 h4 h5
            have := kn_lt (by omega) h4
            omega
      obtain ⟨v, w, st, vw⟩ := step
      have r2 := (r.f (a := 45) (by unfold Fx; omega) i v).f (a := 46) (by unfold Fx; omega) i w
      obtain ⟨X', V', a1, a2, a3, a4⟩ := ih (i + 1) _ _ (by omega) (by omega) r2 (by
        intro c h3 h4 h5
        by_cases q : kn Mr c = i
        · obtain ⟨b1, b2⟩ := vw c h3 h4 q
          rw [q, mw1, if_neg (by omega), mw1, if_pos ⟨rfl, rfl⟩, mw1, if_pos ⟨rfl, rfl⟩]
          exact ⟨b1, b2⟩
        · rw [mw1, if_neg (by omega), mw1, if_neg (by omega), mw1, if_neg (by omega), mw1, if_neg (by omega)]
          exact hc c h3 h4 (by omega))
      refine ⟨X', V', by rw [lp_inl st]; exact a1, a2, ?_, a4⟩
      intro g g1 g2
      rw [a3 g g1 g2, mwr _ _ _ (by omega), mwr _ _ _ (by omega)]
set_option maxRecDepth 20000 in
set_option maxHeartbeats 4000000 in
theorem fill56 {X0 : XS} {T0 T C : Nat → Nat} {n : Nat} : ∀ N i X V, i ≤ 8 → 8 - i < N → RV X0 T0 X T C n V → (∀ k, k < i → V.1 1056 k = 0) → ∃ X' V', lp (b5_Arrays_fill_562 0) N (Int32.ofNat i, X) = some (Int32.ofNat 8, X') ∧ RV X0 T0 X' T C n V' ∧ (∀ g, g ≠ 1056 → V'.1 g = V.1 g) ∧ ∀ k, k < 8 → V'.1 1056 k = 0 := by
  intro N
  induction N with
  | zero => intro i X V h1 h2; omega
  | succ N ih =>
    intro i X V h1 h2 r hc
    by_cases e : i = 8
    · subst e
      refine ⟨X, V, lp_inr ?_, r, fun _ _ => rfl, hc⟩
      unfold b5_Arrays_fill_562
      rw [if_pos (by show (8 : Int32) ≤ Int32.ofNat 8; decide)]
    · have st : b5_Arrays_fill_562 0 (Int32.ofNat i, X) = some (.inl (Int32.ofNat (i + 1), xw X 56 i 0)) := by
        unfold b5_Arrays_fill_562
        dsimp only
        rw [if_neg (by rw [o_leL _ _ (by decide) (by omega)]; show ¬ 8 ≤ i; omega), if_pos (ixl (by omega) (by omega)), o_cl _ (by omega), o_addR]
      obtain ⟨X', V', a1, a2, a3, a4⟩ := ih (i + 1) _ _ (by omega) (by omega) (r.f (a := 56) (by unfold Fx; omega) i 0) (by
        intro k hk
        rw [mw1]
        by_cases q : k = i
        · rw [if_pos ⟨rfl, q⟩]
        · rw [if_neg (by omega)]; exact hc k (by omega))
      exact ⟨X', V', by rw [lp_inl st]; exact a1, a2, fun g hg => by rw [a3 g hg, mwr _ _ _ (by omega)], a4⟩
set_option maxRecDepth 20000 in
set_option maxHeartbeats 4000000 in
theorem fill57 {X0 : XS} {T0 T C : Nat → Nat} {n : Nat} : ∀ N i X V, i ≤ 8 → 8 - i < N → RV X0 T0 X T C n V → (∀ k, k < i → V.1 1057 k = 0) → ∃ X' V', lp (b5_Arrays_fill_572 0) N (Int32.ofNat i, X) = some (Int32.ofNat 8, X') ∧ RV X0 T0 X' T C n V' ∧ (∀ g, g ≠ 1057 → V'.1 g = V.1 g) ∧ ∀ k, k < 8 → V'.1 1057 k = 0 := by
  intro N
  induction N with
  | zero => intro i X V h1 h2; omega
  | succ N ih =>
    intro i X V h1 h2 r hc
    by_cases e : i = 8
    · subst e
      refine ⟨X, V, lp_inr ?_, r, fun _ _ => rfl, hc⟩
      unfold b5_Arrays_fill_572
      rw [if_pos (by show (8 : Int32) ≤ Int32.ofNat 8; decide)]
    · have st : b5_Arrays_fill_572 0 (Int32.ofNat i, X) = some (.inl (Int32.ofNat (i + 1), xw X 57 i 0)) := by
        unfold b5_Arrays_fill_572
        dsimp only
        rw [if_neg (by rw [o_leL _ _ (by decide) (by omega)]; show ¬ 8 ≤ i; omega), if_pos (ixl (by omega) (by omega)), o_cl _ (by omega), o_addR]
      obtain ⟨X', V', a1, a2, a3, a4⟩ := ih (i + 1) _ _ (by omega) (by omega) (r.f (a := 57) (by unfold Fx; omega) i 0) (by
        intro k hk
        rw [mw1]
        by_cases q : k = i
        · rw [if_pos ⟨rfl, q⟩]
        · rw [if_neg (by omega)]; exact hc k (by omega))
      exact ⟨X', V', by rw [lp_inl st]; exact a1, a2, fun g hg => by rw [a3 g hg, mwr _ _ _ (by omega)], a4⟩
