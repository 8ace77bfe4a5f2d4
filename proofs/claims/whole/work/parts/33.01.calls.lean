/-! between no calls: the first state -/
set_option maxRecDepth 20000 in
set_option maxHeartbeats 4000000 in
theorem top0 (σ : Nat → Nat → Int32) (κ : Nat → Nat → Option Nat) (h8 : ∀ j, j < 80 → σ 8 j = -1) (h9 : ∀ j, j < 8 → σ 9 j = -1) (h58 : ∀ j, j < 8 → σ 58 j = 1) (h90 : σ 90 0 = 2) (k50 : ∀ j, j < 6 → κ 50 j = none) : Top 0 (cX mjPhi0 σ mjRho0 κ) (cM mjPhi0 σ 0) := by
  refine ⟨fun a => if a = 31 then 1 else if a = 36 then 2 else if a = 52 then 3 else 1000 + a, ?_, ⟨0, 0, ?_⟩, ?_, Or.inl rfl, ?_, h90, ?_, Or.inl ⟨rfl, rfl, ?_⟩, ?_⟩
  · intro a h1 h2 h3 h4 h5 h6 h7
    show (if a = 31 then 1 else if a = 36 then 2 else if a = 52 then 3 else 1000 + a) = _
    rw [if_neg h2, if_neg h3, if_neg h4]
  · refine ⟨⟨by omega, rfl, rfl, fun c hc => absurd hc (Nat.not_lt_zero c)⟩, by omega, rfl, rfl, ⟨?_, ?_, ?_, ?_⟩, fun m hm => absurd hm (Nat.not_lt_zero m)⟩
    · intro c n hc hn
      exact Or.inl ⟨h8 _ (by omega), fun k hk => absurd hk (Nat.not_lt_zero k)⟩
    · intro n hn
      exact Or.inl ⟨h9 n hn, fun k hk => absurd hk (Nat.not_lt_zero k)⟩
    · intro j k hj
      exact absurd hj (Nat.not_lt_zero j)
    · intro k hk
      exact absurd hk (Nat.not_lt_zero k)
  · exact ⟨0, 31, 64, by omega, ⟨rfl, rfl, rfl, by omega, ⟨0, by omega, rfl⟩, rfl⟩, rfl, fun j hj => absurd hj (Nat.not_lt_zero j)⟩
  · exact ⟨0, 36, 64, by omega, ⟨rfl, rfl, rfl, by omega, ⟨0, by omega, rfl⟩, rfl⟩, rfl, fun j hj => absurd hj (Nat.not_lt_zero j)⟩
  · exact ⟨⟨52, 64, rfl, rfl, ⟨0, by omega, rfl⟩, rfl⟩, h58, Or.inl ⟨42, rfl, rfl, k50⟩⟩
  · exact ⟨rfl, rfl, rfl, rfl, rfl, rfl, rfl, rfl, rfl, rfl, rfl, rfl⟩
  · exact Nat.zero_le _
theorem law_first : ∃ X M, mjH0 = hS X M ∧ Top 0 X M := by
  refine ⟨_, _, mjH0_eq.trans (cH mjPhi0 (mjSg mjH0) 0 mjRho0 (mjKp mjH0)), top0 _ _ ?_ ?_ ?_ ?_ ?_⟩
  · exact (mjA0 (k := 5) rfl).2
  · exact (mjA0 (k := 6) rfl).2
  · exact (mjA0 (k := 45) rfl).2
  · exact (mjSg_ok mjArr0_90).2 0 (by omega)
  · exact (mjKp_ok mjRef0_50).2
/-! the room -/
theorem fk_len : ∀ c, (fk c).length ≤ 96
  | 0 => by decide
  | 1 => by decide
  | 2 => by decide
  | 3 => by decide
  | 4 => by decide
  | 5 => by decide
  | 6 => by decide
  | 7 => by decide
  | 8 => by decide
  | 9 => by decide
  | 10 => by decide
  | 11 => by decide
  | 12 => by decide
  | _ + 13 => Nat.zero_le _
def shSl (q : Nat × Nat) : Nat := if q.1 < 5 then q.2 else (fk (q.1 - 5)).length
theorem shSl_ok (W : Nat → Nat → Int32) (P : Nat → Nat → Option Nat) (dn : Int64) (a : Nat) (q : Nat × Nat) : mjSl (mkC W P dn a q) = shSl q := by
  unfold mkC shSl
  by_cases h3 : q.1 < 3
  · rw [if_pos h3, if_pos (by omega)]
    rfl
  · rw [if_neg h3]
    by_cases h5 : q.1 < 5
    · rw [if_pos h5, if_pos h5]
      rfl
    · rw [if_neg h5, if_neg h5]
      show ((fk (q.1 - 5)).mapIdx _).length = _
      rw [List.length_mapIdx]
theorem sum_shSl : ∀ (l : List (Nat × Nat)), (l.map shSl).sum ≤ 5 * (l.map (fun q => q.2 + 20)).sum ∧ 20 * l.length ≤ (l.map (fun q => q.2 + 20)).sum
  | [] => ⟨Nat.le_refl _, Nat.le_refl _⟩
  | q :: l => by
    obtain ⟨h1, h2⟩ := sum_shSl l
    have : shSl q ≤ q.2 + 96 := by
      unfold shSl
      by_cases h : q.1 < 5
      · rw [if_pos h]; omega
      · rw [if_neg h]; have := fk_len (q.1 - 5); omega
    simp only [List.map_cons, List.sum_cons, List.length_cons]
    omega
theorem hS_slots (X : XS) (M : MS) : mjSlots (hS X M) = ((hT X).map shSl).sum := by
  unfold mjSlots
  congr 1
  apply List.ext_getElem?
  intro i
  rw [List.getElem?_map, hS_get, List.getElem?_map]
  cases (hT X)[i]? with
  | none => rfl
  | some q => exact congrArg some (shSl_ok _ _ _ _ _)
theorem law_room {t : Nat} (ht : t ≤ 1000) {X : XS} {M : MS} (h : Top t X M) : (hS X M).length ≤ 600000 ∧ mjSlots (hS X M) ≤ 7302250 := by
  have r := top_room ht h
  obtain ⟨s1, s2⟩ := sum_shSl X.2.2
  have e : aSm X = (X.2.2.map (fun q => q.2 + 20)).sum := rfl
  have f : (fxT.map shSl).sum = 65646 := by decide +kernel
  rw [hS_len, hS_slots]
  unfold hT xA
  rw [List.map_append, List.sum_append, f]
  omega
/-! the calls -/
theorem law_call {o : MjO} {yx ym : Nat} {vs : List Value} {X X' : XS} {M M' : MS} {r : Int32} (g1 : Go o yx 0 ((Value.ref 0 :: vs).map some ++ List.replicate ((mjMeth yx).2.2.1 - (Value.ref 0 :: vs).length) none) [] (hS X M) (some (.int r)) (hS X' M)) (g2 : Go o ym 0 ((Value.ref 60 :: vs).map some ++ List.replicate ((mjMeth ym).2.2.1 - (Value.ref 60 :: vs).length) none) [] (hS X' M) (some (.int r)) (hS X' M')) : LawCall o 0 60 yx ym vs (hS X M) (hS X' M') :=
  ⟨r, hS X' M, _, _, xo (c := 11) (n := 0) rfl, mo (c := 12) (n := 0) rfl, g1, g2⟩

set_option maxRecDepth 100000 in
set_option maxHeartbeats 4000000 in
theorem l_cls {L : Nat} {xs : Nat → Int32} {t : Nat} {X : XS} {M : MS} (ht : t ≤ 1000) (h : Top t X M) (x1 x2 x3 : Int32) : ∃ X' M', Top (t + 1) X' M' ∧ LawCall (mjOO L xs) 0 60 1 22 [.int x1, .int x2, .int x3] (hS X M) (hS X' M') := by
  obtain ⟨v, X', M', e1, e2, tp⟩ := c_cls h x1 x2 x3
  exact ⟨X', M', tp, law_call (s_P_cls.go e1 ⟨rfl, rfl⟩) (s_M_cls.go e2 ⟨rfl, rfl⟩)⟩
set_option maxRecDepth 100000 in
set_option maxHeartbeats 4000000 in
theorem l_method {L : Nat} {xs : Nat → Int32} {t : Nat} {X : XS} {M : MS} (ht : t ≤ 1000) (h : Top t X M) (x1 x2 x3 x4 x5 x6 : Int32) : ∃ X' M', Top (t + 1) X' M' ∧ LawCall (mjOO L xs) 0 60 2 23 [.int x1, .int x2, .int x3, .int x4, .int x5, .int x6] (hS X M) (hS X' M') := by
  obtain ⟨v, X', M', e1, e2, tp⟩ := c_method h x1 x2 x3 x4 x5 x6
  exact ⟨X', M', tp, law_call (s_P_method.go e1 ⟨rfl, rfl⟩) (s_M_method.go e2 ⟨rfl, rfl⟩)⟩
set_option maxRecDepth 100000 in
set_option maxHeartbeats 4000000 in
theorem l_code {L : Nat} {xs : Nat → Int32} {t : Nat} {X : XS} {M : MS} (ht : t ≤ 1000) (h : Top t X M) (x1 x2 : Int32) : ∃ X' M', Top (t + 1) X' M' ∧ LawCall (mjOO L xs) 0 60 3 24 [.int x1, .int x2] (hS X M) (hS X' M') := by
  obtain ⟨v, X', M', e1, e2, tp⟩ := c_code h x1 x2
  exact ⟨X', M', tp, law_call (s_P_code.go e1 ⟨rfl, rfl⟩) (s_M_code.go e2 ⟨rfl, rfl⟩)⟩
set_option maxRecDepth 100000 in
set_option maxHeartbeats 4000000 in
theorem l_trap {L : Nat} {xs : Nat → Int32} {t : Nat} {X : XS} {M : MS} (ht : t ≤ 1000) (h : Top t X M) (x1 x2 x3 x4 : Int32) : ∃ X' M', Top (t + 1) X' M' ∧ LawCall (mjOO L xs) 0 60 4 25 [.int x1, .int x2, .int x3, .int x4] (hS X M) (hS X' M') := by
  obtain ⟨v, X', M', e1, e2, tp⟩ := c_trap h x1 x2 x3 x4
  exact ⟨X', M', tp, law_call (s_P_trap.go e1 ⟨rfl, rfl⟩) (s_M_trap.go e2 ⟨rfl, rfl⟩)⟩
set_option maxRecDepth 100000 in
set_option maxHeartbeats 4000000 in
theorem l_link {L : Nat} {xs : Nat → Int32} {t : Nat} {X : XS} {M : MS} (ht : t ≤ 1000) (h : Top t X M) (x1 : Int32) : ∃ X' M', Top (t + 1) X' M' ∧ LawCall (mjOO L xs) 0 60 5 52 [.int x1] (hS X M) (hS X' M') := by
  obtain ⟨v, X', M', e1, e2, tp⟩ := c_link h x1
  exact ⟨X', M', tp, law_call (s_P_link.go e1 ⟨rfl, rfl⟩) (s_M_link.go e2 ⟨rfl, rfl⟩)⟩
set_option maxRecDepth 100000 in
set_option maxHeartbeats 4000000 in
theorem l_image {L : Nat} {xs : Nat → Int32} {t : Nat} {X : XS} {M : MS} (ht : t ≤ 1000) (h : Top t X M) (x1 : Int32) : ∃ X' M', Top (t + 1) X' M' ∧ LawCall (mjOO L xs) 0 60 6 53 [.int x1] (hS X M) (hS X' M') := by
  obtain ⟨v, e1, e2⟩ := c_image h x1
  obtain ⟨T, tp⟩ := h
  exact ⟨X, M, ⟨T, tp.next⟩, law_call (s_P_image.go e1 ⟨rfl, rfl⟩) (s_M_image.go e2 ⟨rfl, rfl⟩)⟩
set_option maxRecDepth 100000 in
set_option maxHeartbeats 4000000 in
theorem l_feed {L : Nat} {xs : Nat → Int32} {t : Nat} {X : XS} {M : MS} (ht : t ≤ 1000) (h : Top t X M) (x1 : Int32) : ∃ X' M', Top (t + 1) X' M' ∧ LawCall (mjOO L xs) 0 60 7 54 [.int x1] (hS X M) (hS X' M') := by
  obtain ⟨v, X', M', e1, e2, tp⟩ := c_feed h x1
  exact ⟨X', M', tp, law_call (s_P_feed.go e1 ⟨rfl, rfl⟩) (s_M_feed.go e2 ⟨rfl, rfl⟩)⟩
set_option maxRecDepth 100000 in
set_option maxHeartbeats 4000000 in
theorem l_check {L : Nat} {xs : Nat → Int32} {t : Nat} {X : XS} {M : MS} (ht : t ≤ 1000) (h : Top t X M) : ∃ X' M', Top (t + 1) X' M' ∧ LawCall (mjOO L xs) 0 60 8 55 [] (hS X M) (hS X' M') := by
  obtain ⟨v, X', M', e1, e2, tp⟩ := c_check h 
  exact ⟨X', M', tp, law_call (s_P_check.go e1 ⟨rfl, rfl⟩) (s_M_check.go e2 ⟨rfl, rfl⟩)⟩
set_option maxRecDepth 100000 in
set_option maxHeartbeats 4000000 in
theorem l_boot {L : Nat} {xs : Nat → Int32} {t : Nat} {X : XS} {M : MS} (ht : t ≤ 1000) (h : Top t X M) (x1 x2 : Int32) : ∃ X' M', Top (t + 1) X' M' ∧ LawCall (mjOO L xs) 0 60 9 59 [.int x1, .int x2] (hS X M) (hS X' M') := by
  obtain ⟨v, X', M', e1, e2, tp⟩ := c_boot h x1 x2
  exact ⟨X', M', tp, law_call (s_P_boot.go e1 ⟨rfl, rfl⟩) (s_M_boot.go e2 ⟨rfl, rfl⟩)⟩
set_option maxRecDepth 100000 in
set_option maxHeartbeats 4000000 in
theorem l_input {L : Nat} {xs : Nat → Int32} {t : Nat} {X : XS} {M : MS} (ht : t ≤ 1000) (h : Top t X M) (x1 : Int32) : ∃ X' M', Top (t + 1) X' M' ∧ LawCall (mjOO L xs) 0 60 10 62 [.int x1] (hS X M) (hS X' M') := by
  obtain ⟨v, X', M', e1, e2, tp⟩ := c_input h x1
  exact ⟨X', M', tp, law_call (s_P_input.go e1 ⟨rfl, rfl⟩) (s_M_input.go e2 ⟨rfl, rfl⟩)⟩
set_option maxRecDepth 100000 in
set_option maxHeartbeats 4000000 in
theorem l_run {L : Nat} {xs : Nat → Int32} {t : Nat} {X : XS} {M : MS} (ht : t ≤ 1000) (h : Top t X M) (x1 : Int32) : ∃ X' M', Top (t + 1) X' M' ∧ LawCall (mjOO L xs) 0 60 11 98 [.int x1] (hS X M) (hS X' M') := by
  obtain ⟨v, X', M', e1, e2, tp⟩ := c_run ht h x1
  exact ⟨X', M', tp, law_call (s_P_run.go e1 ⟨rfl, rfl⟩) (s_M_run.go e2 ⟨rfl, rfl⟩)⟩
set_option maxRecDepth 100000 in
set_option maxHeartbeats 4000000 in
theorem l_out {L : Nat} {xs : Nat → Int32} {t : Nat} {X : XS} {M : MS} (ht : t ≤ 1000) (h : Top t X M) (x1 : Int32) : ∃ X' M', Top (t + 1) X' M' ∧ LawCall (mjOO L xs) 0 60 12 99 [.int x1] (hS X M) (hS X' M') := by
  have e := c_out ht h x1
  obtain ⟨T, tp⟩ := h
  exact ⟨X, M, ⟨T, tp.next⟩, law_call (s_P_out.go rfl ⟨rfl, rfl⟩) (s_M_out.go (congrArg some e.symm) ⟨rfl, rfl⟩)⟩
set_option maxRecDepth 100000 in
set_option maxHeartbeats 4000000 in
theorem l_thread {L : Nat} {xs : Nat → Int32} {t : Nat} {X : XS} {M : MS} (ht : t ≤ 1000) (h : Top t X M) (x1 x2 : Int32) : ∃ X' M', Top (t + 1) X' M' ∧ LawCall (mjOO L xs) 0 60 13 100 [.int x1, .int x2] (hS X M) (hS X' M') := by
  obtain ⟨v, e1, e2⟩ := c_thread h x1 x2
  obtain ⟨T, tp⟩ := h
  exact ⟨X, M, ⟨T, tp.next⟩, law_call (s_P_thread.go e1 ⟨rfl, rfl⟩) (s_M_thread.go e2 ⟨rfl, rfl⟩)⟩
set_option maxRecDepth 100000 in
set_option maxHeartbeats 4000000 in
theorem l_sound {L : Nat} {xs : Nat → Int32} {t : Nat} {X : XS} {M : MS} (ht : t ≤ 1000) (h : Top t X M) : ∃ X' M', Top (t + 1) X' M' ∧ LawCall (mjOO L xs) 0 60 14 101 [] (hS X M) (hS X' M') := by
  obtain ⟨X', e1, tp⟩ := c_sound h
  exact ⟨X', M, tp, law_call (s_P_sound.go e1 ⟨rfl, rfl⟩) (s_M_sound.go rfl ⟨rfl, rfl⟩)⟩
set_option maxRecDepth 100000 in
set_option maxHeartbeats 4000000 in
theorem l_told {L : Nat} {xs : Nat → Int32} {t : Nat} {X : XS} {M : MS} (ht : t ≤ 1000) (h : Top t X M) (x1 : Int32) : ∃ X' M', Top (t + 1) X' M' ∧ LawCall (mjOO L xs) 0 60 15 102 [.int x1] (hS X M) (hS X' M') := by
  have e := c_told h x1
  obtain ⟨T, tp⟩ := h
  exact ⟨X, M, ⟨T, tp.next⟩, law_call (s_P_told.go rfl ⟨rfl, rfl⟩) (s_M_told.go (congrArg some e.symm) ⟨rfl, rfl⟩)⟩
set_option maxRecDepth 100000 in
set_option maxHeartbeats 4000000 in
theorem law_step {L : Nat} {xs : Nat → Int32} {t : Nat} {X : XS} {M : MS} (ht : t ≤ 1000) (h : Top t X M) : ∃ X' M', Top (t + 1) X' M' ∧ LawStep (mjOO L xs) 0 60 t xs (hS X M) (hS X' M') := by
  obtain ⟨j, hj, ej⟩ := pk_andE (xs (7 * t)) (m := 15) 4 (by decide)
  have hj : j < 16 := hj
  rcases (show j = 0 ∨ j = 1 ∨ j = 2 ∨ j = 3 ∨ j = 4 ∨ j = 5 ∨ j = 6 ∨ j = 7 ∨ j = 8 ∨ j = 9 ∨ j = 10 ∨ j = 11 ∨ j = 12 ∨ j = 13 ∨ j = 14 ∨ j = 15 by omega) with rfl | rfl | rfl | rfl | rfl | rfl | rfl | rfl | rfl | rfl | rfl | rfl | rfl | rfl | rfl | rfl
  · obtain ⟨X', M', tp, lc⟩ := l_cls (L := L) (xs := xs) ht h (xs (7 * t + 1)) (xs (7 * t + 2)) (xs (7 * t + 3))
    exact ⟨X', M', tp, fun _ => lc, fun e => absurd (ej.symm.trans e) (by decide), fun e => absurd (ej.symm.trans e) (by decide), fun e => absurd (ej.symm.trans e) (by decide), fun e => absurd (ej.symm.trans e) (by decide), fun e => absurd (ej.symm.trans e) (by decide), fun e => absurd (ej.symm.trans e) (by decide), fun e => absurd (ej.symm.trans e) (by decide), fun e => absurd (ej.symm.trans e) (by decide), fun e => absurd (ej.symm.trans e) (by decide), fun e => absurd (ej.symm.trans e) (by decide), fun e => absurd (ej.symm.trans e) (by decide), fun e => absurd (ej.symm.trans e) (by decide), fun e => absurd (ej.symm.trans e) (by decide), fun e => absurd (ej.symm.trans e) (by decide), fun e => absurd (ej.symm.trans e) (by decide)⟩
  · obtain ⟨X', M', tp, lc⟩ := l_method (L := L) (xs := xs) ht h (xs (7 * t + 1)) (xs (7 * t + 2)) (xs (7 * t + 3)) (xs (7 * t + 4)) (xs (7 * t + 5)) (xs (7 * t + 6))
    exact ⟨X', M', tp, fun e => absurd (ej.symm.trans e) (by decide), fun _ => lc, fun e => absurd (ej.symm.trans e) (by decide), fun e => absurd (ej.symm.trans e) (by decide), fun e => absurd (ej.symm.trans e) (by decide), fun e => absurd (ej.symm.trans e) (by decide), fun e => absurd (ej.symm.trans e) (by decide), fun e => absurd (ej.symm.trans e) (by decide), fun e => absurd (ej.symm.trans e) (by decide), fun e => absurd (ej.symm.trans e) (by decide), fun e => absurd (ej.symm.trans e) (by decide), fun e => absurd (ej.symm.trans e) (by decide), fun e => absurd (ej.symm.trans e) (by decide), fun e => absurd (ej.symm.trans e) (by decide), fun e => absurd (ej.symm.trans e) (by decide), fun e => absurd (ej.symm.trans e) (by decide)⟩
  · obtain ⟨X', M', tp, lc⟩ := l_code (L := L) (xs := xs) ht h (xs (7 * t + 1)) (xs (7 * t + 2))
    exact ⟨X', M', tp, fun e => absurd (ej.symm.trans e) (by decide), fun e => absurd (ej.symm.trans e) (by decide), fun _ => lc, fun e => absurd (ej.symm.trans e) (by decide), fun e => absurd (ej.symm.trans e) (by decide), fun e => absurd (ej.symm.trans e) (by decide), fun e => absurd (ej.symm.trans e) (by decide), fun e => absurd (ej.symm.trans e) (by decide), fun e => absurd (ej.symm.trans e) (by decide), fun e => absurd (ej.symm.trans e) (by decide), fun e => absurd (ej.symm.trans e) (by decide), fun e => absurd (ej.symm.trans e) (by decide), fun e => absurd (ej.symm.trans e) (by decide), fun e => absurd (ej.symm.trans e) (by decide), fun e => absurd (ej.symm.trans e) (by decide), fun e => absurd (ej.symm.trans e) (by decide)⟩
  · obtain ⟨X', M', tp, lc⟩ := l_trap (L := L) (xs := xs) ht h (xs (7 * t + 1)) (xs (7 * t + 2)) (xs (7 * t + 3)) (xs (7 * t + 4))
    exact ⟨X', M', tp, fun e => absurd (ej.symm.trans e) (by decide), fun e => absurd (ej.symm.trans e) (by decide), fun e => absurd (ej.symm.trans e) (by decide), fun _ => lc, fun e => absurd (ej.symm.trans e) (by decide), fun e => absurd (ej.symm.trans e) (by decide), fun e => absurd (ej.symm.trans e) (by decide), fun e => absurd (ej.symm.trans e) (by decide), fun e => absurd (ej.symm.trans e) (by decide), fun e => absurd (ej.symm.trans e) (by decide), fun e => absurd (ej.symm.trans e) (by decide), fun e => absurd (ej.symm.trans e) (by decide), fun e => absurd (ej.symm.trans e) (by decide), fun e => absurd (ej.symm.trans e) (by decide), fun e => absurd (ej.symm.trans e) (by decide), fun e => absurd (ej.symm.trans e) (by decide)⟩
  · obtain ⟨X', M', tp, lc⟩ := l_link (L := L) (xs := xs) ht h (xs (7 * t + 1))
    exact ⟨X', M', tp, fun e => absurd (ej.symm.trans e) (by decide), fun e => absurd (ej.symm.trans e) (by decide), fun e => absurd (ej.symm.trans e) (by decide), fun e => absurd (ej.symm.trans e) (by decide), fun _ => lc, fun e => absurd (ej.symm.trans e) (by decide), fun e => absurd (ej.symm.trans e) (by decide), fun e => absurd (ej.symm.trans e) (by decide), fun e => absurd (ej.symm.trans e) (by decide), fun e => absurd (ej.symm.trans e) (by decide), fun e => absurd (ej.symm.trans e) (by decide), fun e => absurd (ej.symm.trans e) (by decide), fun e => absurd (ej.symm.trans e) (by decide), fun e => absurd (ej.symm.trans e) (by decide), fun e => absurd (ej.symm.trans e) (by decide), fun e => absurd (ej.symm.trans e) (by decide)⟩
  · obtain ⟨X', M', tp, lc⟩ := l_image (L := L) (xs := xs) ht h (xs (7 * t + 1))
    exact ⟨X', M', tp, fun e => absurd (ej.symm.trans e) (by decide), fun e => absurd (ej.symm.trans e) (by decide), fun e => absurd (ej.symm.trans e) (by decide), fun e => absurd (ej.symm.trans e) (by decide), fun e => absurd (ej.symm.trans e) (by decide), fun _ => lc, fun e => absurd (ej.symm.trans e) (by decide), fun e => absurd (ej.symm.trans e) (by decide), fun e => absurd (ej.symm.trans e) (by decide), fun e => absurd (ej.symm.trans e) (by decide), fun e => absurd (ej.symm.trans e) (by decide), fun e => absurd (ej.symm.trans e) (by decide), fun e => absurd (ej.symm.trans e) (by decide), fun e => absurd (ej.symm.trans e) (by decide), fun e => absurd (ej.symm.trans e) (by decide), fun e => absurd (ej.symm.trans e) (by decide)⟩
  · obtain ⟨X', M', tp, lc⟩ := l_feed (L := L) (xs := xs) ht h (xs (7 * t + 1))
    exact ⟨X', M', tp, fun e => absurd (ej.symm.trans e) (by decide), fun e => absurd (ej.symm.trans e) (by decide), fun e => absurd (ej.symm.trans e) (by decide), fun e => absurd (ej.symm.trans e) (by decide), fun e => absurd (ej.symm.trans e) (by decide), fun e => absurd (ej.symm.trans e) (by decide), fun _ => lc, fun e => absurd (ej.symm.trans e) (by decide), fun e => absurd (ej.symm.trans e) (by decide), fun e => absurd (ej.symm.trans e) (by decide), fun e => absurd (ej.symm.trans e) (by decide), fun e => absurd (ej.symm.trans e) (by decide), fun e => absurd (ej.symm.trans e) (by decide), fun e => absurd (ej.symm.trans e) (by decide), fun e => absurd (ej.symm.trans e) (by decide), fun e => absurd (ej.symm.trans e) (by decide)⟩
  · obtain ⟨X', M', tp, lc⟩ := l_check (L := L) (xs := xs) ht h 
    exact ⟨X', M', tp, fun e => absurd (ej.symm.trans e) (by decide), fun e => absurd (ej.symm.trans e) (by decide), fun e => absurd (ej.symm.trans e) (by decide), fun e => absurd (ej.symm.trans e) (by decide), fun e => absurd (ej.symm.trans e) (by decide), fun e => absurd (ej.symm.trans e) (by decide), fun e => absurd (ej.symm.trans e) (by decide), fun _ => lc, fun e => absurd (ej.symm.trans e) (by decide), fun e => absurd (ej.symm.trans e) (by decide), fun e => absurd (ej.symm.trans e) (by decide), fun e => absurd (ej.symm.trans e) (by decide), fun e => absurd (ej.symm.trans e) (by decide), fun e => absurd (ej.symm.trans e) (by decide), fun e => absurd (ej.symm.trans e) (by decide), fun e => absurd (ej.symm.trans e) (by decide)⟩
  · obtain ⟨X', M', tp, lc⟩ := l_boot (L := L) (xs := xs) ht h (xs (7 * t + 1)) (xs (7 * t + 2))
    exact ⟨X', M', tp, fun e => absurd (ej.symm.trans e) (by decide), fun e => absurd (ej.symm.trans e) (by decide), fun e => absurd (ej.symm.trans e) (by decide), fun e => absurd (ej.symm.trans e) (by decide), fun e => absurd (ej.symm.trans e) (by decide), fun e => absurd (ej.symm.trans e) (by decide), fun e => absurd (ej.symm.trans e) (by decide), fun e => absurd (ej.symm.trans e) (by decide), fun _ => lc, fun e => absurd (ej.symm.trans e) (by decide), fun e => absurd (ej.symm.trans e) (by decide), fun e => absurd (ej.symm.trans e) (by decide), fun e => absurd (ej.symm.trans e) (by decide), fun e => absurd (ej.symm.trans e) (by decide), fun e => absurd (ej.symm.trans e) (by decide), fun e => absurd (ej.symm.trans e) (by decide)⟩
  · obtain ⟨X', M', tp, lc⟩ := l_input (L := L) (xs := xs) ht h (xs (7 * t + 1))
    exact ⟨X', M', tp, fun e => absurd (ej.symm.trans e) (by decide), fun e => absurd (ej.symm.trans e) (by decide), fun e => absurd (ej.symm.trans e) (by decide), fun e => absurd (ej.symm.trans e) (by decide), fun e => absurd (ej.symm.trans e) (by decide), fun e => absurd (ej.symm.trans e) (by decide), fun e => absurd (ej.symm.trans e) (by decide), fun e => absurd (ej.symm.trans e) (by decide), fun e => absurd (ej.symm.trans e) (by decide), fun _ => lc, fun e => absurd (ej.symm.trans e) (by decide), fun e => absurd (ej.symm.trans e) (by decide), fun e => absurd (ej.symm.trans e) (by decide), fun e => absurd (ej.symm.trans e) (by decide), fun e => absurd (ej.symm.trans e) (by decide), fun e => absurd (ej.symm.trans e) (by decide)⟩
  · obtain ⟨X', M', tp, lc⟩ := l_run (L := L) (xs := xs) ht h (xs (7 * t + 1))
    exact ⟨X', M', tp, fun e => absurd (ej.symm.trans e) (by decide), fun e => absurd (ej.symm.trans e) (by decide), fun e => absurd (ej.symm.trans e) (by decide), fun e => absurd (ej.symm.trans e) (by decide), fun e => absurd (ej.symm.trans e) (by decide), fun e => absurd (ej.symm.trans e) (by decide), fun e => absurd (ej.symm.trans e) (by decide), fun e => absurd (ej.symm.trans e) (by decide), fun e => absurd (ej.symm.trans e) (by decide), fun e => absurd (ej.symm.trans e) (by decide), fun _ => lc, fun e => absurd (ej.symm.trans e) (by decide), fun e => absurd (ej.symm.trans e) (by decide), fun e => absurd (ej.symm.trans e) (by decide), fun e => absurd (ej.symm.trans e) (by decide), fun e => absurd (ej.symm.trans e) (by decide)⟩
  · obtain ⟨X', M', tp, lc⟩ := l_out (L := L) (xs := xs) ht h (xs (7 * t + 1))
    exact ⟨X', M', tp, fun e => absurd (ej.symm.trans e) (by decide), fun e => absurd (ej.symm.trans e) (by decide), fun e => absurd (ej.symm.trans e) (by decide), fun e => absurd (ej.symm.trans e) (by decide), fun e => absurd (ej.symm.trans e) (by decide), fun e => absurd (ej.symm.trans e) (by decide), fun e => absurd (ej.symm.trans e) (by decide), fun e => absurd (ej.symm.trans e) (by decide), fun e => absurd (ej.symm.trans e) (by decide), fun e => absurd (ej.symm.trans e) (by decide), fun e => absurd (ej.symm.trans e) (by decide), fun _ => lc, fun e => absurd (ej.symm.trans e) (by decide), fun e => absurd (ej.symm.trans e) (by decide), fun e => absurd (ej.symm.trans e) (by decide), fun e => absurd (ej.symm.trans e) (by decide)⟩
  · obtain ⟨X', M', tp, lc⟩ := l_thread (L := L) (xs := xs) ht h (xs (7 * t + 1)) (xs (7 * t + 2))
    exact ⟨X', M', tp, fun e => absurd (ej.symm.trans e) (by decide), fun e => absurd (ej.symm.trans e) (by decide), fun e => absurd (ej.symm.trans e) (by decide), fun e => absurd (ej.symm.trans e) (by decide), fun e => absurd (ej.symm.trans e) (by decide), fun e => absurd (ej.symm.trans e) (by decide), fun e => absurd (ej.symm.trans e) (by decide), fun e => absurd (ej.symm.trans e) (by decide), fun e => absurd (ej.symm.trans e) (by decide), fun e => absurd (ej.symm.trans e) (by decide), fun e => absurd (ej.symm.trans e) (by decide), fun e => absurd (ej.symm.trans e) (by decide), fun _ => lc, fun e => absurd (ej.symm.trans e) (by decide), fun e => absurd (ej.symm.trans e) (by decide), fun e => absurd (ej.symm.trans e) (by decide)⟩
  · obtain ⟨X', M', tp, lc⟩ := l_sound (L := L) (xs := xs) ht h 
    exact ⟨X', M', tp, fun e => absurd (ej.symm.trans e) (by decide), fun e => absurd (ej.symm.trans e) (by decide), fun e => absurd (ej.symm.trans e) (by decide), fun e => absurd (ej.symm.trans e) (by decide), fun e => absurd (ej.symm.trans e) (by decide), fun e => absurd (ej.symm.trans e) (by decide), fun e => absurd (ej.symm.trans e) (by decide), fun e => absurd (ej.symm.trans e) (by decide), fun e => absurd (ej.symm.trans e) (by decide), fun e => absurd (ej.symm.trans e) (by decide), fun e => absurd (ej.symm.trans e) (by decide), fun e => absurd (ej.symm.trans e) (by decide), fun e => absurd (ej.symm.trans e) (by decide), fun _ => lc, fun e => absurd (ej.symm.trans e) (by decide), fun e => absurd (ej.symm.trans e) (by decide)⟩
  · obtain ⟨X', M', tp, lc⟩ := l_told (L := L) (xs := xs) ht h (xs (7 * t + 1))
    exact ⟨X', M', tp, fun e => absurd (ej.symm.trans e) (by decide), fun e => absurd (ej.symm.trans e) (by decide), fun e => absurd (ej.symm.trans e) (by decide), fun e => absurd (ej.symm.trans e) (by decide), fun e => absurd (ej.symm.trans e) (by decide), fun e => absurd (ej.symm.trans e) (by decide), fun e => absurd (ej.symm.trans e) (by decide), fun e => absurd (ej.symm.trans e) (by decide), fun e => absurd (ej.symm.trans e) (by decide), fun e => absurd (ej.symm.trans e) (by decide), fun e => absurd (ej.symm.trans e) (by decide), fun e => absurd (ej.symm.trans e) (by decide), fun e => absurd (ej.symm.trans e) (by decide), fun e => absurd (ej.symm.trans e) (by decide), fun _ => lc, fun e => absurd (ej.symm.trans e) (by decide)⟩
  · obtain ⟨T, tp⟩ := h
    exact ⟨X, M, ⟨T, tp.next⟩, fun e => absurd (ej.symm.trans e) (by decide), fun e => absurd (ej.symm.trans e) (by decide), fun e => absurd (ej.symm.trans e) (by decide), fun e => absurd (ej.symm.trans e) (by decide), fun e => absurd (ej.symm.trans e) (by decide), fun e => absurd (ej.symm.trans e) (by decide), fun e => absurd (ej.symm.trans e) (by decide), fun e => absurd (ej.symm.trans e) (by decide), fun e => absurd (ej.symm.trans e) (by decide), fun e => absurd (ej.symm.trans e) (by decide), fun e => absurd (ej.symm.trans e) (by decide), fun e => absurd (ej.symm.trans e) (by decide), fun e => absurd (ej.symm.trans e) (by decide), fun e => absurd (ej.symm.trans e) (by decide), fun e => absurd (ej.symm.trans e) (by decide), fun _ => rfl⟩
theorem law_all {L : Nat} {xs : Nat → Int32} (hL : L ≤ 3584) : ∃ n h', mjRun (mjOO L xs) n mjLawNo 0 [some (.retAddr 0), none, none, none] [] [] = some (some (.int 1), h') ∧ h'.length ≤ 600000 ∧ mjSlots h' ≤ 7302250 := by
  refine whole_of hL (fun t h => ∃ X M, h = hS X M ∧ Top t X M) law_first ?_ ?_
  · rintro t h hb ⟨X, M, rfl, tp⟩
    obtain ⟨X', M', tp', ls⟩ := law_step (L := L) (xs := xs) (by omega) tp
    exact ⟨hS X' M', ⟨X', M', rfl, tp'⟩, ls⟩
  · rintro t h hb ⟨X, M, rfl, tp⟩
    exact law_room (by omega) tp
