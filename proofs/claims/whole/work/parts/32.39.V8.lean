/-! V8 -/
set_option maxRecDepth 20000 in
set_option maxHeartbeats 4000000 in
/-- a run stands when what it does not touch has changed -/
theorem Rn.re {c : Cx} {A : HG} {hp nb oc : Nat} {U W : Nat → Int32} {D : Int64} {T C : Nat → Nat} {n : Nat} {X : XS} {V M : MS} (r : Rn c A hp nb oc U W D T C n X V M) {X' : XS} {T' : Nat → Nat} {M' : MS} {S : Nat → Prop} (hm : Mw T T' X X') (ht : TG T') (hu : Un S T X X') (hS : ∀ g, RunT g → S g) (hM : ∀ a i, RunM a i → M'.1 a i = M.1 a i) (h59 : M'.1 60 59 = M.1 60 59) (h2 : M'.2 = M.2) : Rn ⟨c.Mr, c.kc, c.rc, c.main, X', T', M'⟩ A hp nb oc U W D T' C n X' V M' := by
  obtain ⟨r0, r1, r2, r3, r4, r5, r6, r7, r8⟩ := r
  have row : ∀ a, 109 ≤ a → a ≤ 129 → M'.1 a = M.1 a := fun a h1 h2 => funext fun i => hM a i (Or.inl ⟨h1, h2⟩)
  have f60 : ∀ f, (61 ≤ f ∧ f ≤ 64) ∨ f = 76 ∨ f = 78 ∨ (86 ≤ f ∧ f ≤ 95) → M'.1 60 f = M.1 60 f := fun f hf => hM 60 f (Or.inr ⟨rfl, hf⟩)
  refine ⟨r0.re hm ht hu hS, fun _ _ _ => rfl, ?_, ?_, ?_, ?_, ?_, ?_, ?_⟩
  · intro u hu
    exact (r2 u hu).congr (fun _ _ => rfl) (fun a h1 h2 => by rw [row a (by omega) (by omega)]) (fun a k h1 h2 _ => by rw [row a (by omega) (by omega)]) (fun a k h1 h2 _ => by rw [row a (by omega) (by omega)])
  · refine r3.congr (fun _ _ => rfl) (fun a h1 h2 _ _ => row a (by omega) (by omega)) (fun f hf => ?_)
    by_cases e : f = 59
    · subst e; exact h59
    · exact f60 f (by omega)
  · exact r4.congr (fun _ _ _ => rfl) (fun a h1 h2 => row a (by omega) (by omega))
  · exact r5.congr (fun _ _ _ => rfl) (fun a h1 h2 => row a (by omega) (by omega)) (fun f hf => f60 f (by omega))
  · rw [f60 61 (by omega)]; exact r6
  · exact ⟨r7.1, r7.2.1, r7.2.2.1, fun f h1 h2 => by rw [f60 f (by omega)]; exact r7.2.2.2 f h1 h2⟩
  · rw [h2]; exact r8
/-- a machine that was booted -/
def Boo (B : Nat) (X : XS) (M : MS) (T : Nat → Nat) : Prop := ∃ Mr kc rc main hp A nb oc U W D C n V, GP Mr kc rc main ∧ IM Mr rc main X T ∧ KP Mr kc rc main M 1 ∧ Rn ⟨Mr, kc, rc, main, X, T, M⟩ A hp nb oc U W D T C n X V M ∧ TuR nb U W (M.1 60 58) ∧ Int64.toInt32 D = U 0 ∧ oc ≤ B
set_option maxRecDepth 20000 in
set_option maxHeartbeats 4000000 in
theorem Boo_un {B : Nat} {X X' : XS} {M M' : MS} {T T' : Nat → Nat} {S : Nat → Prop} (h : Boo B X M T) (ht : TG T) (ht' : TG T') (hm : Mw T T' X X') (hu : Un S T X X') (hS : ∀ g, RunT g → S g) (s3 : S 3) (s51 : S 1051) (s53 : S 1053) (s54 : S 1054) (s55 : S 1055) (hM : ∀ a i, RunM a i ∨ (a = 60 ∧ (i = 58 ∨ i = 59)) → M'.1 a i = M.1 a i) (h2 : M'.2 = M.2) (hK : ∀ Mr kc rc main, kc ≤ 10 → rc ≤ 24 → KP Mr kc rc main M 1 → KP Mr kc rc main M' 1) : Boo B X' M' T' := by
  obtain ⟨Mr, kc, rc, main, hp, A, nb, oc, U, W, D, C, n, V, b1, b2, b3, b4, b5, b6, b7⟩ := h
  have hk := gp_k10 b1
  refine ⟨Mr, kc, rc, main, hp, A, nb, oc, U, W, D, C, n, V, b1, IMu b2 ht hm hu s3 s51 s53 s54 s55, hK Mr kc rc main hk.1 hk.2 b3, b4.re hm ht' hu hS (fun a i q => hM a i (Or.inl q)) (hM 60 59 (Or.inr ⟨rfl, by omega⟩)) h2, ?_, b6, b7⟩
  rw [hM 60 58 (Or.inr ⟨rfl, by omega⟩)]
  exact b5
set_option maxRecDepth 20000 in
set_option maxHeartbeats 4000000 in
theorem boot_ok {Mr : MS} {kc rc main : Nat} (gp : GP Mr kc rc main) {X : XS} {T : Nat → Nat} {M : MS} (hI : ImO Mr rc main X T) (ht : TG T) (bx : BX X T) (hk : KP Mr kc rc main M 0) (hl : ¬ M.1 60 37 = 0) (hx3 : ¬ X.1 30 0 = 0) {x : Int32} (hx : 1 ≤ x ∧ x ≤ 50) {hp : Nat} (hh : 50 ≤ hp ∧ hp ≤ 8000) : ∃ X' M' T', f_P_boot x (Int32.ofNat hp) X = some (true, X') ∧ f_M_boot x (Int32.ofNat hp) M = some (true, M') ∧ TG T' ∧ Mo T T' X X' ∧ Un (fun g => ¬ CopT g ∧ ¬ RunT g) T X X' ∧ (∀ a f, ¬ Fbo a f → M'.1 a f = M.1 a f) ∧ KP Mr kc rc main M' 0 ∧ Boo 0 X' M' T' ∧ BX X' T' ∧ ¬ X'.1 40 0 = 0 ∧ ¬ M'.1 60 57 = 0 := by
  obtain ⟨X0, T0, X6, X', T', C, n, V, s1, s2, s3, s4, rv, s6, s7, bv⟩ := startX gp hI ht bx hp x
  obtain ⟨M', m1, bm⟩ := bootM gp hk hl hx hh
  have hR := gp.2.2.1
  have hr24 := (gp_k10 gp).2
  have hy0 : (50 : Int32) ≤ Int32.ofNat hp ∧ Int32.ofNat hp ≤ 8000 := by
    rw [o_leL _ _ (by decide) (by omega), o_leR _ _ (by omega) (by decide)]
    exact hh
  have rv' : RV X' T' X' T' C n V := rv.re (S := fun _ => True) (Mo.id T' rfl).w rv.ba.2.1 (fun _ _ _ => ⟨rfl, rfl⟩) (fun _ _ => trivial)
  have im' : IM Mr rc main X' T' := rv.im s3 s4
  have fx : ∀ a, Fx a → X'.1 a = V.1 (1000 + a) := fun a ha => rv.rf ha
  obtain ⟨v40a, v40b⟩ := bv.en
  have mn24 : main < 24 := by have := hR.1; omega
  have t0 : tN Mr main = 0 := by
    unfold tN tkn
    rw [gp.2.2.2.1, gp.2.2.2.2]
    decide
  obtain ⟨z0, z1, z2, z3, z4, z7, z8⟩ := bv.s0
  obtain ⟨y0, y1, y2, y3, y4, y5⟩ := bm.th
  have th0 : ThR Mr kc rc ⟨0, fun _ => 0, fun _ => 0, fun _ => 0⟩ V M' 0 := by
    refine newTh gp (nb := 0) (r := main) (u := 0) (v := 0) (y := 0) mn24 hR.2.1 (Or.inl ⟨rfl, rfl, rfl, t0⟩) z0 z1 z2 z3 z4 z7 z8 ?_ ?_ y0 y1 y2 y3 y4 y5 ?_ ?_
    · intro j hj
      rw [ite_self]
      exact bv.s5 j hj
    · intro j hj
      rw [ite_self]
      exact bv.s6 j hj
    · intro j hj
      rw [ite_self, Nat.mul_zero, Nat.zero_add]
      exact bm.t5 j hj
    · intro j hj
      rw [if_neg (fun q => q.2 (by decide)), Nat.mul_zero, Nat.zero_add]
      exact bm.t6 j hj
  have hr0 : HR Mr kc ⟨0, fun _ => 0, fun _ => 0, fun _ => 0⟩ hp V M' := by
    refine ⟨fun k hk => absurd hk (Nat.not_lt_zero k), fun j k hj => absurd hj (Nat.not_lt_zero j), bm.f8.2.2.2, fun o h1 h2 => Or.inr (bm.fr o h2), bv.wd, bv.me.2.1, ⟨bv.me.1, bm.f5.2.2, hh.2, by show 2 * (1 - 1) ≤ hp; omega⟩, ⟨bm.f8.2.1, bm.f8.1⟩, ?_, bv.fl⟩
    rw [bv.me.2.2, bm.f8.2.2.1]
  have rn : Rn ⟨Mr, kc, rc, main, X', T', M'⟩ ⟨0, fun _ => 0, fun _ => 0, fun _ => 0⟩ hp 1 0 (V.1 1059) (fun f => if f = 1 then V.1 1040 1 else M'.1 60 f) 0 T' C n X' V M' := by
    refine ⟨rv', fun _ _ _ => rfl, ?_, hr0, ?_, ?_, ⟨bv.n1, v40b, bm.f6.1⟩, ⟨rfl, v40a, rfl, fun f h1 h2 => (if_neg (show ¬ f = 1 by omega)).symm⟩, bm.dn⟩
    · intro u hu
      have : u = 0 := by omega
      subst this
      exact th0
    · intro k hk
      obtain ⟨a1, a2, a3⟩ := bv.ss k hk
      obtain ⟨c1, c2⟩ := bm.ss k hk
      rw [a1, a2, a3, c1, c2]
      exact ⟨rfl, Or.inl ⟨rfl, rfl⟩, rfl⟩
    · exact ⟨0, 0, by omega, by omega, bv.po.1, bm.f7.1, bv.po.2.1, fun j hj => absurd hj (Nat.not_lt_zero j), bv.po.2.2, bm.f7.2, fun j _ hj => absurd hj (Nat.not_lt_zero j)⟩
  refine ⟨X', M', T', ?_, m1, rv.ba.2.1, s6.trans rv.ba.1, ?_, bm.ot, bm.k0, ?_, ?_, ?_, ?_⟩
  · unfold f_P_boot
    rw [if_neg hx3, if_pos hx, if_pos hy0, s1, Option.bind_some, s2, Option.bind_some]
  · have q1 : Un (fun g => ¬ CopT g ∧ ¬ RunT g) T X X0 := s7.mono (fun g hg => ⟨hg.1, fun e => hg.2 (by unfold RunT; omega)⟩)
    have q2 : Un (fun g => ¬ CopT g ∧ ¬ RunT g) T0 X0 X' := rv.ba.2.2.mono (fun g hg => hg.2)
    exact q1.trans s6 q2
  · refine ⟨Mr, kc, rc, main, hp, _, 1, 0, _, _, 0, C, n, V, gp, im', bm.k1, rn, ?_, ?_, Nat.le_refl _⟩
    · obtain ⟨t4, t3, t2, t1⟩ := bv.tu
      rw [bm.f5.2.1]
      refine ⟨t4, ?_, Or.inl ⟨rfl, t2, t3, ?_, ?_, ?_⟩⟩
      · have := hx.1
        rw [Int32.le_iff_toInt_le] at this
        rw [Int32.lt_iff_toInt_lt]
        have e1 : (1 : Int32).toInt = 1 := rfl
        have e0 : (0 : Int32).toInt = 0 := rfl
        omega
      · show (if 62 = 1 then _ else _) = _
        rw [if_neg (by omega)]; exact bm.f6.2.1
      · show (if 63 = 1 then _ else _) = _
        rw [if_neg (by omega)]; exact bm.f6.2.2.1
      · show (if 64 = 1 then _ else _) = _
        rw [if_neg (by omega)]; exact bm.f6.2.2.2
    · rw [bv.tu.2.2.2]
      rfl
  · refine ⟨?_, ?_, Or.inr ⟨C, n, V, rv', bv.wd⟩⟩
    · obtain ⟨b, L, i, _⟩ := im'
      exact ⟨b, L, i.2.1, i.2.2.1, i.2.2.2.2.1, i.2.2.2.2.2⟩
    · intro k hk
      rw [fx 58 (by unfold Fx; omega)]
      exact (bv.ss k hk).2.2
  · rw [fx 40 (by unfold Fx; omega), v40a]
    decide
  · rw [bm.f5.1]
    decide
