/-! L4 -/
def Clo (M : MS) (kc rc main : Nat) (R Md C : Nat → Prop) : Prop := R main ∧ (∀ m, m < rc → R m → (∀ r, aR M rc m r → R r) ∧ (∀ c, aM M kc m c → Md c) ∧ (∀ n, aC M m n → C n)) ∧ (∀ c n r, c < kc → n < 8 → Md c → C n → fnd M rc n 10 c = some r → R r)
def SndX (M : MS) (kc rc main : Nat) (X : XS) : Prop := ∀ R Md C, Clo M kc rc main R Md C → (∀ m, m < 24 → fl X 17 m → R m) ∧ (∀ c, c < 10 → fl X 16 c → Md c) ∧ (∀ n, n < 8 → fl X 19 n → C n)
def PX (M : MS) (kc rc main : Nat) (X : XS) : Prop := (∀ m, m < 24 → fl X 17 m → m < rc) ∧ (∀ c, c < 10 → fl X 16 c → c < kc) ∧
  (∀ m, m < 24 → fl X 18 m → fl X 17 m ∧ (∀ r, aR M rc m r → fl X 17 r) ∧ (∀ c, aM M kc m c → fl X 16 c) ∧ (∀ n, aC M m n → fl X 19 n) ∧ (∀ c, aK M kc m c → fl X 15 c)) ∧
  (∀ c, c < 10 → fl X 15 c → ∃ m, m < rc ∧ fl X 18 m ∧ aK M kc m c) ∧ SndX M kc rc main X
/-- how many below -/
def cnt (p : Nat → Bool) : Nat → Nat
  | 0 => 0
  | n + 1 => cnt p n + (if p n = true then 1 else 0)
set_option maxRecDepth 20000 in
set_option maxHeartbeats 4000000 in
theorem cnt_le {p q : Nat → Bool} : ∀ n, (∀ m, m < n → p m = true → q m = true) → cnt p n ≤ cnt q n
  | 0, _ => Nat.le_refl _
  | n + 1, h => by
    have := cnt_le n (fun m hm => h m (by omega))
    unfold cnt
    by_cases e : p n = true
    · rw [if_pos e, if_pos (h n (by omega) e)]; omega
    · rw [if_neg e]; omega
set_option maxRecDepth 20000 in
set_option maxHeartbeats 4000000 in
theorem cnt_lt {p q : Nat → Bool} : ∀ n, (∀ m, m < n → p m = true → q m = true) → (∃ m, m < n ∧ q m = true ∧ ¬ p m = true) → cnt p n < cnt q n
  | 0, _, ⟨m, hm, _⟩ => absurd hm (Nat.not_lt_zero m)
  | n + 1, h, ⟨m, hm, h1, h2⟩ => by
    unfold cnt
    by_cases e : m = n
    · subst e
      rw [if_neg h2, if_pos h1]
      have := cnt_le (p := p) (q := q) m (fun k hk => h k (by omega))
      omega
    · have := cnt_lt n (fun k hk => h k (by omega)) ⟨m, by omega, h1, h2⟩
      by_cases e : p n = true
      · rw [if_pos e, if_pos (h n (by omega) e)]; omega
      · rw [if_neg e]; omega
set_option maxRecDepth 20000 in
set_option maxHeartbeats 4000000 in
theorem cnt_max (p : Nat → Bool) : ∀ n, cnt p n ≤ n
  | 0 => Nat.le_refl _
  | n + 1 => by
    have := cnt_max p n
    unfold cnt
    split <;> omega
set_option maxRecDepth 20000 in
set_option maxHeartbeats 4000000 in
theorem cnt_congr {p q : Nat → Bool} : ∀ n, (∀ m, m < n → p m = q m) → cnt p n = cnt q n
  | 0, _ => rfl
  | n + 1, h => by
    unfold cnt
    rw [cnt_congr n (fun m hm => h m (by omega)), h n (by omega)]
def flB (X : XS) (b : Nat) : Nat → Bool := fun i => decide (¬ X.1 b i = 0)
theorem flB_iff {X : XS} {b i : Nat} : flB X b i = true ↔ fl X b i := decide_eq_true_iff
set_option maxRecDepth 20000 in
set_option maxHeartbeats 4000000 in
theorem hasR_iff {X : XS} {M : MS} {T : Nat → Nat} {kc rc k : Nat} (h : RSc X M T kc rc) (hk : k < 24) : (f_Reach_hasRoutine (Int32.ofNat k) X = true) ↔ (k < rc ∧ fl X 17 k) := by
  obtain ⟨hk', hr, e1, e2, hn, hm⟩ := h
  unfold f_Reach_hasRoutine fl
  by_cases c : k < rc
  · obtain ⟨a, f, ra, rv⟩ := hm k c
    have ir := isRoutine_of hr e1 c ra.1
    simp (disch := omega) only [ir, o_le, o_leL, o_leR, o_lt, o_ltL, o_ltR, o_eq, o_eqL, o_eqR, o_cl, o_add, o_addL, o_addR, o_mul, o_mulL, o_mulR, o_sub, o_subR, o_0le, o_lt0, o_ixo, n1_eq, n1_eq', n1_lt, n1_le, n1_ge, n1_gt, n2_eq, n2_eq', n2_lt, n2_le, n2_ge, n2_gt, ↓reduceIte, ite_self, Nat.reduceEqDiff, Nat.reduceAdd, Nat.reduceMul, Nat.reduceSub, Nat.reduceLT, Nat.reduceLeDiff, Nat.not_lt_zero, Nat.zero_le, if_true, if_false, ite_true, ite_false, true_and, and_true, false_and, and_false, true_implies, false_implies, implies_true, not_true_eq_false, not_false_eq_true, eq_self, true_or, or_true, false_or, or_false, and_self, reduceCtorEq, forall_const]
    by_cases q : X.1 17 k = 0 <;> simp [q, c]
  · have : f_Source_isRoutine (Int32.ofNat k) X = false := isRoutine_not hr e1 _ (by
      rintro ⟨m, h1, h2⟩
      rw [o_eq _ _ (by omega) (by omega)] at h2
      omega)
    rw [this]
    simp [c]
set_option maxRecDepth 20000 in
set_option maxHeartbeats 4000000 in
theorem scanNew_ok {X : XS} {M : MS} {T : Nat → Nat} {kc rc main : Nat} (h : RSc X M T kc rc) (ht : TG T) (hp : PX M kc rc main X) : Wo (f_Reach_scanNew X) (fun p => Only Rch X p.2 ∧ PX M kc rc main p.2 ∧ (∀ b j, fl X b j → fl p.2 b j) ∧ (p.1 = false → p.2 = X ∧ ∀ m, m < 24 → fl X 17 m → fl X 18 m) ∧ (p.1 = true → ∃ m, m < 24 ∧ fl p.2 18 m ∧ ¬ fl X 18 m)) := by
  have hr := h.2.1
  have k1 := h.1.1
  unfold f_Reach_scanNew
  rw [W_bind]
  have w : Wo (lp b4_Reach_scanNew 10000 ((0 : Int32), (0 : Int32), X)) (fun s => Only Rch X s.2.2 ∧ PX M kc rc main s.2.2 ∧ (∀ b j, fl X b j → fl s.2.2 b j) ∧ ((s.1 = 0 ∧ s.2.2 = X ∧ ∀ m, m < 24 → fl X 17 m → fl X 18 m) ∨ (s.1 = 1 ∧ ∃ m, m < 24 ∧ fl s.2.2 18 m ∧ ¬ fl X 18 m))) := by
    refine W_lp (fun s => ∃ k, k ≤ 24 ∧ s.2.1 = Int32.ofNat k ∧ Only Rch X s.2.2 ∧ PX M kc rc main s.2.2 ∧ (∀ b j, fl X b j → fl s.2.2 b j) ∧ ((s.1 = 0 ∧ s.2.2 = X ∧ ∀ m, m < k → fl X 17 m → fl X 18 m) ∨ (s.1 = 1 ∧ ∃ m, m < 24 ∧ fl s.2.2 18 m ∧ ¬ fl X 18 m))) (fun s => 24 - s.2.1.toNatClampNeg) ?_ 10000 _ ⟨0, by omega, rfl, Only.refl X, hp, fun _ _ h => h, Or.inl ⟨rfl, rfl, fun m hm => absurd hm (Nat.not_lt_zero m)⟩⟩ (by show 24 - 0 < 10000; omega)
    intro s ⟨k, hk, es, ho, px, mono, any⟩
    have hc := Only.rsc h ht ho (by unfold Rch; omega)
    refine Wo.cps (fun Q hQ => ?_)
    unfold b4_Reach_scanNew
    by_cases hl : k < 24
    case neg =>
      have ek : k = 24 := by omega
      subst ek
      simp (disch := omega) only [W_some, W_none, W_bind, W_ite, W_ocz, W_lt, es, Nat.le_refl, o_le, o_leL, o_leR, o_lt, o_ltL, o_ltR, o_eq, o_eqL, o_eqR, o_cl, o_add, o_addL, o_addR, o_mul, o_mulL, o_mulR, o_sub, o_subR, o_0le, o_lt0, o_ixo, n1_eq, n1_eq', n1_lt, n1_le, n1_ge, n1_gt, n2_eq, n2_eq', n2_lt, n2_le, n2_ge, n2_gt, ↓reduceIte, ite_self, Nat.reduceEqDiff, Nat.reduceAdd, Nat.reduceMul, Nat.reduceSub, Nat.reduceLT, Nat.reduceLeDiff, Nat.not_lt_zero, Nat.zero_le, if_true, if_false, ite_true, ite_false, true_and, and_true, false_and, and_false, true_implies, false_implies, implies_true, not_true_eq_false, not_false_eq_true, eq_self, true_or, or_true, false_or, or_false, and_self, reduceCtorEq, forall_const]
      exact hQ _ ⟨ho, px, mono, any⟩
    have q1 : ¬ 24 ≤ k := by omega
    have hi := hasR_iff hc hl
    by_cases c1 : k < rc ∧ fl s.2.2 17 k
    · have hi' : f_Reach_hasRoutine (Int32.ofNat k) s.2.2 = true := hi.mpr c1
      by_cases c2 : s.2.2.1 18 k = 0
      · -- scanned now
        obtain ⟨a, f, ra, rv⟩ := hc.2.2.2.2.2 k c1.1
        have ho2 : Only Rch X (xw s.2.2 18 k 1) := ho.xw (by unfold Rch; omega) _ _
        have hc2 := Only.rsc h ht ho2 (by unfold Rch; omega)
        have sc := scan_ok (m := k) (a := a) hc2 ht c1.1 ra.1
        obtain ⟨X', e, o', f'⟩ := sc
        simp (disch := omega) only [W_some, W_none, W_bind, W_ite, W_ocz, W_lt, es, q1, hi', c2, xw2, ra.1, o_le, o_leL, o_leR, o_lt, o_ltL, o_ltR, o_eq, o_eqL, o_eqR, o_cl, o_add, o_addL, o_addR, o_mul, o_mulL, o_mulR, o_sub, o_subR, o_0le, o_lt0, o_ixo, n1_eq, n1_eq', n1_lt, n1_le, n1_ge, n1_gt, n2_eq, n2_eq', n2_lt, n2_le, n2_ge, n2_gt, ↓reduceIte, ite_self, Nat.reduceEqDiff, Nat.reduceAdd, Nat.reduceMul, Nat.reduceSub, Nat.reduceLT, Nat.reduceLeDiff, Nat.not_lt_zero, Nat.zero_le, if_true, if_false, ite_true, ite_false, true_and, and_true, false_and, and_false, true_implies, false_implies, implies_true, not_true_eq_false, not_false_eq_true, eq_self, true_or, or_true, false_or, or_false, and_self, reduceCtorEq, forall_const]
        rw [e, W_some]
        have fx : ∀ b j, fl X' b j ↔ fl s.2.2 b j ∨ (b = 18 ∧ j = k) ∨ (b = 15 ∧ aK M kc k j) ∨ (b = 16 ∧ aM M kc k j) ∨ (b = 17 ∧ aR M rc k j) ∨ (b = 19 ∧ aC M k j) := by
          intro b j
          rw [f', fl_set, or_assoc]
        obtain ⟨p1, p2, p3, p4, p5⟩ := px
        refine hQ _ ⟨⟨k + 1, by omega, rfl, ho2.trans o', ⟨?_, ?_, ?_, ?_, ?_⟩, ?_, Or.inr ⟨rfl, k, hl, ?_, ?_⟩⟩, by simp (disch := omega) only [es, o_le, o_leL, o_leR, o_lt, o_ltL, o_ltR, o_eq, o_eqL, o_eqR, o_cl, o_add, o_addL, o_addR, o_mul, o_mulL, o_mulR, o_sub, o_subR, o_0le, o_lt0, o_ixo, n1_eq, n1_eq', n1_lt, n1_le, n1_ge, n1_gt, n2_eq, n2_eq', n2_lt, n2_le, n2_ge, n2_gt, ↓reduceIte, ite_self, Nat.reduceEqDiff, Nat.reduceAdd, Nat.reduceMul, Nat.reduceSub, Nat.reduceLT, Nat.reduceLeDiff, Nat.not_lt_zero, Nat.zero_le, if_true, if_false, ite_true, ite_false, true_and, and_true, false_and, and_false, true_implies, false_implies, implies_true, not_true_eq_false, not_false_eq_true, eq_self, true_or, or_true, false_or, or_false, and_self, reduceCtorEq, forall_const]; omega⟩
        · intro m hm hf
          rw [fx] at hf
          rcases hf with hf | ⟨e, _⟩ | ⟨e, _⟩ | ⟨e, _⟩ | ⟨_, i, _, hg⟩ | ⟨e, _⟩
          · exact p1 m hm hf
          · exact absurd e (by decide)
          · exact absurd e (by decide)
          · exact absurd e (by decide)
          · exact hg.2.1
          · exact absurd e (by decide)
        · intro m hm hf
          rw [fx] at hf
          rcases hf with hf | ⟨e, _⟩ | ⟨e, _⟩ | ⟨_, i, _, hg⟩ | ⟨e, _⟩ | ⟨e, _⟩
          · exact p2 m hm hf
          · exact absurd e (by decide)
          · exact absurd e (by decide)
          · exact hg.2.1
          · exact absurd e (by decide)
          · exact absurd e (by decide)
        · intro m hm hf
          by_cases em : m = k
          · subst em
            refine ⟨(fx _ _).mpr (Or.inl c1.2), fun r hr' => (fx _ _).mpr (Or.inr (Or.inr (Or.inr (Or.inr (Or.inl ⟨rfl, hr'⟩))))), fun c hr' => (fx _ _).mpr (Or.inr (Or.inr (Or.inr (Or.inl ⟨rfl, hr'⟩)))), fun c hr' => (fx _ _).mpr (Or.inr (Or.inr (Or.inr (Or.inr (Or.inr ⟨rfl, hr'⟩))))), fun c hr' => (fx _ _).mpr (Or.inr (Or.inr (Or.inl ⟨rfl, hr'⟩)))⟩
          · have hf' : fl s.2.2 18 m := by
              rcases (fx _ _).mp hf with hf | ⟨_, e⟩ | ⟨e, _⟩ | ⟨e, _⟩ | ⟨e, _⟩ | ⟨e, _⟩
              · exact hf
              · exact absurd e em
              all_goals exact absurd e (by decide)
            obtain ⟨g1, g2, g3, g4, g5⟩ := p3 m hm hf'
            exact ⟨(fx _ _).mpr (Or.inl g1), fun r h => (fx _ _).mpr (Or.inl (g2 r h)), fun r h => (fx _ _).mpr (Or.inl (g3 r h)), fun r h => (fx _ _).mpr (Or.inl (g4 r h)), fun r h => (fx _ _).mpr (Or.inl (g5 r h))⟩
        · intro c hc' hf
          rcases (fx _ _).mp hf with hf | ⟨e, _⟩ | ⟨_, hg⟩ | ⟨e, _⟩ | ⟨e, _⟩ | ⟨e, _⟩
          · obtain ⟨m, g1, g2, g3⟩ := p4 c hc' hf
            exact ⟨m, g1, (fx _ _).mpr (Or.inl g2), g3⟩
          · exact absurd e (by decide)
          · exact ⟨k, c1.1, (fx _ _).mpr (Or.inr (Or.inl ⟨rfl, rfl⟩)), hg⟩
          · exact absurd e (by decide)
          · exact absurd e (by decide)
          · exact absurd e (by decide)
        · intro R Md C hcl
          obtain ⟨g1, g2, g3⟩ := p5 R Md C hcl
          have hRk := g1 k hl c1.2
          obtain ⟨i1, i2, i3⟩ := hcl.2.1 k c1.1 hRk
          refine ⟨?_, ?_, ?_⟩
          · intro m hm hf
            rcases (fx _ _).mp hf with hf | ⟨e, _⟩ | ⟨e, _⟩ | ⟨e, _⟩ | ⟨_, e⟩ | ⟨e, _⟩
            · exact g1 m hm hf
            · exact absurd e (by decide)
            · exact absurd e (by decide)
            · exact absurd e (by decide)
            · exact i1 m e
            · exact absurd e (by decide)
          · intro m hm hf
            rcases (fx _ _).mp hf with hf | ⟨e, _⟩ | ⟨e, _⟩ | ⟨_, e⟩ | ⟨e, _⟩ | ⟨e, _⟩
            · exact g2 m hm hf
            · exact absurd e (by decide)
            · exact absurd e (by decide)
            · exact i2 m e
            · exact absurd e (by decide)
            · exact absurd e (by decide)
          · intro m hm hf
            rcases (fx _ _).mp hf with hf | ⟨e, _⟩ | ⟨e, _⟩ | ⟨e, _⟩ | ⟨e, _⟩ | ⟨_, e⟩
            · exact g3 m hm hf
            · exact absurd e (by decide)
            · exact absurd e (by decide)
            · exact absurd e (by decide)
            · exact absurd e (by decide)
            · exact i3 m e
        · intro b j hf
          exact (fx _ _).mpr (Or.inl (mono b j hf))
        · exact (fx _ _).mpr (Or.inr (Or.inl ⟨rfl, rfl⟩))
        · intro hf
          exact (mono 18 k hf) c2
      · simp (disch := omega) only [W_some, W_none, W_bind, W_ite, W_ocz, W_lt, es, q1, hi', c2, o_le, o_leL, o_leR, o_lt, o_ltL, o_ltR, o_eq, o_eqL, o_eqR, o_cl, o_add, o_addL, o_addR, o_mul, o_mulL, o_mulR, o_sub, o_subR, o_0le, o_lt0, o_ixo, n1_eq, n1_eq', n1_lt, n1_le, n1_ge, n1_gt, n2_eq, n2_eq', n2_lt, n2_le, n2_ge, n2_gt, ↓reduceIte, ite_self, Nat.reduceEqDiff, Nat.reduceAdd, Nat.reduceMul, Nat.reduceSub, Nat.reduceLT, Nat.reduceLeDiff, Nat.not_lt_zero, Nat.zero_le, if_true, if_false, ite_true, ite_false, true_and, and_true, false_and, and_false, true_implies, false_implies, implies_true, not_true_eq_false, not_false_eq_true, eq_self, true_or, or_true, false_or, or_false, and_self, reduceCtorEq, forall_const]
        refine hQ _ ⟨⟨k + 1, by omega, rfl, ho, px, mono, ?_⟩, by simp (disch := omega) only [es, o_le, o_leL, o_leR, o_lt, o_ltL, o_ltR, o_eq, o_eqL, o_eqR, o_cl, o_add, o_addL, o_addR, o_mul, o_mulL, o_mulR, o_sub, o_subR, o_0le, o_lt0, o_ixo, n1_eq, n1_eq', n1_lt, n1_le, n1_ge, n1_gt, n2_eq, n2_eq', n2_lt, n2_le, n2_ge, n2_gt, ↓reduceIte, ite_self, Nat.reduceEqDiff, Nat.reduceAdd, Nat.reduceMul, Nat.reduceSub, Nat.reduceLT, Nat.reduceLeDiff, Nat.not_lt_zero, Nat.zero_le, if_true, if_false, ite_true, ite_false, true_and, and_true, false_and, and_false, true_implies, false_implies, implies_true, not_true_eq_false, not_false_eq_true, eq_self, true_or, or_true, false_or, or_false, and_self, reduceCtorEq, forall_const]; omega⟩
        rcases any with ⟨a1, a2, a3⟩ | any
        · refine Or.inl ⟨a1, a2, ?_⟩
          intro m hm hf
          by_cases em : m = k
          · subst em
            rw [a2] at c2
            exact c2
          · exact a3 m (by omega) hf
        · exact Or.inr any
    · have hi' : ¬ f_Reach_hasRoutine (Int32.ofNat k) s.2.2 = true := fun h => c1 (hi.mp h)
      simp (disch := omega) only [W_some, W_none, W_bind, W_ite, W_ocz, W_lt, es, q1, hi', o_le, o_leL, o_leR, o_lt, o_ltL, o_ltR, o_eq, o_eqL, o_eqR, o_cl, o_add, o_addL, o_addR, o_mul, o_mulL, o_mulR, o_sub, o_subR, o_0le, o_lt0, o_ixo, n1_eq, n1_eq', n1_lt, n1_le, n1_ge, n1_gt, n2_eq, n2_eq', n2_lt, n2_le, n2_ge, n2_gt, ↓reduceIte, ite_self, Nat.reduceEqDiff, Nat.reduceAdd, Nat.reduceMul, Nat.reduceSub, Nat.reduceLT, Nat.reduceLeDiff, Nat.not_lt_zero, Nat.zero_le, if_true, if_false, ite_true, ite_false, true_and, and_true, false_and, and_false, true_implies, false_implies, implies_true, not_true_eq_false, not_false_eq_true, eq_self, true_or, or_true, false_or, or_false, and_self, reduceCtorEq, forall_const]
      refine hQ _ ⟨⟨k + 1, by omega, rfl, ho, px, mono, ?_⟩, by simp (disch := omega) only [es, o_le, o_leL, o_leR, o_lt, o_ltL, o_ltR, o_eq, o_eqL, o_eqR, o_cl, o_add, o_addL, o_addR, o_mul, o_mulL, o_mulR, o_sub, o_subR, o_0le, o_lt0, o_ixo, n1_eq, n1_eq', n1_lt, n1_le, n1_ge, n1_gt, n2_eq, n2_eq', n2_lt, n2_le, n2_ge, n2_gt, ↓reduceIte, ite_self, Nat.reduceEqDiff, Nat.reduceAdd, Nat.reduceMul, Nat.reduceSub, Nat.reduceLT, Nat.reduceLeDiff, Nat.not_lt_zero, Nat.zero_le, if_true, if_false, ite_true, ite_false, true_and, and_true, false_and, and_false, true_implies, false_implies, implies_true, not_true_eq_false, not_false_eq_true, eq_self, true_or, or_true, false_or, or_false, and_self, reduceCtorEq, forall_const]; omega⟩
      rcases any with ⟨a1, a2, a3⟩ | any
      · refine Or.inl ⟨a1, a2, ?_⟩
        intro m hm hf
        by_cases em : m = k
        · subst em
          rw [a2] at c1
          exact absurd ⟨hp.1 m hl hf, hf⟩ c1
        · exact a3 m (by omega) hf
      · exact Or.inr any
  refine Wo.mono w ?_
  intro s ⟨so, sp, sm, any⟩
  rcases any with ⟨a1, a2, a3⟩ | ⟨a1, a2⟩
  · rw [a1, if_neg (by decide), if_pos rfl, W_some]
    exact ⟨so, sp, sm, fun _ => ⟨a2, a3⟩, fun h => by cases h⟩
  · rw [a1, if_pos rfl, W_some]
    exact ⟨so, sp, sm, fun h => (by cases h), fun _ => a2⟩
