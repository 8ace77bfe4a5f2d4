/-! H6 -/
/-- the rows of the source are the same -/
def SRw (M M' : MS) : Prop := ∀ a, 61 ≤ a → a ≤ 74 → M'.1 a = M.1 a
theorem ownM_c {M M' : MS} (h : SRw M M') (rc c n : Nat) : ownM M' rc c n = ownM M rc c n := by
  unfold ownM
  rw [h 64 (by omega) (by omega), h 65 (by omega) (by omega)]
set_option maxRecDepth 20000 in
set_option maxHeartbeats 4000000 in
theorem fnd_c {M M' : MS} (h : SRw M M') (rc n : Nat) : ∀ k c, fnd M' rc n k c = fnd M rc n k c := by
  intro k
  induction k with
  | zero => intro c; rfl
  | succ k ih =>
    intro c
    unfold fnd
    rw [ownM_c h, h 61 (by omega) (by omega), ih]
theorem aR_c {M M' : MS} (h : SRw M M') (rc m r : Nat) : aR M' rc m r = aR M rc m r := by
  unfold aR gR sz
  rw [h 70 (by omega) (by omega), h 71 (by omega) (by omega), h 72 (by omega) (by omega), h 65 (by omega) (by omega)]
theorem aM_c {M M' : MS} (h : SRw M M') (kc m c : Nat) : aM M' kc m c = aM M kc m c := by
  unfold aM gM sz
  rw [h 70 (by omega) (by omega), h 71 (by omega) (by omega), h 72 (by omega) (by omega)]
theorem aC_c {M M' : MS} (h : SRw M M') (m n : Nat) : aC M' m n = aC M m n := by
  unfold aC gC sz
  rw [h 70 (by omega) (by omega), h 71 (by omega) (by omega), h 72 (by omega) (by omega)]
theorem aK_c {M M' : MS} (h : SRw M M') (kc m c : Nat) : aK M' kc m c = aK M kc m c := by
  unfold aK gK sz
  rw [h 70 (by omega) (by omega), h 71 (by omega) (by omega), h 72 (by omega) (by omega), h 73 (by omega) (by omega), h 74 (by omega) (by omega)]
theorem argK_c {M M' : MS} (h : SRw M M') (r k : Nat) : argK M' r k = argK M r k := by
  unfold argK
  rw [h 67 (by omega) (by omega)]
set_option maxRecDepth 20000 in
set_option maxHeartbeats 4000000 in
theorem argsK_c {M M' : MS} (h : SRw M M') (r : Nat) : ∀ n, argsK M' r n = argsK M r n := by
  intro n
  induction n with
  | zero => rfl
  | succ n ih =>
    unfold argsK
    rw [ih, argK_c h]
theorem callT_c {M M' : MS} (h : SRw M M') (r : Nat) (g : Nat → Int32) (hh : Nat) (l : Nat → Int32) : callT M' r g hh l = callT M r g hh l := by
  unfold callT callK
  rw [h 65 (by omega) (by omega), h 66 (by omega) (by omega), h 68 (by omega) (by omega), argsK_c h]
theorem anyM_c {M M' : MS} (h : SRw M M') (rc n : Nat) : anyM M' rc n = anyM M rc n := by
  unfold anyM
  rw [h 65 (by omega) (by omega)]
set_option maxRecDepth 20000 in
set_option maxHeartbeats 4000000 in
theorem Tr_c {M M' : MS} (h : SRw M M') (rc op : Nat) (od : Int32) (g : Nat → Int32) (hh : Nat) (l : Nat → Int32) : Tr M' rc op od g hh l = Tr M rc op od g hh l := by
  have e : (fun r => callT M' r g hh l) = (fun r => callT M r g hh l) := funext fun r => callT_c h r g hh l
  unfold Tr
  rw [callT_c h, anyM_c h, e]
set_option maxRecDepth 20000 in
set_option maxHeartbeats 4000000 in
theorem Pos_c {M M' : MS} (h : SRw M M') (kc rc m op : Nat) (od : Int32) : Pos M' kc rc m op od = Pos M kc rc m op od := by
  have e : ∀ n, anyM M' rc n = anyM M rc n := fun n => anyM_c h rc n
  unfold Pos
  simp only [e]
  rw [h 69 (by omega) (by omega), h 70 (by omega) (by omega), h 62 (by omega) (by omega), h 63 (by omega) (by omega), h 65 (by omega) (by omega), h 66 (by omega) (by omega), h 68 (by omega) (by omega)]
set_option maxRecDepth 20000 in
set_option maxHeartbeats 4000000 in
theorem FlowOk_c {M M' : MS} (h : SRw M M') (kc rc m s tc tk : Nat) (S : FS) : FlowOk M' kc rc m s tc tk S = FlowOk M kc rc m s tc tk S := by
  have e1 : ∀ i, opN M' m i = opN M m i := fun i => by unfold opN; rw [h 71 (by omega) (by omega)]
  have e2 : ∀ i, odI M' m i = odI M m i := fun i => by unfold odI; rw [h 72 (by omega) (by omega)]
  have e3 : frM M' m = frM M m := funext fun i => by unfold frM; rw [h 74 (by omega) (by omega)]
  have e4 : ttM M' m = ttM M m := funext fun i => by unfold ttM; rw [h 74 (by omega) (by omega)]
  have e5 : hdM M' m = hdM M m := funext fun i => by unfold hdM; rw [h 74 (by omega) (by omega)]
  have e6 : ∀ k, kdX M' m k = kdX M m k := fun k => by unfold kdX; rw [h 65 (by omega) (by omega), argK_c h, argK_c h]
  have e7 : ∀ k, lin M' m tk k = lin M m tk k := fun k => by unfold lin; rw [e6]
  have e8 : ∀ t, TrV M' kc m s t = TrV M kc m s t := fun t => by unfold TrV; rw [h 74 (by omega) (by omega)]
  unfold FlowOk Typed TyAt
  simp only [e1, e2, e3, e4, e5, e7, e8, Tr_c h, Pos_c h]
set_option maxRecDepth 20000 in
set_option maxHeartbeats 4000000 in
theorem TyM_c {M0 M0' : MS} (h : SRw M0 M0') {kc rc : Nat} {M : MS} {m : Nat} {S : FS} (t : TyM M0 kc rc M m S) : TyM M0' kc rc M m S := by
  unfold TyM at *
  simp only [FlowOk_c h]
  rw [h 70 (by omega) (by omega), h 73 (by omega) (by omega), h 66 (by omega) (by omega), h 65 (by omega) (by omega)]
  exact t
/-- what is reached, as the writing needs it -/
def LkR (M : MS) (kc rc main : Nat) : Prop := main < rc ∧ fm M 75 main ∧ (∀ m, m < 24 → fm M 75 m → m < rc) ∧ (∀ c, c < 10 → fm M 77 c → c < kc) ∧
  (∀ m, m < rc → fm M 75 m → (∀ r, aR M rc m r → fm M 75 r) ∧ (∀ c, aM M kc m c → fm M 76 c) ∧ (∀ n, aC M m n → fm M 78 n) ∧ (∀ c, aK M kc m c → fm M 77 c) ∧ (∀ c, c < kc → ¬ M.1 65 m = -2 → M.1 64 m = Int32.ofNat c → fm M 77 c)) ∧
  (∀ c d, c < kc → fm M 77 c → M.1 61 c = Int32.ofNat d → d < kc → fm M 77 d) ∧
  (∀ c n r, c < kc → n < 8 → fm M 76 c → fm M 78 n → fnd M rc n 10 c = some r → fm M 75 r) ∧
  M.1 60 23 = Int32.ofNat (cnt (fmB M 77) kc) ∧ M.1 60 22 = Int32.ofNat (cnt (fmB M 75) rc) ∧ (∀ c, c < kc → M.1 80 c = Int32.ofNat (cnt (fmB M 77) c)) ∧ (∀ m, m < rc → M.1 79 m = Int32.ofNat (cnt (fmB M 75) m))
set_option maxRecDepth 20000 in
set_option maxHeartbeats 4000000 in
theorem LkR_of {M0 M1 Mr : MS} {kc rc main : Nat} (hm : main < rc) (h : RchM M0 kc rc main M1) (hk : MO Fmk M1 Mr) : LkR Mr kc rc main := by
  obtain ⟨m0, m1, m2, m3, m4, m5, m6, m7, m8, m9, m10⟩ := h
  have hs : SRw M0 Mr := by
    intro a h1 h2
    funext i
    rw [hk.2 a i (by unfold Fmk Flm; omega)]
    exact (m0.src Rcm_src).1 a h1 h2 ▸ rfl
  have e75 := Fmk_row hk (a := 75) (by omega)
  have e76 := Fmk_row hk (a := 76) (by omega)
  have e77 := Fmk_row hk (a := 77) (by omega)
  have e78 := Fmk_row hk (a := 78) (by omega)
  have e79 := Fmk_row hk (a := 79) (by omega)
  have e80 := Fmk_row hk (a := 80) (by omega)
  have e22 : Mr.1 60 22 = M1.1 60 22 := hk.2 _ _ (by unfold Fmk Flm; omega)
  have e23 : Mr.1 60 23 = M1.1 60 23 := hk.2 _ _ (by unfold Fmk Flm; omega)
  unfold LkR
  simp only [aR_c hs, aM_c hs, aC_c hs, aK_c hs, fnd_c hs]
  rw [hs 65 (by omega) (by omega), hs 64 (by omega) (by omega), hs 61 (by omega) (by omega)]
  unfold fmB fm
  rw [e75, e76, e77, e78, e79, e80, e22, e23]
  refine ⟨hm, m2.1, m1, m4, ?_, m5.2, m2.2.2, m7, m8, m9, m10⟩
  intro m hm' hr
  obtain ⟨c1, c2, c3⟩ := m2.2.1 m hm' hr
  refine ⟨c1, c2, c3, fun c hc => m5.1 c ⟨m, hm', hr, Or.inl hc⟩, fun c hc h1 h2 => m5.1 c ⟨m, hm', hr, Or.inr ⟨h1, h2, hc⟩⟩⟩
set_option maxRecDepth 20000 in
set_option maxHeartbeats 4000000 in
theorem cnt_step {p : Nat → Bool} {a : Nat} (h : p a = true) : ∀ b, a < b → cnt p a < cnt p b := by
  intro b
  induction b with
  | zero => intro h; omega
  | succ b ih =>
    intro hb
    show cnt p a < cnt p b + (if p b = true then 1 else 0)
    by_cases e : a = b
    · subst e
      rw [if_pos h]
      omega
    · have := ih (by omega)
      omega
set_option maxRecDepth 20000 in
set_option maxHeartbeats 4000000 in
theorem cnt_inj {p : Nat → Bool} {a b : Nat} (ha : p a = true) (hb : p b = true) (e : cnt p a = cnt p b) : a = b := by
  rcases Nat.lt_trichotomy a b with h | h | h
  · have := cnt_step ha b h; omega
  · exact h
  · have := cnt_step hb a h; omega
/-- all fields of a class, with those above -/
def allN (M : MS) (r : Nat) : Nat → Nat → Int32
  | 0, _ => 0
  | j + 1, c => M.1 r c + (if M.1 61 c = -1 then 0 else allN M r j (M.1 61 c).toNatClampNeg)
set_option maxRecDepth 20000 in
set_option maxHeartbeats 4000000 in
theorem all_X {X : XS} {M : MS} {kc : Nat} (h : RSk X M kc) : ∀ j c, c < j → c < kc → X.1 6 c = allN M 62 j c ∧ X.1 7 c = allN M 63 j c := by
  intro j
  induction j with
  | zero => intro c hc; omega
  | succ j ih =>
    intro c hc hk
    obtain ⟨h1, h2, h3, h4, h5, h6, h7, h8, _⟩ := h.2.2.2 c hk
    unfold allN
    rw [h7, h8, h2, h3, h1]
    rcases h4 with e | ⟨d, hd, e⟩
    · rw [e]; simp
    · have := h.1
      have q : ¬ (Int32.ofNat d = -1) := by rw [n1_eq d (by omega)]; simp
      rw [e, if_neg q, if_neg q, if_neg q, if_neg q, o_cl d (by omega), (ih d (by omega) (by omega)).1, (ih d (by omega) (by omega)).2]
      exact ⟨rfl, rfl⟩
set_option maxRecDepth 20000 in
set_option maxHeartbeats 4000000 in
theorem all_M {X : XS} {M : MS} {kc : Nat} (h : RSk X M kc) : ∀ j c N acc, c < j → c < kc → j < N → (∃ z, lp (b5_M_allOf_62 M) N (acc, Int32.ofNat c) = some (acc + allN M 62 j c, z)) ∧ (∃ z, lp (b5_M_allOf_63 M) N (acc, Int32.ofNat c) = some (acc + allN M 63 j c, z)) := by
  intro j
  induction j with
  | zero => intro c N acc hc; omega
  | succ j ih =>
    intro c N acc hc hk hN
    obtain ⟨N, rfl⟩ : ∃ N', N = N' + 1 := ⟨N - 1, by omega⟩
    have hk10 := h.1
    obtain ⟨h1, h2, h3, h4, h5, h6, h7, h8, _⟩ := h.2.2.2 c hk
    have c10 : c < 10 := by omega
    have e2 : b5_M_allOf_62 M (acc, Int32.ofNat c) = some (.inl (acc + M.1 62 c, M.1 61 c)) := by
      unfold b5_M_allOf_62
      simp (disch := omega) only [c10, o_le, o_leL, o_leR, o_lt, o_ltL, o_ltR, o_eq, o_eqL, o_eqR, o_cl, o_add, o_addL, o_addR, o_mul, o_mulL, o_mulR, o_sub, o_subR, o_0le, o_lt0, o_ixo, n1_eq, n1_eq', n1_lt, n1_le, n1_ge, n1_gt, n2_eq, n2_eq', n2_lt, n2_le, n2_ge, n2_gt, ↓reduceIte, ite_self, Nat.reduceEqDiff, Nat.reduceAdd, Nat.reduceMul, Nat.reduceSub, Nat.reduceLT, Nat.reduceLeDiff, Nat.not_lt_zero, Nat.zero_le, if_true, if_false, ite_true, ite_false, true_and, and_true, false_and, and_false, true_implies, false_implies, implies_true, not_true_eq_false, not_false_eq_true, eq_self, true_or, or_true, false_or, or_false, and_self, reduceCtorEq, forall_const]
    have e3 : b5_M_allOf_63 M (acc, Int32.ofNat c) = some (.inl (acc + M.1 63 c, M.1 61 c)) := by
      unfold b5_M_allOf_63
      simp (disch := omega) only [c10, o_le, o_leL, o_leR, o_lt, o_ltL, o_ltR, o_eq, o_eqL, o_eqR, o_cl, o_add, o_addL, o_addR, o_mul, o_mulL, o_mulR, o_sub, o_subR, o_0le, o_lt0, o_ixo, n1_eq, n1_eq', n1_lt, n1_le, n1_ge, n1_gt, n2_eq, n2_eq', n2_lt, n2_le, n2_ge, n2_gt, ↓reduceIte, ite_self, Nat.reduceEqDiff, Nat.reduceAdd, Nat.reduceMul, Nat.reduceSub, Nat.reduceLT, Nat.reduceLeDiff, Nat.not_lt_zero, Nat.zero_le, if_true, if_false, ite_true, ite_false, true_and, and_true, false_and, and_false, true_implies, false_implies, implies_true, not_true_eq_false, not_false_eq_true, eq_self, true_or, or_true, false_or, or_false, and_self, reduceCtorEq, forall_const]
    rw [lp_inl e2, lp_inl e3]
    unfold allN
    rcases h4 with e | ⟨d, hd, e⟩
    · obtain ⟨N, rfl⟩ : ∃ N', N = N' + 1 := ⟨N - 1, by omega⟩
      rw [e]
      refine ⟨⟨-1, ?_⟩, ⟨-1, ?_⟩⟩
      · rw [if_pos rfl, lp_inr (r := (acc + M.1 62 c, -1)) (by unfold b5_M_allOf_62; rfl), Int32.add_zero]
      · rw [if_pos rfl, lp_inr (r := (acc + M.1 63 c, -1)) (by unfold b5_M_allOf_63; rfl), Int32.add_zero]
    · have q : ¬ (Int32.ofNat d = -1) := by rw [n1_eq d (by omega)]; simp
      rw [e, if_neg q, if_neg q, o_cl d (by omega)]
      obtain ⟨⟨z, ez⟩, _⟩ := ih d N (acc + M.1 62 c) (by omega) (by omega) (by omega)
      obtain ⟨_, ⟨z', ez'⟩⟩ := ih d N (acc + M.1 63 c) (by omega) (by omega) (by omega)
      exact ⟨⟨z, by rw [ez, Int32.add_assoc]⟩, ⟨z', by rw [ez', Int32.add_assoc]⟩⟩
set_option maxRecDepth 20000 in
set_option maxHeartbeats 4000000 in
theorem allOf_c {M M' : MS} (h : SRw M M') (r : Nat) (hr : 61 ≤ r ∧ r ≤ 74) : ∀ j c, allN M' r j c = allN M r j c := by
  intro j
  induction j with
  | zero => intro c; rfl
  | succ j ih =>
    intro c
    unfold allN
    rw [h 61 (by omega) (by omega), h r hr.1 hr.2, ih]
set_option maxRecDepth 20000 in
set_option maxHeartbeats 4000000 in
theorem allOf_ok {X : XS} {M M' : MS} {kc c : Nat} (h : RSk X M kc) (hs : MSrc M M') (hc : c < kc) : f_M_allOf_62 (Int32.ofNat c) M' = some (allN M 62 10 c) ∧ f_M_allOf_63 (Int32.ofNat c) M' = some (allN M 63 10 c) := by
  have h' : RSk X M' kc := by
    refine ⟨h.1, h.2.1, hs.2.1.trans h.2.2.1, ?_⟩
    rw [hs.1 61 (by omega) (by omega), hs.1 62 (by omega) (by omega), hs.1 63 (by omega) (by omega)]
    exact h.2.2.2
  have := h.1
  obtain ⟨⟨z, e⟩, ⟨z', e'⟩⟩ := all_M h' 10 c 10000 0 (by omega) hc (by omega)
  unfold f_M_allOf_62 f_M_allOf_63
  rw [e, e', allOf_c hs.1 62 (by omega), allOf_c hs.1 63 (by omega)]
  simp [Option.bind_some, Int32.zero_add]
