/-! N7 -/
/-- the same but for the height of the frame at work, the fault, and the object thrown -/
def Ag (k : Kx) (M M1 : MS) : Prop := (∀ a, a ≠ 114 → a ≠ 60 → M.1 a = M1.1 a) ∧ (∀ q, q ≠ 20 * k.t + k.d → M.1 114 q = M1.1 114 q) ∧ (∀ e, e ≠ 90 → e ≠ 91 → M.1 60 e = M1.1 60 e) ∧ M.2 = M1.2
/-- an exception is on its way -/
def Mf (k : Kx) (T C : Nat → Nat) (n : Nat) (X : XS) (V M : MS) (f : Nat) (x : Nat) : Prop := (∃ M1 g h, Md k T C n X V M1 g h (k.S.2.2.2.2.1 k.i) ∧ Ag k M M1) ∧ (M.1 60 90 = Int32.ofNat f ∧ 1 ≤ f ∧ f ≤ 10) ∧ (f = 10 → x < k.A.N ∧ V.1 1040 10 = Int32.ofNat (adH k.c.Mr k.A x) ∧ M.1 60 91 = Int32.ofNat (k.A.os x))
theorem Mf.md {k : Kx} {T C : Nat → Nat} {n : Nat} {X : XS} {V M : MS} {f : Nat} {x : Nat} (h0 : Mf k T C n X V M f x) : ∃ M1 g h, Md k T C n X V M1 g h (k.S.2.2.2.2.1 k.i) ∧ Ag k M M1 := h0.1
theorem Mf.f90 {k : Kx} {T C : Nat → Nat} {n : Nat} {X : XS} {V M : MS} {f : Nat} {x : Nat} (h0 : Mf k T C n X V M f x) : M.1 60 90 = Int32.ofNat f ∧ 1 ≤ f ∧ f ≤ 10 := h0.2.1
theorem Mf.thr {k : Kx} {T C : Nat → Nat} {n : Nat} {X : XS} {V M : MS} {f : Nat} {x : Nat} (h0 : Mf k T C n X V M f x) : f = 10 → x < k.A.N ∧ V.1 1040 10 = Int32.ofNat (adH k.c.Mr k.A x) ∧ M.1 60 91 = Int32.ofNat (k.A.os x) := h0.2.2
set_option maxRecDepth 20000 in
set_option maxHeartbeats 4000000 in
theorem off_mono {Mr : MS} {m : Nat} {a : Nat} : ∀ b, a < b → off Mr m a < off Mr m b := by
  intro b
  induction b with
  | zero => intro h; omega
  | succ b ih =>
    intro h
    have := (lnF_le Mr m b).1
    show off Mr m a < off Mr m b + lnF Mr m b
    by_cases e : a = b
    · subst e; omega
    · have := ih (by omega); omega
set_option maxRecDepth 20000 in
set_option maxHeartbeats 4000000 in
theorem off_lt {Mr : MS} {m a b : Nat} : (off Mr m a < off Mr m b) ↔ a < b := by
  constructor
  · intro h
    rcases Nat.lt_trichotomy a b with q | q | q
    · exact q
    · subst q; omega
    · have := off_mono (Mr := Mr) (m := m) a q; omega
  · exact off_mono b
set_option maxRecDepth 20000 in
set_option maxHeartbeats 4000000 in
theorem isBelow_big {Mr : MS} {kc rc main : Nat} {X : XS} {T : Nat → Nat} (h : IM Mr rc main X T) (g : GP Mr kc rc main) {a : Nat} (ha : 10 ≤ a) (hb : a < 256) (y : Int32) : f_Image_isBelow_51 (Int32.ofNat a) y X = some false := by
  have := NK_le Mr
  unfold f_Image_isBelow_51
  refine lp_inr ?_
  unfold b5_Image_isBelow_51
  rw [if_neg (show ¬ (10 : Int32) ≤ 0 by decide), kinds_51 h g, Option.bind_some, if_pos (by rw [o_le _ _ (by omega) (by omega)]; omega)]
set_option maxRecDepth 20000 in
set_option maxHeartbeats 4000000 in
theorem Ag.mf {k : Kx} {M M1 : MS} (a : Ag k M M1) (h : ∀ a i, ¬ RunM a i → M1.1 a i = k.c.M0.1 a i) : ∀ a i, ¬ RunM a i → M.1 a i = k.c.M0.1 a i := by
  intro q i hr
  rw [← h q i hr]
  by_cases e : q = 60
  · subst e; exact a.2.2.1 i (by unfold RunM at hr; omega) (by unfold RunM at hr; omega)
  · rw [a.1 q (by unfold RunM at hr; omega) e]
set_option maxRecDepth 20000 in
set_option maxHeartbeats 4000000 in
/-- whether an entry of a method fits -/
theorem fits_ok {k : Kx} {T C : Nat → Nat} {n : Nat} {X : XS} {V M : MS} {f x : Nat} (ok : k.c.Ok) (mf : Mf k T C n X V M f x) (hk : f = 10 → V.1 1040 11 = Int32.ofNat (kcode k.c.Mr (k.A.K x))) {t : Nat} (ht : t < tcN k.c.Mr k.m) : ∃ b, f_Engine_fits (whL k.c.Mr (k.c.Mr.1 74 (24 * k.m + 4 * t + 3)) &&& 255) (Int32.ofNat f) X = some b ∧ f_M_fits (k.c.Mr.1 74 (24 * k.m + 4 * t + 3)) M = some b := by
  obtain ⟨⟨M1, g, h, md, ag⟩, ⟨f90, f1, f2⟩, thr⟩ := mf
  obtain ⟨gp, ht0, him, hkp⟩ := ok
  have him' := md.rv.im ht0 him
  have hk10 := (gp_k10 gp).1
  have hmf := ag.mf md.mf
  obtain ⟨m24, mr, _⟩ := md.mt.1
  have mrc := gp.2.2.1.2.2.1 _ m24 mr
  obtain ⟨s, tc, mm, h1, h2, h3, h4, h5, h6, h7, h8, h9⟩ := ty_facts gp.2.1 m24 mr
  have etc : tcN k.c.Mr k.m = tc := by unfold tcN; rw [h5, o_cl tc (by omega)]
  obtain ⟨_, _, _, _, hw⟩ := h9 t (by omega)
  have rf := md.rv.rf (a := 40) (by unfold Fx; omega)
  have nk := NK_le k.c.Mr
  unfold f_Engine_fits f_M_fits
  rw [kinds_51' him' gp, Option.bind_some, f90]
  rcases hw with ⟨c, hc, hw⟩ | ⟨w1, w2⟩
  · have cw : fm k.c.Mr 77 c := (gp.2.2.1.2.2.2.2.1 _ mrc mr).2.2.2.1 c (Or.inr ⟨t, ht, hc, hw⟩)
    have kl := kn_lt (show c < 10 by omega) cw
    have e1 : whL k.c.Mr (Int32.ofNat c) &&& 255 = Int32.ofNat (kn k.c.Mr c) := by
      unfold whL
      rw [if_pos (by rw [o_0le _ (by omega)]; trivial), o_cl _ (by omega), gp.2.2.1.2.2.2.2.2.2.2.2.2.1 c hc]
      exact and255 (by show kn k.c.Mr c < 256; omega)
    have p0 : (0 : Int32) ≤ Int32.ofNat c := by rw [o_0le _ (by omega)]; trivial
    have p1 : ¬ Int32.ofNat (NK k.c.Mr) ≤ Int32.ofNat (kn k.c.Mr c) := by rw [o_le _ _ (by omega) (by omega)]; omega
    rw [hw, e1, if_neg p1, if_pos p0]
    by_cases e : f = 10
    · subst e
      obtain ⟨x1, x2, x3⟩ := thr rfl
      have ob := md.hr.ob x x1
      have e121 : M.1 121 (k.A.os x) = Int32.ofNat (k.A.K x) := by rw [ag.1 121 (by omega) (by omega)]; exact ob.m121
      have p2 : ¬ ¬ Int32.ofNat 10 = 10 := fun z => z rfl
      rw [if_neg p2, if_neg p2, x3, if_pos (ixl ob.os.2 (by have := ob.os; omega)), o_cl _ (by have := ob.os; omega), e121, rf, hk rfl]
      rcases ob.ok with ⟨k1, k2, k3, k4⟩ | ⟨k1, k2⟩
      · obtain ⟨b, b1, b2⟩ := below_ok ⟨gp, ht0, him, hkp⟩ him' hmf hc cw _ k1 k3
        refine ⟨b, ?_, ?_⟩
        · unfold kcode
          rw [if_pos (by omega), b1, Option.bind_some]
          cases b <;> rfl
        · rw [if_neg (by rw [o_leL _ _ (by decide) (by omega)]; show ¬ 10 ≤ k.A.K x; omega), b2, Option.bind_some]
          cases b <;> rfl
      · refine ⟨false, ?_, ?_⟩
        · have kb : 10 ≤ kcode k.c.Mr (k.A.K x) ∧ kcode k.c.Mr (k.A.K x) < 256 := by unfold kcode; rw [if_neg (by omega)]; split <;> omega
          rw [isBelow_big him' gp kb.1 kb.2]
          rfl
        · rw [if_pos (by rw [o_leL _ _ (by decide) (by omega)]; show 10 ≤ k.A.K x; omega)]
    · have q : ¬ Int32.ofNat f = 10 := by rw [o_eqR _ _ (by omega) (by decide)]; exact e
      rw [if_pos q, if_pos q]
      exact ⟨false, rfl, rfl⟩
  · obtain ⟨q, q1, q2, hq⟩ : ∃ q : Nat, 1 ≤ q ∧ q ≤ 10 ∧ k.c.Mr.1 74 (24 * k.m + 4 * t + 3) = -(Int32.ofNat q) := by
      generalize k.c.Mr.1 74 (24 * k.m + 4 * t + 3) = w at *
      have b1 := Int32.le_iff_toInt_le.mp w1
      have b2 := Int32.le_iff_toInt_le.mp w2
      have c1 : (-10 : Int32).toInt = -10 := by decide
      have c2 : (-1 : Int32).toInt = -1 := by decide
      rw [c1] at b1
      rw [c2] at b2
      refine ⟨(-w.toInt).toNat, by omega, by omega, ?_⟩
      apply Int32.toInt_inj.mp
      rw [Int32.toInt_neg, oi _ (by omega)]
      simp [Int.bmod]
      omega
    have neg : ∀ q : Nat, 1 ≤ q → q ≤ 10 → (¬ (0 : Int32) ≤ -(Int32.ofNat q)) ∧ (256 + -(Int32.ofNat q)) &&& 255 = Int32.ofNat (256 - q) ∧ 256 - Int32.ofNat (256 - q) - 1 = Int32.ofNat (q - 1) ∧ ((-(Int32.ofNat q) : Int32) = -1 ↔ q = 1) ∧ ∀ f : Nat, f < 10 → ((-(Int32.ofNat q) : Int32) = -1 - Int32.ofNat f ↔ q = f + 1) := by
      intro q h1 h2
      rcases (show q = 1 ∨ q = 2 ∨ q = 3 ∨ q = 4 ∨ q = 5 ∨ q = 6 ∨ q = 7 ∨ q = 8 ∨ q = 9 ∨ q = 10 by omega) with e | e | e | e | e | e | e | e | e | e <;> subst e <;> refine ⟨by decide, by decide, by decide, by decide, ?_⟩ <;> intro f hf <;> rcases (show f = 0 ∨ f = 1 ∨ f = 2 ∨ f = 3 ∨ f = 4 ∨ f = 5 ∨ f = 6 ∨ f = 7 ∨ f = 8 ∨ f = 9 by omega) with e | e | e | e | e | e | e | e | e | e <;> subst e <;> decide
    obtain ⟨n1, n2, n3, n4, n5⟩ := neg q q1 q2
    have e1 : whL k.c.Mr (-(Int32.ofNat q)) &&& 255 = Int32.ofNat (256 - q) := by
      unfold whL
      rw [if_neg n1, n2]
    have p1 : Int32.ofNat (NK k.c.Mr) ≤ Int32.ofNat (256 - q) := by rw [o_le _ _ (by omega) (by omega)]; omega
    rw [hq, e1, if_pos p1, n3, if_neg n1]
    have z0 : (Int32.ofNat (q - 1) = 0) ↔ q = 1 := by rw [o_eqR _ _ (by omega) (by decide)]; show q - 1 = 0 ↔ q = 1; omega
    by_cases c1 : q = 1
    · rw [if_pos (z0.mpr c1), if_pos (n4.mpr c1)]
      exact ⟨true, rfl, rfl⟩
    · rw [if_neg (fun z => c1 (z0.mp z)), if_neg (fun z => c1 (n4.mp z))]
      have z1 : (Int32.ofNat (q - 1) = Int32.ofNat f) ↔ q = f + 1 := by rw [o_eq _ _ (by omega) (by omega)]; omega
      by_cases c2 : f = 10
      · have y1 : ¬ Int32.ofNat (q - 1) = Int32.ofNat f := fun z => by have := z1.mp z; omega
        have y2 : (10 : Int32) ≤ Int32.ofNat f := by rw [o_leL _ _ (by decide) (by omega)]; show 10 ≤ f; omega
        rw [if_pos y1, if_pos y2]
        exact ⟨false, rfl, rfl⟩
      · have y2 : ¬ (10 : Int32) ≤ Int32.ofNat f := by rw [o_leL _ _ (by decide) (by omega)]; show ¬ 10 ≤ f; omega
        rw [if_neg y2]
        have n5' := n5 f (by omega)
        by_cases c3 : q = f + 1
        · have y1 : ¬ ¬ Int32.ofNat (q - 1) = Int32.ofNat f := fun z => z (z1.mpr c3)
          have y3 : ¬ ¬ (-(Int32.ofNat q) : Int32) = -1 - Int32.ofNat f := fun z => z (n5'.mpr c3)
          rw [if_neg y1, if_neg y3]
          exact ⟨true, rfl, rfl⟩
        · have y1 : ¬ Int32.ofNat (q - 1) = Int32.ofNat f := fun z => c3 (z1.mp z)
          have y3 : ¬ (-(Int32.ofNat q) : Int32) = -1 - Int32.ofNat f := fun z => c3 (n5'.mp z)
          rw [if_pos y1, if_pos y3]
          exact ⟨false, rfl, rfl⟩
