/-! O6 -/
set_option maxRecDepth 20000 in
set_option maxHeartbeats 4000000 in
theorem isOf_ok {k : Kx} {T C : Nat → Nat} {n : Nat} {X : XS} {V M : MS} {g : Nat → Int32} {h : Nat} {l : Nat → Int32} (md : Md k T C n X V M g h l) (ok : k.c.Ok) {q c : Nat} (hq : q < k.A.N) (hc : c < k.c.kc) (hw : fm k.c.Mr 77 c) : ∃ b, f_Engine_isOf (Int32.ofNat (adH k.c.Mr k.A q)) (Int32.ofNat (kn k.c.Mr c)) X = some b ∧ ((10 ≤ k.A.K q ∧ b = false) ∨ (k.A.K q < 10 ∧ f_M_isBelow (Int32.ofNat (k.A.K q)) (Int32.ofNat c) M = some b)) := by
  have ok' := ok
  obtain ⟨gp, ht0, him, hkp⟩ := ok
  have him' := md.rv.im ht0 him
  have bd := md.hr.bd hq
  have w4 := wz4 k.c.Mr (k.A.K q) (k.A.n q)
  have ob := md.hr.ob q hq
  have k10 := (gp_k10 gp).1
  have kw : f_Memory_kindOf (Int32.ofNat (adH k.c.Mr k.A q)) X = some (Int32.ofNat (kcode k.c.Mr (k.A.K q))) := by
    unfold f_Memory_kindOf
    rw [word_eq md.rv (by omega), ob.h0]
    rfl
  have nz : ¬ Int32.ofNat (adH k.c.Mr k.A q) = 0 := by rw [o_eqR _ _ (by omega) (by decide)]; show ¬ adH k.c.Mr k.A q = 0; omega
  unfold f_Engine_isOf
  rw [if_neg nz, kw, Option.bind_some]
  rcases ob.ok with ⟨k1, k2, k3, k4⟩ | ⟨k1, k2⟩
  · obtain ⟨b, b1, b2⟩ := below_ok ok' him' md.mf hc hw _ k1 k3
    refine ⟨b, ?_, Or.inr ⟨by omega, b2⟩⟩
    unfold kcode
    rw [if_pos (by omega), b1, Option.bind_some]
    cases b <;> rfl
  · refine ⟨false, ?_, Or.inl ⟨by omega, rfl⟩⟩
    have kb : 10 ≤ kcode k.c.Mr (k.A.K q) ∧ kcode k.c.Mr (k.A.K q) < 256 := by unfold kcode; rw [if_neg (by omega)]; split <;> omega
    rw [isBelow_big him' gp kb.1 kb.2]
    rfl
set_option maxRecDepth 20000 in
set_option maxHeartbeats 4000000 in
theorem RefR.cases {k : Kx} {V M : MS} {x v : Int32} (r : RefR k.c.Mr k.A x v) (hr : HR k.c.Mr k.c.kc k.A k.hp V M) : (x = 0 ∧ v = 0) ∨ ∃ q, q < k.A.N ∧ x = Int32.ofNat (adH k.c.Mr k.A q) ∧ v = Int32.ofNat (k.A.os q) ∧ ¬ x = 0 ∧ ¬ v = 0 ∧ ¬ v ≤ 0 ∧ ixo v 1002 ∧ v.toNatClampNeg = k.A.os q := by
  rcases r with ⟨a, b⟩ | ⟨q, hq, a, b⟩
  · exact Or.inl ⟨a, b⟩
  · have bd := hr.bd hq
    have w4 := wz4 k.c.Mr (k.A.K q) (k.A.n q)
    have os := (hr.ob q hq).os
    refine Or.inr ⟨q, hq, a, b, ?_, ?_, ?_, ?_, ?_⟩
    · rw [a, o_eqR _ _ (by omega) (by decide)]; show ¬ adH k.c.Mr k.A q = 0; omega
    · rw [b, o_eqR _ _ (by omega) (by decide)]; show ¬ k.A.os q = 0; omega
    · rw [b, o_leR _ _ (by omega) (by decide)]; show ¬ k.A.os q ≤ 0; omega
    · rw [b]; exact ixl os.2 (by omega)
    · rw [b]; exact o_cl _ (by omega)
set_option maxRecDepth 20000 in
set_option maxHeartbeats 4000000 in
/-- the operand of 26 and 44: a class -/
theorem cls_od {k : Kx} {T C : Nat → Nat} {n : Nat} {X : XS} {M : MS} {g : Nat → Int32} {h : Nat} {l : Nat → Int32} (j : Jm k T C n X M g h l) (ok : k.c.Ok) (hop : opN k.c.Mr k.m k.i = 26 ∨ opN k.c.Mr k.m k.i = 44) : ∃ c, c < k.c.kc ∧ fm k.c.Mr 77 c ∧ (opN k.c.Mr k.m k.i = 26 → fm k.c.Mr 76 c) ∧ odI k.c.Mr k.m k.i = Int32.ofNat c ∧ f_Image_at_51 (Int32.ofNat (caN k.c.Mr k.m + off k.c.Mr k.m k.i + 1)) X = some (Int32.ofNat (kn k.c.Mr c)) := by
  obtain ⟨i1, i2, i3, i4, _⟩ := j.im ok
  obtain ⟨f0, f1, f2, f3, f4, f5, f6, f7⟩ := ins_facts i2 i3 i4
  obtain ⟨c, hc, ec⟩ := f6.1.2.2.2.1 hop
  have k10 := (gp_k10 i2).1
  have hR := i2.2.2.1.2.2.2.2.1 k.m f0 i3.2.1
  have f4' : k.c.Mr.1 71 (60 * k.m + k.i) = Int32.ofNat (opN k.c.Mr k.m k.i) := f4
  have od' : k.c.Mr.1 72 (60 * k.m + k.i) = Int32.ofNat c := ec
  have hw : fm k.c.Mr 77 c := by
    refine hR.2.2.2.1 c (Or.inl ⟨k.i, f1, hc, Or.inl ⟨?_, od'⟩⟩)
    rw [f4']
    rcases hop with e | e <;> rw [e]
    · exact Or.inl rfl
    · exact Or.inr rfl
  have hm : opN k.c.Mr k.m k.i = 26 → fm k.c.Mr 76 c := by
    intro e
    refine hR.2.1 c ⟨k.i, f1, ?_, hc, od'⟩
    rw [f4', e]
    rfl
  have kl := kn_lt (show c < 10 by omega) hw
  have nk := NK_le k.c.Mr
  have l2 : ln (opN k.c.Mr k.m k.i) (odI k.c.Mr k.m k.i) = 2 := by
    unfold ln ln0
    rcases hop with e | e <;> rw [e, if_neg (by omega), if_pos (by omega)]
  have a1 := opr_2 j ok (by rw [l2]; omega)
  have oL : opL k.c.Mr k.m (opN k.c.Mr k.m k.i) (odI k.c.Mr k.m k.i) = [Int32.ofNat (opN k.c.Mr k.m k.i), k.c.Mr.1 80 (odI k.c.Mr k.m k.i).toNatClampNeg] := by
    unfold opL
    rcases hop with e | e <;> rw [e, if_neg (by omega), if_neg (by omega), if_neg (by omega), if_neg (by omega), if_pos (by omega)]
  refine ⟨c, hc, hw, hm, ec, ?_⟩
  rw [a1, oL]
  show some (k.c.Mr.1 80 (odI k.c.Mr k.m k.i).toNatClampNeg &&& 255) = _
  rw [ec, o_cl _ (by omega), i2.2.2.1.2.2.2.2.2.2.2.2.2.1 c hc]
  show some (Int32.ofNat (kn k.c.Mr c) &&& 255) = _
  rw [and255 (by omega)]
set_option maxRecDepth 20000 in
set_option maxHeartbeats 4000000 in
theorem plain_44 {k : Kx} {T C : Nat → Nat} {n : Nat} {X : XS} {M : MS} {g g' : Nat → Int32} {h h' : Nat} {l l' : Nat → Int32} (ok : k.c.Ok) (hop : opN k.c.Mr k.m k.i = 44) (j : Jz k T C n X M g h l) (tr : Tr k.c.Mr k.c.rc 44 (odI k.c.Mr k.m k.i) g h l = some (g', h', l')) : Wo (f_Engine_doPlain (C (600 + 16 * k.t)) 44 (Int32.ofNat (caN k.c.Mr k.m + off k.c.Mr k.m k.i + 1)) X) (fun o => Wo (f_M_others 44 (odI k.c.Mr k.m k.i) M) (fun M' => OutA k (C (600 + 16 * k.t)) g' h' l' o M')) := by
  obtain ⟨c, hc, hw, _, ec, ea⟩ := cls_od j.1 ok (Or.inr hop)
  obtain ⟨hh, p1, p2⟩ := tr_def (by omega) (by omega) (by omega) (by omega) (by omega) (by omega) tr
  have tk : tkL 44 = [2] ∧ ptL 44 = 1 := by decide
  rw [tk.1] at p1
  rw [tk.2] at p2
  obtain ⟨a, eaa, ga, p1⟩ := popsK_cons p1
  have ep := popsK_nil p1
  obtain ⟨q1, q2, q3, q4⟩ := putT_v (by decide) p2
  subst ep eaa q2 q3 q4
  obtain ⟨x, X1, y, M1, s1, s2, s3, s4, s5⟩ := Z_pop j
  have rr := s4.2 (g1 ga (by decide))
  obtain ⟨⟨V1, md1⟩, z1⟩ := s3
  have s3 : Jz k T C n X1 M1 g hh _ := ⟨⟨V1, md1⟩, z1⟩
  obtain ⟨Xa, Ma, a1, a2, a3⟩ := Z_pushi s3 q1 1
  obtain ⟨Xb, Mb, b1, b2, b3⟩ := Z_pushi s3 q1 0
  unfold f_Engine_doPlain f_M_others
  rw [ea, Option.bind_some, if_neg (by decide), if_neg (by decide), if_neg (by decide), if_neg (by decide), if_neg (by decide), if_neg (by decide), if_pos rfl, if_pos j.x, s1, Option.bind_some]
  rw [if_neg (show ¬ (44 : Int32) = 1 by decide), if_neg (show ¬ (44 : Int32) = 2 by decide), if_neg (show ¬ (44 : Int32) = 3 by decide), if_neg (show ¬ (44 : Int32) = 16 by decide), if_neg (show ¬ (44 : Int32) = 17 by decide), if_neg (show ¬ (44 : Int32) = 18 by decide), if_neg (show ¬ (44 : Int32) = 26 by decide), if_neg (show ¬ (44 : Int32) = 43 by decide), if_pos (show (44 : Int32) = 44 from rfl), s2, Option.bind_some, ec]
  dsimp only
  rcases rr.cases md1.hr with ⟨n1, n2⟩ | ⟨q, hq, n1, n2, n3, n4, n5, n6, n7⟩
  · have e0 : f_Engine_isOf x (Int32.ofNat (kn k.c.Mr c)) X1 = some false := by unfold f_Engine_isOf; rw [if_pos n1]
    rw [e0, Option.bind_some, if_neg (by decide), if_pos s3.x, b1, if_pos (by rw [n2]; decide), b2]
    exact W_some.mpr (W_some.mpr (out_go b3))
  · obtain ⟨b, e0, e1⟩ := isOf_ok md1 ok hq hc hw
    rw [← n1] at e0
    have e121 : M1.1 121 y.toNatClampNeg = Int32.ofNat (k.A.K q) := by rw [n7]; exact (md1.hr.ob q hq).m121
    have kb : k.A.K q < 12 := by
      have := (gp_k10 ok.1).1
      rcases (md1.hr.ob q hq).ok with z | z <;> omega
    have e10 : ((10 : Int32) ≤ Int32.ofNat (k.A.K q)) ↔ 10 ≤ k.A.K q := by rw [o_leL _ _ (by decide) (by omega)]
    rw [e0, Option.bind_some, if_neg n5, if_pos n6, e121]
    rcases e1 with ⟨c1, c2⟩ | ⟨c1, c2⟩
    · subst c2
      rw [if_neg (by decide), if_pos s3.x, b1, if_pos (e10.mpr c1), b2]
      exact W_some.mpr (W_some.mpr (out_go b3))
    · have n10 : ¬ (10 : Int32) ≤ Int32.ofNat (k.A.K q) := fun z => by have := e10.mp z; omega
      rw [if_neg n10, c2, Option.bind_some]
      cases b with
      | true =>
        rw [if_pos (show true = true from rfl), if_pos s3.x, a1, if_pos (show true = true from rfl), a2]
        exact W_some.mpr (W_some.mpr (out_go a3))
      | false =>
        rw [if_neg (show ¬ false = true by decide), if_pos s3.x, b1, if_neg (show ¬ false = true by decide), b2]
        exact W_some.mpr (W_some.mpr (out_go b3))
