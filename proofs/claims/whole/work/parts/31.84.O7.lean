/-! O7 -/
set_option maxRecDepth 20000 in
set_option maxHeartbeats 4000000 in
theorem Md.misc {k : Kx} {T C : Nat → Nat} {n oc : Nat} {W : Nat → Int32} {X X' : XS} {V M V' M' : MS} {g : Nat → Int32} {h : Nat} {l : Nat → Int32} (md : Md k T C n X V M g h l) (rv' : RV k.c.X0 k.c.T0 X' T C n V')
    (hv : ∀ a, ¬ (1047 ≤ a ∧ a ≤ 1049) → a ≠ 1056 → a ≠ 1057 → a ≠ 1040 → V'.1 a = V.1 a) (v40 : V'.1 1040 0 = 1 ∧ V'.1 1040 1 = W 1 ∧ V'.1 1040 2 = V.1 1040 2) (hm : ∀ a, ¬ (117 ≤ a ∧ a ≤ 120) → a ≠ 60 → M'.1 a = M.1 a) (h60 : ∀ f, f ≠ 76 → f ≠ 78 → f ≠ 90 → f ≠ 91 → M'.1 60 f = M.1 60 f) (d2 : M'.2 = M.2) (sr : StR k.c.Mr k.A V' M') (pr : PoR oc V' M') (hW : ∀ f, 62 ≤ f → f ≤ 64 → W f = k.W f) : Md (k.ch k.A k.nb oc W) T C n X' V' M' g h l := by
  obtain ⟨t1, t2, t3⟩ := md.t6
  obtain ⟨m0, m1, m2, m3, m4, m5, m6, m7, m8, m9, m10, m11, m12⟩ := md
  obtain ⟨q0, q1, q2, q3, q4, q5, q6, q7, q8, q9, q10, q11, q12⟩ := m3
  have v : ∀ a, 600 ≤ a → a < 800 → V'.1 a = V.1 a := fun a h1 h2 => hv a (by omega) (by omega) (by omega) (by omega)
  have v0 := v (600 + 16 * k.t) (by omega) (by omega)
  have v5 := v (605 + 16 * k.t) (by omega) (by omega)
  have v6 := v (606 + 16 * k.t) (by omega) (by omega)
  have v9 := v (609 + 16 * k.t) (by omega) (by omega)
  have v10 := v (610 + 16 * k.t) (by omega) (by omega)
  have v11 := v (611 + 16 * k.t) (by omega) (by omega)
  have r : ∀ a, 109 ≤ a → a ≤ 116 → M'.1 a = M.1 a := fun a h1 h2 => hm a (by omega) (by omega)
  have r9 := r 109 (by omega) (by omega)
  have r10 := r 110 (by omega) (by omega)
  have r11 := r 111 (by omega) (by omega)
  have r12 := r 112 (by omega) (by omega)
  have r13 := r 113 (by omega) (by omega)
  have r14 := r 114 (by omega) (by omega)
  have r15 := r 115 (by omega) (by omega)
  have r16 := r 116 (by omega) (by omega)
  refine ⟨rv', ?_, m2, ⟨q0, ?_, ?_, ?_, ?_, ?_, ?_, ?_, ?_, ?_, q10.congr (fun s _ => by rw [v5]) (fun s _ => by rw [v6]) (fun s _ => by rw [r15]) (fun s _ => by rw [r16]), ?_, ?_⟩, ?_, ?_, ?_, sr, pr, ?_, ?_, ?_, d2.trans m12⟩
  · intro a i hr
    rw [← m1 a i hr]
    unfold RunM at hr
    by_cases e : a = 60
    · subst e; exact h60 i (by omega) (by omega) (by omega) (by omega)
    · rw [hm a (by omega) e]
  · rw [r9]; exact q1
  · rw [v0]; exact q2
  · rw [r12]; exact q3
  · rw [r13]; exact q4
  · rw [r14]; exact q5
  · rw [v0]; exact q6
  · rw [v0]; exact q7
  · rw [v0]; exact q8
  · rw [v0]; exact q9
  · rw [r10, v0]; exact q11
  · rw [r11, v0]; exact q12
  · intro q hq
    exact (m4 q hq).congr (fun s _ => by rw [v5]) (fun s _ => by rw [v6]) (by rw [v9]) (by rw [v10]) (by rw [v11]) (fun s _ => by rw [r15]) (fun s _ => by rw [r16]) (by rw [r12]) (by rw [r12]) (by rw [r13]) (by rw [r14])
  · intro u hu hne
    have hu' : u < k.nb := hu
    have := m9.2.1
    exact (m5 u hu hne).congr (fun j hj => v _ (by omega) (by omega)) (fun a h1 h2 => by rw [r a (by omega) (by omega)]) (fun a q h1 h2 h3 => by rw [r a (by omega) (by omega)]) (fun a s h1 h2 h3 => by rw [r a (by omega) (by omega)])
  · exact m6.congr (fun a ha => hv a (by omega) (by omega) (by omega) (by omega)) (fun a h1 h2 _ _ => hm a (by omega) (by omega)) (fun f hf => h60 f (by omega) (by omega) (by omega) (by omega))
  · refine ⟨m9.1, m9.2.1, ?_, ?_⟩
    · rw [v40.2.2]; exact m9.2.2.1
    · rw [h60 61 (by omega) (by omega) (by omega) (by omega)]; exact m9.2.2.2
  · rw [h60 89 (by omega) (by omega) (by omega) (by omega)]; exact m10
  · refine ⟨?_, v40.1, v40.2.1, fun f h1 h2 => ?_⟩
    · rw [hv 1059 (by omega) (by omega) (by omega) (by omega)]; exact m11.1
    · rw [h60 f (by omega) (by omega) (by omega) (by omega)]
      exact (m11.2.2.2 f h1 h2).trans (hW f h1 h2).symm
set_option maxRecDepth 20000 in
set_option maxHeartbeats 4000000 in
theorem plain_46 {k : Kx} {T C : Nat → Nat} {n : Nat} {X : XS} {M : MS} {g g' : Nat → Int32} {h h' : Nat} {l l' : Nat → Int32} {od : Int32} (ok : k.c.Ok) (hoc : k.oc + 1 < 2147483648) (j : Jz k T C n X M g h l) (tr : Tr k.c.Mr k.c.rc 46 od g h l = some (g', h', l')) : Wo (f_Engine_doPlain (C (600 + 16 * k.t)) 46 (Int32.ofNat (caN k.c.Mr k.m + off k.c.Mr k.m k.i + 1)) X) (fun o => Wo (f_M_others 46 od M) (fun M' => OutA k (C (600 + 16 * k.t)) g' h' l' o M')) := by
  obtain ⟨v, ev⟩ := opr_at j.1 ok
  obtain ⟨hh, p1, p2⟩ := tr_def (by omega) (by omega) (by omega) (by omega) (by omega) (by omega) tr
  have tk : tkL 46 = [1] ∧ ptL 46 = 0 := by decide
  rw [tk.1] at p1
  rw [tk.2] at p2
  obtain ⟨a, ea, ga, p1⟩ := popsK_cons p1
  have ep := popsK_nil p1
  obtain ⟨q1, q2, q3⟩ := putT_0 p2
  subst ep ea q1 q2 q3
  obtain ⟨x, X1, y, M1, s1, s2, s3, s4, s5⟩ := Z_pop j
  have exy := s4.1 (g1 ga (by decide))
  subst exy
  obtain ⟨⟨V1, md1⟩, z1⟩ := s3
  obtain ⟨L, nx, hL, hnx, o1, o2, o3, o4, o5, o6, o7⟩ := md1.pr
  have rf := md1.rv.rf (a := 47) (by unfold Fx; omega)
  have e47 : X1.1 47 1 = Int32.ofNat k.oc := by rw [rf]; exact o5
  unfold f_Engine_doPlain f_M_others
  rw [ev, Option.bind_some, if_neg (by decide), if_neg (by decide), if_neg (by decide), if_neg (by decide), if_neg (by decide), if_neg (by decide), if_neg (by decide), if_neg (by decide), if_pos rfl, if_pos j.x, s1, Option.bind_some]
  rw [if_neg (show ¬ (46 : Int32) = 1 by decide), if_neg (show ¬ (46 : Int32) = 2 by decide), if_neg (show ¬ (46 : Int32) = 3 by decide), if_neg (show ¬ (46 : Int32) = 16 by decide), if_neg (show ¬ (46 : Int32) = 17 by decide), if_neg (show ¬ (46 : Int32) = 18 by decide), if_neg (show ¬ (46 : Int32) = 26 by decide), if_neg (show ¬ (46 : Int32) = 43 by decide), if_neg (show ¬ (46 : Int32) = 44 by decide), if_neg (show ¬ (46 : Int32) = 45 by decide), if_pos (show (46 : Int32) = 46 from rfl), s2, Option.bind_some]
  dsimp only
  rw [o6]
  unfold f_Ports_send
  rw [e47]
  have c3 : ((300 : Int32) ≤ Int32.ofNat k.oc) ↔ 300 ≤ k.oc := by rw [o_leL _ _ (by decide) (by omega)]
  have c2 : (0 ≤ Int32.ofNat k.oc ∧ Int32.ofNat k.oc ≤ 299) ↔ k.oc ≤ 299 := by rw [o_0le _ (by omega), o_leR _ _ (by omega) (by decide)]; simp
  by_cases c : 300 ≤ k.oc
  · rw [if_neg (fun q => by have := c2.mp q; omega), if_pos (c3.mpr c)]
    dsimp only [lt]
    rw [o_addR]
    refine W_some.mpr (W_some.mpr ⟨k.A, k.nb, k.oc + 1, k.W, T, C, n, by omega, by omega, fun _ _ _ => rfl, rfl, Or.inl ⟨rfl, ?_, mw V1 (1000 + 47) 1 (Int32.ofNat (k.oc + 1)), ?_⟩⟩)
    · show (mw M1 60 78 _).1 60 90 = 0
      rw [mwi _ _ _ (by omega)]; exact z1
    · refine md1.misc (md1.rv.f (a := 47) (by unfold Fx; omega) 1 _) ?_ ?_ ?_ ?_ rfl ?_ ?_ (fun _ _ _ => rfl)
      · intro b h1 _ _ _; exact mwr _ _ _ (by omega)
      · rw [mwr _ _ _ (by omega)]; exact ⟨md1.tu.2.1, md1.tu.2.2.1, rfl⟩
      · intro b _ h2; exact mwr _ _ _ h2
      · intro f _ h2 _ _; exact mwi _ _ _ h2
      · exact md1.sr.congr (fun b h1 h2 => mwr _ _ _ (by omega)) (fun b h1 h2 => mwr _ _ _ (by omega))
      · refine ⟨L, nx, hL, hnx, ?_, ?_, ?_, ?_, ?_, ?_, ?_⟩
        · rw [mwi _ _ _ (by omega)]; exact o1
        · rw [mwi _ _ _ (by omega)]; exact o2
        · rw [mwi _ _ _ (by omega)]; exact o3
        · intro q hq; rw [mwr _ _ _ (by omega), mwr _ _ _ (by omega)]; exact o4 q hq
        · rw [mw1, if_pos ⟨rfl, rfl⟩]
        · rw [mw1, if_pos ⟨rfl, rfl⟩]
        · intro q h1 h2; rw [mwr _ _ _ (by omega), mwr _ _ _ (by omega)]; exact o7 q h1 (by omega)
  · have ix : ixo (Int32.ofNat k.oc) 300 := ixl (by omega) (by omega)
    rw [if_pos (c2.mpr (by omega)), if_neg (fun q => c (c3.mp q)), if_pos ix, o_cl _ (by omega)]
    dsimp only [lt]
    rw [show (xw X1 49 k.oc x).1 47 1 = X1.1 47 1 by rw [xw1, if_neg (by omega)], e47, show (mw M1 120 k.oc x).1 60 78 = Int32.ofNat k.oc by rw [mwr _ _ _ (by omega)]; exact o6, o_addR]
    refine W_some.mpr (W_some.mpr ⟨k.A, k.nb, k.oc + 1, k.W, T, C, n, by omega, by omega, fun _ _ _ => rfl, rfl, Or.inl ⟨rfl, ?_, mw (mw V1 (1000 + 49) k.oc x) (1000 + 47) 1 (Int32.ofNat (k.oc + 1)), ?_⟩⟩)
    · show (mw (mw M1 120 k.oc x) 60 78 _).1 60 90 = 0
      rw [mwi _ _ _ (by omega), mwr _ _ _ (by omega)]; exact z1
    · refine md1.misc ((md1.rv.f (a := 49) (by unfold Fx; omega) _ _).f (a := 47) (by unfold Fx; omega) 1 _) ?_ ?_ ?_ ?_ rfl ?_ ?_ (fun _ _ _ => rfl)
      · intro b h1 _ _ _; rw [mwr _ _ _ (by omega), mwr _ _ _ (by omega)]
      · rw [mwr _ _ _ (by omega), mwr _ _ _ (by omega)]; exact ⟨md1.tu.2.1, md1.tu.2.2.1, rfl⟩
      · intro b h1 h2; rw [mwr _ _ _ h2, mwr _ _ _ (by omega)]
      · intro f _ h2 _ _; rw [mwi _ _ _ h2, mwr _ _ _ (by omega)]
      · exact md1.sr.congr (fun b h1 h2 => by rw [mwr _ _ _ (by omega), mwr _ _ _ (by omega)]) (fun b h1 h2 => by rw [mwr _ _ _ (by omega), mwr _ _ _ (by omega)])
      · refine ⟨L, nx, hL, hnx, ?_, ?_, ?_, ?_, ?_, ?_, ?_⟩
        · rw [mwi _ _ _ (by omega), mwr _ _ _ (by omega)]; exact o1
        · rw [mwi _ _ _ (by omega), mwr _ _ _ (by omega)]; exact o2
        · rw [mwi _ _ _ (by omega), mwr _ _ _ (by omega)]; exact o3
        · intro q hq; rw [mwr _ _ _ (by omega), mwr _ _ _ (by omega), mwr _ _ _ (by omega), mwr _ _ _ (by omega)]; exact o4 q hq
        · rw [mw1, if_pos ⟨rfl, rfl⟩]
        · rw [mw1, if_pos ⟨rfl, rfl⟩]
        · intro q h1 h2
          rw [mwr (mw V1 (1000 + 49) k.oc x) _ _ (show 1049 ≠ 1000 + 47 by omega), mwr (mw M1 120 k.oc x) _ _ (show 120 ≠ 60 by omega)]
          by_cases e : q = k.oc
          · subst e; rw [mw1, if_pos ⟨rfl, rfl⟩, mw1, if_pos ⟨rfl, rfl⟩]
          · rw [mwi _ _ _ e, mwi _ _ _ e]; exact o7 q h1 (by omega)
