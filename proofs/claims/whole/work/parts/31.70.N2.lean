/-! N2 -/
abbrev Cx : Type := (MS) × (Nat) × (Nat) × (Nat) × (XS) × (Nat → Nat) × (MS)
abbrev Cx.Mr (s0 : Cx) : MS := s0.1
abbrev Cx.kc (s0 : Cx) : Nat := s0.2.1
abbrev Cx.rc (s0 : Cx) : Nat := s0.2.2.1
abbrev Cx.main (s0 : Cx) : Nat := s0.2.2.2.1
abbrev Cx.X0 (s0 : Cx) : XS := s0.2.2.2.2.1
abbrev Cx.T0 (s0 : Cx) : Nat → Nat := s0.2.2.2.2.2.1
abbrev Cx.M0 (s0 : Cx) : MS := s0.2.2.2.2.2.2
def Cx.Ok (c : Cx) : Prop := GP c.Mr c.kc c.rc c.main ∧ TG c.T0 ∧ IM c.Mr c.rc c.main c.X0 c.T0 ∧ KP c.Mr c.kc c.rc c.main c.M0 1
def RunM (a i : Nat) : Prop := (109 ≤ a ∧ a ≤ 129) ∨ (a = 60 ∧ ((61 ≤ i ∧ i ≤ 64) ∨ i = 76 ∨ i = 78 ∨ (86 ≤ i ∧ i ≤ 95)))
def PoR (oc : Nat) (V M : MS) : Prop := ∃ L nx, L ≤ 100 ∧ nx < 100 ∧ V.1 1047 0 = Int32.ofNat L ∧ M.1 60 76 = Int32.ofNat L ∧ V.1 1047 2 = Int32.ofNat nx ∧ (∀ j, j < L → V.1 1048 ((nx + j) % 100) = M.1 119 j) ∧ V.1 1047 1 = Int32.ofNat oc ∧ M.1 60 78 = Int32.ofNat oc ∧ ∀ j, j < 300 → j < oc → V.1 1049 j = M.1 120 j
def StR (Mr : MS) (A : HG) (V M : MS) : Prop := ∀ k, k < 8 → V.1 1056 k = M.1 117 k ∧ RefR Mr A (V.1 1057 k) (M.1 118 k) ∧ V.1 1058 k = 1
/-- what stays while an instruction is at work: the program, objects, threads, whose turn, the place -/
abbrev Kx : Type := (Cx) × (HG) × (Nat) × (Nat) × (Nat) × (Nat) × (Nat) × (Nat) × (Nat) × (FS) × (Nat → Int32) × (Nat → Int32) × (Int64)
abbrev Kx.c (s0 : Kx) : Cx := s0.1
abbrev Kx.A (s0 : Kx) : HG := s0.2.1
abbrev Kx.hp (s0 : Kx) : Nat := s0.2.2.1
abbrev Kx.nb (s0 : Kx) : Nat := s0.2.2.2.1
abbrev Kx.oc (s0 : Kx) : Nat := s0.2.2.2.2.1
abbrev Kx.t (s0 : Kx) : Nat := s0.2.2.2.2.2.1
abbrev Kx.d (s0 : Kx) : Nat := s0.2.2.2.2.2.2.1
abbrev Kx.m (s0 : Kx) : Nat := s0.2.2.2.2.2.2.2.1
abbrev Kx.i (s0 : Kx) : Nat := s0.2.2.2.2.2.2.2.2.1
abbrev Kx.S (s0 : Kx) : FS := s0.2.2.2.2.2.2.2.2.2.1
abbrev Kx.U (s0 : Kx) : Nat → Int32 := s0.2.2.2.2.2.2.2.2.2.2.1
abbrev Kx.W (s0 : Kx) : Nat → Int32 := s0.2.2.2.2.2.2.2.2.2.2.2.1
abbrev Kx.D (s0 : Kx) : Int64 := s0.2.2.2.2.2.2.2.2.2.2.2.2
/-- another frame of the same thread -/
abbrev Kx.fr (k : Kx) (d m i : Nat) (S : FS) : Kx := ⟨k.c, k.A, k.hp, k.nb, k.oc, k.t, d, m, i, S, k.U, k.W, k.D⟩
/-- all that is known in the midst of an instruction -/
def Md (k : Kx) (T C : Nat → Nat) (n : Nat) (X : XS) (V M : MS) (g : Nat → Int32) (h : Nat) (l : Nat → Int32) : Prop := (RV k.c.X0 k.c.T0 X T C n V) ∧ (∀ a i, ¬ RunM a i → M.1 a i = k.c.M0.1 a i) ∧ (MT k.c.Mr k.c.kc k.c.rc k.m k.S ∧ k.S.1 k.i = true) ∧ (TpR k.c.Mr k.A V M k.t k.d k.m k.i g h l) ∧ (∀ q, q < k.d → SuR k.c.Mr k.c.kc k.c.rc k.A V M k.t q) ∧ (∀ u, u < k.nb → u ≠ k.t → ThR k.c.Mr k.c.kc k.c.rc k.A V M u) ∧ (HR k.c.Mr k.c.kc k.A k.hp V M) ∧ (StR k.c.Mr k.A V M) ∧ (PoR k.oc V M) ∧ (k.t < k.nb ∧ k.nb ≤ n ∧ V.1 1040 2 = Int32.ofNat k.nb ∧ M.1 60 61 = Int32.ofNat k.nb) ∧ (M.1 60 89 = Int32.ofNat (20 * k.t + k.d)) ∧ (V.1 1059 = k.U ∧ V.1 1040 0 = 1 ∧ V.1 1040 1 = k.W 1 ∧ ∀ f, 62 ≤ f → f ≤ 64 → M.1 60 f = k.W f) ∧ (M.2 = k.D)
theorem Md.rv {k : Kx} {T C : Nat → Nat} {n : Nat} {X : XS} {V M : MS} {g : Nat → Int32} {h : Nat} {l : Nat → Int32} (h0 : Md k T C n X V M g h l) : RV k.c.X0 k.c.T0 X T C n V := h0.1
theorem Md.mf {k : Kx} {T C : Nat → Nat} {n : Nat} {X : XS} {V M : MS} {g : Nat → Int32} {h : Nat} {l : Nat → Int32} (h0 : Md k T C n X V M g h l) : ∀ a i, ¬ RunM a i → M.1 a i = k.c.M0.1 a i := h0.2.1
theorem Md.mt {k : Kx} {T C : Nat → Nat} {n : Nat} {X : XS} {V M : MS} {g : Nat → Int32} {h : Nat} {l : Nat → Int32} (h0 : Md k T C n X V M g h l) : MT k.c.Mr k.c.kc k.c.rc k.m k.S ∧ k.S.1 k.i = true := h0.2.2.1
theorem Md.tp {k : Kx} {T C : Nat → Nat} {n : Nat} {X : XS} {V M : MS} {g : Nat → Int32} {h : Nat} {l : Nat → Int32} (h0 : Md k T C n X V M g h l) : TpR k.c.Mr k.A V M k.t k.d k.m k.i g h l := h0.2.2.2.1
theorem Md.lo {k : Kx} {T C : Nat → Nat} {n : Nat} {X : XS} {V M : MS} {g : Nat → Int32} {h : Nat} {l : Nat → Int32} (h0 : Md k T C n X V M g h l) : ∀ q, q < k.d → SuR k.c.Mr k.c.kc k.c.rc k.A V M k.t q := h0.2.2.2.2.1
theorem Md.ot {k : Kx} {T C : Nat → Nat} {n : Nat} {X : XS} {V M : MS} {g : Nat → Int32} {h : Nat} {l : Nat → Int32} (h0 : Md k T C n X V M g h l) : ∀ u, u < k.nb → u ≠ k.t → ThR k.c.Mr k.c.kc k.c.rc k.A V M u := h0.2.2.2.2.2.1
theorem Md.hr {k : Kx} {T C : Nat → Nat} {n : Nat} {X : XS} {V M : MS} {g : Nat → Int32} {h : Nat} {l : Nat → Int32} (h0 : Md k T C n X V M g h l) : HR k.c.Mr k.c.kc k.A k.hp V M := h0.2.2.2.2.2.2.1
theorem Md.sr {k : Kx} {T C : Nat → Nat} {n : Nat} {X : XS} {V M : MS} {g : Nat → Int32} {h : Nat} {l : Nat → Int32} (h0 : Md k T C n X V M g h l) : StR k.c.Mr k.A V M := h0.2.2.2.2.2.2.2.1
theorem Md.pr {k : Kx} {T C : Nat → Nat} {n : Nat} {X : XS} {V M : MS} {g : Nat → Int32} {h : Nat} {l : Nat → Int32} (h0 : Md k T C n X V M g h l) : PoR k.oc V M := h0.2.2.2.2.2.2.2.2.1
theorem Md.nb1 {k : Kx} {T C : Nat → Nat} {n : Nat} {X : XS} {V M : MS} {g : Nat → Int32} {h : Nat} {l : Nat → Int32} (h0 : Md k T C n X V M g h l) : k.t < k.nb ∧ k.nb ≤ n ∧ V.1 1040 2 = Int32.ofNat k.nb ∧ M.1 60 61 = Int32.ofNat k.nb := h0.2.2.2.2.2.2.2.2.2.1
theorem Md.f89 {k : Kx} {T C : Nat → Nat} {n : Nat} {X : XS} {V M : MS} {g : Nat → Int32} {h : Nat} {l : Nat → Int32} (h0 : Md k T C n X V M g h l) : M.1 60 89 = Int32.ofNat (20 * k.t + k.d) := h0.2.2.2.2.2.2.2.2.2.2.1
theorem Md.tu {k : Kx} {T C : Nat → Nat} {n : Nat} {X : XS} {V M : MS} {g : Nat → Int32} {h : Nat} {l : Nat → Int32} (h0 : Md k T C n X V M g h l) : V.1 1059 = k.U ∧ V.1 1040 0 = 1 ∧ V.1 1040 1 = k.W 1 ∧ ∀ f, 62 ≤ f → f ≤ 64 → M.1 60 f = k.W f := h0.2.2.2.2.2.2.2.2.2.2.2.1
theorem Md.dn {k : Kx} {T C : Nat → Nat} {n : Nat} {X : XS} {V M : MS} {g : Nat → Int32} {h : Nat} {l : Nat → Int32} (h0 : Md k T C n X V M g h l) : M.2 = k.D := h0.2.2.2.2.2.2.2.2.2.2.2.2
set_option maxRecDepth 20000 in
set_option maxHeartbeats 4000000 in
theorem Md.t6 {k : Kx} {T C : Nat → Nat} {n : Nat} {X : XS} {V M : MS} {g : Nat → Int32} {h : Nat} {l : Nat → Int32} (md : Md k T C n X V M g h l) : k.t < n ∧ k.t < 6 ∧ n ≤ 6 := by
  have := md.nb1
  have := md.rv.no.1
  omega
set_option maxRecDepth 20000 in
set_option maxHeartbeats 4000000 in
theorem StR.congr {Mr : MS} {A : HG} {V M V' M' : MS} (h : StR Mr A V M) (hV : ∀ a, 1056 ≤ a → a ≤ 1058 → V'.1 a = V.1 a) (hM : ∀ a, 117 ≤ a → a ≤ 118 → M'.1 a = M.1 a) : StR Mr A V' M' := by
  unfold StR
  rw [hV 1056 (by omega) (by omega), hV 1057 (by omega) (by omega), hV 1058 (by omega) (by omega), hM 117 (by omega) (by omega), hM 118 (by omega) (by omega)]
  exact h
set_option maxRecDepth 20000 in
set_option maxHeartbeats 4000000 in
theorem PoR.congr {oc : Nat} {V M V' M' : MS} (h : PoR oc V M) (hV : ∀ a, 1047 ≤ a → a ≤ 1049 → V'.1 a = V.1 a) (hM : ∀ a, 119 ≤ a → a ≤ 120 → M'.1 a = M.1 a) (h60 : ∀ f, f = 76 ∨ f = 78 → M'.1 60 f = M.1 60 f) : PoR oc V' M' := by
  unfold PoR
  rw [hV 1047 (by omega) (by omega), hV 1048 (by omega) (by omega), hV 1049 (by omega) (by omega), hM 119 (by omega) (by omega), hM 120 (by omega) (by omega), h60 76 (by omega), h60 78 (by omega)]
  exact h
set_option maxRecDepth 20000 in
set_option maxHeartbeats 4000000 in
/-- only the slots of the frame at work have changed -/
theorem Md.top {k : Kx} {T C : Nat → Nat} {n : Nat} {X X' : XS} {V M V' M' : MS} {g g' : Nat → Int32} {h h' : Nat} {l l' : Nat → Int32} (md : Md k T C n X V M g h l) (rv' : RV k.c.X0 k.c.T0 X' T C n V')
    (hv : ∀ a, a ≠ 600 + 16 * k.t → a ≠ 605 + 16 * k.t → a ≠ 606 + 16 * k.t → V'.1 a = V.1 a) (hv0 : ∀ f, f ≠ 8 → V'.1 (600 + 16 * k.t) f = V.1 (600 + 16 * k.t) f)
    (hv5 : ∀ j, ¬ (22 * k.d ≤ j ∧ j < 22 * k.d + 22) → V'.1 (605 + 16 * k.t) j = V.1 (605 + 16 * k.t) j ∧ V'.1 (606 + 16 * k.t) j = V.1 (606 + 16 * k.t) j)
    (hm : ∀ a, a ≠ 114 → a ≠ 115 → a ≠ 116 → a ≠ 60 → M'.1 a = M.1 a) (h60 : ∀ f, f ≠ 90 → f ≠ 91 → M'.1 60 f = M.1 60 f) (h114 : ∀ q, q ≠ 20 * k.t + k.d → M'.1 114 q = M.1 114 q)
    (h115 : ∀ j, ¬ (440 * k.t + 22 * k.d ≤ j ∧ j < 440 * k.t + 22 * k.d + 22) → M'.1 115 j = M.1 115 j ∧ M'.1 116 j = M.1 116 j) (d2 : M'.2 = M.2)
    (e8 : V'.1 (600 + 16 * k.t) 8 = Int32.ofNat h') (e114 : M'.1 114 (20 * k.t + k.d) = Int32.ofNat h') (fr : FrR k.c.Mr k.A V' M' k.t k.d g' h' l') : Md k T C n X' V' M' g' h' l' := by
  obtain ⟨t1, t2, t3⟩ := md.t6
  obtain ⟨m0, m1, m2, m3, m4, m5, m6, m7, m8, m9, m10, m11, m12⟩ := md
  obtain ⟨q0, q1, q2, q3, q4, q5, q6, q7, q8, q9, q10, q11, q12⟩ := m3
  refine ⟨rv', ?_, m2, ⟨q0, ?_, ?_, ?_, ?_, e114, ?_, ?_, ?_, e8, fr, ?_, ?_⟩, ?_, ?_, ?_, ?_, ?_, ?_, ?_, ?_, ?_⟩
  · intro a i hr
    rw [← m1 a i hr]
    unfold RunM at hr
    by_cases e : a = 60
    · subst e; exact h60 i (by omega) (by omega)
    · rw [hm a (by omega) (by omega) (by omega) e]
  · rw [hm 109 (by omega) (by omega) (by omega) (by omega)]; exact q1
  · rw [hv0 2 (by omega)]; exact q2
  · rw [hm 112 (by omega) (by omega) (by omega) (by omega)]; exact q3
  · rw [hm 113 (by omega) (by omega) (by omega) (by omega)]; exact q4
  · rw [hv0 3 (by omega)]; exact q6
  · rw [hv0 4 (by omega)]; exact q7
  · rw [hv0 7 (by omega)]; exact q8
  · rw [hm 110 (by omega) (by omega) (by omega) (by omega), hv0 0 (by omega)]; exact q11
  · rw [hm 111 (by omega) (by omega) (by omega) (by omega), hv0 1 (by omega)]; exact q12
  · intro q hq
    have r12 := hm 112 (by omega) (by omega) (by omega) (by omega)
    have r13 := hm 113 (by omega) (by omega) (by omega) (by omega)
    exact (m4 q hq).congr (fun s hs => (hv5 _ (by omega)).1) (fun s hs => (hv5 _ (by omega)).2) (by rw [hv _ (by omega) (by omega) (by omega)]) (by rw [hv _ (by omega) (by omega) (by omega)]) (by rw [hv _ (by omega) (by omega) (by omega)]) (fun s hs => (h115 _ (by omega)).1) (fun s hs => (h115 _ (by omega)).2) (by rw [r12]) (by rw [r12]) (by rw [r13]) (h114 _ (by omega))
  · intro u hu hne
    refine (m5 u hu hne).congr (fun j hj => hv _ (by omega) (by omega) (by omega)) (fun a h1 h2 => by rw [hm a (by omega) (by omega) (by omega) (by omega)]) ?_ ?_
    · intro a q h1 h2 h3
      by_cases e : a = 114
      · subst e; exact h114 _ (by omega)
      · rw [hm a e (by omega) (by omega) (by omega)]
    · intro a s h1 h2 h3
      have := h115 (440 * u + s) (by omega)
      rcases (show a = 115 ∨ a = 116 by omega) with e | e
      · subst e; exact this.1
      · subst e; exact this.2
  · exact m6.congr (fun a ha => hv a (by omega) (by omega) (by omega)) (fun a h1 h2 _ _ => hm a (by omega) (by omega) (by omega) (by omega)) (fun f hf => h60 f (by omega) (by omega))
  · exact m7.congr (fun a h1 h2 => hv a (by omega) (by omega) (by omega)) (fun a h1 h2 => hm a (by omega) (by omega) (by omega) (by omega))
  · exact m8.congr (fun a h1 h2 => hv a (by omega) (by omega) (by omega)) (fun a h1 h2 => hm a (by omega) (by omega) (by omega) (by omega)) (fun f hf => h60 f (by omega) (by omega))
  · rw [hv 1040 (by omega) (by omega) (by omega), h60 61 (by omega) (by omega)]; exact m9
  · rw [h60 89 (by omega) (by omega)]; exact m10
  · rw [hv 1040 (by omega) (by omega) (by omega), hv 1059 (by omega) (by omega) (by omega)]
    refine ⟨m11.1, m11.2.1, m11.2.2.1, fun f h1 h2 => ?_⟩
    rw [h60 f (by omega) (by omega)]
    exact m11.2.2.2 f h1 h2
  · rw [d2]; exact m12
theorem topAt_eq {M : MS} {f h : Nat} (e : M.1 60 89 = Int32.ofNat f) (hf : f < 120) (e2 : M.1 114 f = Int32.ofNat h) : f_M_topAt M = some (Int32.ofNat (22 * f + 12 + h)) := by
  unfold f_M_topAt
  rw [if_pos (by rw [e]; exact ixl hf (by omega)), e, o_cl f (by omega), e2, o_mulL, o_addR, o_add]
set_option maxRecDepth 20000 in
set_option maxHeartbeats 4000000 in
theorem take_eq {M : MS} {f h : Nat} (e : M.1 60 89 = Int32.ofNat f) (hf : f < 120) (e2 : M.1 114 f = Int32.ofNat (h + 1)) (hh : h < 10) : f_M_takeValue M = some (M.1 115 (22 * f + 12 + h), mw M 114 f (Int32.ofNat h)) := by
  unfold f_M_takeValue
  rw [if_pos (by rw [e]; exact ixl hf (by omega)), e, o_cl f (by omega), e2, o_subR (h + 1) 1 (show 1 ≤ h + 1 by omega)]
  dsimp only [lt]
  have t := topAt_eq (M := mw M 114 f (Int32.ofNat (h + 1 - OfNat.ofNat 1))) (f := f) (h := h) (by rw [mw1, if_neg (by omega)]; exact e) hf (by rw [mw1, if_pos ⟨rfl, rfl⟩]; rfl)
  rw [t, Option.bind_some, if_pos (ixl (by omega) (by omega)), o_cl _ (by omega), mw1, if_neg (by omega)]
  rfl
set_option maxRecDepth 20000 in
set_option maxHeartbeats 4000000 in
theorem putM_eq {M : MS} {f h : Nat} (e : M.1 60 89 = Int32.ofNat f) (hf : f < 120) (e2 : M.1 114 f = Int32.ofNat h) (hh : h < 10) (v : Int32) : f_M_putInt v M = some (mw (mw (mw M 115 (22 * f + 12 + h) v) 116 (22 * f + 12 + h) 0) 114 f (Int32.ofNat (h + 1))) ∧ f_M_putRef v M = some (mw (mw (mw M 115 (22 * f + 12 + h) v) 116 (22 * f + 12 + h) 1) 114 f (Int32.ofNat (h + 1))) := by
  have t := topAt_eq e hf e2
  have t2 := topAt_eq (M := mw M 115 (22 * f + 12 + h) v) (f := f) (h := h) (by rw [mw1, if_neg (by omega)]; exact e) hf (by rw [mw1, if_neg (by omega)]; exact e2)
  unfold f_M_putInt f_M_putRef
  rw [t, Option.bind_some, Option.bind_some]
  have ix : ixo (Int32.ofNat (22 * f + 12 + h)) 2640 := ixl (by omega) (by omega)
  have cl : (Int32.ofNat (22 * f + 12 + h)).toNatClampNeg = 22 * f + 12 + h := o_cl _ (by omega)
  rw [if_pos ix, if_pos ix, cl]
  dsimp only [lt]
  rw [t2, Option.bind_some, Option.bind_some, if_pos ix, if_pos ix, cl]
  constructor
  · have e' : (mw (mw M 115 (22 * f + 12 + h) v) 116 (22 * f + 12 + h) 0).1 60 89 = Int32.ofNat f := by rw [mw1, if_neg (by omega), mw1, if_neg (by omega)]; exact e
    have e2' : (mw (mw M 115 (22 * f + 12 + h) v) 116 (22 * f + 12 + h) 0).1 114 f = Int32.ofNat h := by rw [mw1, if_neg (by omega), mw1, if_neg (by omega)]; exact e2
    rw [e', if_pos (ixl hf (by omega)), o_cl f (by omega), e2', o_addR]
  · have e' : (mw (mw M 115 (22 * f + 12 + h) v) 116 (22 * f + 12 + h) 1).1 60 89 = Int32.ofNat f := by rw [mw1, if_neg (by omega), mw1, if_neg (by omega)]; exact e
    have e2' : (mw (mw M 115 (22 * f + 12 + h) v) 116 (22 * f + 12 + h) 1).1 114 f = Int32.ofNat h := by rw [mw1, if_neg (by omega), mw1, if_neg (by omega)]; exact e2
    rw [e', if_pos (ixl hf (by omega)), o_cl f (by omega), e2', o_addR]
