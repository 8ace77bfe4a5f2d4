/-! N5 -/
set_option maxRecDepth 20000 in
set_option maxHeartbeats 4000000 in
theorem adH_mono (Mr : MS) (A : HG) {j : Nat} : ∀ k, j < k → adH Mr A j + wzK Mr (A.K j) (A.n j) ≤ adH Mr A k := by
  intro k
  induction k with
  | zero => intro h; omega
  | succ k ih =>
    intro h
    show _ ≤ adH Mr A k + wzK Mr (A.K k) (A.n k)
    by_cases e : j = k
    · subst e; omega
    · have := ih (by omega); omega
set_option maxRecDepth 20000 in
set_option maxHeartbeats 4000000 in
theorem caH_mono (Mr : MS) (A : HG) {j : Nat} : ∀ k, j < k → caH Mr A j + czK Mr (A.K j) (A.n j) ≤ caH Mr A k := by
  intro k
  induction k with
  | zero => intro h; omega
  | succ k ih =>
    intro h
    show _ ≤ caH Mr A k + czK Mr (A.K k) (A.n k)
    by_cases e : j = k
    · subst e; omega
    · have := ih (by omega); omega
theorem hdK_le (K : Nat) : 4 ≤ hdK K ∧ hdK K ≤ 5 := by unfold hdK; split <;> omega
set_option maxRecDepth 20000 in
set_option maxHeartbeats 4000000 in
theorem wz4 (Mr : MS) (K n : Nat) : 4 ≤ wzK Mr K n ∧ czK Mr K n + 4 ≤ wzK Mr K n := by
  have := hdK_le K
  unfold wzK czK
  omega
set_option maxRecDepth 20000 in
set_option maxHeartbeats 4000000 in
theorem adH_ge (Mr : MS) (A : HG) : ∀ k, 4 * k + 1 ≤ adH Mr A k ∧ caH Mr A k + 4 * k + 1 ≤ adH Mr A k
  | 0 => by show 4 * 0 + 1 ≤ 1 ∧ 0 + 4 * 0 + 1 ≤ 1; omega
  | k + 1 => by
    have := adH_ge Mr A k
    have := wz4 Mr (A.K k) (A.n k)
    show 4 * (k + 1) + 1 ≤ adH Mr A k + wzK Mr (A.K k) (A.n k) ∧ caH Mr A k + czK Mr (A.K k) (A.n k) + 4 * (k + 1) + 1 ≤ adH Mr A k + wzK Mr (A.K k) (A.n k)
    omega
set_option maxRecDepth 20000 in
set_option maxHeartbeats 4000000 in
theorem HR.bd {Mr : MS} {kc : Nat} {A : HG} {hp : Nat} {V M : MS} (h : HR Mr kc A hp V M) {k : Nat} (hk : k < A.N) : 1 ≤ adH Mr A k ∧ adH Mr A k + wzK Mr (A.K k) (A.n k) ≤ 4001 ∧ caH Mr A k + czK Mr (A.K k) (A.n k) ≤ 4001 ∧ A.N ≤ 1000 := by
  have a := adH_ge Mr A k
  have b := adH_mono Mr A A.N hk
  have c := caH_mono Mr A A.N hk
  have d := adH_ge Mr A A.N
  have := h.lim
  omega
set_option maxRecDepth 20000 in
set_option maxHeartbeats 4000000 in
theorem HR.N1000 {Mr : MS} {kc : Nat} {A : HG} {hp : Nat} {V M : MS} (h : HR Mr kc A hp V M) : A.N ≤ 1000 ∧ adH Mr A A.N ≤ 4001 ∧ caH Mr A A.N ≤ 4001 ∧ 1 ≤ adH Mr A A.N := by
  have d := adH_ge Mr A A.N
  have := h.lim
  omega
set_option maxRecDepth 20000 in
set_option maxHeartbeats 4000000 in
/-- an object whose words and cells have not changed -/
theorem OB.frame {Mr : MS} {kc : Nat} {A : HG} {V M V' M' : MS} {k : Nat} (h : OB Mr kc A V M k) (hv : ∀ p, adH Mr A k ≤ p → p < adH Mr A k + wzK Mr (A.K k) (A.n k) → V'.1 4 p = V.1 4 p) (hm : ∀ a, 121 ≤ a → a ≤ 125 → M'.1 a (A.os k) = M.1 a (A.os k)) (h9 : M'.1 129 k = M.1 129 k) (hc : ∀ p, caH Mr A k ≤ p → p < caH Mr A k + czK Mr (A.K k) (A.n k) → M'.1 127 p = M.1 127 p) : OB Mr kc A V' M' k := by
  obtain ⟨o1, o2, o3, o4, o5, o6, o7, o8, o9, o10, o11, o12⟩ := h
  have w := wz4 Mr (A.K k) (A.n k)
  have hd := hdK_le (A.K k)
  have ew : wzK Mr (A.K k) (A.n k) = hdK (A.K k) + 2 * niK Mr (A.K k) (A.n k) + nrK Mr (A.K k) (A.n k) := rfl
  have ec : czK Mr (A.K k) (A.n k) = niK Mr (A.K k) (A.n k) + nrK Mr (A.K k) (A.n k) := rfl
  refine ⟨o1, o2, by rw [h9]; exact o3, by rw [hm 121 (by omega) (by omega)]; exact o4, by rw [hm 122 (by omega) (by omega)]; exact o5, by rw [hm 123 (by omega) (by omega)]; exact o6, ?_, ?_, ?_, ?_, ?_, ?_⟩
  · rw [hm 124 (by omega) (by omega), hm 125 (by omega) (by omega), hv _ (by omega) (by omega), hv _ (by omega) (by omega)]; exact o7
  · rw [hv _ (by omega) (by omega)]; exact o8
  · rw [hv _ (by omega) (by omega)]; exact o9
  · intro q
    have : hdK (A.K k) = 5 := by unfold hdK; rw [if_neg (by omega)]
    rw [hv _ (by omega) (by omega)]; exact o10 q
  · intro j hj
    rw [hv _ (by omega) (by omega), hv _ (by omega) (by omega), hc _ (by omega) (by omega)]; exact o11 j hj
  · intro j hj
    rw [hv _ (by omega) (by omega), hc _ (by omega) (by omega)]; exact o12 j hj
set_option maxRecDepth 20000 in
set_option maxHeartbeats 4000000 in
/-- one object has changed -/
theorem HR.set {Mr : MS} {kc : Nat} {A : HG} {hp : Nat} {V M V' M' : MS} (h : HR Mr kc A hp V M) {k : Nat} (hk : k < A.N) (hv : ∀ p, ¬ (adH Mr A k ≤ p ∧ p < adH Mr A k + wzK Mr (A.K k) (A.n k)) → V'.1 4 p = V.1 4 p) (hv2 : ∀ a, a = 1041 ∨ a = 1045 ∨ a = 1046 → V'.1 a = V.1 a) (hm : ∀ a q, 121 ≤ a → a ≤ 125 → q ≠ A.os k → M'.1 a q = M.1 a q) (h1 : M'.1 121 = M.1 121) (h9 : M'.1 129 = M.1 129) (hc : ∀ p, ¬ (caH Mr A k ≤ p ∧ p < caH Mr A k + czK Mr (A.K k) (A.n k)) → M'.1 127 p = M.1 127 p) (h60 : ∀ f, f = 59 ∨ (86 ≤ f ∧ f ≤ 88) ∨ f = 95 → M'.1 60 f = M.1 60 f) (hw : ∀ j, j < 4001 → ∃ w, w < 65536 ∧ V'.1 4 j = Int32.ofNat w) (ho : OB Mr kc A V' M' k) : HR Mr kc A hp V' M' := by
  obtain ⟨o1, o2, o3, o4, o5, o6, o7, o8, o9, o10⟩ := h
  refine ⟨?_, o2, ?_, ?_, hw, ?_, ?_, ?_, ?_, ?_⟩
  · intro j hj
    by_cases e : j = k
    · subst e; exact ho
    · refine (o1 j hj).frame (fun p h1 h2 => hv p ?_) (fun a h1 h2 => hm a _ h1 h2 (fun q => e (o2 j k hj hk q))) (by rw [h9]) (fun p h1 h2 => hc p ?_)
      · rcases Nat.lt_or_gt_of_ne e with q | q
        · have := adH_mono Mr A k q; omega
        · have := adH_mono Mr A j q; omega
      · rcases Nat.lt_or_gt_of_ne e with q | q
        · have := caH_mono Mr A k q; omega
        · have := caH_mono Mr A j q; omega
  · rw [h60 95 (by omega)]; exact o3
  · rw [h1]; exact o4
  · rw [hv2 1041 (by omega)]; exact o6
  · rw [hv2 1041 (by omega), h60 59 (by omega)]; exact o7
  · rw [h60 86 (by omega), h60 87 (by omega)]; exact o8
  · rw [hv2 1041 (by omega), h60 88 (by omega)]; exact o9
  · rw [hv2 1045 (by omega), hv2 1046 (by omega)]; exact o10
set_option maxRecDepth 20000 in
set_option maxHeartbeats 4000000 in
/-- only objects have changed -/
theorem Md.heap {k : Kx} {T C : Nat → Nat} {n : Nat} {X X' : XS} {V M V' M' : MS} {g : Nat → Int32} {h : Nat} {l : Nat → Int32} (md : Md k T C n X V M g h l) (rv' : RV k.c.X0 k.c.T0 X' T C n V')
    (hv : ∀ a, a ≠ 4 → V'.1 a = V.1 a) (hm : ∀ a, a ≠ 124 → a ≠ 125 → a ≠ 127 → a ≠ 60 → M'.1 a = M.1 a) (h60 : ∀ f, f ≠ 90 → f ≠ 91 → M'.1 60 f = M.1 60 f) (d2 : M'.2 = M.2) (hr' : HR k.c.Mr k.c.kc k.A k.hp V' M') : Md k T C n X' V' M' g h l := by
  obtain ⟨t1, t2, t3⟩ := md.t6
  obtain ⟨m0, m1, m2, m3, m4, m5, m6, m7, m8, m9, m10, m11, m12⟩ := md
  obtain ⟨q0, q1, q2, q3, q4, q5, q6, q7, q8, q9, q10, q11, q12⟩ := m3
  have v0 := hv (600 + 16 * k.t) (by omega)
  have v5 := hv (605 + 16 * k.t) (by omega)
  have v6 := hv (606 + 16 * k.t) (by omega)
  have v9 := hv (609 + 16 * k.t) (by omega)
  have v10 := hv (610 + 16 * k.t) (by omega)
  have v11 := hv (611 + 16 * k.t) (by omega)
  have r : ∀ a, a ≠ 124 → a ≠ 125 → a ≠ 127 → a ≠ 60 → M'.1 a = M.1 a := hm
  have r9 := hm 109 (by omega) (by omega) (by omega) (by omega)
  have r10 := hm 110 (by omega) (by omega) (by omega) (by omega)
  have r11 := hm 111 (by omega) (by omega) (by omega) (by omega)
  have r12 := hm 112 (by omega) (by omega) (by omega) (by omega)
  have r13 := hm 113 (by omega) (by omega) (by omega) (by omega)
  have r14 := hm 114 (by omega) (by omega) (by omega) (by omega)
  have r15 := hm 115 (by omega) (by omega) (by omega) (by omega)
  have r16 := hm 116 (by omega) (by omega) (by omega) (by omega)
  refine ⟨rv', ?_, m2, ⟨q0, by rw [r9]; exact q1, by rw [v0]; exact q2, by rw [r12]; exact q3, by rw [r13]; exact q4, by rw [r14]; exact q5, by rw [v0]; exact q6, by rw [v0]; exact q7, by rw [v0]; exact q8, by rw [v0]; exact q9, q10.congr (fun s _ => by rw [v5]) (fun s _ => by rw [v6]) (fun s _ => by rw [r15]) (fun s _ => by rw [r16]), by rw [r10, v0]; exact q11, by rw [r11, v0]; exact q12⟩, ?_, ?_, hr', ?_, ?_, ?_, ?_, ?_, ?_⟩
  · intro a i hr
    rw [← m1 a i hr]
    unfold RunM at hr
    by_cases e : a = 60
    · subst e; exact h60 i (by omega) (by omega)
    · rw [hm a (by omega) (by omega) (by omega) e]
  · intro q hq
    exact (m4 q hq).congr (fun s _ => by rw [v5]) (fun s _ => by rw [v6]) (by rw [v9]) (by rw [v10]) (by rw [v11]) (fun s _ => by rw [r15]) (fun s _ => by rw [r16]) (by rw [r12]) (by rw [r12]) (by rw [r13]) (by rw [r14])
  · intro u hu hne
    exact (m5 u hu hne).congr (fun j hj => hv _ (by omega)) (fun a h1 h2 => by rw [hm a (by omega) (by omega) (by omega) (by omega)]) (fun a q h1 h2 h3 => by rw [hm a (by omega) (by omega) (by omega) (by omega)]) (fun a s h1 h2 h3 => by rw [hm a (by omega) (by omega) (by omega) (by omega)])
  · exact m7.congr (fun a h1 h2 => hv a (by omega)) (fun a h1 h2 => hm a (by omega) (by omega) (by omega) (by omega))
  · exact m8.congr (fun a h1 h2 => hv a (by omega)) (fun a h1 h2 => hm a (by omega) (by omega) (by omega) (by omega)) (fun f hf => h60 f (by omega) (by omega))
  · rw [hv 1040 (by omega), h60 61 (by omega) (by omega)]; exact m9
  · rw [h60 89 (by omega) (by omega)]; exact m10
  · rw [hv 1040 (by omega), hv 1059 (by omega)]
    exact ⟨m11.1, m11.2.1, m11.2.2.1, fun f h1 h2 => by rw [h60 f (by omega) (by omega)]; exact m11.2.2.2 f h1 h2⟩
  · rw [d2]; exact m12
set_option maxRecDepth 20000 in
set_option maxHeartbeats 4000000 in
/-- the fault and the object thrown may be any -/
theorem Md.flt {k : Kx} {T C : Nat → Nat} {n : Nat} {X : XS} {V M : MS} {g : Nat → Int32} {h : Nat} {l : Nat → Int32} (md : Md k T C n X V M g h l) {f : Nat} (hf : f = 90 ∨ f = 91) (v : Int32) : Md k T C n X V (mw M 60 f v) g h l := by
  refine md.heap md.rv (fun a _ => rfl) (fun a _ _ _ h4 => mwr _ _ _ h4) (fun q h1 h2 => mwi _ _ _ (by omega)) rfl ?_
  exact md.hr.congr (fun _ _ => rfl) (fun a h1 h2 _ _ => mwr _ _ _ (by omega)) (fun q hq => mwi _ _ _ (by omega))
theorem Jm.flt {k : Kx} {T C : Nat → Nat} {n : Nat} {X : XS} {M : MS} {g : Nat → Int32} {h : Nat} {l : Nat → Int32} (j : Jm k T C n X M g h l) {f : Nat} (hf : f = 90 ∨ f = 91) (v : Int32) : Jm k T C n X (mw M 60 f v) g h l := by
  obtain ⟨V, md⟩ := j
  exact ⟨V, md.flt hf v⟩
set_option maxRecDepth 20000 in
set_option maxHeartbeats 4000000 in
theorem peekM_eq {M : MS} {f h q : Nat} (e : M.1 60 89 = Int32.ofNat f) (hf : f < 120) (e2 : M.1 114 f = Int32.ofNat h) (hh : h ≤ 10) (hq : q < h) : f_M_peek (Int32.ofNat q) M = some (M.1 115 (22 * f + 12 + (h - 1 - q))) := by
  have t := topAt_eq e hf e2
  unfold f_M_peek
  rw [t, Option.bind_some, o_subR _ 1 (show 1 ≤ 22 * f + 12 + h by omega), o_sub _ _ (show q ≤ 22 * f + 12 + h - 1 by omega), show 22 * f + 12 + h - OfNat.ofNat 1 - q = 22 * f + 12 + (h - 1 - q) by show 22 * f + 12 + h - 1 - q = 22 * f + 12 + (h - 1 - q); omega, if_pos (ixl (by omega) (by omega)), o_cl _ (by omega)]
set_option maxRecDepth 20000 in
set_option maxHeartbeats 4000000 in
theorem J_peek {k : Kx} {T C : Nat → Nat} {n : Nat} {X : XS} {M : MS} {g : Nat → Int32} {h : Nat} {l : Nat → Int32} (j : Jm k T C n X M g h l) {q : Nat} (hq : q < h) : ∃ x v, f_Strand_peek (C (600 + 16 * k.t)) (Int32.ofNat q) X = some x ∧ f_M_peek (Int32.ofNat q) M = some v ∧ VR k (g (h - 1 - q)) x v := by
  obtain ⟨V, md⟩ := j
  obtain ⟨t1, t2, t3⟩ := md.t6
  have tp := md.tp
  have d20 := tp.d20
  have h10 := tp.fr.le
  have r0 := md.rv.rd (Lv_s (f := 0) t1 (by omega) : Lv n (600 + 16 * k.t))
  have r5 := md.rv.rd (Lv_s (f := 5) t1 (by omega) : Lv n (605 + 16 * k.t))
  have p := peek_eq (md.rv.sc t1) (bo := 22 * k.d + 12) (h := h) (k := q) (by rw [r0]; exact tp.v7) (by rw [r0]; exact tp.v8) hq (by omega)
  have w := peekM_eq (f := 20 * k.t + k.d) (h := h) (q := q) md.f89 (by omega) tp.m114 (by omega) hq
  obtain ⟨s1, s2⟩ := tp.fr.stk (h - 1 - q) (by omega)
  rw [fi] at w
  rw [r5, show 22 * k.d + 12 + h - 1 - q = 22 * k.d + 12 + (h - 1 - q) by omega] at p
  refine ⟨_, _, p, w, ?_⟩
  rw [s2]
  exact s1.vr
set_option maxRecDepth 20000 in
set_option maxHeartbeats 4000000 in
/-- whether one class is another or below it -/
theorem below_ok {c : Cx} (ok : c.Ok) {X : XS} {T : Nat → Nat} {M : MS} (him : IM c.Mr c.rc c.main X T) (hM : ∀ a i, ¬ RunM a i → M.1 a i = c.M0.1 a i) {q : Nat} (hq : q < c.kc) (hqw : fm c.Mr 77 q) : ∀ K, K < c.kc → fm c.Mr 77 K → ∃ b, f_Image_isBelow_51 (Int32.ofNat (kn c.Mr K)) (Int32.ofNat (kn c.Mr q)) X = some b ∧ f_M_isBelow (Int32.ofNat K) (Int32.ofNat q) M = some b := by
  obtain ⟨g, ht, _, hk⟩ := ok
  have hk10 := (gp_k10 g).1
  have key : ∀ N K e, K < c.kc → fm c.Mr 77 K → K + 1 < N → e + K ≤ 9 → ∃ b, lp (b5_Image_isBelow_51 (Int32.ofNat (kn c.Mr q)) X) N (Int32.ofNat (kn c.Mr K), Int32.ofNat e) = some b ∧ lp (b2_M_isBelow (Int32.ofNat q) M) N (Int32.ofNat K) = some b := by
    intro N
    induction N with
    | zero => intro K e h1 h2 h3; omega
    | succ N ih =>
      intro K e h1 h2 h3 h4
      have kl := kn_lt (show K < 10 by omega) h2
      have kl2 := NK_le c.Mr
      have kq := kn_lt (show q < 10 by omega) hqw
      have k2 := kinds_51 him g
      obtain ⟨u1, u2⟩ := up_51 him g h1 h2
      have e95 : M.1 95 (10 + K) = c.Mr.1 61 K := by
        rw [hM 95 (10 + K) (by unfold RunM; omega)]
        have := (hk.1 K h1).1
        rw [← this]
      have c1 : ¬ (10 : Int32) ≤ Int32.ofNat e := by rw [o_leL _ _ (by decide) (by omega)]; show ¬ 10 ≤ e; omega
      have c2 : ¬ Int32.ofNat (NK c.Mr) ≤ Int32.ofNat (kn c.Mr K) := by rw [o_le _ _ (by omega) (by omega)]; omega
      by_cases eq : K = q
      · subst eq
        refine ⟨true, ?_, ?_⟩
        · refine lp_inr ?_
          unfold b5_Image_isBelow_51
          rw [if_neg c1, k2, Option.bind_some, if_neg c2, if_neg (by simp)]
        · refine lp_inr ?_
          unfold b2_M_isBelow
          rw [if_neg (by rw [o_lt0 _ (by omega)]; exact fun x => x), if_neg (by simp)]
      · have n1 : ¬ Int32.ofNat (kn c.Mr K) = Int32.ofNat (kn c.Mr q) := by
          rw [o_eq _ _ (by omega) (by omega)]
          intro z
          exact eq (cnt_inj (fmB_iff.mpr h2) (fmB_iff.mpr hqw) z)
        have n2 : ¬ Int32.ofNat K = Int32.ofNat q := by rw [o_eq _ _ (by omega) (by omega)]; exact eq
        have sx : b5_Image_isBelow_51 (Int32.ofNat (kn c.Mr q)) X (Int32.ofNat (kn c.Mr K), Int32.ofNat e) = some (.inl ((if c.Mr.1 61 K = -1 then 255 else Int32.ofNat (kn c.Mr (c.Mr.1 61 K).toNatClampNeg)), Int32.ofNat (e + 1))) := by
          unfold b5_Image_isBelow_51
          rw [if_neg c1, k2, Option.bind_some, if_neg c2, if_pos n1, u1, Option.bind_some, o_addR]
        have sm : b2_M_isBelow (Int32.ofNat q) M (Int32.ofNat K) = some (.inl (c.Mr.1 61 K)) := by
          unfold b2_M_isBelow
          rw [if_neg (by rw [o_lt0 _ (by omega)]; exact fun x => x), if_pos n2, o_addL, if_pos (ixl (show 10 + K < 20 by omega) (by omega)), o_cl _ (show 10 + K < 2147483648 by omega)]
          rw [show OfNat.ofNat 10 + K = 10 + K from rfl, e95]
        rw [lp_inl sx, lp_inl sm]
        rcases u2 with z | ⟨d, hd, z, hdw⟩
        · rw [if_pos z, z]
          cases N with
          | zero =>
            exfalso
            omega
          | succ N =>
            refine ⟨false, ?_, ?_⟩
            · refine lp_inr ?_
              unfold b5_Image_isBelow_51
              by_cases ce : (10 : Int32) ≤ Int32.ofNat (e + 1)
              · rw [if_pos ce]
              · rw [if_neg ce, k2, Option.bind_some, if_pos]
                show Int32.ofNat (NK c.Mr) ≤ Int32.ofNat 255
                rw [o_le _ _ (by omega) (by omega)]
                omega
            · refine lp_inr ?_
              unfold b2_M_isBelow
              rw [if_pos (by decide)]
        · have zn : ¬ c.Mr.1 61 K = -1 := by rw [z, n1_eq d (by omega)]; exact fun x => x
          rw [if_neg zn, z, o_cl d (by omega)]
          exact ih d (e + 1) (by omega) hdw (by omega) (by omega)
  intro K h1 h2
  exact key 10000 K 0 h1 h2 (by omega) (by omega)
