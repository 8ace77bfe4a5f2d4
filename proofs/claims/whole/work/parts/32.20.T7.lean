/-! T7 -/
set_option maxRecDepth 20000 in
set_option maxHeartbeats 4000000 in
/-- room for an object, on both sides -/
theorem room_eq {k : Kx} {T C : Nat → Nat} {n : Nat} {X : XS} {V M : MS} {g : Nat → Int32} {h : Nat} {l : Nat → Int32} (md : Md k T C n X V M g h l) {K nl : Nat} (hw : wzK k.c.Mr K nl ≤ 405) : f_Memory_hasRoomFor (Int32.ofNat (2 * wzK k.c.Mr K nl)) X = decide (2 * (adH k.c.Mr k.A k.A.N - 1) + 2 * wzK k.c.Mr K nl ≤ k.hp) ∧ ((M.1 60 87) + Int32.ofNat (2 * wzK k.c.Mr K nl) ≤ M.1 60 59 ↔ 2 * (adH k.c.Mr k.A k.A.N - 1) + 2 * wzK k.c.Mr K nl ≤ k.hp) := by
  obtain ⟨b1, b2, b3, b4⟩ := md.hr.N1000
  obtain ⟨l1, l2, l3, l4⟩ := md.hr.lim
  obtain ⟨u1, u2⟩ := md.hr.used
  constructor
  · unfold f_Memory_hasRoomFor f_Memory_used
    rw [md.rv.rf (a := 41) (by unfold Fx; omega), l1, md.hr.top, o_subR _ 1 (show 1 ≤ adH k.c.Mr k.A k.A.N by omega), o_mulL, o_add]
    show (if Int32.ofNat k.hp < Int32.ofNat (2 * (adH k.c.Mr k.A k.A.N - 1) + 2 * wzK k.c.Mr K nl) then false else true) = _
    by_cases c : 2 * (adH k.c.Mr k.A k.A.N - 1) + 2 * wzK k.c.Mr K nl ≤ k.hp
    · rw [if_neg (by rw [o_lt _ _ (by omega) (by omega)]; omega), decide_eq_true c]
    · rw [if_pos (by rw [o_lt _ _ (by omega) (by omega)]; omega), decide_eq_false c]
  · rw [u1, l2, o_add, o_le _ _ (by omega) (by omega)]
def mkX (x : Nat) (x9 x41 : Int32) (x42 : XS) : Option (Int32 × XS) := (if f_Memory_hasRoomFor (f_Memory_bytesFor x9 x41 x42) x42 = true then (if f_Memory_hasRoomFor (f_Memory_bytesFor x9 x41 x42) x42 = true then ((f_Memory_place x9 x41 x42).bind fun x14 => (if (xT x14.2 x = some (14, 0)) then ((f_Strand_pushRef x x14.1 x14.2).bind fun x16 => some (0, x16)) else none)) else some (9, x42)) else ((f_Engine_collect x42).bind fun x19 => (if f_Memory_hasRoomFor (f_Memory_bytesFor x9 x41 x42) x19 = true then ((f_Memory_place x9 x41 x19).bind fun x22 => (if (xT x22.2 x = some (14, 0)) then ((f_Strand_pushRef x x22.1 x22.2).bind fun x24 => some (0, x24)) else none)) else some (9, x19))))
def mkM (K nl : Int32) (M : MS) : Option MS := ((f_M_make K nl M).bind fun x45 => (if ¬ x45.2.1 60 90 = 0 then some x45.2 else ((f_M_putRef x45.1 x45.2).bind fun x47 => some x47)))
set_option maxRecDepth 20000 in
set_option maxHeartbeats 4000000 in
theorem make_ok {k : Kx} {T C : Nat → Nat} {n : Nat} {X : XS} {M : MS} {g : Nat → Int32} {h : Nat} (j : Jz k T C n X M g h (k.S.2.2.2.2.1 k.i)) (ok : k.c.Ok) (hh : h < 10) {K nl : Nat} (hK : KOk k.c.Mr k.c.kc K nl) : Wo (mkX (C (600 + 16 * k.t)) (Int32.ofNat (kcode k.c.Mr K)) (Int32.ofNat nl) X) (fun o => Wo (mkM (Int32.ofNat K) (Int32.ofNat nl) M) (fun M' => OutA k (C (600 + 16 * k.t)) (upd g h 2) (h + 1) (k.S.2.2.2.2.1 k.i) o M')) := by
  obtain ⟨⟨V, md⟩, z⟩ := j
  have sz := (cellsOf_eq (M' := M) ⟨V, md⟩ ok hK rfl rfl).2
  obtain ⟨w1, w2, w3, w4⟩ := words_eq md ok hK
  have by_ : f_Memory_bytesFor (Int32.ofNat (kcode k.c.Mr K)) (Int32.ofNat nl) X = Int32.ofNat (2 * wzK k.c.Mr K nl) := by unfold f_Memory_bytesFor; rw [w1, o_mulL]
  obtain ⟨r1, r2⟩ := room_eq md (K := K) (nl := nl) w3
  unfold mkX mkM
  rw [make_eq, sz, Option.bind_some, by_, r1]
  by_cases c : 2 * (adH k.c.Mr k.A k.A.N - 1) + 2 * wzK k.c.Mr K nl ≤ k.hp
  · obtain ⟨o, X', V', M', a1, a2, a3, a4, a5⟩ := alloc_ok md ok hK c
    rw [if_pos (decide_eq_true c), if_pos (decide_eq_true c), if_pos (r2.mpr c), a1, a2, Option.bind_some, Option.bind_some]
    dsimp only
    have jz : Jz (k.ch (k.A.add o K nl) k.nb k.oc k.W) T C n X' M' g h (k.S.2.2.2.2.1 k.i) := ⟨⟨V', a4⟩, by rw [a3]; exact z⟩
    obtain ⟨X2, M2, p1, p2, p3⟩ := Z_pushr jz hh a5
    have p1' : f_Strand_pushRef (C (600 + 16 * k.t)) (Int32.ofNat (adH k.c.Mr k.A k.A.N)) X' = some X2 := p1
    have xx : xT X' (C (600 + 16 * k.t)) = some (14, 0) := jz.x
    rw [if_pos xx, p1', Option.bind_some, if_neg (fun q => q jz.2), p2]
    exact W_some.mpr (W_some.mpr ⟨_, k.nb, k.oc, k.W, T, C, n, by omega, by omega, fun _ _ _ => rfl, rfl, Or.inl ⟨rfl, p3.2, p3.1⟩⟩)
  · obtain ⟨A', X3, V3, M3, c1, c2, c3, c4⟩ := collect_ok md ok
    obtain ⟨r3, r4⟩ := room_eq c4 (K := K) (nl := nl) w3
    rw [if_neg (show ¬ decide _ = true by rw [decide_eq_false c]; decide), if_neg (fun q => c (r2.mp q)), c1, c2, Option.bind_some, Option.bind_some]
    rw [r3]
    by_cases c' : 2 * (adH k.c.Mr A' A'.N - 1) + 2 * wzK k.c.Mr K nl ≤ k.hp
    · obtain ⟨o, X', V', M', a1, a2, a3, a4, a5⟩ := alloc_ok c4 ok hK c'
      have a1' : f_Memory_place (Int32.ofNat (kcode k.c.Mr K)) (Int32.ofNat nl) X3 = some (Int32.ofNat (adH k.c.Mr A' A'.N), X') := a1
      have a2' : alM (Int32.ofNat K) (Int32.ofNat nl) (Int32.ofNat (2 * wzK k.c.Mr K nl)) M3 = some (Int32.ofNat o, M') := a2
      rw [if_pos (decide_eq_true c'), if_pos (r4.mpr c'), a1', a2', Option.bind_some, Option.bind_some]
      dsimp only
      have jz : Jz (k.ch (A'.add o K nl) k.nb k.oc k.W) T C n X' M' g h (k.S.2.2.2.2.1 k.i) := ⟨⟨V', a4⟩, by rw [a3, c3]; exact z⟩
      obtain ⟨X2, M2, p1, p2, p3⟩ := Z_pushr jz hh a5
      have p1' : f_Strand_pushRef (C (600 + 16 * k.t)) (Int32.ofNat (adH k.c.Mr A' A'.N)) X' = some X2 := p1
      have xx : xT X' (C (600 + 16 * k.t)) = some (14, 0) := jz.x
      rw [if_pos xx, p1', Option.bind_some, if_neg (fun q => q jz.2), p2]
      exact W_some.mpr (W_some.mpr ⟨_, k.nb, k.oc, k.W, T, C, n, by omega, by omega, fun _ _ _ => rfl, rfl, Or.inl ⟨rfl, p3.2, p3.1⟩⟩)
    · have w90 : (mw M3 60 90 9).1 60 90 = 9 := by rw [mw1, if_pos ⟨rfl, rfl⟩]
      rw [if_neg (show ¬ decide _ = true by rw [decide_eq_false c']; decide), if_neg (fun q => c' (r4.mp q))]
      dsimp only [lt]
      rw [Option.bind_some, w90, if_pos (show ¬ (9 : Int32) = 0 by decide)]
      exact W_some.mpr (W_some.mpr ⟨A', k.nb, k.oc, k.W, T, C, n, by omega, by omega, fun _ _ _ => rfl, rfl, Or.inr ⟨9, 0, V3, rfl, ⟨⟨M3, g, h, c4, (Ag.refl _ M3).flt (Or.inl rfl) 9⟩, ⟨w90, by omega, by omega⟩, fun q => by omega⟩⟩⟩)
set_option maxRecDepth 20000 in
set_option maxHeartbeats 4000000 in
theorem nat_of {x : Int32} (h1 : 0 ≤ x) (h2 : x ≤ 200) : ∃ n, x = Int32.ofNat n ∧ n ≤ 200 := by
  have c := clampI x h1
  have l := Int32.le_iff_toInt_le.mp h2
  have e : (200 : Int32).toInt = 200 := by decide
  rw [e] at l
  refine ⟨x.toNatClampNeg, ?_, by omega⟩
  rw [← Int32.toInt_inj, oi _ (by omega)]
  exact c.symm
set_option maxRecDepth 20000 in
set_option maxHeartbeats 4000000 in
theorem make26_ok {k : Kx} {T C : Nat → Nat} {n : Nat} {X : XS} {M : MS} {g g' : Nat → Int32} {h h' : Nat} {l' : Nat → Int32} (ok : k.c.Ok) (hop : opN k.c.Mr k.m k.i = 26) (j : Jz k T C n X M g h (k.S.2.2.2.2.1 k.i)) (tr : Tr k.c.Mr k.c.rc 26 (odI k.c.Mr k.m k.i) g h (k.S.2.2.2.2.1 k.i) = some (g', h', l')) : ∃ z, f_Image_at_51 (Int32.ofNat (caN k.c.Mr k.m + off k.c.Mr k.m k.i + 1)) X = some z ∧ Wo (f_Engine_doMake (C (600 + 16 * k.t)) 26 z X) (fun o => Wo (f_M_others 26 (odI k.c.Mr k.m k.i) M) (fun M' => OutA k (C (600 + 16 * k.t)) g' h' l' o M')) := by
  obtain ⟨c, hc, hw, hm, ec, ea⟩ := cls_od j.1 ok (Or.inl hop)
  obtain ⟨hh, p1, p2⟩ := tr_def (by omega) (by omega) (by omega) (by omega) (by omega) (by omega) tr
  have tk : tkL 26 = [] ∧ ptL 26 = 2 := by decide
  rw [tk.1] at p1
  rw [tk.2] at p2
  have ep := popsK_nil p1
  obtain ⟨q1, q2, q3, q4⟩ := putT_v (by decide) p2
  subst ep q2 q3 q4
  have k10 := (gp_k10 ok.1).1
  have hK : KOk k.c.Mr k.c.kc c 0 := Or.inl ⟨hc, hm hop, hw, rfl⟩
  have mk := make_ok j ok q1 hK
  have kk : kcode k.c.Mr c = kn k.c.Mr c := by unfold kcode; rw [if_pos (by omega)]
  rw [kk] at mk
  refine ⟨_, ea, ?_⟩
  have e1 : f_Engine_doMake (C (600 + 16 * k.t)) 26 (Int32.ofNat (kn k.c.Mr c)) X = mkX (C (600 + 16 * k.t)) (Int32.ofNat (kn k.c.Mr c)) (Int32.ofNat 0) X := by
    unfold f_Engine_doMake
    rw [if_neg (show ¬ ¬ (26 : Int32) = 26 by decide), Option.bind_some, if_neg (show ¬ ¬ (26 : Int32) = 26 by decide), Option.bind_some]
    dsimp only
    rw [if_pos (show (0 : Int32) ≤ 0 ∧ (0 : Int32) ≤ 200 by decide)]
    rfl
  have e2 : f_M_others 26 (odI k.c.Mr k.m k.i) M = mkM (Int32.ofNat c) (Int32.ofNat 0) M := by
    unfold f_M_others
    rw [if_neg (show ¬ (26 : Int32) = 1 by decide), if_neg (show ¬ (26 : Int32) = 2 by decide), if_neg (show ¬ (26 : Int32) = 3 by decide), if_neg (show ¬ (26 : Int32) = 16 by decide), if_neg (show ¬ (26 : Int32) = 17 by decide), if_neg (show ¬ (26 : Int32) = 18 by decide), if_pos (show (26 : Int32) = 26 from rfl), ec]
    rfl
  rw [e1, e2]
  exact mk
set_option maxRecDepth 20000 in
set_option maxHeartbeats 4000000 in
theorem makeA_ok {k : Kx} {T C : Nat → Nat} {n : Nat} {X : XS} {M : MS} {g g' : Nat → Int32} {h h' op : Nat} {l' : Nat → Int32} {od : Int32} (ok : k.c.Ok) (hop : op = 31 ∨ op = 35) (j : Jz k T C n X M g h (k.S.2.2.2.2.1 k.i)) (tr : Tr k.c.Mr k.c.rc op od g h (k.S.2.2.2.2.1 k.i) = some (g', h', l')) (z : Int32) : Wo (f_Engine_doMake (C (600 + 16 * k.t)) (Int32.ofNat op) z X) (fun o => Wo (f_M_arrays (Int32.ofNat op) M) (fun M' => OutA k (C (600 + 16 * k.t)) g' h' l' o M')) := by
  obtain ⟨hh, p1, p2⟩ := tr_def (by omega) (by omega) (by omega) (by omega) (by omega) (by omega) tr
  have tk : tkL op = [1] ∧ ptL op = 2 := by rcases hop with e | e <;> subst e <;> decide
  rw [tk.1] at p1
  rw [tk.2] at p2
  obtain ⟨a, ea, ga, p1⟩ := popsK_cons p1
  have ep := popsK_nil p1
  obtain ⟨q1, q2, q3, q4⟩ := putT_v (by decide) p2
  subst ep ea q2 q3 q4
  obtain ⟨x, X1, v, M1, s1, s2, s3, s4, s5⟩ := Z_pop j
  have ev := s4.1 (g1 ga (by decide))
  subst ev
  have ne26 : ¬ Int32.ofNat op = 26 := by rcases hop with e | e <;> subst e <;> decide
  have e1 : f_Engine_doMake (C (600 + 16 * k.t)) (Int32.ofNat op) z X = (if 0 ≤ x ∧ x ≤ 200 then mkX (C (600 + 16 * k.t)) (if op = 31 then 254 else 255) x X1 else some (4, X1)) := by
    unfold f_Engine_doMake
    rw [if_pos ne26, if_pos j.x, s1, Option.bind_some, Option.bind_some]
    dsimp only
    rcases hop with e | e <;> subst e
    · rw [if_pos ne26, if_neg (show ¬ ¬ Int32.ofNat 31 = 31 by decide), Option.bind_some]; rfl
    · rw [if_pos ne26, if_pos (show ¬ Int32.ofNat 35 = 31 by decide), Option.bind_some]; rfl
  have w90 : ∀ v, (mw M1 60 90 v).1 60 90 = v := fun v => by rw [mw1, if_pos ⟨rfl, rfl⟩]
  have e2 : f_M_arrays (Int32.ofNat op) M = (if 0 ≤ x ∧ x ≤ 200 then mkM (if op = 31 then 10 else 11) x (mw M1 60 90 0) else some (mw M1 60 90 4)) := by
    have tail : ∀ K, (((if x < 0 then some 4 else (if x ≤ 200 then some 0 else some 4)) : Option (Int32)).bind fun x5 => (lt (mw M1 60 90 x5) fun M6 => (if ¬ M6.1 60 90 = 0 then some M6 else ((f_M_make K x M6).bind fun x10 => (if ¬ x10.2.1 60 90 = 0 then some x10.2 else ((f_M_putRef x10.1 x10.2).bind fun x12 => some x12)))))) = (if 0 ≤ x ∧ x ≤ 200 then mkM K x (mw M1 60 90 0) else some (mw M1 60 90 4)) := by
      intro K
      by_cases c1 : x < 0
      · rw [if_pos c1, Option.bind_some, if_neg (show ¬ (0 ≤ x ∧ x ≤ 200) from fun q => (Int32.not_lt.mpr q.1) c1)]
        dsimp only [lt]
        rw [w90, if_pos (show ¬ (4 : Int32) = 0 by decide)]
      · rw [if_neg c1]
        have c1' : 0 ≤ x := Int32.not_lt.mp c1
        by_cases c2 : x ≤ 200
        · rw [if_pos c2, Option.bind_some, if_pos ⟨c1', c2⟩]
          dsimp only [lt]
          rw [w90, if_neg (show ¬ ¬ (0 : Int32) = 0 by decide)]
          rfl
        · rw [if_neg c2, Option.bind_some, if_neg (fun q => c2 q.2)]
          dsimp only [lt]
          rw [w90, if_pos (show ¬ (4 : Int32) = 0 by decide)]
    unfold f_M_arrays
    rcases hop with e | e <;> subst e
    · rw [if_pos (show Int32.ofNat 31 = 31 from rfl), s2, Option.bind_some]
      dsimp only
      rw [tail, if_pos rfl]
    · rw [if_neg (show ¬ Int32.ofNat 35 = 31 by decide), if_neg (show ¬ ¬ Int32.ofNat 35 = 35 by decide), s2, Option.bind_some]
      dsimp only
      rw [tail, if_neg (show ¬ (35 : Nat) = 31 by omega)]
  rw [e1, e2]
  by_cases c : 0 ≤ x ∧ x ≤ 200
  · rw [if_pos c, if_pos c]
    obtain ⟨nl, hx, hnl⟩ := nat_of c.1 c.2
    subst hx
    have hK : KOk k.c.Mr k.c.kc (if op = 31 then 10 else 11) nl := Or.inr ⟨by split <;> omega, hnl⟩
    have jz : Jz k T C n X1 (mw M1 60 90 0) g hh (k.S.2.2.2.2.1 k.i) := ⟨s3.1.flt (Or.inl rfl) 0, w90 0⟩
    have mk := make_ok jz ok q1 hK
    have kk : Int32.ofNat (kcode k.c.Mr (if op = 31 then 10 else 11)) = (if op = 31 then 254 else 255) := by
      unfold kcode
      rcases hop with e | e <;> subst e <;> rfl
    have k2 : Int32.ofNat (if op = 31 then 10 else 11) = (if op = 31 then 10 else 11) := by
      rcases hop with e | e <;> subst e <;> rfl
    rw [kk, k2] at mk
    exact mk
  · rw [if_neg c, if_neg c]
    exact W_some.mpr (W_some.mpr (out_flt s3.1 ((Ag.refl k M1).flt (Or.inl rfl) 4) (f := 4) (by omega) (by omega) (w90 4)))
set_option maxRecDepth 20000 in
set_option maxHeartbeats 4000000 in
theorem plain_51 {k : Kx} {T C : Nat → Nat} {n : Nat} {X : XS} {M : MS} {g g' : Nat → Int32} {h h' : Nat} {l l' : Nat → Int32} {od : Int32} (j : Jz k T C n X M g h l) (tr : Tr k.c.Mr k.c.rc 51 od g h l = some (g', h', l')) : Wo (lt (xw X 40 1 1) fun X47 => some ((0 : Int32), X47)) (fun o => Wo (f_M_others 51 od M) (fun M' => OutA (k.ch k.A k.nb k.oc (upd k.W 1 1)) (C (600 + 16 * k.t)) g' h' l' o M')) := by
  obtain ⟨hh, p1, p2⟩ := tr_def (by omega) (by omega) (by omega) (by omega) (by omega) (by omega) tr
  have tk : tkL 51 = [] ∧ ptL 51 = 0 := by decide
  rw [tk.1] at p1
  rw [tk.2] at p2
  have ep := popsK_nil p1
  obtain ⟨q1, q2, q3⟩ := putT_0 p2
  subst ep q1 q2 q3
  obtain ⟨⟨V, md⟩, z⟩ := j
  have e2 : f_M_others 51 od M = some M := by
    unfold f_M_others
    rw [if_neg (by decide), if_neg (by decide), if_neg (by decide), if_neg (by decide), if_neg (by decide), if_neg (by decide), if_neg (by decide), if_neg (by decide), if_neg (by decide)]
    repeat rw [if_neg (by decide)]
  rw [e2]
  refine W_some.mpr (W_some.mpr ?_)
  have rv' := md.rv.f (a := 40) (by unfold Fx; omega) 1 1
  have vr : ∀ a, a ≠ 1040 → (mw V (1000 + 40) 1 1).1 a = V.1 a := fun a ha => mwr _ _ _ (by omega)
  have m11 := md.tu
  have m' : Md (k.ch k.A k.nb k.oc (upd k.W 1 1)) T C n (xw X 40 1 1) (mw V (1000 + 40) 1 1) M g' h' l' := by
    refine md.misc rv' (fun a _ _ _ h4 => vr a h4) ⟨?_, ?_, ?_⟩ (fun _ _ _ => rfl) (fun _ _ _ _ _ => rfl) rfl ?_ ?_ ?_
    · rw [mwi _ _ _ (by omega)]; exact m11.2.1
    · rw [mw1, if_pos ⟨rfl, rfl⟩]; exact (if_pos rfl : upd k.W 1 1 1 = 1).symm
    · rw [mwi _ _ _ (by omega)]
    · exact md.sr.congr (fun a h1 h2 => vr a (by omega)) (fun _ _ _ => rfl)
    · exact md.pr.congr (fun a h1 h2 => vr a (by omega)) (fun _ _ _ => rfl) (fun _ _ => rfl)
    · intro f h1 h2; exact if_neg (by omega)
  exact out_go (k := k.ch k.A k.nb k.oc (upd k.W 1 1)) ⟨⟨_, m'⟩, z⟩
