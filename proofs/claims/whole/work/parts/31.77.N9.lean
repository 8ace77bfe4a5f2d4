/-! N9 -/
set_option maxRecDepth 20000 in
set_option maxHeartbeats 4000000 in
theorem xw_comm (X : XS) {a b i j : Nat} (v w : Int32) (h : a ≠ b ∨ i ≠ j) : xw (xw X a i v) b j w = xw (xw X b j w) a i v := by
  refine Prod.ext ?_ rfl
  funext c q
  rw [xw1 (xw X a i v), xw1 X, xw1 (xw X b j w), xw1 X]
  by_cases e1 : c = a ∧ q = i
  · have e2 : ¬ (c = b ∧ q = j) := fun z => by omega
    rw [if_pos e1, if_neg e2, if_pos e1]
  · rw [if_neg e1, if_neg e1]
set_option maxRecDepth 20000 in
set_option maxHeartbeats 4000000 in
theorem mw_comm (M : MS) {a b i j : Nat} (v w : Int32) (h : a ≠ b ∨ i ≠ j) : mw (mw M a i v) b j w = mw (mw M b j w) a i v := by
  refine Prod.ext ?_ rfl
  funext c q
  rw [mw1 (mw M a i v), mw1 M, mw1 (mw M b j w), mw1 M]
  by_cases e1 : c = a ∧ q = i
  · have e2 : ¬ (c = b ∧ q = j) := fun z => by omega
    rw [if_pos e1, if_neg e2, if_pos e1]
  · rw [if_neg e1, if_neg e1]
set_option maxRecDepth 20000 in
set_option maxHeartbeats 4000000 in
theorem mw_same (M : MS) (a i : Nat) (v w : Int32) : mw (mw M a i v) a i w = mw M a i w := by
  refine Prod.ext ?_ rfl
  funext c q
  rw [mw1, mw1, mw1]
  by_cases e1 : c = a ∧ q = i
  · rw [if_pos e1, if_pos e1]
  · rw [if_neg e1, if_neg e1, if_neg e1]
set_option maxRecDepth 20000 in
set_option maxHeartbeats 4000000 in
/-- the height is that of the other: the rest, too -/
theorem Md.ag {k : Kx} {T C : Nat → Nat} {n : Nat} {X : XS} {V M M1 : MS} {g : Nat → Int32} {h : Nat} {l : Nat → Int32} (md : Md k T C n X V M1 g h l) (a : Ag k M M1) (e : M.1 114 (20 * k.t + k.d) = Int32.ofNat h) : Md k T C n X V M g h l := by
  have e114 : M.1 114 = M1.1 114 := by
    funext q
    by_cases z : q = 20 * k.t + k.d
    · subst z; rw [e]; exact md.tp.m114.symm
    · exact a.2.1 q z
  have ha : ∀ b, b ≠ 60 → M.1 b = M1.1 b := fun b hb => by
    by_cases z : b = 114
    · subst z; exact e114
    · exact a.1 b z hb
  refine md.heap md.rv (fun _ _ => rfl) (fun b _ _ _ h4 => ha b h4) a.2.2.1 a.2.2.2 ?_
  exact md.hr.congr (fun _ _ => rfl) (fun b h1 h2 _ _ => ha b (by omega)) (fun f hf => a.2.2.1 f (by omega) (by omega))
set_option maxRecDepth 20000 in
set_option maxHeartbeats 4000000 in
theorem catch_pops {k : Kx} {T C : Nat → Nat} {n : Nat} {M : MS} {g l : Nat → Int32} : ∀ h e N X V M1, Md k T C n X V M1 g h l → Ag k M M1 → e + h ≤ 10 → h < N → ∃ e' X', lp (b2_Strand_catchAt (C (600 + 16 * k.t))) N (Int32.ofNat e, X) = some (e', X') ∧ ∃ V' M1', Md k T C n X' V' M1' g 0 l ∧ Ag k M M1' := by
  intro h
  induction h with
  | zero =>
    intro e N X V M1 md ag he hN
    obtain ⟨N, rfl⟩ : ∃ N', N = N' + 1 := ⟨N - 1, by omega⟩
    obtain ⟨t1, t2, t3⟩ := md.t6
    have r0 := md.rv.rd (Lv_s (f := 0) t1 (by omega) : Lv n (600 + 16 * k.t))
    refine ⟨Int32.ofNat e, X, lp_inr ?_, V, M1, md, ag⟩
    unfold b2_Strand_catchAt
    by_cases c : (10 : Int32) ≤ Int32.ofNat e
    · rw [if_pos c]
    · rw [if_neg c, if_pos (md.rv.sc t1).x, if_pos]
      show X.1 (C (600 + 16 * k.t)) 8 ≤ 0
      rw [r0, md.tp.v8]
      exact Int32.le_refl _
  | succ h ih =>
    intro e N X V M1 md ag he hN
    obtain ⟨N, rfl⟩ : ∃ N', N = N' + 1 := ⟨N - 1, by omega⟩
    obtain ⟨t1, t2, t3⟩ := md.t6
    have r0 := md.rv.rd (Lv_s (f := 0) t1 (by omega) : Lv n (600 + 16 * k.t))
    obtain ⟨x, v, p1, p2, p3, p4⟩ := md.pop
    have st : b2_Strand_catchAt (C (600 + 16 * k.t)) (Int32.ofNat e, X) = some (.inl (Int32.ofNat (e + 1), xw (xw X (C (600 + 16 * k.t)) 8 (Int32.ofNat h)) (C (606 + 16 * k.t)) (22 * k.d + 12 + h) 0)) := by
      unfold b2_Strand_catchAt
      have c1 : ¬ (10 : Int32) ≤ Int32.ofNat e := by rw [o_leL _ _ (by decide) (by omega)]; show ¬ 10 ≤ e; omega
      have c2 : ¬ X.1 (C (600 + 16 * k.t)) 8 ≤ 0 := by rw [r0, md.tp.v8, o_leR _ _ (by omega) (by decide)]; show ¬ h + 1 ≤ 0; omega
      rw [if_neg c1, if_pos (md.rv.sc t1).x, if_neg c2, p1, Option.bind_some, o_addR]
    rw [lp_inl st]
    refine ih (e + 1) N _ _ _ p3 ?_ (by omega) (by omega)
    refine ⟨fun a h1 h2 => ?_, fun q hq => ?_, fun f h1 h2 => ?_, ag.2.2.2⟩
    · rw [mwr _ _ _ h1]; exact ag.1 a h1 h2
    · rw [mwi _ _ _ hq]; exact ag.2.1 q hq
    · rw [mwr _ _ _ (by omega)]; exact ag.2.2.1 f h1 h2
set_option maxRecDepth 20000 in
set_option maxHeartbeats 4000000 in
/-- a handler goes on -/
theorem catch_ok {k : Kx} {T C : Nat → Nat} {n : Nat} {X : XS} {V M M1 : MS} {g : Nat → Int32} {h : Nat} (md : Md k T C n X V M1 g h (k.S.2.2.2.2.1 k.i)) (ag : Ag k M M1) {j : Nat} (cv : Cov k.S j (fun _ => 2) 1 (k.S.2.2.2.2.1 k.i)) {z v : Int32} (hz : RefR k.c.Mr k.A z v) : ∃ X' V', f_Strand_catchAt (C (600 + 16 * k.t)) (Int32.ofNat (caN k.c.Mr k.m + off k.c.Mr k.m j)) z X = some X' ∧ ∃ M', f_M_putRef v (mw (mw M 113 (20 * k.t + k.d) (Int32.ofNat j)) 114 (20 * k.t + k.d) 0) = some M' ∧ Rn k.c k.A k.hp k.nb k.oc k.U k.W k.D T C n X' V' M' := by
  have h10 := md.tp.fr.le
  obtain ⟨e', X1, p1, V1, M2, md1, ag1⟩ := catch_pops h 0 10000 X V M1 md ag (by omega) (by omega)
  obtain ⟨t1, t2, t3⟩ := md1.t6
  have d20 := md1.tp.d20
  have md2 := md1.ag (M := mw M 114 (20 * k.t + k.d) 0) ⟨fun a h1 h2 => by rw [mwr _ _ _ h1]; exact ag1.1 a h1 h2, fun q hq => by rw [mwi _ _ _ hq]; exact ag1.2.1 q hq, fun f h1 h2 => by rw [mwr _ _ _ (by omega)]; exact ag1.2.2.1 f h1 h2, ag1.2.2.2⟩ (by rw [mw1, if_pos ⟨rfl, rfl⟩]; rfl)
  have md3 := J_put md2 (by omega) (Or.inr ⟨rfl, hz⟩ : (1 : Int32) = 0 ∧ z = v ∨ (1 : Int32) = 1 ∧ RefR k.c.Mr k.A z v)
  have rn := md3.next (j := j) (by
    obtain ⟨c1, c2, c3, c4⟩ := cv
    refine ⟨c1, c2, fun q hq => ?_, c4⟩
    rw [c3 q hq]
    unfold upd
    rw [if_pos (by omega)]
    rfl)
  have sc := md1.rv.sc t1
  have r0 := md1.rv.rd (Lv_s (f := 0) t1 (by omega) : Lv n (600 + 16 * k.t))
  have sc' : SC (xw X1 (C (600 + 16 * k.t)) 4 (Int32.ofNat (caN k.c.Mr k.m + off k.c.Mr k.m j))) _ _ _ _ _ _ := sc.of2 rfl
  have pe := push_eq sc' (bo := 22 * k.d + 12) (h := 0) (by rw [xw1, if_neg (by omega), r0]; exact md1.tp.v7) (by rw [xw1, if_neg (by omega), r0]; exact md1.tp.v8) (by omega) (by omega) z 1
  have me := (putM_eq (M := mw (mw M 113 (20 * k.t + k.d) (Int32.ofNat j)) 114 (20 * k.t + k.d) 0) (f := 20 * k.t + k.d) (h := 0) (by rw [mwr _ _ _ (by omega), mwr _ _ _ (by omega)]; have := md2.f89; rw [mwr _ _ _ (by omega)] at this; exact this) (by omega) (by rw [mw1, if_pos ⟨rfl, rfl⟩]; rfl) (by omega) v).2
  have xe : f_Strand_catchAt (C (600 + 16 * k.t)) (Int32.ofNat (caN k.c.Mr k.m + off k.c.Mr k.m j)) z X = some (xw (xw (xw (xw X1 (C (600 + 16 * k.t)) 4 (Int32.ofNat (caN k.c.Mr k.m + off k.c.Mr k.m j))) (C (605 + 16 * k.t)) (22 * k.d + 12 + 0) z) (C (606 + 16 * k.t)) (22 * k.d + 12 + 0) 1) (C (600 + 16 * k.t)) 8 (Int32.ofNat (0 + 1))) := by
    unfold f_Strand_catchAt
    have p1' : lp (b2_Strand_catchAt (C (600 + 16 * k.t))) 10000 ((0 : Int32), X) = some (e', X1) := p1
    rw [p1', Option.bind_some, if_pos sc.x]
    dsimp only [lt]
    rw [pe]
    rfl
  rw [xw_comm X1 _ _ (Or.inl sc.n1.1), xw_comm _ _ _ (Or.inl sc.n1.2.1), xw_comm _ _ _ (Or.inr (by omega))] at xe
  rw [mw_comm M _ _ (Or.inl (by omega)), mw_comm _ _ _ (Or.inl (show 113 ≠ 115 by omega)), mw_comm _ _ _ (Or.inl (show 113 ≠ 116 by omega)), mw_comm _ _ _ (Or.inl (show 113 ≠ 114 by omega))] at me
  have eM : mw (mw M 113 (20 * k.t + k.d) (Int32.ofNat j)) 114 (20 * k.t + k.d) 0 = mw (mw M 114 (20 * k.t + k.d) 0) 113 (20 * k.t + k.d) (Int32.ofNat j) := mw_comm M _ _ (Or.inl (by omega))
  rw [eM]
  exact ⟨_, _, xe, _, me, rn⟩
