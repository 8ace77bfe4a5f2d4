/-! U2 -/
/-- the byte of an instruction -/
def opB8 (k : Kx) : Int32 := if opN k.c.Mr k.m k.i = 1 ∧ ¬ (-128 ≤ odI k.c.Mr k.m k.i ∧ odI k.c.Mr k.m k.i ≤ 127) then 61 else Int32.ofNat (opN k.c.Mr k.m k.i)
def plc (k : Kx) : Nat := caN k.c.Mr k.m + off k.c.Mr k.m k.i
theorem wo_at {v : Int32} {o : Option Int32} (e : o = some v) {F : Int32 → Option (Int32 × XS)} {G : Int32 × XS → Option XS} {Q : XS → Prop} (h : Wo ((F v).bind G) Q) : Wo ((o.bind F).bind G) Q := by
  rw [e, Option.bind_some]
  exact h
set_option maxRecDepth 20000 in
set_option maxHeartbeats 4000000 in
theorem core_ok {k : Kx} {T C : Nat → Nat} {n : Nat} {X : XS} {M : MS} (ok : k.c.Ok) (j : Jz k T C n X M (k.S.2.2.2.1 k.i) (k.S.2.2.1 k.i) (k.S.2.2.2.2.1 k.i)) (hoc : k.oc + 1 < 2147483648) (nw : opN k.c.Mr k.m k.i = 49 → ∀ x v, f_Strand_peek (C (600 + 16 * k.t)) 0 X = some x → f_M_peek 0 M = some v → ¬ v = 0 → M.1 125 v.toNatClampNeg = 0 ∨ M.1 124 v.toNatClampNeg = Int32.ofNat k.t) : Wo ((dX (C (600 + 16 * k.t)) (opB8 k) (Int32.ofNat (plc k)) (Int32.ofNat k.t) X).bind (tX (C (600 + 16 * k.t)) (opB8 k) (Int32.ofNat (plc k)))) (fun X' => Wo (sM (Int32.ofNat k.t) (Int32.ofNat (opN k.c.Mr k.m k.i)) (odI k.c.Mr k.m k.i) M) (fun M' => RnO (k.ch k.A k.nb k.oc (if opN k.c.Mr k.m k.i = 51 then upd k.W 1 1 else k.W)) (Int32.ofNat (opN k.c.Mr k.m k.i)) X' M')) := by
  obtain ⟨i1, i2, i3, i4, i5, i6⟩ := j.1.im ok
  obtain ⟨f0, f1, f2, f3, f4, f5, f6, f7⟩ := ins_facts i2 i3 i4
  obtain ⟨po, g', h', l', tr, _, tj, tn⟩ := f6
  have on := off_next i2 i3 i4
  have hp : Int32.ofNat (plc k) + f_P_bytesOf (opB8 k) = Int32.ofNat (caN k.c.Mr k.m + off k.c.Mr k.m (k.i + 1)) := by
    have hb : f_P_bytesOf (opB8 k) = Int32.ofNat (ln (opN k.c.Mr k.m k.i) (odI k.c.Mr k.m k.i)) := by
      unfold opB8 ln
      by_cases e1 : opN k.c.Mr k.m k.i = 1
      · rw [if_pos e1]
        by_cases e2 : -128 ≤ odI k.c.Mr k.m k.i ∧ odI k.c.Mr k.m k.i ≤ 127
        · rw [if_neg (fun q => q.2 e2), if_pos e2, e1]; decide
        · rw [if_pos ⟨e1, e2⟩, if_neg e2]; decide
      · rw [if_neg (fun q => e1 q.1), if_neg e1, bytesOf_eq _ f3 e1]
    rw [hb, o_add, on]
    unfold plc
    rw [Nat.add_assoc]
  have p1 : Int32.ofNat (plc k) + 1 = Int32.ofNat (caN k.c.Mr k.m + off k.c.Mr k.m k.i + 1) := o_addR _ _
  obtain ⟨va, ea⟩ := opr_at j.1 ok
  have cvn : ¬ isE (opN k.c.Mr k.m k.i) → ∀ dx : Option (Int32 × XS), ∀ o, dx = some o → o.1 = 0 → Cov k.S (k.i + 1) g' h' l' := fun q _ _ _ _ => (tn q).2
  by_cases e51 : opN k.c.Mr k.m k.i = 51
  · -- the turn ends
    have eb : opB8 k = 51 := by unfold opB8; rw [if_neg (by omega), e51]; rfl
    rw [eb] at hp
    rw [eb, e51, dX_51, if_pos rfl]
    rw [e51] at tr
    have e : Int32.ofNat 51 = 51 := rfl
    rw [e, sM_oo (x3 := 51) (by decide) (by decide) (by decide) (by decide) (by decide)]
    exact endA (k := k.ch k.A k.nb k.oc (upd k.W 1 1)) ok (plain_51 j tr) (cvn (by rw [e51]; unfold isE; omega) _) hp
  · rw [if_neg e51]
    show Wo _ (fun X' => Wo _ (fun M' => RnO k _ X' M'))
    by_cases g0 : opN k.c.Mr k.m k.i = 1
    · -- a number
      have eb : opB8 k = (if ¬ (-128 ≤ odI k.c.Mr k.m k.i ∧ odI k.c.Mr k.m k.i ≤ 127) then 61 else 1) := by
        unfold opB8
        by_cases e2 : -128 ≤ odI k.c.Mr k.m k.i ∧ odI k.c.Mr k.m k.i ≤ 127
        · rw [if_neg (fun q => q.2 e2), if_neg (fun q => q e2), g0]; rfl
        · rw [if_pos ⟨g0, e2⟩, if_pos e2]
      have ed : dX (C (600 + 16 * k.t)) (opB8 k) (Int32.ofNat (plc k)) (Int32.ofNat k.t) X = f_Engine_doPlain (C (600 + 16 * k.t)) (opB8 k) (Int32.ofNat (plc k) + 1) X := by
        rw [eb]
        split
        · exact dX_pp (by decide) (by decide)
        · exact dX_pl (by decide)
      rw [g0] at tr
      have pl := plain_1 ok g0 j tr
      rw [← eb, ← p1] at pl
      rw [ed, g0]
      have e : Int32.ofNat 1 = 1 := rfl
      rw [e, sM_oo (x3 := 1) (by decide) (by decide) (by decide) (by decide) (by decide)]
      exact endA ok pl (cvn (by rw [g0]; unfold isE; omega) _) hp
    · have eb : opB8 k = Int32.ofNat (opN k.c.Mr k.m k.i) := by unfold opB8; rw [if_neg (fun q => g0 q.1)]
      rw [eb] at hp
      rw [eb]
      generalize hop : opN k.c.Mr k.m k.i = op at *
      have cv := fun q => (tn q).2
      by_cases c1 : op ≤ 3
      · -- the first ones
        rcases (show op = 0 ∨ op = 2 ∨ op = 3 by omega) with e | e | e <;> subst e
        · have pl := plain_0 ok rfl j tr
          rw [← p1] at pl
          rw [dX_pl (by decide), sM_oo (by decide) (by decide) (by decide) (by decide) (by decide)]
          exact endA ok pl (fun _ _ _ => cv (by unfold isE; omega)) hp
        · have pl := plain_2 ok hop j tr
          rw [← p1] at pl
          rw [dX_pl (by decide), sM_oo (by decide) (by decide) (by decide) (by decide) (by decide)]
          exact endA ok pl (fun _ _ _ => cv (by unfold isE; omega)) hp
        · have pl := plain_3 ok hop j tr
          rw [← p1] at pl
          rw [dX_pl (by decide), sM_oo (by decide) (by decide) (by decide) (by decide) (by decide)]
          exact endA ok pl (fun _ _ _ => cv (by unfold isE; omega)) hp
      by_cases c2 : op ≤ 15
      · have d1 : ∀ op, op < 16 → ¬ op ≤ 3 → (3 : Int32) < Int32.ofNat op ∧ ¬ (15 : Int32) < Int32.ofNat op ∧ (4 ≤ Int32.ofNat op ∧ Int32.ofNat op ≤ 15) := by decide
        obtain ⟨q1, q2, q3⟩ := d1 op (by omega) c1
        rw [dX_ar q1 q2, sM_ar q3]
        exact endA ok (arith_ok (by omega) c2 j tr) (fun _ _ _ => cv (by unfold isE; omega)) hp
      by_cases c3 : op ≤ 18
      · rcases (show op = 16 ∨ op = 17 ∨ op = 18 by omega) with e | e | e <;> subst e
        · have pl := plain_16 ok j tr
          rw [← p1] at pl
          rw [dX_pp (by decide) (by decide), sM_oo (by decide) (by decide) (by decide) (by decide) (by decide)]
          exact endA ok pl (fun _ _ _ => cv (by unfold isE; omega)) hp
        · have pl := plain_17 ok j tr
          rw [← p1] at pl
          rw [dX_pp (by decide) (by decide), sM_oo (by decide) (by decide) (by decide) (by decide) (by decide)]
          exact endA ok pl (fun _ _ _ => cv (by unfold isE; omega)) hp
        · have pl := plain_18 ok j tr
          rw [← p1] at pl
          rw [dX_pp (by decide) (by decide), sM_oo (by decide) (by decide) (by decide) (by decide) (by decide)]
          exact endA ok pl (fun _ _ _ => cv (by unfold isE; omega)) hp
      by_cases c4 : op ≤ 25
      · have d1 : ∀ op, op < 26 → ¬ op ≤ 18 → (3 : Int32) < Int32.ofNat op ∧ (15 : Int32) < Int32.ofNat op ∧ f_P_jumps (Int32.ofNat op) = true := by decide
        obtain ⟨q1, q2, q3⟩ := d1 op (by omega) c3
        rw [dX_ju q1 q2 q3]
        exact endJ ok hop (by omega) c4 j tr (tj ⟨by omega, c4⟩) (fun q => cv (by unfold isE; omega))
      by_cases c5 : op = 26
      · subst c5
        obtain ⟨z, ez, mk⟩ := make26_ok ok hop j tr
        have e : Int32.ofNat 26 = 26 := rfl
        rw [e] at hp ⊢
        rw [dX_26, p1, sM_oo (x3 := 26) (by decide) (by decide) (by decide) (by decide) (by decide)]
        exact wo_at ez (endA ok mk (fun _ _ _ => cv (by unfold isE; omega)) hp)
      by_cases c6 : op ≤ 30
      · have d1 : ∀ op, op < 31 → ¬ op ≤ 26 → Hi (Int32.ofNat op) ∧ f_P_usesField (Int32.ofNat op) = true ∧ ¬ ((4 : Int32) ≤ Int32.ofNat op ∧ Int32.ofNat op ≤ 15) ∧ ¬ ((19 : Int32) ≤ Int32.ofNat op ∧ Int32.ofNat op ≤ 25) ∧ (27 ≤ Int32.ofNat op ∧ Int32.ofNat op ≤ 30) := fun op _ _ => by
          rcases (show op = 27 ∨ op = 28 ∨ op = 29 ∨ op = 30 by omega) with e | e | e | e <;> subst e <;> decide
        obtain ⟨q1, q2, q3, q4, q5⟩ := d1 op (by omega) (by omega)
        rw [dX_fi q1 q2, sM_fi q3 q4 q5]
        obtain ⟨V, md⟩ := j.1
        have t6 := md.t6
        have d20 := md.tp.d20
        have m24 := md.mt.1.1
        have e89 := md.f89
        have cl : (Int32.ofNat (20 * k.t + k.d)).toNatClampNeg = 20 * k.t + k.d := o_cl _ (by omega)
        have ex : (1440 : Int32) + 60 * Int32.ofNat k.m + Int32.ofNat k.i = Int32.ofNat (1440 + (60 * k.m + k.i)) := by
          rw [o_mulL, o_addL, o_add]
          congr 1
          show 1440 + 60 * k.m + k.i = _
          omega
        rw [e89, if_pos (ixl (by omega) (by omega)), cl, md.tp.m112, md.tp.m113, ex, if_pos (ixl (by omega) (by omega)), o_cl _ (by omega)]
        rcases (show (op = 27 ∨ op = 29) ∨ (op = 28 ∨ op = 30) by omega) with e | e
        · have fg := fget_ok ok (by rw [hop]; exact e) j (by rw [hop]; exact tr)
          rw [hop] at fg
          exact endA ok fg (fun _ _ _ => cv (by unfold isE; omega)) hp
        · have fg := fput_ok ok (by rw [hop]; exact e) j (by rw [hop]; exact tr)
          rw [hop] at fg
          exact endA ok fg (fun _ _ _ => cv (by unfold isE; omega)) hp
      by_cases c7 : op ≤ 37
      · have d1 : ∀ op, op < 38 → ¬ op ≤ 30 → ¬ ((4 : Int32) ≤ Int32.ofNat op ∧ Int32.ofNat op ≤ 15) ∧ ¬ ((19 : Int32) ≤ Int32.ofNat op ∧ Int32.ofNat op ≤ 25) ∧ ¬ (27 ≤ Int32.ofNat op ∧ Int32.ofNat op ≤ 30) ∧ (31 ≤ Int32.ofNat op ∧ Int32.ofNat op ≤ 37) := by decide
        obtain ⟨q1, q2, q3, q4⟩ := d1 op (by omega) c6
        rw [sM_av q1 q2 q3 q4]
        rcases (show op = 31 ∨ op = 35 ∨ op = 34 ∨ (op = 32 ∨ op = 36) ∨ (op = 33 ∨ op = 37) by omega) with e | e | e | e | e
        · subst e
          have mk := makeA_ok ok (Or.inl rfl) j tr va
          have e : Int32.ofNat 31 = 31 := rfl
          rw [e] at hp mk ⊢
          rw [dX_31, p1]
          exact wo_at ea (endA ok mk (fun _ _ _ => cv (by unfold isE; omega)) hp)
        · subst e
          have mk := makeA_ok ok (Or.inr rfl) j tr va
          have e : Int32.ofNat 35 = 35 := rfl
          rw [e] at hp mk ⊢
          rw [dX_35, p1]
          exact wo_at ea (endA ok mk (fun _ _ _ => cv (by unfold isE; omega)) hp)
        · subst e
          have e : Int32.ofNat 34 = 34 := rfl
          rw [e] at hp ⊢
          rw [dX_34]
          exact endA ok (length_ok ok j tr) (fun _ _ _ => cv (by unfold isE; omega)) hp
        · have d2 : Hi (Int32.ofNat op) ∧ ¬ f_P_usesField (Int32.ofNat op) = true ∧ ¬ Int32.ofNat op = 34 ∧ (32 ≤ Int32.ofNat op ∧ Int32.ofNat op ≤ 37) := by rcases e with e | e <;> subst e <;> decide
          rw [dX_lp d2.1 d2.2.1 d2.2.2.1 d2.2.2.2]
          exact endA ok (get_ok ok e j tr) (fun _ _ _ => cv (by unfold isE; omega)) hp
        · have d2 : Hi (Int32.ofNat op) ∧ ¬ f_P_usesField (Int32.ofNat op) = true ∧ ¬ Int32.ofNat op = 34 ∧ (32 ≤ Int32.ofNat op ∧ Int32.ofNat op ≤ 37) := by rcases e with e | e <;> subst e <;> decide
          rw [dX_lp d2.1 d2.2.1 d2.2.2.1 d2.2.2.2]
          exact endA ok (putp_ok ok e j tr) (fun _ _ _ => cv (by unfold isE; omega)) hp
      by_cases c8 : op ≤ 43
      · have d1 : ∀ op, op < 44 → ¬ op ≤ 37 → Hj (Int32.ofNat op) ∧ (38 ≤ Int32.ofNat op ∧ Int32.ofNat op ≤ 43) ∧ Lo (Int32.ofNat op) := fun op _ _ => by
          rcases (show op = 38 ∨ op = 39 ∨ op = 40 ∨ op = 41 ∨ op = 42 ∨ op = 43 by omega) with e | e | e | e | e | e <;> subst e <;> decide
        obtain ⟨q1, q2, q3⟩ := d1 op (by omega) c7
        rw [dX_ca q1 q2, p1]
        rcases (show op = 38 ∨ op = 39 ∨ (40 ≤ op ∧ op ≤ 42) ∨ op = 43 by omega) with e | e | e | e
        · subst e
          obtain ⟨z, ez, cc⟩ := call38_ok ok hop j tr (cv (by unfold isE; omega))
          have e : Int32.ofNat 38 = 38 := rfl
          rw [e] at ⊢
          rw [sM_38 j.2]
          exact wo_at ez (endC ok cc)
        · subst e
          obtain ⟨z, ez, cc⟩ := call39_ok ok hop j tr (cv (by unfold isE; omega))
          have e : Int32.ofNat 39 = 39 := rfl
          rw [e] at ⊢
          rw [sM_39]
          exact wo_at ez (endC ok cc)
        · have d2 : ∀ op, op < 43 → 40 ≤ op → ¬ Int32.ofNat op = 38 ∧ ¬ Int32.ofNat op = 39 ∧ ¬ Int32.ofNat op = 43 ∧ (40 ≤ Int32.ofNat op ∧ Int32.ofNat op ≤ 42) := by decide
          obtain ⟨u1, u2, u3, u4⟩ := d2 op (by omega) e.1
          have e68 := po.2.2.2.2.2.2.2.2.1 e
          have gb := give_ok ok e.1 e.2 e68 j tr
          rw [sM_gb q3 u1 u2 u4]
          refine wo_at ea ?_
          have ec : f_Engine_doCall (C (600 + 16 * k.t)) (Int32.ofNat op) va X = f_Engine_giveBack (C (600 + 16 * k.t)) (Int32.ofNat op) X := by
            unfold f_Engine_doCall
            rw [if_neg u1, if_neg u2, if_neg u3, bdx]
          rw [ec]
          exact endC ok gb
        · subst e
          have th := throw_ok (z := va) j tr
          have e : Int32.ofNat 43 = 43 := rfl
          rw [e] at hp ⊢
          rw [sM_oo (x3 := 43) (by decide) (by decide) (by decide) (by decide) (by decide)]
          refine wo_at ea (endA ok th (fun o eo z0 => ?_) hp)
          exfalso
          unfold f_Engine_doCall at eo
          rw [if_neg (by decide), if_neg (by decide), if_pos (by decide), if_pos j.x] at eo
          cases ep : f_Strand_pop (C (600 + 16 * k.t)) X with
          | none => rw [ep] at eo; cases eo
          | some q =>
            rw [ep, Option.bind_some] at eo
            dsimp only [lt] at eo
            split at eo
            · injection eo with eo
              rw [← eo] at z0
              exact absurd (show (10 : Int32) = 0 from z0) (by decide)
            · injection eo with eo
              rw [← eo] at z0
              exact absurd (show (1 : Int32) = 0 from z0) (by decide)
      by_cases c9 : op ≤ 47
      · rcases (show op = 44 ∨ op = 45 ∨ op = 46 ∨ op = 47 by omega) with e | e | e | e <;> subst e
        · have pl := plain_44 ok hop j tr
          rw [← p1] at pl
          rw [dX_pp (by decide) (by decide), sM_oo (by decide) (by decide) (by decide) (by decide) (by decide)]
          exact endA ok pl (fun _ _ _ => cv (by unfold isE; omega)) hp
        · have pl := plain_45 ok j tr
          rw [← p1] at pl
          rw [dX_pp (by decide) (by decide), sM_oo (by decide) (by decide) (by decide) (by decide) (by decide)]
          exact endA ok pl (fun _ _ _ => cv (by unfold isE; omega)) hp
        · have pl := plain_46 ok hoc j tr
          rw [← p1] at pl
          rw [dX_pp (by decide) (by decide), sM_oo (by decide) (by decide) (by decide) (by decide) (by decide)]
          exact endA ok pl (fun _ _ _ => cv (by unfold isE; omega)) hp
        · have pl := plain_47 ok j tr
          rw [← p1] at pl
          rw [dX_pp (by decide) (by decide), sM_oo (by decide) (by decide) (by decide) (by decide) (by decide)]
          exact endA ok pl (fun _ _ _ => cv (by unfold isE; omega)) hp
      by_cases c10 : op = 48
      · subst c10
        have bg := begin_ok ok hop j tr
        have e : Int32.ofNat 48 = 48 := rfl
        rw [e] at hp ⊢
        rw [dX_48, sM_48]
        exact endA ok bg (fun _ _ _ => cv (by unfold isE; omega)) hp
      by_cases c11 : op ≤ 50
      · have eo : op = 49 ∨ op = 50 := by omega
        rw [dX_mo eo, sM_mo eo]
        exact endA ok (mon_ok eo j tr nw) (fun _ _ _ => cv (by unfold isE; omega)) hp
      · have d1 : ∀ op, op < 56 → ¬ op ≤ 51 → Hk (Int32.ofNat op) ∧ (52 ≤ Int32.ofNat op ∧ Int32.ofNat op ≤ 55) ∧ Lp (Int32.ofNat op) ∧ ¬ Int32.ofNat op = 48 ∧ ¬ Int32.ofNat op = 49 ∧ ¬ Int32.ofNat op = 50 := fun op _ _ => by
          rcases (show op = 52 ∨ op = 53 ∨ op = 54 ∨ op = 55 by omega) with e | e | e | e <;> subst e <;> decide
        obtain ⟨q1, q2, q3, q4, q5, q6⟩ := d1 op f3 (by omega)
        obtain ⟨s, hs, es, ez⟩ := sta_od j.1 ok (by omega) (by omega)
        rw [dX_st q1 q2, p1, sM_st q3 q4 q5 q6 q2]
        rw [es] at tr ⊢
        exact wo_at ez (endA ok (static_ok (by omega) (by omega) hs j tr) (fun _ _ _ => cv (by unfold isE; omega)) hp)
