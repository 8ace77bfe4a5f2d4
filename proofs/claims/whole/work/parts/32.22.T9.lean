/-! T9 -/
set_option maxRecDepth 20000 in
set_option maxHeartbeats 4000000 in
theorem fl_pos {f : Nat} (h1 : 1 ≤ f) (h2 : f ≤ 10) : ¬ Int32.ofNat f = 0 ∧ ¬ Int32.ofNat f ≤ 0 := by
  constructor
  · rw [o_eqR _ _ (by omega) (by decide)]; show ¬ f = 0; omega
  · rw [o_leR _ _ (by omega) (by decide)]; show ¬ f ≤ 0; omega
set_option maxRecDepth 20000 in
set_option maxHeartbeats 4000000 in
/-- an exception ends a step -/
theorem endF {k : Kx} {A : HG} {nb oc : Nat} {W : Nat → Int32} {T C : Nat → Nat} {n f x a : Nat} {o : Int32 × XS} {V M1 : MS} (ok : k.c.Ok) (h1 : oc ≤ k.oc + 1) (h2 : k.nb ≤ nb) (hW : ∀ f, 1 ≤ f → f ≤ 64 → W f = k.W f) (hC : C (600 + 16 * k.t) = a) (ef : o.1 = Int32.ofNat f) (mf : Mf (k.ch A nb oc W) T C n o.2 V M1 f x) (opb op p : Int32) : Wo (tX a opb p o) (fun X' => Wo (tM1 (Int32.ofNat k.t) op M1) (fun M' => RnO k op X' M') ∧ Wo (tM0 (Int32.ofNat k.t) op M1) (fun M' => RnO k op X' M')) := by
  obtain ⟨f90, f1, f2⟩ := mf.f90
  obtain ⟨p1, p2⟩ := fl_pos f1 f2
  obtain ⟨X', r1, M', r2, V', r3⟩ := raise_ok (k := k.ch A nb oc W) ok mf
  have r1' : f_Engine_raise a o.1 o.2 = some X' := by rw [← hC, ef]; exact r1
  have r2' : f_M_unwind (Int32.ofNat k.t) M1 = some M' := r2
  have fin := Rn.fin (k := k) r3 h1 h2 hW op
  unfold tX tM1 tM0
  rw [if_pos (by rw [ef]; exact p1), if_neg (by rw [ef]; exact p2), r1', Option.bind_some, if_neg (by rw [f90]; exact p2), if_neg (by rw [f90]; exact p2), r2', Option.bind_some, Option.bind_some]
  exact W_some.mpr ⟨fin, fin⟩
set_option maxRecDepth 20000 in
set_option maxHeartbeats 4000000 in
theorem endA {k : Kx} {a : Nat} {g' : Nat → Int32} {h' : Nat} {l' : Nat → Int32} {dx : Option (Int32 × XS)} {dm : Option MS} {opb op p : Int32} (ok : k.c.Ok) (hw : Wo dx (fun o => Wo dm (fun M1 => OutA k a g' h' l' o M1))) (cv : ∀ o, dx = some o → o.1 = 0 → Cov k.S (k.i + 1) g' h' l') (hp : p + f_P_bytesOf opb = Int32.ofNat (caN k.c.Mr k.m + off k.c.Mr k.m (k.i + 1))) : Wo (dx.bind (tX a opb p)) (fun X' => Wo (dm.bind (tM1 (Int32.ofNat k.t) op)) (fun M' => RnO k op X' M')) := by
  obtain ⟨o, e1, M1, e2, A, nb, oc, W, T, C, n, h1, h2, hW, hC, alt⟩ := hw
  rw [e1, e2, Option.bind_some, Option.bind_some]
  rcases alt with ⟨z1, z2, j⟩ | ⟨f, x, V, ef, mf⟩
  · have jx : xT o.2 (C (600 + 16 * k.t)) = some (14, 0) := j.x
    obtain ⟨V, md⟩ := j
    have t6 := md.t6
    have d20 := md.tp.d20
    have nx := Md.next md (cv o e1 z1)
    have e89 : M1.1 60 89 = Int32.ofNat (20 * k.t + k.d) := md.f89
    have e113 : M1.1 113 (20 * k.t + k.d) = Int32.ofNat k.i := md.tp.m113
    have fin := Rn.fin (k := k) nx h1 h2 hW op
    have t6' : k.t < 6 := t6.2.1
    have d20' : k.d < 20 := d20
    have cl : (Int32.ofNat (20 * k.t + k.d)).toNatClampNeg = 20 * k.t + k.d := o_cl _ (by omega)
    unfold tX tM1
    rw [if_neg (fun q => q z1), ← hC, if_pos jx, hp, z2, if_pos (Int32.le_refl _), e89, if_pos (ixl (by omega) (by omega)), cl, e113, o_addR]
    exact W_some.mpr fin
  · obtain ⟨X', r1, r2, r3⟩ := endF ok h1 h2 hW hC ef mf opb op p
    rw [r1]
    exact W_some.mpr r2
set_option maxRecDepth 20000 in
set_option maxHeartbeats 4000000 in
theorem endC {k : Kx} {T C : Nat → Nat} {n : Nat} {dx : Option (Int32 × XS)} {dm : Option MS} {opb op p : Int32} (ok : k.c.Ok) (hw : Wo dx (fun o => Wo dm (fun M1 => OutC k T C n o M1))) : Wo (dx.bind (tX (C (600 + 16 * k.t)) opb p)) (fun X' => Wo (dm.bind (tM0 (Int32.ofNat k.t) op)) (fun M' => RnO k op X' M')) := by
  obtain ⟨o, e1, M1, e2, alt⟩ := hw
  rw [e1, e2, Option.bind_some, Option.bind_some]
  rcases alt with ⟨z1, z2, V, r⟩ | ⟨f, x, V, ef, mf⟩
  · have fin := Rn.fin (k := k) r (by omega) (by omega) (fun _ _ _ => rfl) op
    unfold tX tM0
    rw [if_pos (by rw [z1]; decide), if_pos (by rw [z1]; decide), z2, if_pos (Int32.le_refl _), Option.bind_some]
    exact W_some.mpr fin
  · obtain ⟨X', r1, r2, r3⟩ := endF (k := k) (A := k.A) (nb := k.nb) (oc := k.oc) (W := k.W) ok (by omega) (by omega) (fun _ _ _ => rfl) rfl ef mf opb op p
    rw [r1]
    exact W_some.mpr r3
set_option maxRecDepth 20000 in
set_option maxHeartbeats 4000000 in
/-- a jump -/
theorem endJ {k : Kx} {T C : Nat → Nat} {n : Nat} {X : XS} {M : MS} {g g' : Nat → Int32} {h h' op : Nat} {l l' : Nat → Int32} (ok : k.c.Ok) (hop : opN k.c.Mr k.m k.i = op) (h1 : 19 ≤ op) (h2 : op ≤ 25) (j : Jz k T C n X M g h l) (tr : Tr k.c.Mr k.c.rc op (odI k.c.Mr k.m k.i) g h l = some (g', h', l')) (cj : (odI k.c.Mr k.m k.i).toNatClampNeg < sz k.c.Mr k.m ∧ Cov k.S (odI k.c.Mr k.m k.i).toNatClampNeg g' h' l') (cn : op ≠ 19 → Cov k.S (k.i + 1) g' h' l') : Wo ((f_Engine_doJump (C (600 + 16 * k.t)) (Int32.ofNat op) (Int32.ofNat (caN k.c.Mr k.m + off k.c.Mr k.m k.i)) X).bind (tX (C (600 + 16 * k.t)) (Int32.ofNat op) (Int32.ofNat (caN k.c.Mr k.m + off k.c.Mr k.m k.i)))) (fun X' => Wo (sM (Int32.ofNat k.t) (Int32.ofNat op) (odI k.c.Mr k.m k.i) M) (fun M' => RnO k (Int32.ofNat op) X' M')) := by
  have n1 : ¬ ((4 : Int32) ≤ Int32.ofNat op ∧ Int32.ofNat op ≤ 15) := by rw [o_leR _ _ (by omega) (by decide)]; intro q; have : op ≤ 15 := q.2; omega
  have n2 : (19 : Int32) ≤ Int32.ofNat op ∧ Int32.ofNat op ≤ 25 := by rw [o_leR _ _ (by omega) (by decide), o_leL _ _ (by decide) (by omega)]; exact ⟨h1, h2⟩
  obtain ⟨b, X1, M1, s1, s2, s3⟩ := jumps_ok h1 h2 j tr
  have s3x := s3.x
  obtain ⟨⟨V1, md⟩, z⟩ := s3
  have t6 := md.t6
  have d20 := md.tp.d20
  have e89 := md.f89
  have e113 := md.tp.m113
  have cl : (Int32.ofNat (20 * k.t + k.d)).toNatClampNeg = 20 * k.t + k.d := o_cl _ (by omega)
  have ix : ixo (Int32.ofNat (20 * k.t + k.d)) 120 := ixl (by omega) (by omega)
  rw [sM_ju n1 n2, s2, Option.bind_some]
  unfold f_Engine_doJump
  rw [s1, Option.bind_some]
  dsimp only
  cases b with
  | true =>
    obtain ⟨i1, i2, i3, i4, _⟩ := Jm.im (X := X1) (M := M1) ⟨V1, md⟩ ok
    obtain ⟨f0, f1, f2, f3, f4, f5, f6, f7⟩ := ins_facts i2 i3 i4
    have ej : Int32.ofNat (odI k.c.Mr k.m k.i).toNatClampNeg = odI k.c.Mr k.m k.i := by
      have po := f6.1.2.2.1 (by rw [hop]; exact ⟨h1, h2⟩)
      have hj := cj.1
      rw [← Int32.toInt_inj, oi _ (by omega)]
      exact clampI _ po.1
    have nx := Md.next md cj.2
    rw [ej] at nx
    have fin := Rn.fin (k := k) nx (by omega) (by omega) (fun _ _ _ => rfl) (Int32.ofNat op)
    have r0 := md.rv.rd (Lv_s (f := 0) t6.1 (by omega) : Lv n (600 + 16 * k.t))
    have ca := codeAt_51 i1 i2 i3.1 i3.2.1
    have jl := caN_le i2 i3.1 i3.2.1 cj.1
    have l3 : ln (opN k.c.Mr k.m k.i) (odI k.c.Mr k.m k.i) = 3 := by
      unfold ln ln0
      rw [hop, if_neg (by omega), if_neg (by omega), if_pos (by omega)]
    have b1 := ins_at i1 i2 i3 i4 (j := 1) (by omega)
    have b2 := ins_at i1 i2 i3 i4 (j := 2) (by omega)
    have oL : opL k.c.Mr k.m (opN k.c.Mr k.m k.i) (odI k.c.Mr k.m k.i) = Int32.ofNat op :: w2 (Int32.ofNat (off k.c.Mr k.m (odI k.c.Mr k.m k.i).toNatClampNeg)) := by
      unfold opL
      rw [hop, if_neg (by omega), if_pos ⟨h1, h2⟩]
    rw [oL] at b1 b2
    have two : f_Image_two_51 (Int32.ofNat (caN k.c.Mr k.m + off k.c.Mr k.m k.i) + 1) X1 = some (Int32.ofNat (off k.c.Mr k.m (odI k.c.Mr k.m k.i).toNatClampNeg)) := by
      unfold f_Image_two_51
      rw [o_addR, o_addR]
      have b1' : f_Image_at_51 (Int32.ofNat (caN k.c.Mr k.m + off k.c.Mr k.m k.i + OfNat.ofNat 1)) X1 = some ((w2 (Int32.ofNat (off k.c.Mr k.m (odI k.c.Mr k.m k.i).toNatClampNeg))).getD 0 0 &&& 255) := b1
      have b2' : f_Image_at_51 (Int32.ofNat (caN k.c.Mr k.m + off k.c.Mr k.m k.i + OfNat.ofNat 1 + OfNat.ofNat 1)) X1 = some ((w2 (Int32.ofNat (off k.c.Mr k.m (odI k.c.Mr k.m k.i).toNatClampNeg))).getD 1 0 &&& 255) := b2
      rw [b1', Option.bind_some, b2', Option.bind_some, w2_two (by omega)]
    rw [if_pos rfl, if_pos s3x, r0, md.tp.v3, ca, Option.bind_some, two, Option.bind_some]
    dsimp only [lt]
    rw [Option.bind_some, o_add]
    have tx : ∀ X2 : XS, tX (C (600 + 16 * k.t)) (Int32.ofNat op) (Int32.ofNat (caN k.c.Mr k.m + off k.c.Mr k.m k.i)) ((-1), X2) = some X2 := fun X2 => by
      unfold tX
      dsimp only
      rw [if_pos (by decide), if_pos (by decide)]
    rw [tx, if_pos rfl, e89, if_pos ix, cl]
    refine W_some.mpr ?_
    unfold tM0
    have z0 : (mw M1 113 (20 * k.t + k.d) (odI k.c.Mr k.m k.i)).1 60 90 = 0 := by rw [mwr _ _ _ (by omega)]; exact z
    rw [z0, if_pos (Int32.le_refl _), Option.bind_some]
    exact fin
  | false =>
    have ne : op ≠ 19 := by
      intro e
      subst e
      unfold f_M_jumps at s2
      rw [if_neg (by decide)] at s2
      cases s2
    have nx := Md.next md (cn ne)
    have fin := Rn.fin (k := k) nx (by omega) (by omega) (fun _ _ _ => rfl) (Int32.ofNat op)
    obtain ⟨i1, i2, i3, i4, _⟩ := Jm.im (X := X1) (M := M1) ⟨V1, md⟩ ok
    have on := off_next i2 i3 i4
    have lo : ln (opN k.c.Mr k.m k.i) (odI k.c.Mr k.m k.i) = ln0 op := by unfold ln; rw [hop, if_neg (by omega)]
    rw [if_neg (by decide), Option.bind_some, if_neg (by decide), e89, if_pos ix, cl, e113, o_addR]
    unfold tX
    dsimp only [lt]
    rw [if_neg (fun q => q rfl), if_pos s3x, bytesOf_eq op (by omega) (by omega), o_add]
    refine W_some.mpr ?_
    unfold tM0
    have z0 : (mw M1 113 (20 * k.t + k.d) (Int32.ofNat (k.i + OfNat.ofNat 1))).1 60 90 = 0 := by rw [mwr _ _ _ (by omega)]; exact z
    rw [z0, if_pos (Int32.le_refl _), Option.bind_some]
    rw [on, lo, ← Nat.add_assoc] at fin
    exact fin
