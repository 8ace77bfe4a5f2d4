/-! Q3 -/
set_option maxRecDepth 20000 in
set_option maxHeartbeats 4000000 in
theorem give_ok {k : Kx} {T C : Nat → Nat} {n op : Nat} {X : XS} {M : MS} {g g' l l' : Nat → Int32} {h h' : Nat} {od : Int32} (ok : k.c.Ok) (h40 : 40 ≤ op) (h42 : op ≤ 42) (e68 : k.c.Mr.1 68 k.m = Int32.ofNat (op - 40)) (j : Jz k T C n X M g h l) (tr : Tr k.c.Mr k.c.rc op od g h l = some (g', h', l')) : Wo (f_Engine_giveBack (C (600 + 16 * k.t)) (Int32.ofNat op) X) (fun o => Wo (f_M_giveBack (Int32.ofNat k.t) (Int32.ofNat op) M) (fun M' => OutC k T C n o M')) := by
  obtain ⟨hh, p1, p2⟩ := tr_def (by omega) (by omega) (by omega) (by omega) (by omega) (by omega) tr
  obtain ⟨b1, b2, b3⟩ := tk_g
  obtain ⟨x, X1, v, M1, h1, ex, em, j1, vr⟩ : ∃ x X1 v M1 h1, ((if ¬ Int32.ofNat op = 40 then (if (xT X (C (600 + 16 * k.t)) = some (14, 0)) then ((f_Strand_pop (C (600 + 16 * k.t)) X).bind fun x3 => some (x3.1, x3.2)) else none) else some (0, X)) : Option (Int32 × XS)) = some (x, X1) ∧ ((if ¬ Int32.ofNat op = 40 then ((f_M_takeValue M).bind fun x2 => some (x2.1, x2.2)) else some (0, M)) : Option (Int32 × MS)) = some (v, M1) ∧ Jz k T C n X1 M1 g h1 l ∧ VR k (Int32.ofNat (op - 40)) x v := by
    by_cases c : op = 40
    · subst c
      exact ⟨0, X, 0, M, h, if_neg (fun q => q rfl), if_neg (fun q => q rfl), j, ⟨fun q => absurd q (by decide), fun q => absurd q (by decide)⟩⟩
    · have n40 : ¬ Int32.ofNat op = 40 := by rw [o_eqR _ _ (by omega) (by decide)]; exact c
      have tk : tkL op = [Int32.ofNat (op - 40)] := by
        rcases (show op = 41 ∨ op = 42 by omega) with e | e <;> subst e
        · exact b2
        · exact b3
      rw [tk] at p1
      obtain ⟨a, ea, ga, p3⟩ := popsK_cons p1
      subst ea
      have gz : ¬ Int32.ofNat (op - 40) = 0 := by rw [o_eqR _ _ (by omega) (by decide)]; show ¬ op - 40 = 0; omega
      obtain ⟨x, X1, v, M1, s1, s2, s3, s4, s5⟩ := Z_pop j
      refine ⟨x, X1, v, M1, a, ?_, ?_, s3, ?_⟩
      · rw [if_pos n40, if_pos j.x, s1]; rfl
      · rw [if_pos n40, s2]; rfl
      · rw [← g1 ga gz]; exact s4
  obtain ⟨⟨V1, md1⟩, z1⟩ := j1
  obtain ⟨t1, t2, t3⟩ := md1.t6
  have sx := (md1.rv.sc t1).x
  have bk := back_ok ok h40 h42 md1 z1 e68 vr
  unfold f_Engine_giveBack f_M_giveBack
  rw [ex, em, Option.bind_some, Option.bind_some]
  dsimp only
  rw [if_pos sx, if_pos (ixl t2 (by omega)), W_bind]
  have clt : (Int32.ofNat k.t).toNatClampNeg = k.t := o_cl _ (by omega)
  simp only [clt]
  obtain ⟨x6, e6, b6⟩ := bk
  refine ⟨x6, e6, ?_⟩
  have sx6 : xT x6 (C (600 + 16 * k.t)) = some (14, 0) := by
    unfold f_Strand_leave at e6
    by_cases hd : k.d = 0
    · have e2 : X1.1 (C (600 + 16 * k.t)) 2 = 1 := by rw [md1.rv.rd (Lv_s (f := 0) t1 (by omega) : Lv n (600 + 16 * k.t)), md1.tp.v2, hd]; rfl
      have := leave_1 sx e2
      unfold f_Strand_leave at this
      rw [this] at e6
      cases e6
      exact sx
    · obtain ⟨d, hd'⟩ : ∃ d, k.d = d + 1 := ⟨k.d - 1, by omega⟩
      obtain ⟨m, i, S, h', g2, h2, l2, X2, V2, e1, md2, _⟩ := leave_md md1 (Ag.refl k M1) hd'
      unfold f_Strand_leave at e1
      rw [e1] at e6
      cases e6
      exact (md2.rv.sc t1).x
  show Wo (if xT x6 (C (600 + 16 * k.t)) = some (14, 0) then _ else none) _
  rw [if_pos sx6]
  exact b6
/-- a row that is made and kept in a field -/
def nxr (X : XS) (a f L : Nat) : XS := xp (xn X 0 L) a f (some (xA X))
set_option maxRecDepth 20000 in
set_option maxHeartbeats 4000000 in
theorem nxr1 (X : XS) (a f L b : Nat) : (nxr X a f L).1 b = if b = xA X then (fun _ => 0) else X.1 b := by
  funext j
  unfold nxr
  rw [xp1, xn1]
  by_cases h : b = xA X
  · rw [if_pos h, if_pos h]
  · rw [if_neg h, if_neg h]
theorem nxr2 (X : XS) (a f L b j : Nat) : (nxr X a f L).2.1 b j = if b = a ∧ j = f then some (xA X) else if b = xA X then none else X.2.1 b j := by
  unfold nxr
  rw [xp2, xn2]
theorem nxrA (X : XS) (a f L : Nat) : xA (nxr X a f L) = xA X + 1 := by
  unfold nxr
  rw [xAp, xAn]
theorem nxrT (X : XS) (a f L b : Nat) : xT (nxr X a f L) b = if b = xA X then some (0, L) else xT X b := by
  unfold nxr
  rw [xTp, xTn]
def newS (X : XS) : XS := nxr (nxr (nxr (nxr (nxr (xn X 14 0) (xA X) 5 440) (xA X) 6 440) (xA X) 9 20) (xA X) 10 20) (xA X) 11 20
set_option maxRecDepth 20000 in
set_option maxHeartbeats 4000000 in
theorem newS_eq (X : XS) : f_Strand_init (xA X) (xn X 14 0) = some (newS X) := by
  have a0 : xA (xn X 14 0) = xA X + 1 := xAn _ _ _
  have x0 : xT (xn X 14 0) (xA X) = some (14, 0) := by rw [xTn, if_pos rfl]
  have st : ∀ Y f L, xT Y (xA X) = some (14, 0) → xT (xn Y 0 L) (xA X) = some (14, 0) ∧ xT (nxr Y (xA X) f L) (xA X) = some (14, 0) := by
    intro Y f L h
    have : xA X ≠ xA Y := by have := xT_lt h; omega
    exact ⟨by rw [xTn, if_neg this]; exact h, by rw [nxrT, if_neg this]; exact h⟩
  have s1 := st (xn X 14 0) 5 440 x0
  have s2 := st _ 6 440 s1.2
  have s3 := st _ 9 20 s2.2
  have s4 := st _ 10 20 s3.2
  have s5 := st _ 11 20 s4.2
  unfold f_Strand_init
  exact (if_pos s1.1).trans ((if_pos s2.1).trans ((if_pos s3.1).trans ((if_pos s4.1).trans (if_pos s5.1))))
theorem newS_A (X : XS) : xA (newS X) = xA X + 6 := by
  unfold newS
  rw [nxrA, nxrA, nxrA, nxrA, nxrA, xAn]
set_option maxRecDepth 20000 in
set_option maxHeartbeats 4000000 in
theorem newS_lt (X : XS) {b : Nat} (hb : b < xA X) : (newS X).1 b = X.1 b ∧ (newS X).2.1 b = X.2.1 b ∧ xT (newS X) b = xT X b := by
  unfold newS
  refine ⟨?_, ?_, ?_⟩
  · rw [nxr1, nxr1, nxr1, nxr1, nxr1, nxrA, nxrA, nxrA, nxrA, xAn, if_neg (by omega), if_neg (by omega), if_neg (by omega), if_neg (by omega), if_neg (by omega)]
    funext j
    rw [xn1, if_neg (by omega)]
  · funext j
    rw [nxr2, nxr2, nxr2, nxr2, nxr2, nxrA, nxrA, nxrA, nxrA, xAn, xn2]
    rw [if_neg (by omega), if_neg (by omega), if_neg (by omega), if_neg (by omega), if_neg (by omega), if_neg (by omega), if_neg (by omega), if_neg (by omega), if_neg (by omega), if_neg (by omega), if_neg (by omega)]
  · rw [nxrT, nxrT, nxrT, nxrT, nxrT, nxrA, nxrA, nxrA, nxrA, xAn, xTn, if_neg (by omega), if_neg (by omega), if_neg (by omega), if_neg (by omega), if_neg (by omega), if_neg (by omega)]
set_option maxRecDepth 20000 in
set_option maxHeartbeats 4000000 in
theorem newS_0 (X : XS) {b : Nat} (h1 : xA X ≤ b) (h2 : b < xA X + 6) : (newS X).1 b = fun _ => 0 := by
  unfold newS
  rw [nxr1, nxr1, nxr1, nxr1, nxr1, nxrA, nxrA, nxrA, nxrA, xAn]
  rcases (show b = xA X ∨ b = xA X + 1 ∨ b = xA X + 2 ∨ b = xA X + 3 ∨ b = xA X + 4 ∨ b = xA X + 5 by omega) with e | e | e | e | e | e
  · rw [if_neg (by omega), if_neg (by omega), if_neg (by omega), if_neg (by omega), if_neg (by omega)]
    funext j
    rw [xn1, if_pos e]
  · rw [if_neg (by omega), if_neg (by omega), if_neg (by omega), if_neg (by omega), if_pos (by omega)]
  · rw [if_neg (by omega), if_neg (by omega), if_neg (by omega), if_pos (by omega)]
  · rw [if_neg (by omega), if_neg (by omega), if_pos (by omega)]
  · rw [if_neg (by omega), if_pos (by omega)]
  · rw [if_pos (by omega)]
set_option maxRecDepth 20000 in
set_option maxHeartbeats 4000000 in
theorem newS_t (X : XS) : xT (newS X) (xA X) = some (14, 0) ∧ xT (newS X) (xA X + 1) = some (0, 440) ∧ xT (newS X) (xA X + 2) = some (0, 440) ∧ xT (newS X) (xA X + 3) = some (0, 20) ∧ xT (newS X) (xA X + 4) = some (0, 20) ∧ xT (newS X) (xA X + 5) = some (0, 20) := by
  unfold newS
  rw [nxrT, nxrT, nxrT, nxrT, nxrT, nxrT, nxrT, nxrT, nxrT, nxrT, nxrT, nxrT, nxrT, nxrT, nxrT, nxrT, nxrT, nxrT, nxrT, nxrT, nxrT, nxrT, nxrT, nxrT, nxrT, nxrT, nxrT, nxrT, nxrT, nxrT, nxrA, nxrA, nxrA, nxrA, xAn, xTn, xTn, xTn, xTn, xTn, xTn]
  refine ⟨?_, ?_, ?_, ?_, ?_, ?_⟩
  · rw [if_neg (by omega), if_neg (by omega), if_neg (by omega), if_neg (by omega), if_neg (by omega), if_pos rfl]
  · rw [if_neg (by omega), if_neg (by omega), if_neg (by omega), if_neg (by omega), if_pos (by omega)]
  · rw [if_neg (by omega), if_neg (by omega), if_neg (by omega), if_pos (by omega)]
  · rw [if_neg (by omega), if_neg (by omega), if_pos (by omega)]
  · rw [if_neg (by omega), if_pos (by omega)]
  · rw [if_pos (by omega)]
set_option maxRecDepth 20000 in
set_option maxHeartbeats 4000000 in
theorem newS_r (X : XS) : (newS X).2.1 (xA X) 5 = some (xA X + 1) ∧ (newS X).2.1 (xA X) 6 = some (xA X + 2) ∧ (newS X).2.1 (xA X) 9 = some (xA X + 3) ∧ (newS X).2.1 (xA X) 10 = some (xA X + 4) ∧ (newS X).2.1 (xA X) 11 = some (xA X + 5) := by
  have key : ∀ j, (newS X).2.1 (xA X) j = if j = 11 then some (xA X + 5) else if j = 10 then some (xA X + 4) else if j = 9 then some (xA X + 3) else if j = 6 then some (xA X + 2) else if j = 5 then some (xA X + 1) else none := by
    intro j
    unfold newS
    rw [nxr2, nxr2, nxr2, nxr2, nxr2, nxrA, nxrA, nxrA, nxrA, xAn, xn2]
    simp only [true_and]
    rw [if_neg (show ¬ xA X = xA X + 1 + 1 + 1 + 1 + 1 by omega), if_neg (show ¬ xA X = xA X + 1 + 1 + 1 + 1 by omega), if_neg (show ¬ xA X = xA X + 1 + 1 + 1 by omega), if_neg (show ¬ xA X = xA X + 1 + 1 by omega), if_neg (show ¬ xA X = xA X + 1 by omega), if_pos trivial]
  refine ⟨?_, ?_, ?_, ?_, ?_⟩ <;> rw [key] <;> rfl
