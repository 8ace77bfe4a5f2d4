/-! U5 -/
set_option maxRecDepth 20000 in
set_option maxHeartbeats 4000000 in
theorem o_mod {a b : Nat} (ha : a < 1000) (hb : b < 1000) (h0 : 0 < b) : Int32.ofNat a - Int32.ofNat a / Int32.ofNat b * Int32.ofNat b = Int32.ofNat (a % b) := by
  have hd : Int32.ofNat a / Int32.ofNat b = Int32.ofNat (a / b) := by
    rw [← Int32.toInt_inj, Int32.toInt_div_of_ne_right, oi a (by omega), oi b (by omega), oi _ (by have := Nat.div_le_self a b; omega)]
    · rfl
    · intro q
      have q' : Int32.ofNat b = -1 := q
      have : Int32.ofNat b < 0 := by rw [q']; decide
      rw [o_lt0 _ (by omega)] at this
      exact this
  have hm := Nat.div_add_mod a b
  have hm2 : a / b * b ≤ a := Nat.div_mul_le_self a b
  rw [hd, o_mul, o_sub _ _ hm2]
  congr 1
  rw [Nat.mul_comm] at hm
  omega
def M13 (M : MS) (t : Nat) : MS := mw (mw (mw M 60 62 (Int32.ofNat t)) 60 64 (Int32.ofNat t)) 60 63 (M.1 60 58)
def X9 (X : XS) (t : Nat) : XS := xw (xw X 59 2 (Int32.ofNat t)) 59 3 (X.1 59 4)
set_option maxRecDepth 20000 in
set_option maxHeartbeats 4000000 in
theorem turnM_1 {M : MS} {nb t : Nat} {x2 : Int32} {b : Bool} (e61 : M.1 60 61 = Int32.ofNat nb) (h0 : 0 < nb) (h6 : nb ≤ 6) (hx : ¬ Int32.ofNat nb < x2) (ht : t < nb) (ei : ((M.1 60 64) + x2) - ((M.1 60 64) + x2) / (M.1 60 61) * (M.1 60 61) = Int32.ofNat t) (hw : f_M_waits (Int32.ofNat t) M = some (if M.1 110 t = 0 then !b else false)) (hb : b = true → M.1 110 t = 0) : b44_M_turn M x2 = some (if b = true then .inr (Int32.ofNat t, M13 M t) else .inl (x2 + 1)) := by
  have cl : (Int32.ofNat t).toNatClampNeg = t := o_cl _ (by omega)
  unfold b44_M_turn
  rw [ei, e61, if_neg hx, if_pos (by rw [o_eqR _ _ (by omega) (by decide)]; show ¬ nb = 0; omega), if_pos (ixl (by omega) (by omega)), cl]
  by_cases c : M.1 110 t = 0
  · rw [if_neg (fun q => q c), hw, if_pos c, Option.bind_some]
    cases b with
    | true =>
      rw [if_neg (by decide), if_pos rfl]
      rfl
    | false => rw [if_pos (by decide), if_neg (by decide)]
  · rw [if_pos c]
    cases b with
    | true => exact absurd (hb rfl) c
    | false => rw [if_neg (by decide)]
set_option maxRecDepth 20000 in
set_option maxHeartbeats 4000000 in
/-- both look for a thread in the same order -/
theorem seek_ok {c : Cx} {A : HG} {hp nb oc : Nat} {U W : Nat → Int32} {D : Int64} {T C : Nat → Nat} {n : Nat} {X : XS} {V M : MS} (r : Rn c A hp nb oc U W D T C n X V M) (ok : c.Ok) {cur : Nat} (hc : cur < nb) (e64 : M.1 60 64 = Int32.ofNat cur) : ∀ N j, j ≤ nb → nb - j < N → (lp (b7_Turns_beginNext X) N (Int32.ofNat ((cur + j) % nb), Int32.ofNat j) = some (false, X) ∧ lp (b44_M_turn M) N (Int32.ofNat (j + 1)) = some (-2, M)) ∨ ∃ t, t < nb ∧ lp (b7_Turns_beginNext X) N (Int32.ofNat ((cur + j) % nb), Int32.ofNat j) = some (true, X9 X t) ∧ lp (b44_M_turn M) N (Int32.ofNat (j + 1)) = some (Int32.ofNat t, M13 M t) ∧ Gos c A V M t := by
  have n6 := r.rv.no.1
  have hn := r.nb1.1
  have e2 : X.1 40 2 = Int32.ofNat nb := by rw [r.rv.rf (a := 40) (by unfold Fx; omega)]; exact r.nb1.2.1
  have e61 := r.nb1.2.2
  intro N
  induction N with
  | zero => intro j h1 h2; omega
  | succ N ih =>
    intro j h1 h2
    have ml : (cur + j) % nb < nb := Nat.mod_lt _ (by omega)
    by_cases e : j = nb
    · left
      subst e
      constructor
      · refine lp_inr ?_
        unfold b7_Turns_beginNext
        rw [e2, if_pos (Int32.le_refl _)]
      · refine lp_inr ?_
        unfold b44_M_turn
        rw [e61, if_pos (by rw [o_lt _ _ (by omega) (by omega)]; omega)]
    · have nx : (if Int32.ofNat nb ≤ Int32.ofNat ((cur + j) % nb) + 1 then some 0 else some (Int32.ofNat ((cur + j) % nb) + 1) : Option Int32) = some (Int32.ofNat ((cur + (j + 1)) % nb)) := by
        rw [o_addR]
        show (if Int32.ofNat nb ≤ Int32.ofNat ((cur + j) % nb + 1) then some 0 else some (Int32.ofNat ((cur + j) % nb + 1))) = _
        rw [← Nat.add_assoc]
        by_cases c : nb ≤ (cur + j) % nb + 1
        · rw [if_pos (by rw [o_le _ _ (by omega) (by omega)]; exact c)]
          have : (cur + j + 1) % nb = 0 := by
            have e1 : (cur + j) % nb + 1 = nb := by omega
            have e2' := Nat.div_add_mod (cur + j) nb
            have e3 : cur + j + 1 = nb * ((cur + j) / nb + 1) := by rw [Nat.mul_add]; omega
            rw [e3, Nat.mul_mod_right]
          rw [this]
          rfl
        · rw [if_neg (by rw [o_le _ _ (by omega) (by omega)]; exact c)]
          have : (cur + j + 1) % nb = (cur + j) % nb + 1 := by
            rw [Nat.add_mod, Nat.mod_eq_of_lt (show 1 < nb by omega), Nat.mod_eq_of_lt (show (cur + j) % nb + 1 < nb by omega)]
          rw [this]
      have ml' : (cur + (j + 1)) % nb < nb := Nat.mod_lt _ (by omega)
      obtain ⟨b, g1, g2, g3, g4, g5⟩ := canGo_ok r ok ml'
      have ms := turnM_1 (M := M) (x2 := Int32.ofNat (j + 1)) (b := b) e61 (by omega) (by omega) (by rw [o_lt _ _ (by omega) (by omega)]; omega) ml' (by rw [e64, o_add, e61]; exact o_mod (by omega) (by omega) (by omega)) g2 g3
      have xs : b7_Turns_beginNext X (Int32.ofNat ((cur + j) % nb), Int32.ofNat j) = some (if b = true then .inr (true, X9 X ((cur + (j + 1)) % nb)) else .inl (Int32.ofNat ((cur + (j + 1)) % nb), Int32.ofNat (j + 1))) := by
        unfold b7_Turns_beginNext
        dsimp only
        rw [e2, if_neg (by rw [o_le _ _ (by omega) (by omega)]; omega), nx, Option.bind_some, g1, Option.bind_some]
        cases b with
        | true => rw [if_pos rfl, if_pos rfl]; rfl
        | false => rw [if_neg (by decide), if_neg (by decide), o_addR]
      cases b with
      | true =>
        right
        rw [if_pos rfl] at ms xs
        exact ⟨_, ml', lp_inr xs, lp_inr ms, g5 rfl⟩
      | false =>
        rw [if_neg (by decide)] at ms xs
        rw [lp_inl xs, lp_inl ms, o_addR]
        exact ih (j + 1) (by omega) (by omega)
