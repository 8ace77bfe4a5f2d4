/-! THE FIRST STATE in these words -/
def mjPhi0 : Nat → Int32 := fun k => if k = 4107 then 1 else 0
def mjRho0 : Nat → Nat := fun k => if k = 3002 then 31 else if k = 3502 then 36 else if k = 4101 then 42 else if k = 4102 then 43 else if k = 4103 then 44 else if k = 5102 then 52 else 0
def mjSg (h : MjH) (k : Nat) : Nat → Int32 := match h[k]? with
  | some (.inl (_, _, .inl f)) => f
  | _ => fun _ => 0
def mjKp (h : MjH) (k : Nat) : Nat → Option Nat := match h[k]? with
  | some (.inl (_, _, .inr (.inr (.inr (.inr f))))) => f
  | _ => fun _ => none
theorem mjSg_ok {h : MjH} {a t n : Nat} {v : Nat → Int32} (e : mjArrChk h a t n v = true) : h[a]? = some (.inl (t, n, .inl (mjSg h a))) ∧ ∀ j, j < n → mjSg h a j = v j := by
  obtain ⟨f, h1, h2⟩ := mjArrChk_ok e
  have e1 : mjSg h a = f := by unfold mjSg; rw [h1]
  rw [e1]
  exact ⟨h1, h2⟩
theorem mjKp_ok {h : MjH} {a t n : Nat} (e : mjRefChk h a t n = true) : h[a]? = some (.inl (t, n, .inr (.inr (.inr (.inr (mjKp h a)))))) ∧ ∀ j, j < n → mjKp h a j = none := by
  obtain ⟨f, h1, h2⟩ := mjRefChk_ok e
  have e1 : mjKp h a = f := by unfold mjKp; rw [h1]
  rw [e1]
  exact ⟨h1, h2⟩
theorem mjO0 {k : Nat} {q : Nat × Nat × List Value} (hk : mjObj0[k]? = some q) : mjH0[q.1]? = some (.inr q.2) := mjObjAt_ok (of_decide_eq_true (List.all_eq_true.mp mjObj0_ok q (List.mem_of_getElem? hk)))
theorem mjA0 {k : Nat} {q : Nat × Nat × Nat × Int32} (hk : mjArr0[k]? = some q) : mjH0[q.1]? = some (.inl (q.2.1, q.2.2.1, .inl (mjSg mjH0 q.1))) ∧ ∀ j, j < q.2.2.1 → mjSg mjH0 q.1 j = q.2.2.2 := mjSg_ok (List.all_eq_true.mp mjArr0_ok q (List.mem_of_getElem? hk))
theorem mjH0_len : mjH0.length = 130 := by
  obtain ⟨q2, e3, e4⟩ := Option.map_eq_some_iff.mp mjH0_ok
  have x2 : q2.2 = mjH0 := by unfold mjH0; rw [e3]; rfl
  rw [← x2]
  exact (Prod.mk.inj (Prod.mk.inj e4).2).1
set_option maxRecDepth 100000 in
set_option maxHeartbeats 4000000 in
theorem mjH0_at : ∀ i : Nat, mjH0[i]? = (hF mjPhi0 (mjSg mjH0) 0 mjRho0 (mjKp mjH0) [])[i]?
  | 0 => mjO0 (k := 0) rfl
  | 1 => mjO0 (k := 1) rfl
  | 2 => (mjKp_ok mjRef0_2).1
  | 3 => (mjA0 (k := 0) rfl).1
  | 4 => (mjA0 (k := 1) rfl).1
  | 5 => (mjA0 (k := 2) rfl).1
  | 6 => (mjA0 (k := 3) rfl).1
  | 7 => (mjA0 (k := 4) rfl).1
  | 8 => (mjA0 (k := 5) rfl).1
  | 9 => (mjA0 (k := 6) rfl).1
  | 10 => mjO0 (k := 2) rfl
  | 11 => (mjA0 (k := 7) rfl).1
  | 12 => (mjA0 (k := 8) rfl).1
  | 13 => (mjA0 (k := 9) rfl).1
  | 14 => mjO0 (k := 3) rfl
  | 15 => (mjA0 (k := 10) rfl).1
  | 16 => (mjA0 (k := 11) rfl).1
  | 17 => (mjA0 (k := 12) rfl).1
  | 18 => (mjA0 (k := 13) rfl).1
  | 19 => (mjA0 (k := 14) rfl).1
  | 20 => (mjA0 (k := 15) rfl).1
  | 21 => (mjA0 (k := 16) rfl).1
  | 22 => mjO0 (k := 4) rfl
  | 23 => (mjA0 (k := 17) rfl).1
  | 24 => (mjA0 (k := 18) rfl).1
  | 25 => (mjA0 (k := 19) rfl).1
  | 26 => (mjA0 (k := 20) rfl).1
  | 27 => (mjA0 (k := 21) rfl).1
  | 28 => (mjA0 (k := 22) rfl).1
  | 29 => (mjA0 (k := 23) rfl).1
  | 30 => mjO0 (k := 5) rfl
  | 31 => (mjA0 (k := 24) rfl).1
  | 32 => (mjA0 (k := 25) rfl).1
  | 33 => (mjA0 (k := 26) rfl).1
  | 34 => (mjA0 (k := 27) rfl).1
  | 35 => mjO0 (k := 6) rfl
  | 36 => (mjA0 (k := 28) rfl).1
  | 37 => (mjA0 (k := 29) rfl).1
  | 38 => (mjA0 (k := 30) rfl).1
  | 39 => (mjA0 (k := 31) rfl).1
  | 40 => mjO0 (k := 7) rfl
  | 41 => mjO0 (k := 8) rfl
  | 42 => (mjA0 (k := 32) rfl).1
  | 43 => (mjA0 (k := 33) rfl).1
  | 44 => (mjA0 (k := 34) rfl).1
  | 45 => (mjA0 (k := 35) rfl).1
  | 46 => (mjA0 (k := 36) rfl).1
  | 47 => mjO0 (k := 9) rfl
  | 48 => (mjA0 (k := 37) rfl).1
  | 49 => (mjA0 (k := 38) rfl).1
  | 50 => (mjKp_ok mjRef0_50).1
  | 51 => mjO0 (k := 10) rfl
  | 52 => (mjA0 (k := 39) rfl).1
  | 53 => (mjA0 (k := 40) rfl).1
  | 54 => (mjA0 (k := 41) rfl).1
  | 55 => (mjA0 (k := 42) rfl).1
  | 56 => (mjA0 (k := 43) rfl).1
  | 57 => (mjA0 (k := 44) rfl).1
  | 58 => (mjA0 (k := 45) rfl).1
  | 59 => mjO0 (k := 11) rfl
  | 60 => mjO0 (k := 12) rfl
  | 61 => (mjA0 (k := 46) rfl).1
  | 62 => (mjA0 (k := 47) rfl).1
  | 63 => (mjA0 (k := 48) rfl).1
  | 64 => (mjA0 (k := 49) rfl).1
  | 65 => (mjA0 (k := 50) rfl).1
  | 66 => (mjA0 (k := 51) rfl).1
  | 67 => (mjA0 (k := 52) rfl).1
  | 68 => (mjA0 (k := 53) rfl).1
  | 69 => (mjA0 (k := 54) rfl).1
  | 70 => (mjA0 (k := 55) rfl).1
  | 71 => (mjA0 (k := 56) rfl).1
  | 72 => (mjA0 (k := 57) rfl).1
  | 73 => (mjA0 (k := 58) rfl).1
  | 74 => (mjA0 (k := 59) rfl).1
  | 75 => (mjA0 (k := 60) rfl).1
  | 76 => (mjA0 (k := 61) rfl).1
  | 77 => (mjA0 (k := 62) rfl).1
  | 78 => (mjA0 (k := 63) rfl).1
  | 79 => (mjA0 (k := 64) rfl).1
  | 80 => (mjA0 (k := 65) rfl).1
  | 81 => (mjA0 (k := 66) rfl).1
  | 82 => (mjA0 (k := 67) rfl).1
  | 83 => (mjA0 (k := 68) rfl).1
  | 84 => (mjA0 (k := 69) rfl).1
  | 85 => (mjA0 (k := 70) rfl).1
  | 86 => (mjA0 (k := 71) rfl).1
  | 87 => (mjA0 (k := 72) rfl).1
  | 88 => (mjA0 (k := 73) rfl).1
  | 89 => (mjA0 (k := 74) rfl).1
  | 90 => (mjSg_ok mjArr0_90).1
  | 91 => (mjA0 (k := 75) rfl).1
  | 92 => (mjA0 (k := 76) rfl).1
  | 93 => (mjA0 (k := 77) rfl).1
  | 94 => (mjA0 (k := 78) rfl).1
  | 95 => (mjA0 (k := 79) rfl).1
  | 96 => (mjA0 (k := 80) rfl).1
  | 97 => (mjA0 (k := 81) rfl).1
  | 98 => (mjA0 (k := 82) rfl).1
  | 99 => (mjA0 (k := 83) rfl).1
  | 100 => (mjA0 (k := 84) rfl).1
  | 101 => (mjA0 (k := 85) rfl).1
  | 102 => (mjA0 (k := 86) rfl).1
  | 103 => (mjA0 (k := 87) rfl).1
  | 104 => (mjA0 (k := 88) rfl).1
  | 105 => (mjA0 (k := 89) rfl).1
  | 106 => (mjA0 (k := 90) rfl).1
  | 107 => (mjA0 (k := 91) rfl).1
  | 108 => (mjA0 (k := 92) rfl).1
  | 109 => (mjA0 (k := 93) rfl).1
  | 110 => (mjA0 (k := 94) rfl).1
  | 111 => (mjA0 (k := 95) rfl).1
  | 112 => (mjA0 (k := 96) rfl).1
  | 113 => (mjA0 (k := 97) rfl).1
  | 114 => (mjA0 (k := 98) rfl).1
  | 115 => (mjA0 (k := 99) rfl).1
  | 116 => (mjA0 (k := 100) rfl).1
  | 117 => (mjA0 (k := 101) rfl).1
  | 118 => (mjA0 (k := 102) rfl).1
  | 119 => (mjA0 (k := 103) rfl).1
  | 120 => (mjA0 (k := 104) rfl).1
  | 121 => (mjA0 (k := 105) rfl).1
  | 122 => (mjA0 (k := 106) rfl).1
  | 123 => (mjA0 (k := 107) rfl).1
  | 124 => (mjA0 (k := 108) rfl).1
  | 125 => (mjA0 (k := 109) rfl).1
  | 126 => (mjA0 (k := 110) rfl).1
  | 127 => (mjA0 (k := 111) rfl).1
  | 128 => (mjA0 (k := 112) rfl).1
  | 129 => (mjA0 (k := 113) rfl).1
  | i + 130 => by
    rw [List.getElem?_eq_none (by rw [mjH0_len]; omega), List.getElem?_eq_none (by rw [hF_len]; show 130 + 0 ≤ _; omega)]
theorem mjH0_eq : mjH0 = hF mjPhi0 (mjSg mjH0) 0 mjRho0 (mjKp mjH0) [] := List.ext_getElem? mjH0_at
