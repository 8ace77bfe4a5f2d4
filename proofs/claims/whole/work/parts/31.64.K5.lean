/-! K5 -/
/-- numbers in the image, fields of a class -/
def kn (M : MS) (c : Nat) : Nat := cnt (fmB M 77) c
def rn (M : MS) (m : Nat) : Nat := cnt (fmB M 75) m
def NK (M : MS) : Nat := cnt (fmB M 77) 10
def aI (M : MS) (c : Nat) : Nat := (allN M 62 10 c).toNatClampNeg
def aF (M : MS) (c : Nat) : Nat := (allN M 63 10 c).toNatClampNeg
theorem gp_k10 {Mr : MS} {kc rc main : Nat} (g : GP Mr kc rc main) : kc ≤ 10 ∧ rc ≤ 24 := by
  obtain ⟨⟨X, T, h⟩, _⟩ := g
  exact ⟨h.1.1, h.2.1⟩
theorem gp_up {Mr : MS} {kc rc main : Nat} (g : GP Mr kc rc main) {c : Nat} (hc : c < kc) : Mr.1 61 c = -1 ∨ ∃ d, d < c ∧ Mr.1 61 c = Int32.ofNat d := by
  obtain ⟨⟨X, T, h⟩, _⟩ := g
  exact (h.1.2.2.2 c hc).2.2.2.1
set_option maxRecDepth 20000 in
set_option maxHeartbeats 4000000 in
theorem gp_all {Mr : MS} {kc rc main : Nat} (g : GP Mr kc rc main) {c : Nat} (hc : c < kc) : allN Mr 62 10 c = Int32.ofNat (aI Mr c) ∧ allN Mr 63 10 c = Int32.ofNat (aF Mr c) ∧ aI Mr c ≤ 60 ∧ aF Mr c ≤ 60 := by
  have h10 := (gp_k10 g).1
  obtain ⟨⟨X, T, h⟩, _⟩ := g
  obtain ⟨e1, e2⟩ := all_X h.1 10 c (by omega) hc
  obtain ⟨s1, l1, q1⟩ := (h.1.2.2.2 c hc).2.2.2.2.2.2.2.2.1
  obtain ⟨s2, l2, q2⟩ := (h.1.2.2.2 c hc).2.2.2.2.2.2.2.2.2
  unfold aI aF
  rw [← e1, ← e2, q1, q2, o_cl s1 (by omega), o_cl s2 (by omega)]
  exact ⟨rfl, rfl, by omega, by omega⟩
theorem kn_lt {Mr : MS} {c : Nat} (hc : c < 10) (hw : fm Mr 77 c) : kn Mr c < NK Mr := cnt_step (fmB_iff.mpr hw) 10 hc
set_option maxRecDepth 20000 in
set_option maxHeartbeats 4000000 in
theorem rn_lt {Mr : MS} {m : Nat} (hm : m < 24) (hw : fm Mr 75 m) : rn Mr m < 24 := by
  have := cnt_step (fmB_iff.mpr hw) 24 hm
  have := cnt_max (fmB Mr 75) 24
  unfold rn
  omega
theorem NK_le (Mr : MS) : NK Mr ≤ 10 := cnt_max _ 10
set_option maxRecDepth 20000 in
set_option maxHeartbeats 4000000 in
theorem kinds_51 {Mr : MS} {kc rc main : Nat} {X : XS} {T : Nat → Nat} (h : IM Mr rc main X T) (g : GP Mr kc rc main) : f_Image_at_51 2 X = some (Int32.ofNat (NK Mr)) := by
  have hk10 := (gp_k10 g).1
  have hR := g.2.2.1
  obtain ⟨e1, l1⟩ := img_hdr Mr rc main (j := 2) (by omega)
  have := im_at h g.2.1 l1 (by omega)
  rw [show (2 : Int32) = Int32.ofNat 2 from rfl, this, e1]
  have ck : cnt (fmB Mr 77) 10 = cnt (fmB Mr 77) kc := cnt_ext kc 10 hk10 (fun m h1 h2 hf => by have := hR.2.2.2.1 m h2 (fmB_iff.mp hf); omega)
  have e : (hdrL Mr main).getD 2 0 = Mr.1 60 23 := rfl
  have := NK_le Mr
  rw [e, hR.2.2.2.2.2.2.2.1, ← ck]
  show some (Int32.ofNat (NK Mr) &&& 255) = _
  rw [and255 (by omega)]
set_option maxRecDepth 20000 in
set_option maxHeartbeats 4000000 in
theorem kinds_51' {Mr : MS} {kc rc main : Nat} {X : XS} {T : Nat → Nat} (h : IM Mr rc main X T) (g : GP Mr kc rc main) : f_Image_kinds_51 X = some (Int32.ofNat (NK Mr)) := by
  unfold f_Image_kinds_51
  rw [kinds_51 h g]
  rfl
set_option maxRecDepth 20000 in
set_option maxHeartbeats 4000000 in
theorem main_51 {Mr : MS} {kc rc main : Nat} {X : XS} {T : Nat → Nat} (h : IM Mr rc main X T) (g : GP Mr kc rc main) : f_Image_main_51 X = some (Int32.ofNat (rn Mr main)) := by
  have hR := g.2.2.1
  have hr24 := (gp_k10 g).2
  obtain ⟨e1, l1⟩ := img_hdr Mr rc main (j := 4) (by omega)
  have := im_at h g.2.1 l1 (by omega)
  unfold f_Image_main_51
  rw [show (4 : Int32) = Int32.ofNat 4 from rfl, this, e1]
  have e : (hdrL Mr main).getD 4 0 = Mr.1 79 main := rfl
  have hl : rn Mr main < 24 := rn_lt (by have := hR.1; omega) hR.2.1
  rw [e, hR.2.2.2.2.2.2.2.2.2.2 main hR.1]
  show some (Int32.ofNat (rn Mr main) &&& 255) = _
  rw [and255 (by omega)]
set_option maxRecDepth 20000 in
set_option maxHeartbeats 4000000 in
theorem kind_at {Mr : MS} {kc rc main : Nat} {X : XS} {T : Nat → Nat} (h : IM Mr rc main X T) (g : GP Mr kc rc main) {c : Nat} (hc : c < kc) (hw : fm Mr 77 c) {j : Nat} (hj : j < 11) : f_Image_at_51 (Int32.ofNat (9 + 11 * kn Mr c + j)) X = some ((kindL Mr rc c).getD j 0 &&& 255) := by
  have hk10 := (gp_k10 g).1
  obtain ⟨e1, l1⟩ := img_kind Mr rc main (c := c) (j := j) (by omega) hw hj
  have := im_at h g.2.1 l1 (by omega)
  unfold kn
  rw [this, e1]
theorem kindAt_eq (n : Nat) : f_Image_kindAt_51 (Int32.ofNat n) = Int32.ofNat (9 + 11 * n) := by
  unfold f_Image_kindAt_51
  rw [o_mulR, o_addL, Nat.mul_comm]
set_option maxRecDepth 20000 in
set_option maxHeartbeats 4000000 in
/-- the class above, as the image says it -/
theorem up_51 {Mr : MS} {kc rc main : Nat} {X : XS} {T : Nat → Nat} (h : IM Mr rc main X T) (g : GP Mr kc rc main) {c : Nat} (hc : c < kc) (hw : fm Mr 77 c) : f_Image_at_51 (f_Image_kindAt_51 (Int32.ofNat (kn Mr c))) X = some (if Mr.1 61 c = -1 then 255 else Int32.ofNat (kn Mr (Mr.1 61 c).toNatClampNeg)) ∧ (Mr.1 61 c = -1 ∨ ∃ d, d < c ∧ Mr.1 61 c = Int32.ofNat d ∧ fm Mr 77 d) := by
  have hk10 := (gp_k10 g).1
  have hR := g.2.2.1
  have := kind_at h g hc hw (j := 0) (by omega)
  rw [kindAt_eq]
  rw [Nat.add_zero] at this
  rw [this]
  have e : (kindL Mr rc c).getD 0 0 = if Mr.1 61 c = -1 then 255 else Mr.1 80 (Mr.1 61 c).toNatClampNeg := rfl
  rw [e]
  rcases gp_up g hc with q | ⟨d, hd, q⟩
  · refine ⟨?_, Or.inl q⟩
    rw [if_pos q, if_pos q]
    rfl
  · have hn : ¬ Mr.1 61 c = -1 := by rw [q, n1_eq d (by omega)]; exact fun x => x
    have hd2 := hR.2.2.2.2.2.1 c d hc hw q (by omega)
    refine ⟨?_, Or.inr ⟨d, hd, q, hd2⟩⟩
    rw [if_neg hn, if_neg hn, q, o_cl d (by omega), hR.2.2.2.2.2.2.2.2.2.1 d (by omega)]
    have := kn_lt (by omega) hd2
    have := NK_le Mr
    show some (Int32.ofNat (kn Mr d) &&& 255) = _
    rw [and255 (by omega)]
set_option maxRecDepth 20000 in
set_option maxHeartbeats 4000000 in
theorem ints_51 {Mr : MS} {kc rc main : Nat} {X : XS} {T : Nat → Nat} (h : IM Mr rc main X T) (g : GP Mr kc rc main) {c : Nat} (hc : c < kc) (hw : fm Mr 77 c) : f_Image_allInts_51 (Int32.ofNat (kn Mr c)) X = some (Int32.ofNat (aI Mr c)) ∧ f_Image_allRefs_51 (Int32.ofNat (kn Mr c)) X = some (Int32.ofNat (aF Mr c)) := by
  obtain ⟨a1, a2, a3, a4⟩ := gp_all g hc
  have k1 := kind_at h g hc hw (j := 1) (by omega)
  have k2 := kind_at h g hc hw (j := 2) (by omega)
  have e1 : (kindL Mr rc c).getD 1 0 = allN Mr 62 10 c := rfl
  have e2 : (kindL Mr rc c).getD 2 0 = allN Mr 63 10 c := rfl
  unfold f_Image_allInts_51 f_Image_allRefs_51
  rw [kindAt_eq, o_addR, o_addR, k1, k2, e1, e2, a1, a2, and255 (by omega), and255 (by omega)]
  exact ⟨rfl, rfl⟩
set_option maxRecDepth 20000 in
set_option maxHeartbeats 4000000 in
theorem routineFor_51 {Mr : MS} {kc rc main : Nat} {X : XS} {T : Nat → Nat} (h : IM Mr rc main X T) (g : GP Mr kc rc main) {c : Nat} (hc : c < kc) (hw : fm Mr 77 c) {n : Nat} (hn : n < 8) : f_Image_routineFor_51 (Int32.ofNat (kn Mr c)) (Int32.ofNat n) X = some (mnum Mr (fnd Mr rc n 10 c) &&& 255) := by
  have k1 := kind_at h g hc hw (j := 3 + n) (by omega)
  have e1 : (kindL Mr rc c).getD (3 + n) 0 = (cat (fun n => [mnum Mr (fnd Mr rc n 10 c)]) 8).getD n 0 := getD_r [_, _, _] _ n
  have l0 : (cat (fun n => [mnum Mr (fnd Mr rc n 10 c)]) n).length = 1 * n := cat_len _ 1 n (fun _ _ => rfl)
  obtain ⟨c1, _⟩ := cat_at (fun n => [mnum Mr (fnd Mr rc n 10 c)]) (m := n) (j := 0) 8 hn (by simp)
  rw [l0, Nat.one_mul, Nat.add_zero] at c1
  unfold f_Image_routineFor_51
  rw [kindAt_eq, o_addR, o_add, show 9 + 11 * kn Mr c + 3 + n = 9 + 11 * kn Mr c + (3 + n) by omega, k1, e1, c1]
  rfl
set_option maxRecDepth 20000 in
set_option maxHeartbeats 4000000 in
theorem headAt_51 {Mr : MS} {rc main : Nat} {X : XS} {T : Nat → Nat} (h : IM Mr rc main X T) {m : Nat} (hm : m < 24) (hw : fm Mr 75 m) : f_Image_headAt_51 (Int32.ofNat (rn Mr m)) X = Int32.ofNat (hpN Mr m) := by
  obtain ⟨b, L, h1, h2, h3, h4, h5⟩ := h
  have := rn_lt hm hw
  have q : rn Mr m ≤ 23 := by omega
  unfold f_Image_headAt_51
  simp (disch := omega) only [q, o_le, o_leL, o_leR, o_lt, o_ltL, o_ltR, o_eq, o_eqL, o_eqR, o_cl, o_add, o_addL, o_addR, o_mul, o_mulL, o_mulR, o_sub, o_subR, o_0le, o_lt0, o_ixo, n1_eq, n1_eq', n1_lt, n1_le, n1_ge, n1_gt, n2_eq, n2_eq', n2_lt, n2_le, n2_ge, n2_gt, ↓reduceIte, ite_self, Nat.reduceEqDiff, Nat.reduceAdd, Nat.reduceMul, Nat.reduceSub, Nat.reduceLT, Nat.reduceLeDiff, Nat.not_lt_zero, Nat.zero_le, if_true, if_false, ite_true, ite_false, true_and, and_true, false_and, and_false, true_implies, false_implies, implies_true, not_true_eq_false, not_false_eq_true, eq_self, true_or, or_true, false_or, or_false, and_self, reduceCtorEq, forall_const]
  exact h3 m hm hw
set_option maxRecDepth 20000 in
set_option maxHeartbeats 4000000 in
theorem head_at {Mr : MS} {kc rc main : Nat} {X : XS} {T : Nat → Nat} (h : IM Mr rc main X T) (g : GP Mr kc rc main) {m : Nat} (hm : m < 24) (hw : fm Mr 75 m) {j : Nat} (hj : j < 9 + 7 * tcN Mr m) : f_Image_at_51 (Int32.ofNat (hpN Mr m + j)) X = some ((headL Mr m (caN Mr m)).getD j 0 &&& 255) := by
  obtain ⟨e1, l1⟩ := img_head Mr rc main hm hw hj
  have : 9 ≤ hpN Mr m := by unfold hpN; omega
  have := im_at h g.2.1 l1 (by omega)
  rw [this, e1]
set_option maxRecDepth 20000 in
set_option maxHeartbeats 4000000 in
theorem w2_two {a : Nat} (h : a < 65536) : (((w2 (Int32.ofNat a)).getD 0 0 &&& 255 : Int32) <<< ((8 : Int32) &&& 31)) ||| ((w2 (Int32.ofNat a)).getD 1 0 &&& 255) = Int32.ofNat a := by
  have e1 : (w2 (Int32.ofNat a)).getD 0 0 = Int32.ofNat a >>> ((8 : Int32) &&& 31) := rfl
  have e2 : (w2 (Int32.ofNat a)).getD 1 0 = Int32.ofNat a := rfl
  rw [e1, e2, shr8 a (by omega), (andK _).1, (andK _).1, two_eq (Nat.mod_lt _ (by omega))]
  congr 1
  omega
set_option maxRecDepth 20000 in
set_option maxHeartbeats 4000000 in
theorem caN_le {Mr : MS} {kc rc main : Nat} (g : GP Mr kc rc main) {m : Nat} (hm : m < 24) (hw : fm Mr 75 m) {i : Nat} (hi : i < sz Mr m) : caN Mr m + off Mr m i < 5663 := by
  obtain ⟨_, l1⟩ := img_code Mr rc main (m := m) (i := i) (j := 0) hm hw hi (lnF_le Mr m i).1
  have := (imgL_le main g.2.1).1
  omega
set_option maxRecDepth 20000 in
set_option maxHeartbeats 4000000 in
theorem sz_pos {Mr : MS} {kc rc main : Nat} (g : GP Mr kc rc main) {m : Nat} (hm : m < 24) (hw : fm Mr 75 m) : 0 < sz Mr m ∧ sz Mr m ≤ 60 := by
  obtain ⟨s, tc, mm, h1, h2, h3, _⟩ := ty_facts g.2.1 hm hw
  unfold sz
  rw [h3, o_cl s (by omega)]
  omega
set_option maxRecDepth 20000 in
set_option maxHeartbeats 4000000 in
theorem codeAt_51 {Mr : MS} {kc rc main : Nat} {X : XS} {T : Nat → Nat} (h : IM Mr rc main X T) (g : GP Mr kc rc main) {m : Nat} (hm : m < 24) (hw : fm Mr 75 m) : f_Image_codeAt_51 (Int32.ofNat (rn Mr m)) X = some (Int32.ofNat (caN Mr m)) := by
  have k0 := head_at h g hm hw (j := 0) (by omega)
  have k1 := head_at h g hm hw (j := 1) (by omega)
  have e0 : (headL Mr m (caN Mr m)).getD 0 0 = (w2 (Int32.ofNat (caN Mr m))).getD 0 0 := rfl
  have e1 : (headL Mr m (caN Mr m)).getD 1 0 = (w2 (Int32.ofNat (caN Mr m))).getD 1 0 := rfl
  have := caN_le g hm hw (sz_pos g hm hw).1
  unfold f_Image_codeAt_51 f_Image_two_51
  rw [headAt_51 h hm hw, o_addR, k1, ← Nat.add_zero (hpN Mr m), k0, e0, e1]
  show some _ = some _
  rw [w2_two (by omega)]
set_option maxRecDepth 20000 in
set_option maxHeartbeats 4000000 in
theorem tkn_le {Mr : MS} {kc rc main : Nat} (g : GP Mr kc rc main) {m : Nat} (hm : m < rc) : ∃ n, n ≤ 4 ∧ Mr.1 66 m = Int32.ofNat n ∧ tkn Mr m = Int32.ofNat (if Mr.1 65 m = -2 then n else n + 1) := by
  obtain ⟨⟨X, T, h⟩, _⟩ := g
  obtain ⟨a, f, ra, rv⟩ := h.2.2.2.2.2 m hm
  obtain ⟨n, hn, en⟩ := toNle (n := 4) (by omega) rv.2.2.2.2.2.2.2.2.2.1.1 rv.2.2.2.2.2.2.2.2.2.1.2
  refine ⟨n, hn, en, ?_⟩
  unfold tkn
  rw [en]
  split
  · rfl
  · rw [o_addR]
set_option maxRecDepth 20000 in
set_option maxHeartbeats 4000000 in
theorem takenBy_51 {Mr : MS} {kc rc main : Nat} {X : XS} {T : Nat → Nat} (h : IM Mr rc main X T) (g : GP Mr kc rc main) {m : Nat} (hm : m < 24) (hw : fm Mr 75 m) : f_Image_takenBy_51 (Int32.ofNat (rn Mr m)) X = some (tkn Mr m) := by
  have k0 := head_at h g hm hw (j := 4) (by omega)
  have e0 : (headL Mr m (caN Mr m)).getD 4 0 = tkn Mr m := rfl
  obtain ⟨n, hn, _, e⟩ := tkn_le g (g.2.2.1.2.2.1 m hm hw)
  unfold f_Image_takenBy_51
  rw [headAt_51 h hm hw, o_addR, k0, e0, e]
  rw [and255 (by split <;> omega)]
  rfl
set_option maxRecDepth 20000 in
set_option maxHeartbeats 4000000 in
theorem traps_51 {Mr : MS} {kc rc main : Nat} {X : XS} {T : Nat → Nat} (h : IM Mr rc main X T) (g : GP Mr kc rc main) {m : Nat} (hm : m < 24) (hw : fm Mr 75 m) : f_Image_at_51 (Int32.ofNat (hpN Mr m + 8)) X = some (Int32.ofNat (tcN Mr m)) ∧ tcN Mr m ≤ 6 := by
  have k0 := head_at h g hm hw (j := 8) (by omega)
  have e0 : (headL Mr m (caN Mr m)).getD 8 0 = Mr.1 73 m := rfl
  obtain ⟨s, tc, mm, h1, h2, h3, h4, h5, _⟩ := ty_facts g.2.1 hm hw
  unfold tcN
  rw [k0, e0, h5, o_cl tc (by omega), and255 (by omega)]
  exact ⟨rfl, h4⟩
set_option maxRecDepth 20000 in
set_option maxHeartbeats 4000000 in
theorem trap_byte {Mr : MS} {kc rc main : Nat} {X : XS} {T : Nat → Nat} (h : IM Mr rc main X T) (g : GP Mr kc rc main) {m : Nat} (hm : m < 24) (hw : fm Mr 75 m) {t j : Nat} (ht : t < tcN Mr m) (hj : j < 7) : f_Image_at_51 (Int32.ofNat (hpN Mr m + 9 + 7 * t + j)) X = some ((trapL Mr m t).getD j 0 &&& 255) := by
  have k0 := head_at h g hm hw (j := 9 + (7 * t + j)) (by omega)
  have l0 : (cat (trapL Mr m) t).length = 7 * t := cat_len _ 7 t (fun _ _ => rfl)
  obtain ⟨c1, _⟩ := cat_at (trapL Mr m) (m := t) (j := j) (tcN Mr m) ht hj
  rw [l0] at c1
  have e1 : (headL Mr m (caN Mr m)).getD (9 + (7 * t + j)) 0 = (cat (trapL Mr m) (tcN Mr m)).getD (7 * t + j) 0 := getD_r (w2 (Int32.ofNat (caN Mr m)) ++ w2 (Int32.ofNat (off Mr m (sz Mr m))) ++ [tkn Mr m, Mr.1 69 m, Mr.1 89 m, Mr.1 68 m, Mr.1 73 m]) _ _
  rw [show hpN Mr m + 9 + 7 * t + j = hpN Mr m + (9 + (7 * t + j)) by omega, k0, e1, c1]
set_option maxRecDepth 20000 in
set_option maxHeartbeats 4000000 in
theorem trap_51 {Mr : MS} {kc rc main : Nat} {X : XS} {T : Nat → Nat} (h : IM Mr rc main X T) (g : GP Mr kc rc main) {m : Nat} (hm : m < 24) (hw : fm Mr 75 m) {t : Nat} (ht : t < tcN Mr m) : f_Image_two_51 (Int32.ofNat (hpN Mr m + 9 + 7 * t)) X = some (Int32.ofNat (off Mr m (frM Mr m t))) ∧ f_Image_two_51 (Int32.ofNat (hpN Mr m + 9 + 7 * t + 2)) X = some (Int32.ofNat (off Mr m (ttM Mr m t))) ∧ f_Image_two_51 (Int32.ofNat (hpN Mr m + 9 + 7 * t + 4)) X = some (Int32.ofNat (off Mr m (hdM Mr m t))) ∧ f_Image_at_51 (Int32.ofNat (hpN Mr m + 9 + 7 * t + 6)) X = some (whL Mr (Mr.1 74 (24 * m + 4 * t + 3)) &&& 255) ∧ frM Mr m t < ttM Mr m t ∧ ttM Mr m t ≤ sz Mr m ∧ hdM Mr m t < sz Mr m := by
  have b0 := trap_byte h g hm hw ht (j := 0) (by omega)
  have b1 := trap_byte h g hm hw ht (j := 1) (by omega)
  have b2 := trap_byte h g hm hw ht (j := 2) (by omega)
  have b3 := trap_byte h g hm hw ht (j := 3) (by omega)
  have b4 := trap_byte h g hm hw ht (j := 4) (by omega)
  have b5 := trap_byte h g hm hw ht (j := 5) (by omega)
  have b6 := trap_byte h g hm hw ht (j := 6) (by omega)
  obtain ⟨s, tc, mm, h1, h2, h3, h4, h5, h6, h7, h8, h9⟩ := ty_facts g.2.1 hm hw
  have etc : tcN Mr m = tc := by unfold tcN; rw [h5, o_cl tc (by omega)]
  have esz : sz Mr m = s := by unfold sz; rw [h3, o_cl s (by omega)]
  obtain ⟨t1, t2, t3, t4, _⟩ := h9 t (by omega)
  have f1 : 0 ≤ Mr.1 74 (24 * m + 4 * t) := Int32.not_lt.mp t1
  have n1 : ∃ k, Mr.1 74 (24 * m + 4 * t) = Int32.ofNat k ∧ k < 2147483648 := by obtain ⟨k, hk, e⟩ := toN f1; exact ⟨k, e, hk⟩
  obtain ⟨a, ea, ha⟩ := n1
  have n2 : ∃ k, Mr.1 74 (24 * m + 4 * t + 1) = Int32.ofNat k ∧ k ≤ s := by
    have q : 0 ≤ Mr.1 74 (24 * m + 4 * t + 1) := Int32.le_of_lt (Int32.lt_of_le_of_lt f1 (Int32.not_le.mp t2))
    obtain ⟨k, hk, e⟩ := toNle (n := s) (by omega) q (Int32.not_lt.mp t3)
    exact ⟨k, e, hk⟩
  obtain ⟨b, eb, hb⟩ := n2
  have n3 : ∃ k, Mr.1 74 (24 * m + 4 * t + 2) = Int32.ofNat k ∧ k < s := by
    have t4' := (le1_iff (by omega) _).mp t4
    obtain ⟨k, hk, e⟩ := t4'
    exact ⟨k, e, hk⟩
  obtain ⟨d, ed, hd⟩ := n3
  have lab : a < b := by
    have := Int32.not_le.mp t2
    rw [ea, eb, o_lt a b (by omega) (by omega)] at this
    exact this
  have ga : frM Mr m t = a := by unfold frM; rw [ea, o_cl a (by omega)]
  have gb : ttM Mr m t = b := by unfold ttM; rw [eb, o_cl b (by omega)]
  have gd : hdM Mr m t = d := by unfold hdM; rw [ed, o_cl d (by omega)]
  have oa := off_le Mr m a
  have ob := off_le Mr m b
  have od := off_le Mr m d
  have w0 : (trapL Mr m t).getD 0 0 = (w2 (Int32.ofNat (off Mr m (frM Mr m t)))).getD 0 0 := rfl
  have w1 : (trapL Mr m t).getD 1 0 = (w2 (Int32.ofNat (off Mr m (frM Mr m t)))).getD 1 0 := rfl
  have w3 : (trapL Mr m t).getD 2 0 = (w2 (Int32.ofNat (off Mr m (ttM Mr m t)))).getD 0 0 := rfl
  have w4 : (trapL Mr m t).getD 3 0 = (w2 (Int32.ofNat (off Mr m (ttM Mr m t)))).getD 1 0 := rfl
  have w5 : (trapL Mr m t).getD 4 0 = (w2 (Int32.ofNat (off Mr m (hdM Mr m t)))).getD 0 0 := rfl
  have w6 : (trapL Mr m t).getD 5 0 = (w2 (Int32.ofNat (off Mr m (hdM Mr m t)))).getD 1 0 := rfl
  rw [Nat.add_zero] at b0
  unfold f_Image_two_51
  rw [o_addR, o_addR, o_addR, b0, b1, b2, b3, b4, b5, b6, w0, w1, w3, w4, w5, w6]
  rw [ga, gb, gd, esz]
  refine ⟨?_, ?_, ?_, rfl, lab, hb, hd⟩ <;>
  · show some _ = some _
    rw [w2_two (by omega)]
set_option maxRecDepth 20000 in
set_option maxHeartbeats 4000000 in
theorem code_at {Mr : MS} {kc rc main : Nat} {X : XS} {T : Nat → Nat} (h : IM Mr rc main X T) (g : GP Mr kc rc main) {m : Nat} (hm : m < 24) (hw : fm Mr 75 m) {i j : Nat} (hi : i < sz Mr m) (hj : j < lnF Mr m i) : f_Image_at_51 (Int32.ofNat (caN Mr m + off Mr m i + j)) X = some ((insL Mr m i).getD j 0 &&& 255) := by
  obtain ⟨e1, l1⟩ := img_code Mr rc main hm hw hi hj
  have : 9 ≤ caN Mr m := by unfold caN baseN; omega
  have := im_at h g.2.1 l1 (by omega)
  rw [this, e1]
