/-! K4 -/
theorem getD_l (l r : List Int32) {j : Nat} (h : j < l.length) : (l ++ r).getD j 0 = l.getD j 0 := by
  rw [List.getD_eq_getElem?_getD, List.getD_eq_getElem?_getD, List.getElem?_append_left h]
set_option maxRecDepth 20000 in
set_option maxHeartbeats 4000000 in
theorem getD_r (l r : List Int32) (j : Nat) : (l ++ r).getD (l.length + j) 0 = r.getD j 0 := by
  rw [List.getD_eq_getElem?_getD, List.getD_eq_getElem?_getD, List.getElem?_append_right (by omega)]
  congr 2
  omega
set_option maxRecDepth 20000 in
set_option maxHeartbeats 4000000 in
theorem cat_at (f : Nat → List Int32) {m j : Nat} : ∀ n, m < n → j < (f m).length → (cat f n).getD ((cat f m).length + j) 0 = (f m).getD j 0 ∧ (cat f m).length + j < (cat f n).length := by
  intro n
  induction n with
  | zero => intro h; omega
  | succ n ih =>
    intro h hj
    have ln : (cat f (n + 1)).length = (cat f n).length + (f n).length := by
      show (cat f n ++ f n).length = _
      rw [List.length_append]
    by_cases e : m = n
    · subst e
      refine ⟨?_, by rw [ln]; omega⟩
      show (cat f m ++ f m).getD _ 0 = _
      exact getD_r _ _ j
    · obtain ⟨h1, h2⟩ := ih (by omega) hj
      refine ⟨?_, by rw [ln]; omega⟩
      show (cat f n ++ f n).getD _ 0 = _
      rw [getD_l _ _ h2]
      exact h1
/-- where a method's head and its code begin -/
def hpN (M : MS) (m : Nat) : Nat := 9 + 11 * cnt (fmB M 77) 10 + sumR M (hbF M) m
def caN (M : MS) (m : Nat) : Nat := baseN M + sumR M (cdF M) m
set_option maxRecDepth 20000 in
set_option maxHeartbeats 4000000 in
theorem img_hdr (M : MS) (rc main : Nat) {j : Nat} (h : j < 9) : (imgL M rc main).getD j 0 = (hdrL M main).getD j 0 ∧ j < (imgL M rc main).length := by
  have l : (hdrL M main).length = 9 := rfl
  unfold imgL
  refine ⟨?_, by simp only [List.length_append]; omega⟩
  rw [getD_l _ _ (by simp only [List.length_append]; omega), getD_l _ _ (by simp only [List.length_append]; omega), getD_l _ _ (by omega)]
set_option maxRecDepth 20000 in
set_option maxHeartbeats 4000000 in
theorem img_kind (M : MS) (rc main : Nat) {c j : Nat} (hc : c < 10) (hw : fm M 77 c) (hj : j < 11) : (imgL M rc main).getD (9 + 11 * cnt (fmB M 77) c + j) 0 = (kindL M rc c).getD j 0 ∧ 9 + 11 * cnt (fmB M 77) c + j < (imgL M rc main).length := by
  have l : (hdrL M main).length = 9 := rfl
  have lk := kindsL_len M rc c
  have e : (if M.1 77 c = 0 then [] else kindL M rc c) = kindL M rc c := if_neg hw
  obtain ⟨h1, h2⟩ := cat_at (fun c => if M.1 77 c = 0 then [] else kindL M rc c) (m := c) (j := j) 10 hc (by rw [e, kindL_len]; exact hj)
  have h1' : (kindsL M rc 10).getD ((kindsL M rc c).length + j) 0 = (if M.1 77 c = 0 then [] else kindL M rc c).getD j 0 := h1
  have h2' : (kindsL M rc c).length + j < (kindsL M rc 10).length := h2
  rw [lk, e] at h1'
  rw [lk] at h2'
  have pos : 9 + 11 * cnt (fmB M 77) c + j = (hdrL M main).length + (11 * cnt (fmB M 77) c + j) := by rw [l]; omega
  unfold imgL
  refine ⟨?_, by simp only [List.length_append]; omega⟩
  rw [getD_l _ _ (by simp only [List.length_append]; omega), getD_l _ _ (by simp only [List.length_append]; omega), pos, getD_r]
  exact h1'
set_option maxRecDepth 20000 in
set_option maxHeartbeats 4000000 in
theorem img_head (M : MS) (rc main : Nat) {m j : Nat} (hm : m < 24) (hw : fm M 75 m) (hj : j < 9 + 7 * tcN M m) : (imgL M rc main).getD (hpN M m + j) 0 = (headL M m (caN M m)).getD j 0 ∧ hpN M m + j < (imgL M rc main).length := by
  have l8 : (hdrL M main ++ kindsL M rc 10).length = 9 + 11 * cnt (fmB M 77) 10 := by rw [List.length_append, kindsL_len]; rfl
  have lh := headsL_len M (baseN M) m
  have e : (if M.1 75 m = 0 then [] else headL M m (baseN M + sumR M (cdF M) m)) = headL M m (caN M m) := if_neg hw
  obtain ⟨h1, h2⟩ := cat_at (fun m => if M.1 75 m = 0 then [] else headL M m (baseN M + sumR M (cdF M) m)) (m := m) (j := j) 24 hm (by rw [e, headL_len]; exact hj)
  have h1' : (headsL M (baseN M) 24).getD ((headsL M (baseN M) m).length + j) 0 = (if M.1 75 m = 0 then [] else headL M m (baseN M + sumR M (cdF M) m)).getD j 0 := h1
  have h2' : (headsL M (baseN M) m).length + j < (headsL M (baseN M) 24).length := h2
  rw [lh, e] at h1'
  rw [lh] at h2'
  have pos : hpN M m + j = (hdrL M main ++ kindsL M rc 10).length + (sumR M (hbF M) m + j) := by rw [l8]; unfold hpN; omega
  unfold imgL
  refine ⟨?_, by simp only [List.length_append] at l8 ⊢; unfold hpN; omega⟩
  rw [getD_l _ _ (by rw [List.length_append, l8]; unfold hpN; omega), pos, getD_r]
  exact h1'
set_option maxRecDepth 20000 in
set_option maxHeartbeats 4000000 in
theorem img_code (M : MS) (rc main : Nat) {m i j : Nat} (hm : m < 24) (hw : fm M 75 m) (hi : i < sz M m) (hj : j < lnF M m i) : (imgL M rc main).getD (caN M m + off M m i + j) 0 = (insL M m i).getD j 0 ∧ caN M m + off M m i + j < (imgL M rc main).length := by
  have l9 : (hdrL M main ++ kindsL M rc 10 ++ headsL M (baseN M) 24).length = baseN M := by
    rw [List.length_append, List.length_append, kindsL_len, headsL_len]
    rfl
  have lc := codesL_len M m
  have e : (if M.1 75 m = 0 then [] else cat (insL M m) (sz M m)) = cat (insL M m) (sz M m) := if_neg hw
  obtain ⟨g1, g2⟩ := cat_at (insL M m) (m := i) (j := j) (sz M m) hi (by rw [insL_len]; exact hj)
  rw [cat_ins_len] at g1 g2
  obtain ⟨h1, h2⟩ := cat_at (fun m => if M.1 75 m = 0 then [] else cat (insL M m) (sz M m)) (m := m) (j := off M m i + j) 24 hm (by rw [e]; exact g2)
  have h1' : (codesL M 24).getD ((codesL M m).length + (off M m i + j)) 0 = (if M.1 75 m = 0 then [] else cat (insL M m) (sz M m)).getD (off M m i + j) 0 := h1
  have h2' : (codesL M m).length + (off M m i + j) < (codesL M 24).length := h2
  rw [lc, e, g1] at h1'
  rw [lc] at h2'
  have pos : caN M m + off M m i + j = (hdrL M main ++ kindsL M rc 10 ++ headsL M (baseN M) 24).length + (sumR M (cdF M) m + (off M m i + j)) := by rw [l9]; unfold caN; omega
  unfold imgL
  refine ⟨?_, by rw [List.length_append, l9]; unfold caN; omega⟩
  rw [pos, getD_r]
  exact h1'
theorem sealB_ne (g : Nat → Int32) (n : Nat) {j : Nat} (h : j < 5 ∨ 9 ≤ j) : sealB g n j = g j := by
  unfold sealB seal1 upd
  rw [if_neg (by omega), if_neg (by omega), if_neg (by omega), if_neg (by omega)]
/-- the image of the running machine -/
def IM (Mr : MS) (rc main : Nat) (X : XS) (T : Nat → Nat) : Prop := ∃ b L, IMG 51 3 X T (imgL Mr rc main).length b L ∧ (∀ j, j < (imgL Mr rc main).length → X.1 b j = sealB (bt (imgL Mr rc main)) (imgL Mr rc main).length j) ∧ (∀ m, m < 24 → fm Mr 75 m → X.1 53 (cnt (fmB Mr 75) m) = Int32.ofNat (hpN Mr m)) ∧ (∀ n, n < 8 → X.1 54 n = nmF Mr rc n) ∧ (∀ c, c < 10 → fm Mr 77 c → X.1 55 (cnt (fmB Mr 77) c) = Int32.ofNat c)
set_option maxRecDepth 20000 in
set_option maxHeartbeats 4000000 in
theorem at_51 {X : XS} {T : Nat → Nat} {n b L i : Nat} (h : IMG 51 3 X T n b L) (hi : i < n) (hn : n < 10000) : f_Image_at_51 (Int32.ofNat i) X = some (X.1 b i) := by
  obtain ⟨h1, h2, h3, h4, h5, h6⟩ := at_of h i hi
  have q : ¬ n ≤ i := by omega
  unfold f_Image_at_51
  simp (disch := omega) only [h1, h2, h3, ocz, h4, h5, q, o_le, o_leL, o_leR, o_lt, o_ltL, o_ltR, o_eq, o_eqL, o_eqR, o_cl, o_add, o_addL, o_addR, o_mul, o_mulL, o_mulR, o_sub, o_subR, o_0le, o_lt0, o_ixo, n1_eq, n1_eq', n1_lt, n1_le, n1_ge, n1_gt, n2_eq, n2_eq', n2_lt, n2_le, n2_ge, n2_gt, ↓reduceIte, ite_self, Nat.reduceEqDiff, Nat.reduceAdd, Nat.reduceMul, Nat.reduceSub, Nat.reduceLT, Nat.reduceLeDiff, Nat.not_lt_zero, Nat.zero_le, if_true, if_false, ite_true, ite_false, true_and, and_true, false_and, and_false, true_implies, false_implies, implies_true, not_true_eq_false, not_false_eq_true, eq_self, true_or, or_true, false_or, or_false, and_self, reduceCtorEq, forall_const]
set_option maxRecDepth 20000 in
set_option maxHeartbeats 4000000 in
theorem imgL_le {Mr : MS} {kc rc : Nat} (main : Nat) (hT : LkT Mr kc rc) : (imgL Mr rc main).length ≤ 5663 ∧ 9 ≤ (imgL Mr rc main).length := by
  have hbl := hb_le hT 24 (by omega)
  have cdl := cd_le hT 24 (by omega)
  have ckl := cnt_max (fmB Mr 77) 10
  rw [imgL_len]
  unfold baseN
  omega
set_option maxRecDepth 20000 in
set_option maxHeartbeats 4000000 in
theorem im_at {Mr : MS} {kc rc main : Nat} {X : XS} {T : Nat → Nat} (h : IM Mr rc main X T) (hT : LkT Mr kc rc) {j : Nat} (hj : j < (imgL Mr rc main).length) (h5 : j < 5 ∨ 9 ≤ j) : f_Image_at_51 (Int32.ofNat j) X = some ((imgL Mr rc main).getD j 0 &&& 255) := by
  obtain ⟨b, L, h1, h2, _⟩ := h
  have := (imgL_le main hT).1
  rw [at_51 h1 hj (by omega), h2 j hj, sealB_ne _ _ h5]
  rfl
