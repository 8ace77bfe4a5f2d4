/-! WHAT THE MACHINE DOES ITSELF: arraycopy, max, min -/
def MjSoundN (op : Nat) (hd : MjHd) : Prop := ∀ (p : Program) (l : Launch) (e : Env) (R : Room) (s : State) (m : MethodId) (args : Array Value) (below : List Frame) (meth : Method) (c : Code) (Q : State → Prop) (cc : ByteArray) (own : String) (ini : Bool) (D : va_G) (tc : Nat → ClassId) (sz : Nat) (ol : Nat → Nat) (o : MjO),
  MjCx p s m args meth c cc own ini D tc sz ol o → ∀ (q : MjIns) (pc : Nat) (ml : MjL) (st : List Value) (h : MjH) (r : Nat × MjL × List Value × MjH) (H : Heap) (locs : List Loc) (ls : Array Slot) (cells slots : Nat),
  q.1 = op → hd o q pc ml st h = some r → decode cc pc = .ok (mjEnc pc q) → mjOk own ini q = true → MjSm s D tc sz ol h H locs → MjLv sz ol ml ls → c.maxLocals = ls.size → 1 ≤ R.frames → 26 ≤ R.locals → (r.2.2.1.all mjOne && decide (r.2.2.1.length ≤ 8)) = true → cells + (r.2.2.2.length - h.length) ≤ R.cells → slots + (mjSlots r.2.2.2 - mjSlots h) ≤ R.slots →
  (∀ (H' : Heap) (locs' : List Loc) (ls' : Array Slot), MjSm s D tc sz ol r.2.2.2 H' locs' → MjLv sz ol r.2.1 ls' → W p l e R s m args below meth c H' locs' (cells + (r.2.2.2.length - h.length)) (slots + (mjSlots r.2.2.2 - mjSlots h)) Q (F0 m r.1 ls' (r.2.2.1.map (mjV sz ol)))) →
  W p l e R s m args below meth c H locs cells slots Q (F0 m pc ls (st.map (mjV sz ol)))
theorem mj_sum1 : ∀ (l : List Value), (∀ w ∈ l, w.category = 1) → (l.map fun v => v.category).sum = l.length := by
  intro l
  induction l with
  | nil => intro _; rfl
  | cons w l ih =>
    intro h
    have h1 := h w List.mem_cons_self
    have h2 := ih (fun x hx => h x (List.mem_cons_of_mem _ hx))
    simp [h1, h2]; omega
theorem mj_sumV {sz : Nat} {ol : Nat → Nat} {l : List Value} (h : (l.all mjOne && decide (l.length ≤ 8)) = true) : ((l.map (mjV sz ol)).map fun v => v.category).sum ≤ 8 := by
  obtain ⟨o1, o2⟩ := Bool.and_eq_true_iff.mp h
  have o1 : ∀ w ∈ l, w.category = 1 := fun w hw => mjOne_cat (List.all_eq_true.mp o1 w hw)
  rw [mj_sum1 _ (fun x hx => by obtain ⟨u, hu, rfl⟩ := List.mem_map.mp hx; rw [mjV_cat]; exact o1 u hu), List.length_map]
  exact of_decide_eq_true o2
theorem mjn_max : MjSoundN 77 mjMax := by
  intro p l e R s m args below meth c Q cc own ini D tc sz ol o C q pc ml st h r H locs ls cells slots hq hr hdg hok hS hL hml hfr hlo hone hc1 hc2 kk
  obtain ⟨op', v, i, j, k, sw⟩ := q
  obtain rfl : op' = 77 := hq
  unfold mjMax at hr
  split at hr
  · rename_i y x st
    cases hr
    obtain ⟨h1, h2, h3⟩ := of_decide_eq_true (show decide ((mjMaE i).1 = own ∧ (mjMaE i).2.2.1 = 77 ∧ i < mjMa.length) = true from hok)
    have g := of_decide_eq_true (mj_all (d := ("", 0, 0, 0)) mjMa_ok h3)
    rw [show mjMa.getD i ("", 0, 0, 0) = mjMaE i from rfl, h1, h2, if_pos rfl] at g
    have hsum := mj_sumV (sz := sz) (ol := ol) hone
    have k2 := kk H locs ls hS hL
    rw [Nat.sub_self, Nat.sub_self] at k2
    refine va_mmax C.1 C.2.1 hml C.2.2.1 (mjG_of C.2.2.2.1 (mjT_mem g) rfl) (mjG_of C.2.2.2.1 (mjT_mem mjAcp_ok.2.2.2.2.1) rfl) (mjG_of C.2.2.2.1 (mjT_mem mjAcp_ok.2.2.2.1) rfl) (mjG_of C.2.2.2.1 mjMmax_code rfl) hfr ?_ (by omega) (by omega) (show decode cc pc = .ok (.invokestatic (mjMaE i).2.1, 3) from hdg) k2
    simp only [List.map_cons, List.sum_cons] at hsum
    show ((st.map (mjV sz ol)).map fun v => v.category).sum + 13 ≤ R.locals
    omega
  · cases hr
theorem mjn_min : MjSoundN 78 mjMin := by
  intro p l e R s m args below meth c Q cc own ini D tc sz ol o C q pc ml st h r H locs ls cells slots hq hr hdg hok hS hL hml hfr hlo hone hc1 hc2 kk
  obtain ⟨op', v, i, j, k, sw⟩ := q
  obtain rfl : op' = 78 := hq
  unfold mjMin at hr
  split at hr
  · rename_i y x st
    cases hr
    obtain ⟨h1, h2, h3⟩ := of_decide_eq_true (show decide ((mjMaE i).1 = own ∧ (mjMaE i).2.2.1 = 78 ∧ i < mjMa.length) = true from hok)
    have g := of_decide_eq_true (mj_all (d := ("", 0, 0, 0)) mjMa_ok h3)
    rw [show mjMa.getD i ("", 0, 0, 0) = mjMaE i from rfl, h1, h2, if_neg (by decide)] at g
    have hsum := mj_sumV (sz := sz) (ol := ol) hone
    have k2 := kk H locs ls hS hL
    rw [Nat.sub_self, Nat.sub_self] at k2
    refine va_mmin C.1 C.2.1 hml C.2.2.1 (mjG_of C.2.2.2.1 (mjT_mem g) rfl) (mjG_of C.2.2.2.1 (mjT_mem mjAcp_ok.2.2.2.2.2) rfl) (mjG_of C.2.2.2.1 (mjT_mem mjAcp_ok.2.2.2.1) rfl) (mjG_of C.2.2.2.1 mjMmin_code rfl) hfr ?_ (by omega) (by omega) (show decode cc pc = .ok (.invokestatic (mjMaE i).2.1, 3) from hdg) k2
    simp only [List.map_cons, List.sum_cons] at hsum
    show ((st.map (mjV sz ol)).map fun v => v.category).sum + 13 ≤ R.locals
    omega
  · cases hr
/-- where a copy comes from: a cell of ints in the real heap -/
theorem mjSrc_cell {p : Program} {s : State} {m : MethodId} {args : Array Value} {meth : Method} {c : Code} {cc : ByteArray} {own : String} {ini : Bool} {D : va_G} {tc : Nat → ClassId} {sz : Nat} {ol : Nat → Nat} {o : MjO} {h : MjH} {H : Heap} {locs : List Loc} {t n0 : Nat} {f : Nat → Int32} {sv : Value} {ty : FieldType} (C : MjCx p s m args meth c cc own ini D tc sz ol o) (hS : MjSm s D tc sz ol h H locs) (ht : (mjTys tc)[t]? = some (tc t, ty)) (ht2 : t = 0 ∨ t = 2) (hsrc : mjSrc o h t sv = some (n0, f)) :
    ∃ (a0 : Nat) (cs : Cell), mjV sz ol sv = .ref a0 ∧ H[a0]? = some cs ∧ s.isArrayOf cs ty ∧ cs.vm ≠ .unknown ∧ n0 ≤ cs.slots.size ∧ ∀ j, j < n0 → cs.slots[j]? = some (.int (f j)) := by
  unfold mjSrc at hsrc
  split at hsrc
  · rename_i r
    split at hsrc
    · rename_i t' n f' hh
      split at hsrc
      · rename_i e
        cases hsrc
        subst e
        refine ⟨sz + r, vp_cell (tc t') (n0, .inl f), rfl, hS.2.1 r _ (mjW_at hh), (C.2.2.2.2.1.2 t' _ ht).1 n0 (fun j => .int (f j)), (fun q => by cases q), ?_, fun j hj => ?_⟩
        · rw [vp_cell_i, arrV_size]; exact Nat.le_refl _
        · rw [vp_cell_i, arrV_read _ _ hj]
      · cases hsrc
    · cases hsrc
  · rename_i k
    split at hsrc
    · rename_i e
      subst e
      cases ht
      obtain ⟨cell, h1, h2, h3, h4, h5, h6⟩ := mj_old C hS hsrc
      exact ⟨ol k, cell, rfl, h1, h2, h3, h4, h6⟩
    · cases hsrc
  · cases hsrc
theorem mj_nn (z : Int32) (hz : ¬ z < 0) : z.toInt = (z.toNatClampNeg : Int) := by
  have hz0 : (0 : Int) ≤ z.toInt := by
    have := Int32.not_lt.mp hz
    simpa using Int32.le_iff_toInt_le.mp this
  show z.toInt = ((z.toInt.toNat : Nat) : Int)
  omega
theorem mjn_copy : MjSoundN 74 mjCopy := by
  intro p l e R s m args below meth c Q cc own ini D tc sz ol o C q pc ml st h r H locs ls cells slots hq hr hdg hok hS hL hml hfr hlo hone hc1 hc2 kk
  obtain ⟨op', v, i, j, k, sw⟩ := q
  obtain rfl : op' = 74 := hq
  unfold mjCopy at hr
  split at hr
  · rename_i n dp d sp sv st
    split at hr
    · rename_i t n1 g hh
      split at hr
      · rename_i n0 f hsrc
        by_cases hc : (t = 0 ∨ t = 2 ∧ (List.range n.toNatClampNeg).all (fun i => fits .char (.int (f (sp.toNatClampNeg + i)))) = true) ∧ ¬ sp < 0 ∧ ¬ dp < 0 ∧ ¬ n < 0 ∧ sp.toNatClampNeg + n.toNatClampNeg ≤ n0 ∧ dp.toNatClampNeg + n.toNatClampNeg ≤ n1
        · rw [if_pos hc] at hr
          cases hr
          obtain ⟨ht, g1, g2, g3, g4, g5⟩ := hc
          have hty : ∃ ty, (mjTys tc)[t]? = some (tc t, ty) ∧ refKind ty = false ∧ ∀ i, i < n.toNatClampNeg → fits ty (.int (f (sp.toNatClampNeg + i))) = true := by
            rcases ht with rfl | ⟨rfl, hf⟩
            · exact ⟨.int, rfl, rfl, fun _ _ => rfl⟩
            · exact ⟨.char, rfl, rfl, fun i hi => List.all_eq_true.mp hf i (List.mem_range.mpr hi)⟩
          obtain ⟨ty, hty1, hprim, hfit⟩ := hty
          obtain ⟨a0, cs, e0, s1, s2, s3, s4, s5⟩ := mjSrc_cell C hS hty1 (by rcases ht with h | h; exact Or.inl h; exact Or.inr h.1) hsrc
          have hc1' : H[sz + d]? = some (vp_cell (tc t) (n1, .inl g)) := hS.2.1 d _ (mjW_at hh)
          obtain ⟨o0, k0, hk0, cm0, hkk0⟩ := s2
          obtain ⟨-, k1, hk1, cm1, hkk1⟩ := (C.2.2.2.2.1.2 t _ hty1).1 n1 (fun j => .int (g j))
          obtain ⟨w1, w2⟩ := of_decide_eq_true (show decide ((mjCpyE i).1 = own ∧ i < mjCpy.length) = true from hok)
          have wl := of_decide_eq_true (mj_all (d := ("", 0, 0)) mjCpy_ok w2)
          rw [show mjCpy.getD i ("", 0, 0) = mjCpyE i from rfl, w1] at wl
          have hsum := mj_sumV (sz := sz) (ol := ol) hone
          intro T hT X
          have hst : (Value.int n :: Value.int dp :: Value.ref d :: Value.int sp :: sv :: st).map (mjV sz ol) = .int n :: .int dp :: .ref (sz + d) :: .int sp :: .ref a0 :: st.map (mjV sz ol) := by
            simp only [List.map_cons, e0]; rfl
          obtain ⟨vm', X', step⟩ := X.arraycopy C.1 C.2.2.1 (mjG_of C.2.2.2.1 (mjT_mem wl) rfl) (mjG_of C.2.2.2.1 (mjT_mem mjAcp_ok.1) rfl) (mjG_of C.2.2.2.1 (mjT_mem mjAcp_ok.2.1) rfl) (mjG_of C.2.2.2.1 (mjT_mem mjAcp_ok.2.2.1) rfl) (src := a0) (dst := sz + d) (cs := cs) (cd := vp_cell (tc t) (n1, .inl g)) (srcPos := sp) (destPos := dp) (n := n) (by rw [hT]; exact s1) (by rw [hT]; exact hc1')
            o0 (fun _ h => by cases h) s3 (fun h => by cases h) hk0 hk1 hkk0 hkk1 (by simp [hprim]) g1 g2 g3
            (by rw [mj_nn sp g1, mj_nn n g3]; omega)
            (by rw [mj_nn dp g2, mj_nn n g3]; show ¬ _ > ((arrV (tc t) n1 (fun j => .int (g j))).slots.size : Int); rw [arrV_size]; omega)
            (fun vm₁ _ i hi => by
              have e : cs.slots.getD (sp.toNatClampNeg + i) .null = .int (f (sp.toNatClampNeg + i)) := by
                rw [Array.getD_eq_getD_getElem?, s5 _ (by omega)]
                rfl
              refine ⟨?_, ?_⟩
              · rw [e]
                exact hfit i hi
              · rw [e]
                exact trivial)
            (g := F0 m pc ls ((Value.int n :: Value.int dp :: Value.ref d :: Value.int sp :: sv :: st).map (mjV sz ol))) rfl (by rw [hml]) (rest := st.map (mjV sz ol)) hst (by rw [C.2.1]; exact hdg) hfr (by show 2 * 0 + _ + (7 + 11) ≤ _; have : ((st.map (mjV sz ol)).map fun v => v.category).sum ≤ 8 := hsum; omega)
          have e1 : copied cs (vp_cell (tc t) (n1, .inl g)) sp dp n = vp_cell (tc t) (n1, .inl (va_cpy f g sp.toNatClampNeg dp.toNatClampNeg n.toNatClampNeg)) := va_copiedX (fun z => .int z) cs (tc t) f g s5 g4
          rw [e1] at X' step
          have hl : sz + d < H.size := (Array.getElem?_eq_some_iff.mp hc1').1
          have hheap : ((T.setVm vm').setCell (sz + d) (vp_cell (tc t) (n1, .inl (va_cpy f g sp.toNatClampNeg dp.toNatClampNeg n.toNatClampNeg)))).heap = H.setIfInBounds (sz + d) (vp_cell (tc t) (n1, .inl (va_cpy f g sp.toNatClampNeg dp.toNatClampNeg n.toNatClampNeg))) := by rw [← hT]; rfl
          have oq : ∀ q : Nat, q ≠ sz + d → (H.setIfInBounds (sz + d) (vp_cell (tc t) (n1, .inl (va_cpy f g sp.toNatClampNeg dp.toNatClampNeg n.toNatClampNeg))))[q]? = H[q]? := fun q hq => by simp [Array.getElem?_setIfInBounds, Ne.symm hq]
          have hS0 := mjSm_set (k := 0) (c := .inl (t, n1, .inl (va_cpy f g sp.toNatClampNeg dp.toNatClampNeg n.toNatClampNeg))) hS hh (H1 := H.setIfInBounds (sz + d) (vp_cell (tc t) (n1, .inl (va_cpy f g sp.toNatClampNeg dp.toNatClampNeg n.toNatClampNeg)))) (show (H.setIfInBounds (sz + d) _)[sz + d]? = some _ by simp [Array.getElem?_setIfInBounds, hl]; rfl) (by simp) oq
          have k2 := kk (H.setIfInBounds (sz + d) (vp_cell (tc t) (n1, .inl (va_cpy f g sp.toNatClampNeg dp.toNatClampNeg n.toNatClampNeg)))) (locs ++ (cs.stretch sp.toNatClampNeg n.toNatClampNeg).zipIdx.map fun q => (⟨sz + d, dp.toNatClampNeg + q.2⟩ : Loc)) ls ⟨hS0.1, hS0.2.1, hS0.2.2.1, hS0.2.2.2.1, fun q hq => by
            rcases List.mem_append.mp hq with h | h
            · exact hS.2.2.2.2 q h
            · obtain ⟨z, -, hz⟩ := List.mem_map.mp h
              rw [← hz]
              exact Nat.le_add_right _ _⟩ hL
          have z1 : mjSlots (h.set d (.inl (t, n1, .inl (va_cpy f g sp.toNatClampNeg dp.toNatClampNeg n.toNatClampNeg)))) = mjSlots h := mjSlots_set hh rfl
          dsimp only at k2
          rw [List.length_set, z1, Nat.sub_self, Nat.sub_self] at k2
          obtain ⟨t2, a1, b1⟩ := k2 _ hheap X'
          exact ⟨t2, step t2 a1, b1⟩
        · rw [if_neg hc] at hr; cases hr
      · cases hr
    · cases hr
  · cases hr
theorem mjgr_mjCopy : MjGrow3 mjCopy := by
  intro o q pc ml st h r hr
  unfold mjCopy at hr
  (repeat' split at hr) <;> first | (cases hr; done) | (cases hr; refine ⟨by simp, Nat.le_of_eq (mjSlots_set (by assumption) (by simp [mjSl])).symm, rfl⟩)
theorem mjgr_mjMax : MjGrow3 mjMax := by
  intro o q pc ml st h r hr
  unfold mjMax at hr
  split at hr
  · cases hr; exact ⟨Nat.le_refl _, Nat.le_refl _, rfl⟩
  · cases hr
theorem mjgr_mjMin : MjGrow3 mjMin := by
  intro o q pc ml st h r hr
  unfold mjMin at hr
  split at hr
  · cases hr; exact ⟨Nat.le_refl _, Nat.le_refl _, rfl⟩
  · cases hr
theorem mjNat_ok {op : Nat} {hd : MjHd} (h : mjNat op = some hd) : MjSoundN op hd ∧ MjGrow3 hd := by
  unfold mjNat at h
  split at h
  · rename_i e; subst e; cases h; exact ⟨mjn_copy, mjgr_mjCopy⟩
  · split at h
    · rename_i e; subst e; cases h; exact ⟨mjn_max, mjgr_mjMax⟩
    · split at h
      · rename_i e; subst e; cases h; exact ⟨mjn_min, mjgr_mjMin⟩
      · cases h
