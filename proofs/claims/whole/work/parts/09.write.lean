/-! THE ROWS THAT WRITE OR MAKE CELLS -/
theorem mjSm_set {s : State} {D : va_G} {tc : Nat → ClassId} {sz : Nat} {ol : Nat → Nat} {h : MjH} {H H1 : Heap} {locs : List Loc} {r k : Nat} {c0 c : MjC} (hS : MjSm s D tc sz ol h H locs) (hr : h[r]? = some c0) (he : va_at D vwCl (sz + r, mjE tc sz ol c) H1) (hz : H1.size = H.size) (oq : ∀ q : Nat, q ≠ sz + r → H1[q]? = H[q]?) : MjSm s D tc sz ol (h.set r c) H1 (locs ++ [⟨sz + r, k⟩]) := by
  refine ⟨by rw [hz, hS.1, List.length_set], ?_, hS.2.2.put hz oq (Nat.le_add_right _ _)⟩
  rw [mjW_set]
  exact hS.2.1.set (A := fun q => sz ≤ q) mjW_D (mjW_at hr) he oq
theorem mjSm_push {s : State} {D : va_G} {tc : Nat → ClassId} {sz : Nat} {ol : Nat → Nat} {h : MjH} {H H1 : Heap} {locs : List Loc} {c : MjC} (hS : MjSm s D tc sz ol h H locs) (he : va_at D vwCl (sz + h.length, mjE tc sz ol c) H1) (hz : H1.size = H.size + 1) (oq : ∀ q : Nat, q < H.size → H1[q]? = H[q]?) : MjSm s D tc sz ol (h ++ [c]) H1 locs := by
  have hk : ∀ (k : Nat) (x : Nat × va_E), (mjW tc sz ol h)[k]? = some x → H1[x.1]? = H[x.1]? := fun k x hx => oq x.1 ((hS.2.1 k x hx).lt)
  refine ⟨by rw [hz, hS.1]; simp; omega, ?_, ⟨Nat.le_trans hS.2.2.1 (by omega), fun x h1 h2 => (oq x (Nat.lt_of_lt_of_le h1 hS.2.2.1)).trans (hS.2.2.2.1 x h1 h2), hS.2.2.2.2⟩⟩
  rw [mjW_push]
  refine (hS.2.1.kept hk).app (fun k x hx => ?_)
  have hz : k < 1 := (List.getElem?_eq_some_iff.mp hx).1
  rw [show k = 0 by omega] at hx
  cases hx
  exact he
theorem mjSlots_set {h : MjH} {r : Nat} {c0 c : MjC} (hr : h[r]? = some c0) (hc : mjSl c = mjSl c0) : mjSlots (h.set r c) = mjSlots h := by
  unfold mjSlots
  congr 1
  apply List.ext_getElem?
  intro i
  rw [List.getElem?_map, List.getElem?_map, List.getElem?_set]
  by_cases hi : r = i
  · subst hi
    have h5 := (List.getElem?_eq_some_iff.mp hr).1
    rw [if_pos rfl, if_pos h5, hr]
    simp [hc]
  · simp [hi]
theorem mjSlots_push {h : MjH} {c : MjC} : mjSlots (h ++ [c]) = mjSlots h + mjSl c := by simp [mjSlots]
/-- a row that sets one cell -/
theorem mjSound_set {op : Nat} {hd : MjHd} (hp : ∀ (p : Program) (l : Launch) (e : Env) (R : Room) (s : State) (m : MethodId) (args : Array Value) (below : List Frame) (meth : Method) (c : Code) (Q : State → Prop) (cc : ByteArray) (own : String) (ini : Bool) (D : va_G) (tc : Nat → ClassId) (sz : Nat) (ol : Nat → Nat) (o : MjO),
  MjCx p s m args meth c cc own ini D tc sz ol o → ∀ (v : Int) (i j k : Nat) (sw : List (Int × Nat)) (pc : Nat) (ml : MjL) (st : List Value) (h : MjH) (r : Nat × MjL × List Value × MjH) (H : Heap) (locs : List Loc) (ls : Array Slot) (cells slots : Nat),
  hd o (op, v, i, j, k, sw) pc ml st h = some r → decode cc pc = .ok (mjEnc pc (op, v, i, j, k, sw)) → mjOk own ini (op, v, i, j, k, sw) = true → MjSm s D tc sz ol h H locs → MjLv sz ol ml ls →
  ∃ (a : Nat) (c0 c1 : MjC), h[a]? = some c0 ∧ mjSl c1 = mjSl c0 ∧ r.2.2.2 = h.set a c1 ∧ r.2.1 = ml ∧ ((∀ (H' : Heap) (x : Nat), va_at D vwCl (sz + a, mjE tc sz ol c1) H' → H'.size = H.size → (∀ q : Nat, q ≠ sz + a → H'[q]? = H[q]?) → W p l e R s m args below meth c H' (locs ++ [⟨sz + a, x⟩]) cells slots Q (F0 m r.1 ls (r.2.2.1.map (mjV sz ol)))) → W p l e R s m args below meth c H locs cells slots Q (F0 m pc ls (st.map (mjV sz ol))))) : MjSound op hd := by
  intro p l e R s m args below meth c Q cc own ini D tc sz ol o C q pc ml st h r H locs ls cells slots hq hr hdg hok hS hL hc1 hc2 kk
  obtain ⟨op', v, i, j, k, sw⟩ := q
  obtain rfl : op' = op := hq
  obtain ⟨a, c0, c1, e0, e1, e2, e3, k1⟩ := hp p l e R s m args below meth c Q cc own ini D tc sz ol o C v i j k sw pc ml st h r H locs ls cells slots hr hdg hok hS hL
  refine k1 fun H' x g1 g2 g3 => ?_
  have k2 := kk H' _ ls (by rw [e2]; exact mjSm_set (k := x) hS e0 g1 g2 g3) (by rw [e3]; exact hL)
  rw [e2, List.length_set, mjSlots_set e0 e1, Nat.sub_self, Nat.sub_self] at k2
  exact k2
theorem mjV_nar {sz : Nat} {ol : Nat → Nat} {ty : FieldType} {v : Value} (h1 : narrow ty v = v) (h2 : fits ty v = true) : narrow ty (mjV sz ol v) = mjV sz ol v ∧ fits ty (mjV sz ol v) = true := by
  cases v with
  | ref a => cases ty <;> first | exact ⟨rfl, rfl⟩ | cases h2
  | retAddr a => cases ty <;> cases h2
  | _ => exact ⟨h1, h2⟩
theorem mjs_put {op : Nat} (hop : op = 54 ∨ op = 55) : MjSound op mjPut := by
  refine mjSound_set ?_
  intro p l e R s m args below meth c Q cc own ini D tc sz ol o C v i j k sw pc ml st h r H locs ls cells slots hr hdg hok hS hL
  unfold mjPut at hr
  split at hr
  · rename_i x a st
    split at hr
    · rename_i cj fs hh
      by_cases hcj : cj = j ∧ k < fs.length ∧ mjNar (mjTy cj k) x = true
      · rw [if_pos hcj] at hr
        cases hr
        obtain ⟨rfl, hkl, hn00⟩ := hcj
        obtain ⟨hn0, hf0⟩ := mjNar_ok hn00
        obtain ⟨hn, hfit⟩ := mjV_nar (sz := sz) (ol := ol) hn0 hf0
        refine ⟨a, .inr (cj, fs), .inr (cj, fs.set k x), hh, by simp [mjSl], rfl, rfl, fun kk => ?_⟩
        have hts := C.2.2.2.1
        have hown := C.2.2.1
        have he := mjW_at (tc := tc) (sz := sz) (ol := ol) hh
        have hbase : mjFldE i = (own, (mjFldE i).2.1, cj, k, (mjFldE i).2.2.2.2) ∧ i < mjFld.length ∧ cj < vwCl.length ∧ k < (mjCls cj).2.2 := by
          rcases hop with rfl | rfl
          · obtain ⟨h1, h2, h3, h4, -⟩ := of_decide_eq_true (show decide (mjFldE i = (own, (mjFldE i).2.1, cj, k, (mjFldE i).2.2.2.2) ∧ i < mjFld.length ∧ cj < vwCl.length ∧ k < (mjCls cj).2.2 ∧ ((mjCls cj).2.1 k).2.2.2 = false) = true from hok)
            exact ⟨h1, h2, h3, h4⟩
          · obtain ⟨h1, h2, h3, h4, -⟩ := of_decide_eq_true (show decide (mjFldE i = (own, (mjFldE i).2.1, cj, k, (mjFldE i).2.2.2.2) ∧ i < mjFld.length ∧ cj < vwCl.length ∧ k < (mjCls cj).2.2 ∧ ((mjCls cj).2.1 k).2.2.2 = true ∧ ini = true ∧ ((mjCls cj).2.1 k).1 = own) = true from hok)
            exact ⟨h1, h2, h3, h4⟩
        obtain ⟨h1, h2, h3, h4⟩ := hbase
        have g := of_decide_eq_true (mj_all (d := ("", 0, 0, 0, 0)) mjFld_ok h2)
        have hw := mjG_of hts (mjT_mem g) rfl
        rw [show mjFld.getD i ("", 0, 0, 0, 0) = mjFldE i from rfl, h1] at hw
        have hcl := mjCls_get h3
        have hin := mjCls_in h3
        have hap := va_apart (own := own) hts hin (mjTy cj) (mjCls_ty' h3) (mjCls_nm' h3) C.2.2.2.2.1 hcl
        obtain ⟨r', r1, cell, q1, q2, q3, q4⟩ := hS.2.1 a _ he
        have hr' : r' = ((mjCls cj).1, (mjCls cj).2.1, (mjCls cj).2.2) := Option.some.inj (r1.symm.trans hcl)
        subst hr'
        obtain ⟨hSl, hfc, kC, hkC, hkind⟩ := C.2.2.2.2.1.1 cj _ hcl
        obtain ⟨cf, kf, fi, f, hi, hsl⟩ := hSl k h4
        have hlay := hts _ (hin _ (u_in_lay h4))
        have hst := (u_facts hfc hkC (u_lays hts hin h4) hi).1
        have hd := mjCls_ty' h3 k h4
        have fin : ∀ (H' : Heap), H'[sz + a]? = some (cell.setSlot f.slot (mjV sz ol x)) → H'.size = H.size → (∀ q : Nat, q ≠ sz + a → H'[q]? = H[q]?) → W p l e R s m args below meth c H' (locs ++ [⟨sz + a, f.slot⟩]) cells slots Q (F0 m (pc + 3) ls (st.map (mjV sz ol))) := by
          intro H' e1 e2 e3
          refine kk H' f.slot ?_ e2 e3
          rw [hsl] at e1
          refine ⟨_, hcl, t_OB.to (V := updV (vp_V (fs.map (mjV sz ol))) k (mjV sz ol x)) ⟨_, e1, q2, q3, t_set q4 hap h4 _⟩ (fun j _ => ?_)⟩
          rw [vp_updV_set (by simpa using hkl)]
          simp [List.map_set]
        have hlt : f.slot < cell.slots.size := by rw [hsl]; exact k2_hasslot (q4 k h4)
        rcases hop with rfl | rfl
        · obtain ⟨-, -, -, -, hfin⟩ := of_decide_eq_true (show decide (mjFldE i = (own, (mjFldE i).2.1, cj, k, (mjFldE i).2.2.2.2) ∧ i < mjFld.length ∧ cj < vwCl.length ∧ k < (mjCls cj).2.2 ∧ ((mjCls cj).2.1 k).2.2.2 = false) = true from hok)
          unfold u_lay at hlay
          rw [if_neg (by rw [hfin]; decide)] at hlay
          have h6 := u_store hfc hkC hkind hlay hi hd hn hfit
          exact W.putK C.1 C.2.1 (f := f) ⟨hown, hw, ⟨_, _, _, hi⟩, hst⟩ (by rw [q2]; exact h6) q1 q3 hlt rfl rfl (show decode cc pc = .ok (.putfield (mjFldE i).2.1, 3) from hdg) fin
        · obtain ⟨-, -, -, -, hfin, hini, hdecl⟩ := of_decide_eq_true (show decide (mjFldE i = (own, (mjFldE i).2.1, cj, k, (mjFldE i).2.2.2.2) ∧ i < mjFld.length ∧ cj < vwCl.length ∧ k < (mjCls cj).2.2 ∧ ((mjCls cj).2.1 k).2.2.2 = true ∧ ini = true ∧ ((mjCls cj).2.1 k).1 = own) = true from hok)
          unfold u_lay at hlay
          rw [if_pos hfin] at hlay
          have hcf : m.cls = cf := by
            obtain ⟨_, _, c', _, _, _, -, -, hf', -, -, -, hown2, -⟩ := Cond.laysFinal_spec hlay
            have e1 : c' = cf := by have := hi.symm.trans hf'; simp at this; exact this.1.symm
            rw [hdecl] at hown2
            rw [← e1]; exact Option.some.inj (hown.symm.trans hown2)
          have h6 := u_fits hfc hkC hkind (Or.inr hlay) hi hd hn hfit
          exact W.putFinK C.1 C.2.1 hown hw hi hst hcf (C.2.2.2.2.2.2.2.2 hini) (by rw [q2]; exact h6) q1 q3 hlt rfl rfl (show decode cc pc = .ok (.putfield (mjFldE i).2.1, 3) from hdg) fin
      · rw [if_neg hcj] at hr; cases hr
    · cases hr
  · cases hr
theorem mjs_57 : MjSound 57 (mjSt 0 id) := by
  refine mjSound_set ?_
  intro p l e R s m args below meth c Q cc own ini D tc sz ol o C v i j k sw pc ml st h r H locs ls cells slots hr hdg hok hS hL
  unfold mjSt at hr
  split at hr
  · rename_i y x a st
    split at hr
    · rename_i t' n f hh
      by_cases hc : t' = 0 ∧ ¬ (x < 0 ∨ n ≤ x.toNatClampNeg)
      · rw [if_pos hc] at hr
        cases hr
        obtain ⟨rfl, hin⟩ := hc
        refine ⟨a, .inl (0, n, .inl f), .inl (0, n, .inl (upd f x.toNatClampNeg (id y))), hh, rfl, rfl, rfl, fun kk => ?_⟩
        refine W.iast C.1 C.2.1 (hS.2.1 a _ (mjW_at hh)) ((C.2.2.2.2.1.2 0 _ rfl).1 n (fun j => .int (f j))) (fun q => by cases q) (by show ¬ (x < 0 ∨ (arrV _ _ _).slots.size ≤ _); rw [arrV_size]; exact hin) rfl rfl (show decode cc pc = .ok (.iastore, 1) from hdg) fun H1 e z oq => kk H1 _ ?_ z oq
        show H1[sz + a]? = some (vp_cell _ _)
        rw [e]
        show some ((vp_cell (tc 0) (n, .inl f)).setSlot _ _) = some (vp_cell (tc 0) (n, .inl _))
        rw [vp_cell_i, vp_cell_i, arrV_store]
        congr 2
        funext q
        by_cases hq : q = x.toNatClampNeg
        · subst hq
          simp [updV, upd]
        · simp [updV, upd, hq]
      · rw [if_neg hc] at hr; cases hr
    · cases hr
  · cases hr
theorem mjs_59 : MjSound 59 (mjSt 1 (vp_nar .boolean)) := by
  refine mjSound_set ?_
  intro p l e R s m args below meth c Q cc own ini D tc sz ol o C v i j k sw pc ml st h r H locs ls cells slots hr hdg hok hS hL
  unfold mjSt at hr
  split at hr
  · rename_i y x a st
    split at hr
    · rename_i t' n f hh
      by_cases hc : t' = 1 ∧ ¬ (x < 0 ∨ n ≤ x.toNatClampNeg)
      · rw [if_pos hc] at hr
        cases hr
        obtain ⟨rfl, hin⟩ := hc
        refine ⟨a, .inl (1, n, .inl f), .inl (1, n, .inl (upd f x.toNatClampNeg (vp_nar .boolean y))), hh, rfl, rfl, rfl, fun kk => ?_⟩
        refine W.zast C.1 C.2.1 (hS.2.1 a _ (mjW_at hh)) ((C.2.2.2.2.1.2 1 _ rfl).1 n (fun j => .int (f j))) (fun q => by cases q) (by show ¬ (x < 0 ∨ (arrV _ _ _).slots.size ≤ _); rw [arrV_size]; exact hin) rfl rfl (show decode cc pc = .ok (.bastore, 1) from hdg) fun H1 e z oq => kk H1 _ ?_ z oq
        show H1[sz + a]? = some (vp_cell _ _)
        rw [e]
        show some ((vp_cell (tc 1) (n, .inl f)).setSlot _ _) = some (vp_cell (tc 1) (n, .inl _))
        rw [vp_cell_i, vp_cell_i, arrV_store]
        congr 2
        funext q
        by_cases hq : q = x.toNatClampNeg
        · subst hq
          simp [updV, upd, vp_nar]
          try rfl
        · simp [updV, upd, hq]
      · rw [if_neg hc] at hr; cases hr
    · cases hr
  · cases hr
theorem mjs_61 : MjSound 61 (mjSt 2 (vp_nar .char)) := by
  refine mjSound_set ?_
  intro p l e R s m args below meth c Q cc own ini D tc sz ol o C v i j k sw pc ml st h r H locs ls cells slots hr hdg hok hS hL
  unfold mjSt at hr
  split at hr
  · rename_i y x a st
    split at hr
    · rename_i t' n f hh
      by_cases hc : t' = 2 ∧ ¬ (x < 0 ∨ n ≤ x.toNatClampNeg)
      · rw [if_pos hc] at hr
        cases hr
        obtain ⟨rfl, hin⟩ := hc
        refine ⟨a, .inl (2, n, .inl f), .inl (2, n, .inl (upd f x.toNatClampNeg (vp_nar .char y))), hh, rfl, rfl, rfl, fun kk => ?_⟩
        refine W.cast C.1 C.2.1 (hS.2.1 a _ (mjW_at hh)) ((C.2.2.2.2.1.2 2 _ rfl).1 n (fun j => .int (f j))) (fun q => by cases q) (by show ¬ (x < 0 ∨ (arrV _ _ _).slots.size ≤ _); rw [arrV_size]; exact hin) rfl rfl (show decode cc pc = .ok (.castore, 1) from hdg) fun H1 e z oq => kk H1 _ ?_ z oq
        show H1[sz + a]? = some (vp_cell _ _)
        rw [e]
        show some ((vp_cell (tc 2) (n, .inl f)).setSlot _ _) = some (vp_cell (tc 2) (n, .inl _))
        rw [vp_cell_i, vp_cell_i, arrV_store]
        congr 2
        funext q
        by_cases hq : q = x.toNatClampNeg
        · subst hq
          simp [updV, upd, vp_nar]
          try rfl
        · simp [updV, upd, hq]
      · rw [if_neg hc] at hr; cases hr
    · cases hr
  · cases hr
theorem mjs_63 : MjSound 63 mjASt := by
  refine mjSound_set ?_
  intro p l e R s m args below meth c Q cc own ini D tc sz ol o C v i j k sw pc ml st h r H locs ls cells slots hr hdg hok hS hL
  unfold mjASt at hr
  split at hr
  · rename_i y x a st
    split at hr
    · rename_i t' n f cj fs hh hv
      by_cases hc : mjComp t' cj = true ∧ ¬ (x < 0 ∨ n ≤ x.toNatClampNeg)
      · rw [if_pos hc] at hr
        cases hr
        obtain ⟨hcomp, hin⟩ := hc
        refine ⟨a, .inl (t', n, .inr (.inr (.inr (.inr f)))), .inl (t', n, .inr (.inr (.inr (.inr (va_up f x.toNatClampNeg (some y)))))), hh, rfl, rfl, rfl, fun kk => ?_⟩
        have hlt : x.toNatClampNeg < n := Nat.not_le.mp fun q => hin (Or.inr q)
        have h0 : ¬ x < 0 := fun q => hin (Or.inl q)
        unfold mjComp at hcomp
        obtain ⟨hcl0, hcc⟩ := Bool.and_eq_true_iff.mp hcomp
        have hcl := mjCls_get (of_decide_eq_true hcl0)
        obtain ⟨r', hr', cellV, g1, g2, g3, -⟩ := hS.2.1 y _ (mjW_at hv)
        have hcls := (C.2.2.2.2.1.1 cj _ hcl).2
        have ht : (mjTys tc)[t']? = some (tc t', .object (mjCls cj).1) := by
          rcases Bool.or_eq_true_iff.mp hcc with q | q
          · obtain ⟨q1, q2⟩ := Bool.and_eq_true_iff.mp q
            have q1 := eq_of_beq q1
            have q2 := eq_of_beq q2
            subst q1
            rw [q2]; rfl
          · obtain ⟨q1, q2⟩ := Bool.and_eq_true_iff.mp q
            have q1 := eq_of_beq q1
            have q2 := eq_of_beq q2
            subst q1
            rw [q2]; rfl
        obtain ⟨kA, comp, k1, k2, k3, -⟩ := (C.2.2.2.2.1.2 t' _ ht).2
        have hcomp2 : comp = D.1 cj := Option.some.inj (k3.symm.trans hcls.1)
        subst hcomp2
        obtain ⟨kC, hkC, -⟩ := hcls.2
        refine W.aast C.1 C.2.1 (hS.2.1 a _ (mjW_at hh)) (fun q h => by cases h) (fun h => by cases h) k1 k2 rfl hkC ⟨h0, by show _ < (arrV _ _ _).slots.size; rw [arrV_size]; exact hlt⟩ g1 (fun q h => by rw [g3] at h; cases h) (by rw [g2]; exact hkC) (by rw [g2]; exact va_assign hcls) rfl rfl (show decode cc pc = .ok (.aastore, 1) from hdg) fun H1 e z oq => kk H1 _ ?_ z oq
        show H1[sz + a]? = some (vp_cell _ _)
        rw [e]
        show some ((vp_cell (tc t') (n, .inr (.inr (.inr (.inr (fun j => (f j).map (fun a => sz + a))))))).setSlot _ _) = some (vp_cell (tc t') (n, .inr (.inr (.inr (.inr _)))))
        rw [vp_cell_q, vp_cell_q, arrV_store]
        congr 2
        funext q
        by_cases hq : q = x.toNatClampNeg
        · subst hq
          simp [updV, va_up, va_rf]
        · simp [updV, va_up, hq]
      · rw [if_neg hc] at hr; cases hr
    · cases hr
  · cases hr
/-- a row that makes one cell -/
theorem mjSound_push {op : Nat} {hd : MjHd} (hp : ∀ (p : Program) (l : Launch) (e : Env) (R : Room) (s : State) (m : MethodId) (args : Array Value) (below : List Frame) (meth : Method) (c : Code) (Q : State → Prop) (cc : ByteArray) (own : String) (ini : Bool) (D : va_G) (tc : Nat → ClassId) (sz : Nat) (ol : Nat → Nat) (o : MjO),
  MjCx p s m args meth c cc own ini D tc sz ol o → ∀ (v : Int) (i j k : Nat) (sw : List (Int × Nat)) (pc : Nat) (ml : MjL) (st : List Value) (h : MjH) (r : Nat × MjL × List Value × MjH) (H : Heap) (locs : List Loc) (ls : Array Slot) (cells slots : Nat),
  hd o (op, v, i, j, k, sw) pc ml st h = some r → decode cc pc = .ok (mjEnc pc (op, v, i, j, k, sw)) → mjOk own ini (op, v, i, j, k, sw) = true → MjSm s D tc sz ol h H locs → MjLv sz ol ml ls →
  ∃ (c1 : MjC), r.2.2.2 = h ++ [c1] ∧ r.2.1 = ml ∧ (cells + 1 ≤ R.cells → slots + mjSl c1 ≤ R.slots → (∀ (H' : Heap), va_at D vwCl (sz + h.length, mjE tc sz ol c1) H' → H'.size = H.size + 1 → (∀ q : Nat, q < H.size → H'[q]? = H[q]?) → W p l e R s m args below meth c H' locs (cells + 1) (slots + mjSl c1) Q (F0 m r.1 ls (r.2.2.1.map (mjV sz ol)))) → W p l e R s m args below meth c H locs cells slots Q (F0 m pc ls (st.map (mjV sz ol))))) : MjSound op hd := by
  intro p l e R s m args below meth c Q cc own ini D tc sz ol o C q pc ml st h r H locs ls cells slots hq hr hdg hok hS hL hc1 hc2 kk
  obtain ⟨op', v, i, j, k, sw⟩ := q
  obtain rfl : op' = op := hq
  obtain ⟨c1, e2, e3, k1⟩ := hp p l e R s m args below meth c Q cc own ini D tc sz ol o C v i j k sw pc ml st h r H locs ls cells slots hr hdg hok hS hL
  have x1 : (h ++ [c1]).length - h.length = 1 := by simp
  have x2 : mjSlots (h ++ [c1]) - mjSlots h = mjSl c1 := by rw [mjSlots_push]; omega
  rw [e2, x1] at hc1
  rw [e2, x2] at hc2
  refine k1 hc1 hc2 fun H' g1 g2 g3 => ?_
  have k2 := kk H' locs ls (by rw [e2]; exact mjSm_push hS g1 g2 g3) (by rw [e3]; exact hL)
  rw [e2, x1, x2] at k2
  exact k2
theorem mjs_67 : MjSound 67 mjNewO := by
  refine mjSound_push ?_
  intro p l e R s m args below meth c Q cc own ini D tc sz ol o C v i j k sw pc ml st h r H locs ls cells slots hr hdg hok hS hL
  cases hr
  refine ⟨.inr (j, mjDef j), rfl, rfl, fun hc1 hc2 kk => ?_⟩
  obtain ⟨h1, h2, h3, h4⟩ := of_decide_eq_true (show decide ((mjNewE i).1 = own ∧ i < mjNew.length ∧ j < vwCl.length ∧ (mjCls j).1 = (mjNewE i).2.2.1) = true from hok)
  have g := of_decide_eq_true (mj_all (d := ("", 0, "", 0)) mjNew_ok h2)
  have hw := mjG_of C.2.2.2.1 (mjT_mem g) rfl
  rw [show mjNew.getD i ("", 0, "", 0) = mjNewE i from rfl, h1, ← h4] at hw
  obtain ⟨g1, g2⟩ := of_decide_eq_true (mj_rng mjCls_ok h3)
  have hins := mjG_of C.2.2.2.1 (mjT_mem g1) rfl
  have hini := mjG_of C.2.2.2.1 (mjT_mem g2) rfl
  have hKn := C.2.2.2.2.1.1 j _ (mjCls_get h3)
  have hsl : mjSl (.inr (j, mjDef j)) = (mjCls j).2.2 := by simp [mjSl, mjDef]
  rw [hsl] at hc2 kk
  refine W.newcK C.1 C.2.1 C.2.2.1 hw hins hini rfl (show decode cc pc = .ok (.new (mjNewE i).2.1, 3) from hdg) hc1 hc2 hKn.2.1 hS.1 fun H1 kC hkC e1 z1 o1 => ?_
  refine kk H1 ⟨_, mjCls_get h3, (u_born (mjTy j) C.2.2.2.1 (mjCls_in h3) hKn hkC e1 (mjCls_ty' h3)).to (fun t ht => ?_)⟩ (by rw [z1, hS.1]) (fun q hq => o1 q (by rw [← hS.1]; exact hq))
  simp only [vp_V, mjDef, List.map_map, List.getD_eq_getElem?_getD, List.getElem?_map]
  have ht : t < (mjCls j).2.2 := ht
  rw [List.getElem?_range ht]
  simp only [Option.map_some, Option.getD_some, Function.comp]
  cases mjTy j t <;> rfl
theorem mjs_65 : MjSound 65 mjNewA := by
  refine mjSound_push ?_
  intro p l e R s m args below meth c Q cc own ini D tc sz ol o C v i j k sw pc ml st h r H locs ls cells slots hr hdg hok hS hL
  unfold mjNewA at hr
  split at hr
  · rename_i n st
    by_cases hc : n < 0 ∨ 100000 < n.toNatClampNeg
    · rw [if_pos hc] at hr; cases hr
    · rw [if_neg hc] at hr
      cases hr
      refine ⟨.inl (i, n.toNatClampNeg, .inl (fun _ => 0)), rfl, rfl, fun hc1 hc2 kk => ?_⟩
      have hi : i < 3 := of_decide_eq_true (show decide (i < 3) = true from hok)
      have hn : ¬ n < 0 := fun q => hc (Or.inl q)
      have hb : n.toNatClampNeg ≤ 100000 := Nat.not_lt.mp fun q => hc (Or.inr q)
      have hac : (Cond.arrayClass (newarray.typeOf (mjAty i))).before args s = true := by
        rcases (show i = 0 ∨ i = 1 ∨ i = 2 by omega) with rfl | rfl | rfl
        · exact mjG_of C.2.2.2.1 (w := .arrayClass .int) (mjT_mem (p := mjAcp.1) mjAc_ok.1) rfl
        · exact mjG_of C.2.2.2.1 (w := .arrayClass .boolean) (mjT_mem (p := mjAcp.2.1) mjAc_ok.2.1) rfl
        · exact mjG_of C.2.2.2.1 (w := .arrayClass .char) (mjT_mem (p := mjAcp.2.2) mjAc_ok.2.2) rfl
      have hbytes : n.toNatClampNeg * componentBytes (newarray.typeOf (mjAty i)) ≤ 536870912 := by
        rcases (show i = 0 ∨ i = 1 ∨ i = 2 by omega) with rfl | rfl | rfl
        · show n.toNatClampNeg * 4 ≤ _; omega
        · show n.toNatClampNeg * 1 ≤ _; omega
        · show n.toNatClampNeg * 2 ≤ _; omega
      refine va_newaK C.1 C.2.1 hac rfl (show decode cc pc = .ok (.newarray (mjAty i), 2) from hdg) rfl hn rfl hbytes hc1 hc2 hS.1 fun H1 cA e1 z1 o1 hAr hNm => kk H1 ?_ (by rw [z1, hS.1]) (fun q hq => o1 q (by rw [← hS.1]; exact hq))
      show H1[sz + h.length]? = some (vp_cell (tc i) (n.toNatClampNeg, .inl (fun _ => 0)))
      rw [e1, vp_cell_i]
      rcases (show i = 0 ∨ i = 1 ∨ i = 2 by omega) with rfl | rfl | rfl
      · have h5 := (C.2.2.2.2.1.2 0 _ rfl).2
        rw [Option.some.inj (hNm.symm.trans h5)]; rfl
      · have h5 := (C.2.2.2.2.1.2 1 _ rfl).2
        rw [Option.some.inj (hNm.symm.trans h5)]; rfl
      · have h5 := (C.2.2.2.2.1.2 2 _ rfl).2
        rw [Option.some.inj (hNm.symm.trans h5)]; rfl
  · cases hr
theorem mjs_66 : MjSound 66 mjNewQ := by
  refine mjSound_push ?_
  intro p l e R s m args below meth c Q cc own ini D tc sz ol o C v i j k sw pc ml st h r H locs ls cells slots hr hdg hok hS hL
  unfold mjNewQ at hr
  split at hr
  · rename_i n st
    by_cases hc : n < 0 ∨ 100000 < n.toNatClampNeg
    · rw [if_pos hc] at hr; cases hr
    · rw [if_neg hc] at hr
      cases hr
      refine ⟨.inl (j, n.toNatClampNeg, .inr (.inr (.inr (.inr (fun _ => none))))), rfl, rfl, fun hc1 hc2 kk => ?_⟩
      obtain ⟨h1, h2, h3⟩ := of_decide_eq_true (show decide ((mjNewE i).1 = own ∧ i < mjNew.length ∧ ((mjNewE i).2.2.1 = "PocketMachine$Routine" ∧ j = 3 ∨ (mjNewE i).2.2.1 = "PocketMachine$Strand" ∧ j = 4)) = true from hok)
      have g := of_decide_eq_true (mj_all (d := ("", 0, "", 0)) mjNew_ok h2)
      have hw := mjG_of C.2.2.2.1 (mjT_mem g) rfl
      rw [show mjNew.getD i ("", 0, "", 0) = mjNewE i from rfl, h1] at hw
      have hn : ¬ n < 0 := fun q => hc (Or.inl q)
      have hb : n.toNatClampNeg ≤ 100000 := Nat.not_lt.mp fun q => hc (Or.inr q)
      have hd' : decode cc pc = .ok (.anewarray (mjNewE i).2.1, 3) := hdg
      have key : ∀ (Cn : String) (hov : va_AO Cn s) (htc : s.vm.findClass ("[" ++ (FieldType.object Cn).toString) = some (tc j)), (Cond.classLink own (mjNewE i).2.1 Cn).before args s = true → W p l e R s m args below meth c H locs cells slots Q (F0 m pc ls ((Value.int n :: st).map (mjV sz ol))) := by
        intro Cn hov htc hwc
        refine W.anew C.1 C.2.1 C.2.2.1 hwc (va_AO.use hov) rfl hd' rfl hn (by omega) hc1 hc2 fun cA kA comp f1 f2 f3 f4 => ?_
        rw [Option.some.inj (f1.symm.trans htc)]
        rw [hS.1]
        refine kk _ ?_ (by rw [Array.size_push]) (fun q hq => by rw [Array.getElem?_push, if_neg (Nat.ne_of_lt hq)])
        show (H.push _)[sz + h.length]? = some (vp_cell (tc j) (n.toNatClampNeg, .inr (.inr (.inr (.inr (fun _ => none))))))
        rw [← hS.1, Array.getElem?_push_size, vp_cell_q, ← arrV_new]
        rfl
      rcases h3 with ⟨h3, rfl⟩ | ⟨h3, rfl⟩
      · rw [h3] at hw
        obtain ⟨kA, comp, -, -, -, k4⟩ := (C.2.2.2.2.1.2 3 _ rfl).2
        exact key _ C.2.2.2.2.2.1.2.1 k4 hw
      · rw [h3] at hw
        obtain ⟨kA, comp, -, -, -, k4⟩ := (C.2.2.2.2.1.2 4 _ rfl).2
        exact key _ C.2.2.2.2.2.1.2.2 k4 hw
  · cases hr
