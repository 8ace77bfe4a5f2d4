/-! THE ROWS THAT READ OR WRITE CELLS -/
theorem mjp_ldc {op n : Nat} (hop : (op = 3 ∧ n = 2) ∨ (op = 4 ∧ n = 3)) : MjPure op (mjPush n) := by
  intro p l e R s m args below meth c Q cc own ini D tc sz ol o C v i j k sw pc ml st h r H locs ls cells slots hr hdg hok hS hL
  cases hr
  refine ⟨rfl, fun kk => ?_⟩
  rcases hop with ⟨rfl, rfl⟩ | ⟨rfl, rfl⟩
  · obtain ⟨h1, h2, h3⟩ := of_decide_eq_true (show decide ((mjConE i).1 = own ∧ (mjConE i).2.2.1 = Int32.ofInt v ∧ i < mjCon.length) = true from hok)
    have hw := mjG_of C.2.2.2.1 (mjT_mem (of_decide_eq_true (mj_all (d := ("", 0, 0, 0)) mjCon_ok h3))) rfl
    rw [show mjCon.getD i ("", 0, 0, 0) = mjConE i from rfl, h1, h2] at hw
    exact lv_ldc C.1 C.2.1 C.2.2.1 hw (show decode cc pc = .ok (.ldc (mjConE i).2.1, 2) from hdg) (kk ls hL)
  · obtain ⟨h1, h2, h3⟩ := of_decide_eq_true (show decide ((mjConE i).1 = own ∧ (mjConE i).2.2.1 = Int32.ofInt v ∧ i < mjCon.length) = true from hok)
    have hw := mjG_of C.2.2.2.1 (mjT_mem (of_decide_eq_true (mj_all (d := ("", 0, 0, 0)) mjCon_ok h3))) rfl
    rw [show mjCon.getD i ("", 0, 0, 0) = mjConE i from rfl, h1, h2] at hw
    exact lv_ldcw C.1 C.2.1 C.2.2.1 hw (show decode cc pc = .ok (.ldc_w (mjConE i).2.1, 3) from hdg) (kk ls hL)
theorem mjp_68 : MjPure 68 mjStatic := by
  intro p l e R s m args below meth c Q cc own ini D tc sz ol o C v i j k sw pc ml st h r H locs ls cells slots hr hdg hok hS hL
  cases hr
  refine ⟨rfl, fun kk => ?_⟩
  obtain ⟨h1, h2, h3, h4⟩ := of_decide_eq_true (show decide ((mjStatE i).1 = own ∧ (mjStatE i).2.2.1 = j ∧ (mjStatE i).2.2.2.1 = 0 ∧ i < mjStat.length) = true from hok)
  obtain ⟨g1, g2, g3⟩ := of_decide_eq_true (mj_all (d := ("", 0, 0, 0, 0)) mjStat_ok h4)
  rw [show mjStat.getD i ("", 0, 0, 0, 0) = mjStatE i from rfl] at g1 g2 g3
  rw [h1, h2, h3, if_pos rfl] at g1
  rw [h2] at g2 g3
  have hw := mjG_of C.2.2.2.1 (mjT_mem g1) rfl
  have hZ := C.2.2.2.2.2.2.1.2 (j - 1) (mjOldN.getD (j - 1) ("", "", "")) (by rw [List.getD_eq_getElem?_getD, List.getElem?_eq_getElem g3]; rfl)
  rw [show j - 1 + 1 = j by omega] at hZ
  exact va_gets C.1 C.2.1 hZ hS.2.2 C.2.2.1 hw (fun _ h9 => h9) (show decode cc pc = .ok (.getstatic (mjStatE i).2.1, 3) from hdg) (kk ls hL)
theorem mjNest_of {args : Array Value} {s : State} {w : Cond} (h : MjTb s) (hw : w ∈ lw_tbl) (hn : mjIsNest w = true) (ht : w.onTables = true) : w.before args s = true := va_Nw.use ht (h.1 w (List.mem_filter.mpr ⟨hw, hn⟩))
theorem mjp_75 : MjPure 75 mjStatic := by
  intro p l e R s m args below meth c Q cc own ini D tc sz ol o C v i j k sw pc ml st h r H locs ls cells slots hr hdg hok hS hL
  cases hr
  refine ⟨rfl, fun kk => ?_⟩
  obtain ⟨h1, h2, h3, h4⟩ := of_decide_eq_true (show decide ((mjStatE i).1 = own ∧ (mjStatE i).2.2.1 = j ∧ (mjStatE i).2.2.2.1 = 1 ∧ i < mjStat.length) = true from hok)
  obtain ⟨g1, g2, g3⟩ := of_decide_eq_true (mj_all (d := ("", 0, 0, 0, 0)) mjStat_ok h4)
  rw [show mjStat.getD i ("", 0, 0, 0, 0) = mjStatE i from rfl] at g1 g2 g3
  rw [h1, h2, h3, if_neg (by decide)] at g1
  rw [h2] at g2 g3
  have hw := mjNest_of (args := args) C.2.2.2.2.2.1 (mjT_mem g1) rfl rfl
  have hZ := C.2.2.2.2.2.2.1.2 (j - 1) (mjOldN.getD (j - 1) ("", "", "")) (by rw [List.getD_eq_getElem?_getD, List.getElem?_eq_getElem g3]; rfl)
  rw [show j - 1 + 1 = j by omega] at hZ
  exact va_getsN C.1 C.2.1 hZ hS.2.2 C.2.2.1 hw (fun _ h9 => h9) (show decode cc pc = .ok (.getstatic (mjStatE i).2.1, 3) from hdg) (kk ls hL)
theorem mjp_53 : MjPure 53 mjGet := by
  intro p l e R s m args below meth c Q cc own ini D tc sz ol o C v i j k sw pc ml st h r H locs ls cells slots hr hdg hok hS hL
  unfold mjGet at hr
  split at hr
  · rename_i a st
    split at hr
    · rename_i cj fs hh
      by_cases hcj : cj = j
      · rw [if_pos hcj] at hr
        split at hr
        · rename_i x hx
          cases hr
          refine ⟨rfl, fun kk => ?_⟩
          subst hcj
          obtain ⟨h1, h2, h3, h4⟩ := of_decide_eq_true (show decide (mjFldE i = (own, (mjFldE i).2.1, cj, k, (mjFldE i).2.2.2.2) ∧ i < mjFld.length ∧ cj < vwCl.length ∧ k < (mjCls cj).2.2) = true from hok)
          have g := of_decide_eq_true (mj_all (d := ("", 0, 0, 0, 0)) mjFld_ok h2)
          have hw := mjG_of C.2.2.2.1 (mjT_mem g) rfl
          rw [show mjFld.getD i ("", 0, 0, 0, 0) = mjFldE i from rfl, h1] at hw
          exact va_get C.1 C.2.1 C.2.2.2.1 (mjCls_in h3) C.2.2.1 C.2.2.2.2.1 hS.2.1 a (mjW_at hh) (mjCls_get h3) k h4 hw (fun _ h9 => h9) (v := mjV sz ol x) (by rw [List.getElem?_map, hx]; rfl) (show decode cc pc = .ok (.getfield (mjFldE i).2.1, 3) from hdg) (kk ls hL)
        · cases hr
      · rw [if_neg hcj] at hr; cases hr
    · cases hr
  · cases hr
/-- an array that was there before -/
theorem mj_old {p : Program} {s : State} {m : MethodId} {args : Array Value} {meth : Method} {c : Code} {cc : ByteArray} {own : String} {ini : Bool} {D : va_G} {tc : Nat → ClassId} {sz : Nat} {ol : Nat → Nat} {o : MjO} {h : MjH} {H : Heap} {locs : List Loc} {k n : Nat} {f : Nat → Int32} (C : MjCx p s m args meth c cc own ini D tc sz ol o) (hS : MjSm s D tc sz ol h H locs) (ho : o k = some (n, f)) :
    ∃ cell : Cell, H[ol k]? = some cell ∧ s.isArrayOf cell .int ∧ cell.vm ≠ .unknown ∧ n ≤ cell.slots.size ∧ cell.slots.size.toInt32 = Int32.ofNat n ∧ ∀ j : Nat, j < n → cell.slots[j]? = some (.int (f j)) := by
  obtain ⟨cell, h1, h2, h3, h4, h5, h6, h7⟩ := C.2.2.2.2.2.2.1.1 k n f ho
  exact ⟨cell, by rw [hS.2.2.2.1 _ (Array.getElem?_eq_some_iff.mp h1).1 h7]; exact h1, h2, h3, h4, h5, h6⟩
theorem mjp_56 : MjPure 56 (mjLd 0) := by
  intro p l e R s m args below meth c Q cc own ini D tc sz ol o C v i j k sw pc ml st h r H locs ls cells slots hr hdg hok hS hL
  unfold mjLd at hr
  split at hr
  · rename_i x a st
    split at hr
    · rename_i t' n f hh
      by_cases hc : t' = 0 ∧ ¬ (x < 0 ∨ n ≤ x.toNatClampNeg)
      · rw [if_pos hc] at hr
        cases hr
        obtain ⟨rfl, hin⟩ := hc
        exact ⟨rfl, fun kk => va_iald C.1 C.2.1 C.2.2.2.2.1 hS.2.1 a 0 (mjW_at hh) rfl hin (show decode cc pc = .ok (.iaload, 1) from hdg) (kk ls hL)⟩
      · rw [if_neg hc] at hr; cases hr
    · cases hr
  · rename_i x a st
    split at hr
    · rename_i n f hh
      by_cases hc : 0 = 0 ∧ ¬ (x < 0 ∨ n ≤ x.toNatClampNeg)
      · rw [if_pos hc] at hr
        cases hr
        refine ⟨rfl, fun kk => ?_⟩
        obtain ⟨cell, h1, h2, h3, h4, h5, h6⟩ := mj_old C hS hh
        have hlt : x.toNatClampNeg < n := Nat.not_le.mp fun q => hc.2 (Or.inr q)
        exact W.iald (v := .int (f x.toNatClampNeg)) C.1 C.2.1 h1 h2 h3 (fun q => q.elim (fun q => hc.2 (Or.inl q)) (fun q => absurd (Nat.le_trans h4 q) (Nat.not_le.mpr hlt))) (h6 _ hlt) rfl rfl (show decode cc pc = .ok (.iaload, 1) from hdg) (kk ls hL)
      · rw [if_neg hc] at hr; cases hr
    · cases hr
  · cases hr
theorem mjp_58 : MjPure 58 (mjLd 1) := by
  intro p l e R s m args below meth c Q cc own ini D tc sz ol o C v i j k sw pc ml st h r H locs ls cells slots hr hdg hok hS hL
  unfold mjLd at hr
  split at hr
  · rename_i x a st
    split at hr
    · rename_i t' n f hh
      by_cases hc : t' = 1 ∧ ¬ (x < 0 ∨ n ≤ x.toNatClampNeg)
      · rw [if_pos hc] at hr
        cases hr
        obtain ⟨rfl, hin⟩ := hc
        exact ⟨rfl, fun kk => va_zald C.1 C.2.1 C.2.2.2.2.1 hS.2.1 a 1 (mjW_at hh) rfl hin (show decode cc pc = .ok (.baload, 1) from hdg) (kk ls hL)⟩
      · rw [if_neg hc] at hr; cases hr
    · cases hr
  · rename_i x a st
    split at hr
    · rename_i n f hh
      rw [if_neg (fun q => absurd q.1 (by decide))] at hr; cases hr
    · cases hr
  · cases hr
theorem mjp_60 : MjPure 60 (mjLd 2) := by
  intro p l e R s m args below meth c Q cc own ini D tc sz ol o C v i j k sw pc ml st h r H locs ls cells slots hr hdg hok hS hL
  unfold mjLd at hr
  split at hr
  · rename_i x a st
    split at hr
    · rename_i t' n f hh
      by_cases hc : t' = 2 ∧ ¬ (x < 0 ∨ n ≤ x.toNatClampNeg)
      · rw [if_pos hc] at hr
        cases hr
        obtain ⟨rfl, hin⟩ := hc
        exact ⟨rfl, fun kk => va_cald C.1 C.2.1 C.2.2.2.2.1 hS.2.1 a 2 (mjW_at hh) rfl hin (show decode cc pc = .ok (.caload, 1) from hdg) (kk ls hL)⟩
      · rw [if_neg hc] at hr; cases hr
    · cases hr
  · rename_i x a st
    split at hr
    · rename_i n f hh
      rw [if_neg (fun q => absurd q.1 (by decide))] at hr; cases hr
    · cases hr
  · cases hr
theorem mjV_rf {sz : Nat} {ol : Nat → Nat} (r : Option Nat) : mjV sz ol (va_rf r) = va_rf (r.map (fun a => sz + a)) := by cases r <;> rfl
theorem mjp_62 : MjPure 62 mjALd := by
  intro p l e R s m args below meth c Q cc own ini D tc sz ol o C v i j k sw pc ml st h r H locs ls cells slots hr hdg hok hS hL
  unfold mjALd at hr
  split at hr
  · rename_i x a st
    split at hr
    · rename_i t' n f hh
      by_cases hc : (t' = 3 ∨ t' = 4) ∧ ¬ (x < 0 ∨ n ≤ x.toNatClampNeg)
      · rw [if_pos hc] at hr
        cases hr
        obtain ⟨ht, hin⟩ := hc
        refine ⟨rfl, fun kk => ?_⟩
        have k2 := kk ls hL
        rw [List.map_cons, mjV_rf] at k2
        rcases ht with rfl | rfl
        · exact va_aldq C.1 C.2.1 C.2.2.2.2.1 hS.2.1 a 3 (mjW_at hh) rfl hin (show decode cc pc = .ok (.aaload, 1) from hdg) k2
        · exact va_aldq C.1 C.2.1 C.2.2.2.2.1 hS.2.1 a 4 (mjW_at hh) rfl hin (show decode cc pc = .ok (.aaload, 1) from hdg) k2
      · rw [if_neg hc] at hr; cases hr
    · cases hr
  · cases hr
theorem mjp_64 : MjPure 64 mjLen := by
  intro p l e R s m args below meth c Q cc own ini D tc sz ol o C v i j k sw pc ml st h r H locs ls cells slots hr hdg hok hS hL
  unfold mjLen at hr
  split at hr
  · rename_i a st
    split at hr
    · rename_i t n x hh
      by_cases hc : t < 5
      · rw [if_pos hc] at hr
        cases hr
        refine ⟨rfl, fun kk => ?_⟩
        have ht : ∃ ty, (mjTys tc)[t]? = some (tc t, ty) := by
          rcases (show t = 0 ∨ t = 1 ∨ t = 2 ∨ t = 3 ∨ t = 4 by omega) with rfl | rfl | rfl | rfl | rfl <;> exact ⟨_, rfl⟩
        obtain ⟨ty, ht⟩ := ht
        exact va_alen C.1 C.2.1 C.2.2.2.2.1 hS.2.1 a t (mjW_at hh) ht rfl (show decode cc pc = .ok (.arraylength, 1) from hdg) (kk ls hL)
      · rw [if_neg hc] at hr; cases hr
    · cases hr
  · rename_i a st
    split at hr
    · rename_i n f hh
      cases hr
      refine ⟨rfl, fun kk => ?_⟩
      obtain ⟨cell, h1, h2, h3, h4, h5, h6⟩ := mj_old C hS hh
      exact W.alen (n := Int32.ofNat n) C.1 C.2.1 h1 h2 h5 rfl rfl (show decode cc pc = .ok (.arraylength, 1) from hdg) (kk ls hL)
    · cases hr
  · cases hr
-- switches
theorem mjSw_out {x : Int32} {d : Nat} : ∀ (sw : List (Int × Nat)), (∀ q ∈ sw, ¬ x = Int32.ofInt q.1) → mjSw x d sw = d
  | [], _ => rfl
  | k :: r, h => by
    unfold mjSw
    rw [if_neg (h k List.mem_cons_self)]
    exact mjSw_out r (fun q hq => h q (List.mem_cons_of_mem _ hq))
theorem mjSw_in {x : Int32} {d : Nat} : ∀ (sw : List (Int × Nat)) (lo : Int) (n : Nat), sw.map (·.1) = (List.range sw.length).map (fun i : Nat => lo + (i : Int)) → (∀ q ∈ sw, (Int32.ofInt q.1).toInt = q.1) → n < sw.length → x.toInt = lo + n → ∃ t, sw[n]? = some (x.toInt, t) ∧ mjSw x d sw = t := by
  intro sw
  induction sw with
  | nil => intro lo n _ _ hn; exact absurd hn (Nat.not_lt_zero _)
  | cons k r ih =>
    intro lo n hm hr hn hx
    have hk : k.1 = lo := by
      have := congrArg List.head? hm
      simp only [List.map_cons, List.head?_cons, List.length_cons, List.range_succ_eq_map, Option.some.injEq] at this
      simpa using this
    have hr' : r.map (·.1) = (List.range r.length).map (fun i : Nat => (lo + 1) + (i : Int)) := by
      have := congrArg List.tail hm
      simp only [List.map_cons, List.tail_cons, List.length_cons, List.range_succ_eq_map, List.map_map] at this
      rw [this]
      apply List.map_congr_left
      intro a _
      simp only [Function.comp]
      omega
    cases n with
    | zero =>
      refine ⟨k.2, ?_, ?_⟩
      · have : k = (x.toInt, k.2) := by
          apply Prod.ext
          · show k.1 = x.toInt
            rw [hk, hx]; simp
          · rfl
        rw [← this]; rfl
      · unfold mjSw
        rw [if_pos]
        apply Int32.toInt_inj.mp
        rw [hr k List.mem_cons_self, hk, hx]; simp
    | succ n =>
      have hne : ¬ x = Int32.ofInt k.1 := by
        intro q
        have h1 : x.toInt = k.1 := by rw [q]; exact hr k List.mem_cons_self
        rw [hx, hk] at h1
        omega
      obtain ⟨t, h1, h2⟩ := ih (lo + 1) n hr' (fun q hq => hr q (List.mem_cons_of_mem _ hq)) (Nat.lt_of_succ_lt_succ hn) (by rw [hx]; omega)
      refine ⟨t, by rw [List.getElem?_cons_succ]; exact h1, ?_⟩
      unfold mjSw
      rw [if_neg hne]
      exact h2
theorem mjp_51 : MjPure 51 mjSwitch := by
  intro p l e R s m args below meth c Q cc own ini D tc sz ol o C v i j k sw pc ml st h r H locs ls cells slots hr hdg hok hS hL
  unfold mjSwitch at hr
  split at hr
  · rename_i x st
    cases hr
    refine ⟨rfl, fun kk => ?_⟩
    have hd' : decode cc pc = .ok (.tableswitch ((i : Int) - pc) v (v + (sw.length : Int) - 1) (sw.map (fun x => (x.2 : Int) - pc)).toArray, 13 + mjPad pc + 4 * sw.length) := hdg
    obtain ⟨h1, h2⟩ := Bool.and_eq_true_iff.mp (show (decide (sw.map (·.1) = (List.range sw.length).map (fun i : Nat => v + (i : Int))) && sw.all (fun x => decide ((Int32.ofInt x.1).toInt = x.1))) = true from hok)
    have h1 := of_decide_eq_true h1
    have h2 : ∀ q ∈ sw, (Int32.ofInt q.1).toInt = q.1 := fun q hq => of_decide_eq_true (List.all_eq_true.mp h2 q hq)
    by_cases hc : x.toInt < v ∨ v + (sw.length : Int) - 1 < x.toInt
    · have hk : ∀ q ∈ sw, ¬ x = Int32.ofInt q.1 := by
        intro q hq hx
        have e1 : x.toInt = q.1 := by rw [hx]; exact h2 q hq
        have e2 : q.1 ∈ sw.map (·.1) := List.mem_map_of_mem hq
        rw [h1] at e2
        obtain ⟨n, hn, e3⟩ := List.mem_map.mp e2
        have hn := List.mem_range.mp hn
        omega
      have k2 := kk ls hL
      have e9 : mjSw x i sw = i := mjSw_out sw hk
      exact lv_tableOut (tgt := i) C.1 C.2.1 hd' hc (by omega) (by simpa only [e9] using k2)
    · obtain ⟨t, g1, g2⟩ := mjSw_in (x := x) (d := i) sw v (x.toInt - v).toNat h1 h2 (by omega) (by omega)
      have k2 := kk ls hL
      exact lv_tableIn C.1 C.2.1 hd' (fun q => hc (Or.inl q)) (fun q => hc (Or.inr q)) (off := (t : Int) - pc) (tgt := t) (by simp [g1]) (by omega) (by simpa only [g2] using k2)
  · cases hr
theorem mjSw_look {x : Int32} {d pc : Nat} : ∀ (sw : List (Int × Nat)), (∀ q ∈ sw, (Int32.ofInt q.1).toInt = q.1) → Op.lookupswitch.offset (sw.map (fun y => (y.1, (y.2 : Int) - pc))) ((d : Int) - pc) x.toInt = ((mjSw x d sw : Nat) : Int) - pc
  | [], _ => rfl
  | k :: r, h => by
    by_cases hx : x = Int32.ofInt k.1
    · unfold mjSw
      rw [if_pos hx]
      have e1 : x.toInt = k.1 := by rw [hx]; exact h k List.mem_cons_self
      simp [Op.lookupswitch.offset, e1]
    · unfold mjSw
      rw [if_neg hx, List.map_cons]
      rw [lv_osw hx (h k List.mem_cons_self)]
      exact mjSw_look r (fun q hq => h q (List.mem_cons_of_mem _ hq))
theorem mjp_52 : MjPure 52 mjSwitch := by
  intro p l e R s m args below meth c Q cc own ini D tc sz ol o C v i j k sw pc ml st h r H locs ls cells slots hr hdg hok hS hL
  unfold mjSwitch at hr
  split at hr
  · rename_i x st
    cases hr
    refine ⟨rfl, fun kk => ?_⟩
    have hd' : decode cc pc = .ok (.lookupswitch ((i : Int) - pc) (sw.map (fun x => (x.1, (x.2 : Int) - pc))).toArray, 9 + mjPad pc + 8 * sw.length) := hdg
    obtain ⟨h1, h2⟩ := Bool.and_eq_true_iff.mp (show (decide (((sw.zip (sw.drop 1)).all (fun x => decide (x.1.1 < x.2.1))) = true) && sw.all (fun x => decide ((Int32.ofInt x.1).toInt = x.1))) = true from hok)
    have h1 := of_decide_eq_true h1
    have h2 : ∀ q ∈ sw, (Int32.ofInt q.1).toInt = q.1 := fun q hq => of_decide_eq_true (List.all_eq_true.mp h2 q hq)
    refine lv_lookup C.1 C.2.1 hd' ?_ (mjSw_look sw h2) (tgt := mjSw x i sw) (by omega) (kk ls hL)
    rw [List.toList_toArray, ← List.map_drop, List.zip_map, List.all_map]
    exact h1
  · cases hr
