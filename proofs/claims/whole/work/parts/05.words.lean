/-! WORDS OF THE TABLES, by their places -/
def mjG : List Cond := lw_tbl.filter goodWord
theorem mjT_mem {p : Nat} {w : Cond} (h : tables_1[p]? = some w) : w ∈ lw_tbl := List.mem_append_right _ (List.mem_of_getElem? h)
theorem mjCon_ok : (mjCon.all fun q => decide (tables_1[q.2.2.2]? = some (Cond.constant q.1 q.2.1 q.2.2.1))) = true := by decide +kernel
theorem mjFld_ok : (mjFld.all fun q => decide (tables_1[q.2.2.2.2]? = some (Cond.fieldLink q.1 q.2.1 ((mjCls q.2.2.1).2.1 q.2.2.2.1).1 ((mjCls q.2.2.1).2.1 q.2.2.2.1).2.1 ((mjCls q.2.2.1).2.1 q.2.2.2.1).2.2.1))) = true := by decide +kernel
theorem mjNew_ok : (mjNew.all fun q => decide (tables_1[q.2.2.2]? = some (Cond.classLink q.1 q.2.1 q.2.2.1))) = true := by decide +kernel
theorem mjStat_ok : (mjStat.all fun q => decide (tables_1[q.2.2.2.2]? = some (if q.2.2.2.1 = 0 then Cond.fieldLink q.1 q.2.1 (mjOldN.getD (q.2.2.1 - 1) ("", "", "")).1 (mjOldN.getD (q.2.2.1 - 1) ("", "", "")).2.1 (mjOldN.getD (q.2.2.1 - 1) ("", "", "")).2.2 else Cond.fieldLinkNest q.1 q.2.1 (mjOldN.getD (q.2.2.1 - 1) ("", "", "")).1 (mjOldN.getD (q.2.2.1 - 1) ("", "", "")).2.1 (mjOldN.getD (q.2.2.1 - 1) ("", "", "")).2.2 "PocketMachine") ∧ 0 < q.2.2.1 ∧ q.2.2.1 - 1 < mjOldN.length)) = true := by decide +kernel
theorem mjCls_ok : ((List.range vwCl.length).all fun c => decide (tables_1[(mjLay.getD c (0, 0, [])).1]? = some (Cond.instantiable (mjCls c).1 (mjCls c).2.2) ∧ tables_1[(mjLay.getD c (0, 0, [])).2.1]? = some (Cond.initialized (mjCls c).1))) = true := by decide +kernel
theorem mjCls_ws : ((List.range vwCl.length).all fun c => (List.range (mjCls c).2.2).all (fun k => decide (tables_1[(mjLay.getD c (0, 0, [])).2.2.getD k 0]? = some (u_lay (mjCls c).1 (mjCls c).2.1 k)))) = true := by decide +kernel
theorem mjCls_ty : ((List.range vwCl.length).all fun c => (List.range (mjCls c).2.2).all (fun k => decide (parseFieldDescriptor ((mjCls c).2.1 k).2.2.1 = some (mjTy c k)))) = true := by decide +kernel
theorem mjCls_nm : ((List.range vwCl.length).all fun c => (List.range (mjCls c).2.2).all (fun a => (List.range (mjCls c).2.2).all (fun b => decide (a ≠ b → ((mjCls c).2.1 a).2.1 ≠ ((mjCls c).2.1 b).2.1)))) = true := by decide +kernel
theorem mjCls_get {c : Nat} (h : c < vwCl.length) : vwCl[c]? = some ((mjCls c).1, (mjCls c).2.1, (mjCls c).2.2) := by
  rw [List.getElem?_eq_getElem h]
  simp [mjCls, List.getD_eq_getElem?_getD, List.getElem?_eq_getElem h]
theorem mjLay_good (C : String) (T : u_T) (k : Nat) : goodWord (u_lay C T k) = true := by
  unfold u_lay
  split <;> rfl
theorem mjCls_in {c : Nat} (h : c < vwCl.length) : ∀ w ∈ u_ws (mjCls c).1 (mjCls c).2.1 (mjCls c).2.2, w ∈ mjG := by
  intro w hw
  obtain ⟨k, hk, rfl⟩ := List.mem_map.mp hw
  have h1 := of_decide_eq_true (mj_rng (mj_rng mjCls_ws h) (List.mem_range.mp hk))
  exact List.mem_filter.mpr ⟨mjT_mem h1, mjLay_good _ _ _⟩
theorem mjCls_ty' {c : Nat} (h : c < vwCl.length) : ∀ k, k < (mjCls c).2.2 → parseFieldDescriptor ((mjCls c).2.1 k).2.2.1 = some (mjTy c k) := fun k hk => of_decide_eq_true (mj_rng (mj_rng mjCls_ty h) hk)
theorem mjCls_nm' {c : Nat} (h : c < vwCl.length) : ∀ a, a < (mjCls c).2.2 → ∀ b, b < (mjCls c).2.2 → a ≠ b → ((mjCls c).2.1 a).2.1 ≠ ((mjCls c).2.1 b).2.1 := fun a ha b hb => of_decide_eq_true (mj_rng (mj_rng (mj_rng mjCls_nm h) ha) hb)
def mjAcp : Nat × Nat × Nat := (72, 118, 247)
theorem mjAc_ok : tables_1[mjAcp.1]? = some (Cond.arrayClass .int) ∧ tables_1[mjAcp.2.1]? = some (Cond.arrayClass .boolean) ∧ tables_1[mjAcp.2.2]? = some (Cond.arrayClass .char) := by decide +kernel
