/-! THE LAW'S START -/
def mjFlat : List Cond := flatC (Jvm.Cond.and given_1 narrow_1)
def mjOldE (k : Nat) : Nat × Nat × List Int32 := mjOldT.getD k (0, 0, [])
def mjOldNE (k : Nat) : String × String × String := mjOldN.getD k ("", "", "")
def mjStT (k : Nat) : Term := .static (mjOldNE k).1 (mjOldNE k).2.1 (mjOldNE k).2.2
theorem mjOld_ok : ((List.range 6).all fun k => decide (mjFlat[(mjOldE k).1 + 1]? = some (Cond.arrayOf (mjStT k) .int) ∧ mjFlat[(mjOldE k).1 + 2]? = some (Cond.eq (.length (mjStT k)) (.int (Int32.ofNat (mjOldE k).2.2.length))) ∧ (mjOldE k).2.2.length < 100 ∧ tables_1[(mjOldE k).2.1]? = some (Cond.laysStatic (mjOldNE k).1 (mjOldNE k).2.1 (mjOldNE k).2.2)) && (List.range (mjOldE k).2.2.length).all (fun j => decide (mjFlat[(mjOldE k).1 + 3 + j]? = some (Cond.eq (.elem (mjStT k) (.int (Int32.ofNat j))) (.int ((mjOldE k).2.2.getD j 0)))))) = true := by decide +kernel
theorem mjOld_ini : ((List.range 6).all fun k => decide ((mjOldNE k).1 = "PocketMachine" ∨ (mjOldNE k).1 = "PocketMachineModel")) = true := by decide +kernel
/-- the arrays that are there before -/
def mjOO (L : Nat) (xs : Nat → Int32) : MjO := fun k => match k with
  | 0 => some (L, xs)
  | k + 1 => (mjOldT[k]?).map (fun q => (q.2.2.length, fun j => q.2.2.getD j 0))
theorem mjAO_ok : tables_1[mjArrOver.1]? = some (Cond.arrayOver (.object "PocketMachine$Routine")) ∧ tables_1[mjArrOver.2]? = some (Cond.arrayOver (.object "PocketMachine$Strand")) := by decide +kernel
theorem mjIniC : Cond.initialized "PocketMachine" ∈ lw_tbl ∧ Cond.initialized "PocketMachineModel" ∈ lw_tbl := ⟨mjT_mem (p := (mjLay.getD 11 (0, 0, [])).2.1) (by decide +kernel), mjT_mem (p := (mjLay.getD 12 (0, 0, [])).2.1) (by decide +kernel)⟩
theorem mj_start {p : Program} {s : State} {m : MethodId} {meth : Method} {c : Code} {b L : Nat} {xs : Nat → Int32} (C0 : lw_At p s m meth c b L xs) :
    ∃ (D : va_G) (tc : Nat → ClassId) (ol : Nat → Nat), ol 0 = b ∧ MjCx p s m #[Value.ref b] meth c code R_law false D tc s.heap.size ol (mjOO L xs) := by
  obtain ⟨hx, hb, hr, hml, hown, hts, hX, hbl, hlocks, hgv⟩ := C0
  have hflat := flat_of_before _ hgv
  have htsG : ∀ w ∈ mjG, w.before #[Value.ref b] s = true := fun w hw => hts w (List.mem_filter.mp hw).1
  have hk : ∀ c : Nat, ∃ q : ClassId × (Nat → Nat), c < vwCl.length → u_Kn s (mjCls c).1 (mjCls c).2.1 (mjCls c).2.2 q.1 q.2 := by
    intro c
    by_cases hc : c < vwCl.length
    · obtain ⟨cC, iS, h⟩ := u_known htsG (mjCls_in hc) (hts _ (mjT_mem (of_decide_eq_true (mj_rng mjCls_ok hc)).1))
      exact ⟨(cC, iS), fun _ => h⟩
    · exact ⟨(0, fun _ => 0), fun h => absurd h hc⟩
  obtain ⟨c0, k0, m0, a1, a2, a3⟩ := Cond.arrayClass_spec (hts _ (mjT_mem mjAc_ok.1))
  obtain ⟨c1, k1, m1, b1, b2, b3⟩ := Cond.arrayClass_spec (hts _ (mjT_mem mjAc_ok.2.1))
  obtain ⟨c2, k2, m2, d1, d2, d3⟩ := Cond.arrayClass_spec (hts _ (mjT_mem mjAc_ok.2.2))
  obtain ⟨m3, c3, k3, e1, e2, e3, e4, e5⟩ := Cond.arrayOver_spec (hts _ (mjT_mem mjAO_ok.1))
  obtain ⟨m4, c4, k4, f1, f2, f3, f4, f5⟩ := Cond.arrayOver_spec (hts _ (mjT_mem mjAO_ok.2))
  have hA : ∀ a : Nat, a < s.heap.size → ¬ s.heap.size ≤ a := fun a h => Nat.not_le.mpr h
  have hold : ∀ k : Nat, ∃ t : Nat, k < 6 → va_T .int t (mjOldE k).2.2.length (fun j => .int ((mjOldE k).2.2.getD j 0)) (fun q => s.heap.size ≤ q) s s.heap ∧ va_Z (mjOldNE k).1 (mjOldNE k).2.1 (mjOldNE k).2.2 (.ref t) (fun q => s.heap.size ≤ q) s s.heap := by
    intro k
    by_cases hk6 : k < 6
    · obtain ⟨g1, g2⟩ := Bool.and_eq_true_iff.mp (mj_rng mjOld_ok hk6)
      obtain ⟨g3, g4, g5, g6⟩ := of_decide_eq_true g1
      obtain ⟨t, t1, t2⟩ := va_Tof (A := fun q => s.heap.size ≤ q) (N := (mjOldE k).2.2.length) (f := fun j => .int ((mjOldE k).2.2.getD j 0)) (Nat.lt_trans g5 (by decide)) (hflat _ (List.mem_of_getElem? g3)) (va_eqt (hflat _ (List.mem_of_getElem? g4))) (fun j hj => va_eqt (hflat _ (List.mem_of_getElem? (of_decide_eq_true (mj_rng g2 hj))))) hA
      refine ⟨t, fun _ => ⟨t2, ?_⟩⟩
      have hini : (Cond.initialized (mjOldNE k).1).before #[Value.ref b] s = true := by
        rcases of_decide_eq_true (mj_rng mjOld_ini hk6) with q | q
        · rw [q]; exact hts _ mjIniC.1
        · rw [q]; exact hts _ mjIniC.2
      exact va_Zof (hts _ (mjT_mem g6)) hini t1 hA
    · exact ⟨0, fun h => absurd h hk6⟩
  obtain ⟨tO, htO⟩ : ∃ tO : Nat → Nat, ∀ k : Nat, k < 6 → va_T .int (tO k) (mjOldE k).2.2.length (fun j => .int ((mjOldE k).2.2.getD j 0)) (fun q => s.heap.size ≤ q) s s.heap ∧ va_Z (mjOldNE k).1 (mjOldNE k).2.1 (mjOldNE k).2.2 (.ref (tO k)) (fun q => s.heap.size ≤ q) s s.heap := ⟨fun k => Classical.choose (hold k), fun k h => Classical.choose_spec (hold k) h⟩
  refine ⟨(fun c => (Classical.choose (hk c)).1, fun c => (Classical.choose (hk c)).2), fun t => if t = 0 then c0 else if t = 1 then c1 else if t = 2 then c2 else if t = 3 then c3 else c4, fun k => if k = 0 then b else tO (k - 1), rfl, hx, hb, hown, htsG, ⟨?_, ?_⟩, ⟨?_, va_AO.of (hts _ (mjT_mem mjAO_ok.1)), va_AO.of (hts _ (mjT_mem mjAO_ok.2))⟩, ⟨?_, ?_⟩, Nat.le_refl _, fun h => by cases h⟩
  · intro c q hq
    have hc : c < vwCl.length := (List.getElem?_eq_some_iff.mp hq).1
    have h1 := mjCls_get hc
    rw [hq] at h1
    cases h1
    exact Classical.choose_spec (hk c) hc
  · intro k q hq
    have hc : k < 5 := (List.getElem?_eq_some_iff.mp hq).1
    rcases (show k = 0 ∨ k = 1 ∨ k = 2 ∨ k = 3 ∨ k = 4 by omega) with rfl | rfl | rfl | rfl | rfl
    · cases hq
      exact ⟨fun n z => ⟨fun k h => (by cases h), k0, a2, m0, a3⟩, a1⟩
    · cases hq
      exact ⟨fun n z => ⟨fun k h => (by cases h), k1, b2, m1, b3⟩, b1⟩
    · cases hq
      exact ⟨fun n z => ⟨fun k h => (by cases h), k2, d2, m2, d3⟩, d1⟩
    · cases hq
      exact ⟨fun n z => ⟨fun k h => (by cases h), k3, e3, m3, e4⟩, k3, m3, e3, e4, e1, e5⟩
    · cases hq
      exact ⟨fun n z => ⟨fun k h => (by cases h), k4, f3, m4, f4⟩, k4, m4, f3, f4, f1, f5⟩
  · intro w hw
    obtain ⟨h1, h2⟩ := List.mem_filter.mp hw
    have h3 := hts w h1
    cases w <;> first | exact va_Nw.of rfl h3 | cases h2
  · intro k n f hk
    cases k with
    | zero =>
      cases hk
      obtain ⟨scr, h1, h2, h3, h4, h5⟩ := hX
      exact ⟨scr, h1, h2, h3, Nat.le_of_eq h4.symm, by rw [h4], h5, Nat.not_le.mpr hbl⟩
    | succ k =>
      obtain ⟨q, hq, e⟩ := Option.map_eq_some_iff.mp hk
      cases e
      have hk6 : k < 6 := (List.getElem?_eq_some_iff.mp hq).1
      have h1 := (htO k hk6).1
      have h2 : mjOldE k = q := by simp [mjOldE, List.getD_eq_getElem?_getD, hq]
      rw [h2] at h1
      exact h1
  · intro k q hq
    have hk6 : k < 6 := (List.getElem?_eq_some_iff.mp hq).1
    have h1 := (htO k hk6).2
    have h2 : mjOldNE k = q := by simp [mjOldNE, List.getD_eq_getElem?_getD, hq]
    rw [h2] at h1
    exact h1
/-- WHAT IS LEFT: the small machine's run of the law, for every script -/
theorem mj_whole {p : Program} {e : Env} {s : State} {m : MethodId} {below : List Frame} {meth : Method} {c : Code} (l : Launch) {b L : Nat} {xs : Nat → Int32} (C0 : lw_At p s m meth c b L xs) {n : Nat} {h' : MjH} (hr : mjRun (mjOO L xs) n mjLawNo 0 [some (.retAddr 0), none, none, none] [] [] = some (some (.int 1), h')) (h1 : h'.length ≤ 600000) (h2 : mjSlots h' ≤ 7302250) : W p l e room_1 s m #[Value.ref b] below meth c s.heap [] 0 0 (lw_Z below #[Value.ref b] s) (entryFrame m ([Value.ref b] : List Value).toArray 4) := by
  obtain ⟨D, tc, ol, ho, C⟩ := mj_start C0
  obtain ⟨hx, hb, hr0, hml, hown, hts, hX, hbl, hlocks, hgv⟩ := C0
  have hl := lv_entry ([.ref b]) (n := 4) (Nat.le_of_ble_eq_true rfl)
  rw [lg_entry_eq]
  generalize (lg_sl ([.ref b]) ++ List.replicate (4 - (lg_sl ([.ref b])).length) Slot.unset).toArray = ls at hl ⊢
  have hL : MjLv s.heap.size ol [some (.retAddr 0), none, none, none] ls := by
    refine mjLv_entry (vs := [.retAddr 0]) (nL := 4) (fun w hw => by rw [List.mem_singleton.mp hw]; rfl) (by decide) ?_
    show lv_has ls 4 (lv_args 0 [.ref (ol 0)])
    rw [ho]
    exact hl
  have hS : MjSm s D tc s.heap.size ol [] s.heap [] := ⟨rfl, fun k q h => by simp [mjW] at h, va_S.rf⟩
  refine mjA_all (mjOO L xs) n mjLawNo 0 _ [] [] _ h' hr (by decide +kernel) p l e room_1 s m _ below meth c _ D tc s.heap.size ol C (by rw [hml]; rfl) (by decide +kernel) (by decide +kernel) s.heap [] ls 0 0 hS hL (by show 0 + (h'.length - 0) ≤ 600000; omega) (by show 0 + (mjSlots h' - 0) ≤ 7302250; omega) ?_
  intro H' locs' ls' pcE hS' hE
  rcases hE with ⟨v, ty, hv, hrt, hn, hd⟩ | ⟨hv, -⟩ | ⟨v, rt, hv, hA, -⟩
  · refine va_forget (fun q hq => hS'.2.2.2.2 q hq) ?_
    refine W.widen (k := 600000) (n := 7302250) (by show 0 + (h'.length - 0) ≤ 600000; omega) (by show 0 + (mjSlots h' - 0) ≤ 7302250; omega) ?_
    exact lw_ret hx hb hr0 hlocks hd
  · cases hv
  · cases hv
    cases hA
