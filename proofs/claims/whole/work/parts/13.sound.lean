/-! THE STEP OF THE INDUCTION: calls by contract -/
theorem mj_call {p : Program} {l : Launch} {e : Env} {R : Room} {s : State} {m : MethodId} {args : Array Value} {below : List Frame} {meth : Method} {c : Code} {H : Heap} {locs : List Loc} {cells slots mc ms pc : Nat} {ls : Array Slot} {st0 rest : List Value} {Q : State → Prop} {Qa : State → Outcome → State → Prop} {free : Addr → Prop}
    (hr : va_Run p l e R s m args below meth c H locs cells slots mc ms (F0 m pc ls st0) rest Qa free)
    (kk : ∀ (v : Option Value) (H1 : Heap) (L : List Loc) (st₀ t : State), st₀.heap = H → t.heap = H1 → Qa st₀ (.returned v) t → (∀ q ∈ L, free q.base) → W p l e R s m args below meth c H1 (locs ++ L) (cells + mc) (slots + ms) Q (F0 m (pc + 3) ls (v.toList ++ rest))) : W p l e R s m args below meth c H locs cells slots Q (F0 m pc ls st0) := by
  intro T hT X
  obtain ⟨v, st₀, t, T', L, h0, X', hL, e1, e2, hq, st⟩ := hr T hT X
  obtain ⟨t2, a1, b1⟩ := kk v T'.heap L st₀ t h0 e1.symm hq hL T' rfl X'
  exact ⟨t2, st t2 a1, b1⟩
theorem mjEnter_spec {y z : Nat} {st vs rest : List Value} (h : mjEnter y z st = some (vs, rest)) : st = vs.reverse ++ rest ∧ vs.length = (mjMeth z).2.2.2.2.1 ∧ (mjMeth z).2.2.2.2.2.2.1 + 1 ≤ (mjMeth y).2.2.2.2.2.2.1 ∧ 8 + ((mjMeth z).2.2.1 + 11) + (mjMeth z).2.2.2.2.2.2.2 ≤ (mjMeth y).2.2.2.2.2.2.2 ∧ vs.length ≤ (mjMeth z).2.2.1 ∧ (∀ w ∈ vs, w.category = 1) ∧ (∀ w ∈ rest, w.category = 1) ∧ rest.length ≤ 8 := by
  unfold mjEnter at h
  dsimp only at h
  split at h
  · rename_i hc
    cases h
    obtain ⟨h1, h2, h3, h4, h5⟩ := hc
    obtain ⟨h5, h6⟩ := Bool.and_eq_true_iff.mp h5
    have h5 := List.all_eq_true.mp h5
    have h6 := of_decide_eq_true h6
    refine ⟨by simp, by simp; omega, h2, h3, by simp; omega, fun w hw => mjOne_cat (h5 w (List.mem_of_mem_take (List.mem_reverse.mp hw))), fun w hw => mjOne_cat (h5 w (List.mem_of_mem_drop hw)), by simp; omega⟩
  · cases h
theorem mjGood : GoodIn mjG mjG := fun w hw => ⟨hw, good_of_word (List.mem_filter.mp hw).2⟩
theorem mjG_in {w : Cond} (hw : w ∈ lw_tbl) (hg : goodWord w = true) : w ∈ mjG := List.mem_filter.mpr ⟨hw, hg⟩
theorem mjGoodC {z : Nat} (hz : z < mjLawNo) : GoodIn mjG (Cond.code (mjMeth z).1 (mjMeth z).2.1 (mjMeth z).2.2.1 (mjMeth z).2.2.2.1 :: mjG) := by
  intro w hw
  rcases List.mem_cons.mp hw with rfl | hw
  · exact ⟨mjG_in (mjMeth_code hz) rfl, Or.inl rfl⟩
  · exact mjGood w hw
theorem mj_np {z : Nat} (hz : z < mjLawNo) {n : Nat} (hn : n + (if (mjMeth z).2.2.2.2.2.1 = true then 0 else 1) = (mjMeth z).2.2.2.2.1) : (parseMethodDescriptor (mjMeth z).1.desc).map (fun d => d.parameters.length) = some n := by
  have h := (of_decide_eq_true (mj_rng mjMeth_c hz)).2.2.1
  cases hp : parseMethodDescriptor (mjMeth z).1.desc with
  | none => rw [hp] at h; cases h
  | some d =>
    rw [hp] at h
    have h2 : d.parameters.length + (if (mjMeth z).2.2.2.2.2.1 = true then 0 else 1) = (mjMeth z).2.2.2.2.1 := Option.some.inj h
    show some d.parameters.length = some n
    congr 1
    omega
theorem mjA_zero (o : MjO) : MjA o 0 := by
  intro y pc ml st h r h' hr
  cases hr
theorem mjA_succ {o : MjO} {n : Nat} (hA : MjA o n) : MjA o (n + 1) := by
  intro y pc ml st h r h' hr hy p l e R s m args below meth c Q D tc sz ol C hml hfr hlo H locs ls cells slots hS hL hc1 hc2 kk
  obtain ⟨q, hq, hcase⟩ := mjRun_inv hr
  obtain ⟨hdg, hok⟩ := mjCode_at hy hq
  rcases hcase with ⟨e69, vs, rest, r1, h1, hen, hrc, hcall, hcont⟩ | ⟨e70, a, st', rfl, hf1, hl1, hone, hcont⟩ | ⟨e71, v, ty, rfl, hty, hn, rfl, rfl⟩ | ⟨e72, rfl, hty, rfl, rfl⟩ | ⟨e73, v, rt, rfl, hAv, hty, hrt, rfl, rfl⟩ | ⟨hd, r1, hhd, hr1, hf1, hl1, hone, hcont⟩ | ⟨hd, r1, hhd, hr1, hcont⟩
  · obtain ⟨op, v, i, z, k, sw⟩ := q
    obtain rfl : op = 69 := e69
    obtain ⟨i1, i2, i3, i4, i5⟩ := of_decide_eq_true (show decide ((mjCallE i).1 = (mjMeth y).1.cls ∧ (mjCallE i).2.2.1 = z ∧ (mjCallE i).2.2.2.1 = k ∧ i < mjCall.length ∧ z < mjMeths.length) = true from hok)
    obtain ⟨c1, hz, c3, c4, c5⟩ := of_decide_eq_true (mj_all (d := ("", 0, 0, 0, 0)) mjCall_ok i4)
    rw [show mjCall.getD i ("", 0, 0, 0, 0) = mjCallE i from rfl] at c1 hz c3 c4 c5
    rw [i1, i2, i3] at c1
    rw [i2] at hz
    rw [i3] at c3
    rw [i2, i3] at c4 c5
    have hen' : mjEnter y z st = some (vs, rest) := hen
    obtain ⟨rfl, hlen, hfr2, hlo2, hlenL, hvs1, hrest1, hrest8⟩ := mjEnter_spec hen'
    have hcall' : mjRun o n z 0 (vs.map some ++ List.replicate ((mjMeth z).2.2.1 - vs.length) none) [] h = some (r1, h1) := hcall
    have g1 := mjRun_grow o n _ _ _ _ _ _ _ hcall'
    have g2 := mjRun_grow o n _ _ _ _ _ _ _ hcont
    have hM := mjMet hA hz hcall' hvs1 hlenL l D tc sz ol
    obtain ⟨m1, m2⟩ := of_decide_eq_true (mj_rng mjMeth_a hz)
    obtain ⟨m3, m4, m5, m6, m7⟩ := of_decide_eq_true (mj_rng mjMeth_c hz)
    have hts := C.2.2.2.1
    have hini := mjG_of hts (mjT_mem m1) rfl
    have S : CallFix p m c (mjMeth y).2.1 ml.length s args mjG (mjMeth y).1.cls := ⟨C.1, C.2.1, hml, C.2.2.1, hts⟩
    have hR : (mjMeth z).2.2.2.2.2.2.1 + 1 ≤ R.frames ∧ 8 + ((mjMeth z).2.2.1 + 11) + (mjMeth z).2.2.2.2.2.2.2 ≤ R.locals := ⟨Nat.le_trans hfr2 hfr, Nat.le_trans hlo2 hlo⟩
    have hf : cells + (h1.length - h.length) ≤ R.cells ∧ slots + (mjSlots h1 - mjSlots h) ≤ R.slots := ⟨by omega, by omega⟩
    have hsum : ((rest.map (mjV sz ol)).map fun v => v.category).sum ≤ 8 := by
      rw [mj_sum1 _ (fun x hx => by obtain ⟨u, hu, rfl⟩ := List.mem_map.mp hx; rw [mjV_cat]; exact hrest1 u hu), List.length_map]
      exact hrest8
    have hpre : ∀ U : State, U.heap = H → s.WarmedH U.vm → mjPc D tc sz ol o vs h (vs.map (mjV sz ol)).toArray U := by
      intro U hU hW
      refine ⟨rfl, by rw [hU]; exact hS.1, by rw [hU]; exact hS.2.1, va_K.moved hW.alike C.2.2.2.2.1, C.2.2.2.2.2.1.warm hW, ?_⟩
      refine (C.2.2.2.2.2.2.1.moved hW.alike).kept (fun a h1 h2 => ?_)
      rw [hU]
      exact hS.2.2.2.1 a h1 h2
    have run : va_Run p l e R s m args below meth c H locs cells slots (h1.length - h.length) (mjSlots h1 - mjSlots h) (F0 m pc ls ((vs.reverse ++ rest).map (mjV sz ol))) (rest.map (mjV sz ol)) (mjQc D tc sz ol r1 h1 (vs.map (mjV sz ol)).toArray) (fun q => sz ≤ q) := by
      by_cases hst : (mjMeth z).2.2.2.2.2.1 = true
      · -- a static method
        rw [if_pos hst] at m2
        have hstat := mjG_of hts (mjT_mem m2) rfl
        have hnp := mj_np hz (n := vs.length) (by rw [if_pos hst]; omega)
        rcases c4.mpr hst with rfl | rfl
        · rw [if_pos (by decide)] at c1
          have hlk : Cond.methodLink (mjMeth y).1.cls (mjCallE i).2.1 (mjMeth z).1 ∈ mjG := mjG_in (mjT_mem c1) rfl
          refine va_runS (As := vs.map (mjV sz ol)) S hM (va_cwS vs.length hts ?_ rfl rfl rfl ⟨m3, m4, hnp⟩ hR) ⟨mjPc_blind, hpre⟩ rfl (by simp) hL.1 (by simp) (lv_room hsum) (show decode _ pc = .ok (.invokestatic (mjCallE i).2.1, 3) from hdg) hf
          intro w hw
          rcases List.mem_append.mp hw with hw | hw
          · rcases List.mem_cons.mp hw with rfl | hw
            · exact mjGood _ hlk
            · rcases List.mem_cons.mp hw with rfl | hw
              · exact mjGood _ (mjG_in (mjT_mem m2) rfl)
              · rw [List.mem_singleton.mp hw]
                exact mjGood _ (mjG_in (mjT_mem m1) rfl)
          · exact mjGoodC hz w hw
        · rw [if_neg (by decide)] at c1
          have hnw : va_Nw (.methodLinkNest (mjMeth y).1.cls (mjCallE i).2.1 (mjMeth z).1 "PocketMachine") s := C.2.2.2.2.2.1.1 _ (List.mem_filter.mpr ⟨mjT_mem c1, rfl⟩)
          exact va_runSN (As := vs.map (mjV sz ol)) S hM ⟨va_cnB vs.length hts (mjGoodC hz) rfl rfl rfl hnw hini ⟨m3, m4, hnp⟩ hR, hstat, trivial⟩ ⟨mjPc_blind, hpre⟩ rfl (by simp) hL.1 (by simp) (lv_room hsum) (show decode _ pc = .ok (.invokestatic (mjCallE i).2.1, 3) from hdg) hf
      · rw [if_neg hst] at m2
        have hinst := mjG_of hts (mjT_mem m2) rfl
        have hk14 : ¬ (k = 1 ∨ k = 4) := fun q => hst (c4.mp q)
        have hrc' : mjRecv z k h vs = true := hrc
        unfold mjRecv at hrc'
        rw [if_neg hk14] at hrc'
        split at hrc'
        · rename_i b As
          split at hrc'
          · rename_i cj fs hh
            obtain ⟨hcj, hcn⟩ := of_decide_eq_true hrc'
            have hnp := mj_np hz (n := As.length) (by rw [if_neg hst, ← hlen]; rfl)
            have hst2 : ((Value.ref b :: As).reverse ++ rest).map (mjV sz ol) = (As.map (mjV sz ol)).reverse ++ .ref (sz + b) :: rest.map (mjV sz ol) := by simp [mjV]
            have hrecv := va_recv C.2.2.2.2.1 hS.2.1 (mjCls_get hcj) (mjW_at hh)
            rw [hcn] at hrecv
            by_cases hin : mjIsInit z = true
            · have hret := m7 hin
              rw [hret] at hM
              have hname : (mjMeth z).1.name = "<init>" := of_decide_eq_true hin
              have hG := mjGoodC hz
              rw [hret] at hG
              rcases c5.mpr hin with rfl | rfl
              · rw [if_pos (by decide)] at c1
                exact va_runI (As := As.map (mjV sz ol)) (b := sz + b) S hM (cwI As.length hts hG rfl rfl rfl hini (mjG_of hts (mjT_mem c1) rfl) hinst hname ⟨m3, m4, hnp⟩ hR) ⟨mjPc_blind, hpre⟩ rfl (by simp) hL.1 hst2 (lv_room hsum) (show decode _ pc = .ok (.invokespecial (mjCallE i).2.1, 3) from hdg) hf
              · rw [if_neg (by decide)] at c1
                have hnw : va_Nw (.methodLinkNest (mjMeth y).1.cls (mjCallE i).2.1 (mjMeth z).1 "PocketMachine") s := C.2.2.2.2.2.1.1 _ (List.mem_filter.mpr ⟨mjT_mem c1, rfl⟩)
                exact va_runIN (As := As.map (mjV sz ol)) (b := sz + b) S hM ⟨va_cnB As.length hts hG rfl rfl rfl hnw hini ⟨m3, m4, hnp⟩ hR, hname, hinst⟩ ⟨mjPc_blind, hpre⟩ rfl (by simp) hL.1 hst2 (lv_room hsum) (show decode _ pc = .ok (.invokespecial (mjCallE i).2.1, 3) from hdg) hf
            · have hsel : Cond.selects (mjMeth z).1.cls (mjMeth z).1 (mjMeth z).1 ∈ lw_tbl := by
                rcases of_decide_eq_true (mj_rng mjMeth_b hz) with q | q | q
                · exact absurd q hst
                · exact absurd q hin
                · exact List.mem_of_getElem? q
              have hk25 : ¬ (k = 2 ∨ k = 5) := fun q => hin (c5.mp q)
              rcases (show k = 0 ∨ k = 3 by omega) with rfl | rfl
              · rw [if_pos (by decide)] at c1
                refine va_runV (As := As.map (mjV sz ol)) (b := sz + b) S hM (cwV As.length hts ?_ rfl rfl rfl ⟨rfl, m3, m4, hnp⟩ hR) ⟨mjPc_blind, hrecv, hpre⟩ rfl (by simp) hL.1 hst2 (lv_room hsum) (show decode _ pc = .ok (.invokevirtual (mjCallE i).2.1, 3) from hdg) hf
                intro w hw
                rcases List.mem_append.mp hw with hw | hw
                · rcases List.mem_cons.mp hw with rfl | hw
                  · exact mjGood _ (mjG_in (mjT_mem c1) rfl)
                  · rcases List.mem_cons.mp hw with rfl | hw
                    · exact mjGood _ (mjG_in (mjT_mem m2) rfl)
                    · rcases List.mem_cons.mp hw with rfl | hw
                      · exact mjGood _ (mjG_in hsel rfl)
                      · rw [List.mem_singleton.mp hw]
                        exact mjGood _ (mjG_in (mjT_mem m1) rfl)
                · exact mjGoodC hz w hw
              · rw [if_neg (by decide)] at c1
                have hnw : va_Nw (.methodLinkNest (mjMeth y).1.cls (mjCallE i).2.1 (mjMeth z).1 "PocketMachine") s := C.2.2.2.2.2.1.1 _ (List.mem_filter.mpr ⟨mjT_mem c1, rfl⟩)
                exact va_runVN (As := As.map (mjV sz ol)) (b := sz + b) S hM ⟨va_cnB As.length hts (mjGoodC hz) rfl rfl rfl hnw hini ⟨m3, m4, hnp⟩ hR, hinst, mjG_of hts hsel rfl⟩ ⟨mjPc_blind, hrecv, hpre⟩ rfl (by simp) hL.1 hst2 (lv_room hsum) (show decode _ pc = .ok (.invokevirtual (mjCallE i).2.1, 3) from hdg) hf
          · cases hrc'
        · cases hrc'
    refine mj_call run (fun v H1 L st₀ t e0 e1 hq hLf => ?_)
    obtain ⟨hv, ⟨hs1, hP1⟩, hF1, hF2⟩ := hq
    cases hv
    have hS1 : MjSm s D tc sz ol h1 H1 (locs ++ L) := by
      refine ⟨by rw [← e1]; exact hs1, by rw [← e1]; exact hP1, ?_, ?_, ?_⟩
      · rw [← e1]
        rw [e0] at hF1
        exact Nat.le_trans hS.2.2.1 hF1
      · intro q h2 h3
        rw [← e1]
        rw [e0] at hF2
        rw [hF2 q (Nat.lt_of_lt_of_le h2 hS.2.2.1) h3]
        exact hS.2.2.2.1 q h2 h3
      · intro q hq
        rcases List.mem_append.mp hq with h2 | h2
        · exact hS.2.2.2.2 q h2
        · exact hLf q h2
    have x1 : cells + (h1.length - h.length) + (h'.length - h1.length) = cells + (h'.length - h.length) := by omega
    have x2 : slots + (mjSlots h1 - mjSlots h) + (mjSlots h' - mjSlots h1) = slots + (mjSlots h' - mjSlots h) := by omega
    have k3 := hA y (pc + 3) ml (r1.toList ++ rest) h1 r h' hcont hy p l e R s m args below meth c Q D tc sz ol C hml hfr hlo H1 (locs ++ L) ls (cells + (h1.length - h.length)) (slots + (mjSlots h1 - mjSlots h)) hS1 hL (by rw [x1]; exact hc1) (by rw [x2]; exact hc2) (by rw [x1, x2]; exact kk)
    have x3 : (r1.toList ++ rest).map (mjV sz ol) = (r1.map (mjV sz ol)).toList ++ rest.map (mjV sz ol) := by cases r1 <;> simp
    rw [x3] at k3
    exact k3
  · obtain ⟨op, v, i, z, k, sw⟩ := q
    obtain rfl : op = 70 := e70
    obtain ⟨i1, i2⟩ := of_decide_eq_true (show decide ((mjOiE i).1 = (mjMeth y).1.cls ∧ i < mjOi.length) = true from hok)
    have c1 := of_decide_eq_true (mj_all (d := ("", 0, 0)) mjOi_ok i2)
    rw [show mjOi.getD i ("", 0, 0) = mjOiE i from rfl, i1] at c1
    obtain ⟨o1, o2⟩ := Bool.and_eq_true_iff.mp hone
    have o1 : ∀ w ∈ st', w.category = 1 := fun w hw => mjOne_cat (List.all_eq_true.mp o1 w hw)
    have o2 := of_decide_eq_true o2
    have hsum : ((st'.map (mjV sz ol)).map fun v => v.category).sum ≤ 8 := by
      rw [mj_sum1 _ (fun x hx => by obtain ⟨u, hu, rfl⟩ := List.mem_map.mp hx; rw [mjV_cat]; exact o1 u hu), List.length_map]
      exact o2
    refine W.objInit C.1 C.2.1 C.2.2.1 (mjG_of C.2.2.2.1 (mjT_mem c1) rfl) (mjG_of C.2.2.2.1 (mjT_mem mjObj_ok.1) rfl) (mjG_of C.2.2.2.1 (mjT_mem mjObj_ok.2) rfl) rfl (by rw [hml]; exact hL.1) rfl (show decode _ pc = .ok (.invokespecial (mjOiE i).2.1, 3) from hdg) (Nat.le_trans hf1 hfr) ?_ ?_
    · have := lv_room (m := m) (pc := pc) (ls := ls) (rest := (Value.ref a :: st').map (mjV sz ol)) hsum
      omega
    · exact hA y (pc + 3) ml st' h r h' hcont hy p l e R s m args below meth c Q D tc sz ol C hml hfr hlo H locs ls cells slots hS hL hc1 hc2 kk
  · obtain ⟨op, w, i, z, k, sw⟩ := q
    obtain rfl : op = 71 := e71
    have k2 := kk H locs ls pc hS (Or.inl ⟨v, ty, rfl, hty, hn, hdg⟩)
    simpa using k2
  · obtain ⟨op, w, i, z, k, sw⟩ := q
    obtain rfl : op = 72 := e72
    have k2 := kk H locs ls pc hS (Or.inr (Or.inl ⟨rfl, hty, hdg⟩))
    simpa using k2
  · obtain ⟨op, w, i, z, k, sw⟩ := q
    obtain rfl : op = 73 := e73
    have k2 := kk H locs ls pc hS (Or.inr (Or.inr ⟨v, rt, rfl, hAv, hty, hrt, hdg⟩))
    simpa using k2
  · obtain ⟨hs, hg⟩ := mjNat_ok hhd
    obtain ⟨g1, g2, g3⟩ := hg _ _ _ _ _ _ _ hr1
    obtain ⟨g4, g5⟩ := mjRun_grow o n _ _ _ _ _ _ _ hcont
    have x1 : cells + (r1.2.2.2.length - h.length) + (h'.length - r1.2.2.2.length) = cells + (h'.length - h.length) := by omega
    have x2 : slots + (mjSlots r1.2.2.2 - mjSlots h) + (mjSlots h' - mjSlots r1.2.2.2) = slots + (mjSlots h' - mjSlots h) := by omega
    refine hs p l e R s m args below meth c Q _ _ _ D tc sz ol o C q pc ml st h r1 H locs ls cells slots rfl hr1 hdg hok hS hL (hml.trans hL.1.symm) (Nat.le_trans hf1 hfr) (Nat.le_trans hl1 hlo) hone (by omega) (by omega) ?_
    intro H' locs' ls' hS' hL'
    exact hA y r1.1 r1.2.1 r1.2.2.1 r1.2.2.2 r h' hcont hy p l e R s m args below meth c Q D tc sz ol C (by rw [g3]; exact hml) hfr hlo H' locs' ls' _ _ hS' hL' (by rw [x1]; exact hc1) (by rw [x2]; exact hc2) (by rw [x1, x2]; exact kk)
  · obtain ⟨hs, hg⟩ := mjHd_ok hhd
    obtain ⟨g1, g2, g3⟩ := hg _ _ _ _ _ _ _ hr1
    obtain ⟨g4, g5⟩ := mjRun_grow o n _ _ _ _ _ _ _ hcont
    have x1 : cells + (r1.2.2.2.length - h.length) + (h'.length - r1.2.2.2.length) = cells + (h'.length - h.length) := by omega
    have x2 : slots + (mjSlots r1.2.2.2 - mjSlots h) + (mjSlots h' - mjSlots r1.2.2.2) = slots + (mjSlots h' - mjSlots h) := by omega
    refine hs p l e R s m args below meth c Q _ _ _ D tc sz ol o C q pc ml st h r1 H locs ls cells slots rfl hr1 hdg hok hS hL (by omega) (by omega) ?_
    intro H' locs' ls' hS' hL'
    exact hA y r1.1 r1.2.1 r1.2.2.1 r1.2.2.2 r h' hcont hy p l e R s m args below meth c Q D tc sz ol C (by rw [g3]; exact hml) hfr hlo H' locs' ls' _ _ hS' hL' (by rw [x1]; exact hc1) (by rw [x2]; exact hc2) (by rw [x1, x2]; exact kk)
theorem mjA_all (o : MjO) : ∀ n, MjA o n
  | 0 => mjA_zero o
  | n + 1 => mjA_succ (mjA_all o n)
