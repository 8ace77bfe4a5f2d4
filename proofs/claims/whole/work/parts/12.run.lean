/-! THE RUN OF THE SMALL MACHINE IS THE REAL ONE'S -/
theorem mjRun_inv {o : MjO} {n y pc : Nat} {ml : MjL} {st : List Value} {h : MjH} {r : Option Value} {h' : MjH} (hr : mjRun o (n + 1) y pc ml st h = some (r, h')) : ∃ q, mjFetch y pc = some q ∧ (
    (q.1 = 69 ∧ ∃ vs rest r1 h1, mjEnter y q.2.2.2.1 st = some (vs, rest) ∧ mjRecv q.2.2.2.1 q.2.2.2.2.1 h vs = true ∧ mjRun o n q.2.2.2.1 0 (vs.map some ++ List.replicate ((mjMeth q.2.2.2.1).2.2.1 - vs.length) none) [] h = some (r1, h1) ∧ mjRun o n y (pc + 3) ml (r1.toList ++ rest) h1 = some (r, h')) ∨
    (q.1 = 70 ∧ ∃ a st', st = .ref a :: st' ∧ 1 ≤ (mjMeth y).2.2.2.2.2.2.1 ∧ 20 ≤ (mjMeth y).2.2.2.2.2.2.2 ∧ (st'.all mjOne && decide (st'.length ≤ 8)) = true ∧ mjRun o n y (pc + 3) ml st' h = some (r, h')) ∨
    (q.1 = 71 ∧ ∃ v ty, st = [.int v] ∧ (mjMeth y).2.2.2.1 = some ty ∧ narrow ty (.int v) = .int v ∧ r = some (.int v) ∧ h' = h) ∨
    (q.1 = 72 ∧ st = [] ∧ (mjMeth y).2.2.2.1 = none ∧ r = none ∧ h' = h) ∨
    (q.1 = 73 ∧ ∃ v rt, st = [v] ∧ mjA v = true ∧ (mjMeth y).2.2.2.1 = some rt ∧ ((∃ c, rt = .object c) ∨ ∃ t, rt = .array t) ∧ r = some v ∧ h' = h) ∨
    (∃ hd r1, mjNat q.1 = some hd ∧ hd o q pc ml st h = some r1 ∧ 1 ≤ (mjMeth y).2.2.2.2.2.2.1 ∧ 26 ≤ (mjMeth y).2.2.2.2.2.2.2 ∧ (r1.2.2.1.all mjOne && decide (r1.2.2.1.length ≤ 8)) = true ∧ mjRun o n y r1.1 r1.2.1 r1.2.2.1 r1.2.2.2 = some (r, h')) ∨
    (∃ hd r1, mjHd q.1 = some hd ∧ hd o q pc ml st h = some r1 ∧ mjRun o n y r1.1 r1.2.1 r1.2.2.1 r1.2.2.2 = some (r, h'))) := by
  unfold mjRun at hr
  split at hr
  · cases hr
  · rename_i q hq
    refine ⟨q, hq, ?_⟩
    split at hr
    · rename_i e
      split at hr
      · cases hr
      · rename_i vs rest he
        split at hr
        · rename_i hrc
          split at hr
          · cases hr
          · rename_i r1 h1 hc
            exact Or.inl ⟨e, vs, rest, r1, h1, he, hrc, hc, hr⟩
        · cases hr
    · split at hr
      · rename_i e
        split at hr
        · rename_i a st'
          split at hr
          · rename_i hc
            exact Or.inr (Or.inl ⟨e, a, st', rfl, hc.1, hc.2.1, hc.2.2, hr⟩)
          · cases hr
        · cases hr
      · split at hr
        · rename_i e
          split at hr
          · rename_i v ty hty
            split at hr
            · rename_i hn
              cases hr
              exact Or.inr (Or.inr (Or.inl ⟨e, v, ty, rfl, hty, (mjNar_ok hn).1, rfl, rfl⟩))
            · cases hr
          · cases hr
        · split at hr
          · rename_i e
            split at hr
            · rename_i hty
              cases hr
              exact Or.inr (Or.inr (Or.inr (Or.inl ⟨e, rfl, hty, rfl, rfl⟩)))
            · cases hr
          · split at hr
            · rename_i e
              split at hr
              · rename_i v t hty
                split at hr
                · rename_i hA
                  cases hr
                  exact Or.inr (Or.inr (Or.inr (Or.inr (Or.inl ⟨e, v, _, rfl, hA, hty, Or.inr ⟨_, rfl⟩, rfl, rfl⟩))))
                · cases hr
              · rename_i v t hty
                split at hr
                · rename_i hA
                  cases hr
                  exact Or.inr (Or.inr (Or.inr (Or.inr (Or.inl ⟨e, v, _, rfl, hA, hty, Or.inl ⟨_, rfl⟩, rfl, rfl⟩))))
                · cases hr
              · cases hr
            · split at hr
              · rename_i hd hhd
                split at hr
                · cases hr
                · rename_i r1 hr1
                  split at hr
                  · rename_i hc
                    exact Or.inr (Or.inr (Or.inr (Or.inr (Or.inr (Or.inl ⟨hd, r1, hhd, hr1, hc.1, hc.2.1, hc.2.2, hr⟩)))))
                  · cases hr
              · split at hr
                · cases hr
                · rename_i hd hhd
                  split at hr
                  · cases hr
                  · rename_i r1 hr1
                    exact Or.inr (Or.inr (Or.inr (Or.inr (Or.inr (Or.inr ⟨hd, r1, hhd, hr1, hr⟩)))))
theorem mjRun_grow (o : MjO) : ∀ (n y pc : Nat) (ml : MjL) (st : List Value) (h : MjH) (r : Option Value) (h' : MjH), mjRun o n y pc ml st h = some (r, h') → h.length ≤ h'.length ∧ mjSlots h ≤ mjSlots h' := by
  intro n
  induction n with
  | zero => intro y pc ml st h r h' hr; cases hr
  | succ n ih =>
    intro y pc ml st h r h' hr
    obtain ⟨q, -, hc⟩ := mjRun_inv hr
    rcases hc with ⟨-, vs, rest, r1, h1, -, -, a, b⟩ | ⟨-, a, st', -, -, -, -, b⟩ | ⟨-, v, ty, -, -, -, -, rfl⟩ | ⟨-, -, -, -, rfl⟩ | ⟨-, v, rt, -, -, -, -, -, rfl⟩ | ⟨hd, r1, hhd, a, -, -, -, b⟩ | ⟨hd, r1, hhd, a, b⟩
    · have a := ih _ _ _ _ _ _ _ a
      have b := ih _ _ _ _ _ _ _ b
      exact ⟨Nat.le_trans a.1 b.1, Nat.le_trans a.2 b.2⟩
    · exact ih _ _ _ _ _ _ _ b
    · exact ⟨Nat.le_refl _, Nat.le_refl _⟩
    · exact ⟨Nat.le_refl _, Nat.le_refl _⟩
    · exact ⟨Nat.le_refl _, Nat.le_refl _⟩
    · have a := (mjNat_ok hhd).2 _ _ _ _ _ _ _ a
      have b := ih _ _ _ _ _ _ _ b
      exact ⟨Nat.le_trans a.1 b.1, Nat.le_trans a.2.1 b.2⟩
    · have a := (mjHd_ok hhd).2 _ _ _ _ _ _ _ a
      have b := ih _ _ _ _ _ _ _ b
      exact ⟨Nat.le_trans a.1 b.1, Nat.le_trans a.2.1 b.2⟩
theorem MjTb.warm {s U : State} (hW : s.WarmedH U.vm) (h : MjTb s) : MjTb U := by
  refine ⟨fun w hw => ?_, h.2.1.moved hW.alike, h.2.2.moved hW.alike⟩
  have hn := (List.mem_filter.mp hw).2
  have h1 := h.1 w hw
  cases w <;> first | exact va_Nw.warmM hW h1 | exact va_Nw.warmF hW h1 | cases hn
theorem MjTb.same {u U : State} (e : u.vm = U.vm) (h : MjTb u) : MjTb U := by
  have ha : u.vm.Alike U.vm := e ▸ Vm.Alike.refl u.vm
  refine ⟨fun w hw => ?_, h.2.1.moved ha, h.2.2.moved ha⟩
  have hn := (List.mem_filter.mp hw).2
  have h1 := h.1 w hw
  cases w <;> first | exact va_Nw.same rfl e h1 | cases hn
theorem MjOb.moved {o : MjO} {ol : Nat → Nat} {sz : Nat} {u U : State} {H : Heap} (hvm : u.vm.Alike U.vm) (h : MjOb o ol sz u H) : MjOb o ol sz U H :=
  ⟨fun k n f hk => (h.1 k n f hk).moved hvm, fun k q hk => (h.2 k q hk).moved hvm⟩
theorem MjOb.kept {o : MjO} {ol : Nat → Nat} {sz : Nat} {U : State} {H H1 : Heap} (h : MjOb o ol sz U H) (hq : ∀ a : Nat, a < H.size → ¬ sz ≤ a → H1[a]? = H[a]?) : MjOb o ol sz U H1 :=
  ⟨fun k n f hk => (h.1 k n f hk).kept hq, fun k q hk => (h.2 k q hk).kept hq⟩
def mjPc (D : va_G) (tc : Nat → ClassId) (sz : Nat) (ol : Nat → Nat) (o : MjO) (vs : List Value) (h : MjH) : Array Value → State → Prop :=
  va_Pc (vs.map (mjV sz ol)) (fun U => U.heap.size = sz + h.length ∧ va_P D vwCl (mjW tc sz ol h) U.heap ∧ va_K D vwCl (mjTys tc) U ∧ MjTb U ∧ MjOb o ol sz U U.heap)
def mjQc (D : va_G) (tc : Nat → ClassId) (sz : Nat) (ol : Nat → Nat) (r : Option Value) (h' : MjH) : Array Value → State → Outcome → State → Prop :=
  fun _ st oc t => oc = .returned (r.map (mjV sz ol)) ∧ (t.heap.size = sz + h'.length ∧ va_P D vwCl (mjW tc sz ol h') t.heap) ∧ va_F (fun q => sz ≤ q) st t
theorem mjPc_blind {D : va_G} {tc : Nat → ClassId} {sz : Nat} {ol : Nat → Nat} {o : MjO} {vs : List Value} {h : MjH} : FrameBlind (mjPc D tc sz ol o vs h) := by
  intro a U g mk ⟨q0, q1, q2, q3, q4, q5⟩
  exact ⟨q0, q1, q2, va_K.moved (u := U) (U := U.calling g mk a) (Vm.Alike.refl U.vm) q3, MjTb.same (u := U) (U := U.calling g mk a) rfl q4, MjOb.moved (u := U) (U := U.calling g mk a) (Vm.Alike.refl U.vm) q5⟩
def MjEnd (cc : ByteArray) (ret : Option FieldType) (r : Option Value) (pc : Nat) : Prop :=
  (∃ v ty, r = some (.int v) ∧ ret = some ty ∧ narrow ty (.int v) = .int v ∧ decode cc pc = .ok (.ireturn, 1)) ∨
  (r = none ∧ ret = none ∧ decode cc pc = .ok (.return_, 1)) ∨
  (∃ v rt, r = some v ∧ mjA v = true ∧ ret = some rt ∧ ((∃ n, rt = .object n) ∨ ∃ t, rt = .array t) ∧ decode cc pc = .ok (.areturn, 1))
def MjA (o : MjO) (n : Nat) : Prop := ∀ (y pc : Nat) (ml : MjL) (st : List Value) (h : MjH) (r : Option Value) (h' : MjH), mjRun o n y pc ml st h = some (r, h') → y < mjMeths.length → ∀ (p : Program) (l : Launch) (e : Env) (R : Room) (s : State) (m : MethodId) (args : Array Value) (below : List Frame) (meth : Method) (c : Code) (Q : State → Prop) (D : va_G) (tc : Nat → ClassId) (sz : Nat) (ol : Nat → Nat),
  MjCx p s m args meth c (mjMeth y).2.1 (mjMeth y).1.cls (mjIsInit y) D tc sz ol o → c.maxLocals = ml.length → (mjMeth y).2.2.2.2.2.2.1 ≤ R.frames → (mjMeth y).2.2.2.2.2.2.2 ≤ R.locals → ∀ (H : Heap) (locs : List Loc) (ls : Array Slot) (cells slots : Nat), MjSm s D tc sz ol h H locs → MjLv sz ol ml ls →
  cells + (h'.length - h.length) ≤ R.cells → slots + (mjSlots h' - mjSlots h) ≤ R.slots →
  (∀ (H' : Heap) (locs' : List Loc) (ls' : Array Slot) (pcE : Nat), MjSm s D tc sz ol h' H' locs' → MjEnd (mjMeth y).2.1 (mjMeth y).2.2.2.1 r pcE → W p l e R s m args below meth c H' locs' (cells + (h'.length - h.length)) (slots + (mjSlots h' - mjSlots h)) Q (F0 m pcE ls' (r.toList.map (mjV sz ol)))) →
  W p l e R s m args below meth c H locs cells slots Q (F0 m pc ls (st.map (mjV sz ol)))
theorem mj_args : ∀ (vs : List Value) (k i : Nat) (v : Value), (∀ w ∈ vs, w.category = 1) → vs[i]? = some v → (k + i, v) ∈ lv_args k vs := by
  intro vs
  induction vs with
  | nil => intro k i v _ h; cases h
  | cons w vs ih =>
    intro k i v hc h
    have hw : w.category = 1 := hc w List.mem_cons_self
    cases i with
    | zero =>
      cases h
      exact List.mem_cons_self
    | succ i =>
      rw [List.getElem?_cons_succ] at h
      have := ih (k + 1) i v (fun x hx => hc x (List.mem_cons_of_mem _ hx)) h
      simp only [lv_args, hw]
      rw [show k + (i + 1) = k + 1 + i by omega]
      exact List.mem_cons_of_mem _ this
theorem mj_sl : ∀ (vs : List Value), (∀ w ∈ vs, w.category = 1) → (lg_sl vs).length = vs.length := by
  intro vs
  induction vs with
  | nil => intro _; rfl
  | cons w vs ih =>
    intro hc
    have hw : w.category = 1 := hc w List.mem_cons_self
    have := ih (fun x hx => hc x (List.mem_cons_of_mem _ hx))
    simp [lg_sl, List.flatMap_cons, hw] at this ⊢
    omega
theorem mjMeth_pl {z : Nat} (hz : z < mjLawNo) : plainName (mjMeth z).1.cls = true := (of_decide_eq_true (mj_rng mjMeth_c hz)).2.2.2.1
theorem mjLaw_lt {z : Nat} (hz : z < mjLawNo) : z < mjMeths.length := Nat.lt_trans hz (by decide +kernel)
theorem mjLv_entry {sz : Nat} {ol : Nat → Nat} {vs : List Value} {ls : Array Slot} {nL : Nat} (h1 : ∀ w ∈ vs, w.category = 1) (hn : vs.length ≤ nL) (hl : lv_has ls nL (lv_args 0 (vs.map (mjV sz ol)))) : MjLv sz ol (vs.map some ++ List.replicate (nL - vs.length) none) ls := by
  refine ⟨by rw [hl.1]; simp; omega, hl.2.1, fun i v hv => ?_⟩
  by_cases hi : i < vs.length
  · rw [List.getElem?_append_left (by simpa using hi), List.getElem?_map] at hv
    obtain ⟨w, hw, e⟩ := Option.map_eq_some_iff.mp hv
    cases e
    have hm := mj_args (vs.map (mjV sz ol)) 0 i (mjV sz ol v) (fun x hx => by obtain ⟨u, hu, rfl⟩ := List.mem_map.mp hx; rw [mjV_cat]; exact h1 u hu) (by rw [List.getElem?_map, hw]; rfl)
    rw [Nat.zero_add] at hm
    exact ⟨h1 v (List.mem_of_getElem? hw), hl.2.2 _ hm⟩
  · rw [List.getElem?_append_right (by simpa using hi)] at hv
    have := (List.mem_replicate.mp (List.mem_of_getElem? hv)).2
    cases this
theorem mjMet {o : MjO} {n : Nat} (hA : MjA o n) {z : Nat} (hz : z < mjLawNo) {vs : List Value} {h h' : MjH} {r : Option Value} (hr : mjRun o n z 0 (vs.map some ++ List.replicate ((mjMeth z).2.2.1 - vs.length) none) [] h = some (r, h')) (hvs : ∀ w ∈ vs, w.category = 1) (hlen : vs.length ≤ (mjMeth z).2.2.1) (l : Launch) (D : va_G) (tc : Nat → ClassId) (sz : Nat) (ol : Nat → Nat) :
    Met l (mjMeth z).1 (Cond.code (mjMeth z).1 (mjMeth z).2.1 (mjMeth z).2.2.1 (mjMeth z).2.2.2.1 :: mjG) { frames := (mjMeth z).2.2.2.2.2.2.1, cells := h'.length - h.length, slots := mjSlots h' - mjSlots h, locals := (mjMeth z).2.2.2.2.2.2.2 } (mjPc D tc sz ol o vs h) (mjQc D tc sz ol r h') (h'.length - h.length) (mjSlots h' - mjSlots h) (fun q => sz ≤ q) := by
  refine Met.ofW (cc := (mjMeth z).2.1) (maxL := (mjMeth z).2.2.1) (ret := (mjMeth z).2.2.2.1) (mjMeth_pl hz) rfl ?_
  intro p e s m args below meth c s₁ B hml hv
  obtain ⟨rfl, hsz, hP, hK, hTb, hOb⟩ := hv
  have hts := atoms_spec (ws := Cond.code (mjMeth z).1 (mjMeth z).2.1 (mjMeth z).2.2.1 (mjMeth z).2.2.2.1 :: mjG) B.pre
  have hown : s.vm.findClass (mjMeth z).1.cls = some m.cls := findClass_of_methodNamed B.named
  have hC : MjCx p s m (vs.map (mjV sz ol)).toArray meth c (mjMeth z).2.1 (mjMeth z).1.cls (mjIsInit z) D tc sz ol o := ⟨B.exec, B.bytes, hown, fun w hw => hts w (List.mem_cons_of_mem _ hw), hK, hTb, hOb, by omega, fun hi => (name_of_methodNamed B.named B.method).1.trans (of_decide_eq_true hi)⟩
  have hvs' : ∀ w ∈ vs.map (mjV sz ol), w.category = 1 := fun x hx => by obtain ⟨u, hu, rfl⟩ := List.mem_map.mp hx; rw [mjV_cat]; exact hvs u hu
  have hl := lv_entry (vs.map (mjV sz ol)) (n := (mjMeth z).2.2.1) (by rw [mj_sl _ hvs', List.length_map]; exact hlen)
  rw [lg_entry_eq]
  generalize (lg_sl (vs.map (mjV sz ol)) ++ List.replicate ((mjMeth z).2.2.1 - (lg_sl (vs.map (mjV sz ol))).length) Slot.unset).toArray = ls at hl ⊢
  have hL := mjLv_entry hvs hlen hl
  refine hA z 0 _ [] h r h' hr (mjLaw_lt hz) p l e _ s m _ below meth c _ D tc sz ol hC (by rw [hml]; simp; omega) (Nat.le_refl _) (Nat.le_refl _) s.heap [] ls 0 0 ⟨hsz, hP, va_S.rf⟩ hL (by rw [Nat.zero_add]; exact Nat.le_refl _) (by rw [Nat.zero_add]; exact Nat.le_refl _) ?_
  intro H' locs' ls' pcE hS' hE
  rw [Nat.zero_add, Nat.zero_add]
  rcases hE with ⟨v, ty, rfl, hrt, hn, hd⟩ | ⟨rfl, hrt, hd⟩ | ⟨v, rt, rfl, hAv, hrt, hrt2, hd⟩
  · exact W.zret B.exec B.bytes (B.returns.trans hrt) hn (fun t ht hW => ⟨rfl, ⟨by rw [ht]; exact hS'.1, by rw [ht]; exact hS'.2.1⟩, hS'.2.2.F ht⟩) hS'.2.2.2.2 hd
  · exact W.vret B.exec B.bytes (B.returns.trans hrt) (fun t ht hW => ⟨rfl, ⟨by rw [ht]; exact hS'.1, by rw [ht]; exact hS'.2.1⟩, hS'.2.2.F ht⟩) hS'.2.2.2.2 hd
  · exact W.aret B.exec B.bytes (B.returns.trans hrt) hrt2 (v := mjV sz ol v) (by cases v <;> first | exact Or.inl rfl | exact Or.inr ⟨_, rfl⟩ | cases hAv) (fun t ht hW => ⟨rfl, ⟨by rw [ht]; exact hS'.1, by rw [ht]; exact hS'.2.1⟩, hS'.2.2.F ht⟩) hS'.2.2.2.2 hd
