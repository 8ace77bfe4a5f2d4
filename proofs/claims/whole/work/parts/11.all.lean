/-! ALL ROWS TOGETHER -/
def MjGrow3 (hd : MjHd) : Prop := ∀ (o : MjO) (q : MjIns) (pc : Nat) (ml : MjL) (st : List Value) (h : MjH) (r : Nat × MjL × List Value × MjH), hd o q pc ml st h = some r → h.length ≤ r.2.2.2.length ∧ mjSlots h ≤ mjSlots r.2.2.2 ∧ r.2.1.length = ml.length
theorem mjgr_mjPush {n : Nat} : MjGrow3 (mjPush n) := by
  intro o q pc ml st h r hr
  unfold mjPush at hr
  (repeat' split at hr) <;> first | (cases hr; done) | (cases hr; exact ⟨Nat.le_refl _, Nat.le_refl _, rfl⟩) | (cases hr; exact ⟨Nat.le_refl _, Nat.le_refl _, by simp⟩)
theorem mjgr_mjPushL : MjGrow3 mjPushL := by
  intro o q pc ml st h r hr
  unfold mjPushL at hr
  (repeat' split at hr) <;> first | (cases hr; done) | (cases hr; exact ⟨Nat.le_refl _, Nat.le_refl _, rfl⟩) | (cases hr; exact ⟨Nat.le_refl _, Nat.le_refl _, by simp⟩)
theorem mjgr_mjILoad {n : Nat} : MjGrow3 (mjILoad n) := by
  intro o q pc ml st h r hr
  unfold mjILoad at hr
  (repeat' split at hr) <;> first | (cases hr; done) | (cases hr; exact ⟨Nat.le_refl _, Nat.le_refl _, rfl⟩) | (cases hr; exact ⟨Nat.le_refl _, Nat.le_refl _, by simp⟩)
theorem mjgr_mjALoad {n : Nat} : MjGrow3 (mjALoad n) := by
  intro o q pc ml st h r hr
  unfold mjALoad at hr
  (repeat' split at hr) <;> first | (cases hr; done) | (cases hr; exact ⟨Nat.le_refl _, Nat.le_refl _, rfl⟩) | (cases hr; exact ⟨Nat.le_refl _, Nat.le_refl _, by simp⟩)
theorem mjgr_mjIStore {n : Nat} : MjGrow3 (mjIStore n) := by
  intro o q pc ml st h r hr
  unfold mjIStore at hr
  (repeat' split at hr) <;> first | (cases hr; done) | (cases hr; exact ⟨Nat.le_refl _, Nat.le_refl _, rfl⟩) | (cases hr; exact ⟨Nat.le_refl _, Nat.le_refl _, by simp⟩)
theorem mjgr_mjAStore {n : Nat} : MjGrow3 (mjAStore n) := by
  intro o q pc ml st h r hr
  unfold mjAStore at hr
  (repeat' split at hr) <;> first | (cases hr; done) | (cases hr; exact ⟨Nat.le_refl _, Nat.le_refl _, rfl⟩) | (cases hr; exact ⟨Nat.le_refl _, Nat.le_refl _, by simp⟩)
theorem mjgr_mjInc : MjGrow3 mjInc := by
  intro o q pc ml st h r hr
  unfold mjInc at hr
  (repeat' split at hr) <;> first | (cases hr; done) | (cases hr; exact ⟨Nat.le_refl _, Nat.le_refl _, rfl⟩) | (cases hr; exact ⟨Nat.le_refl _, Nat.le_refl _, by simp⟩)
theorem mjgr_mjBin {f : Int32 → Int32 → Int32} : MjGrow3 (mjBin f) := by
  intro o q pc ml st h r hr
  unfold mjBin at hr
  (repeat' split at hr) <;> first | (cases hr; done) | (cases hr; exact ⟨Nat.le_refl _, Nat.le_refl _, rfl⟩) | (cases hr; exact ⟨Nat.le_refl _, Nat.le_refl _, by simp⟩)
theorem mjgr_mjDiv {f : Int32 → Int32 → Int32} : MjGrow3 (mjDiv f) := by
  intro o q pc ml st h r hr
  unfold mjDiv at hr
  (repeat' split at hr) <;> first | (cases hr; done) | (cases hr; exact ⟨Nat.le_refl _, Nat.le_refl _, rfl⟩) | (cases hr; exact ⟨Nat.le_refl _, Nat.le_refl _, by simp⟩)
theorem mjgr_mjUn {f : Int32 → Int32} : MjGrow3 (mjUn f) := by
  intro o q pc ml st h r hr
  unfold mjUn at hr
  (repeat' split at hr) <;> first | (cases hr; done) | (cases hr; exact ⟨Nat.le_refl _, Nat.le_refl _, rfl⟩) | (cases hr; exact ⟨Nat.le_refl _, Nat.le_refl _, by simp⟩)
theorem mjgr_mjLAdd : MjGrow3 mjLAdd := by
  intro o q pc ml st h r hr
  unfold mjLAdd at hr
  (repeat' split at hr) <;> first | (cases hr; done) | (cases hr; exact ⟨Nat.le_refl _, Nat.le_refl _, rfl⟩) | (cases hr; exact ⟨Nat.le_refl _, Nat.le_refl _, by simp⟩)
theorem mjgr_mjL2I : MjGrow3 mjL2I := by
  intro o q pc ml st h r hr
  unfold mjL2I at hr
  (repeat' split at hr) <;> first | (cases hr; done) | (cases hr; exact ⟨Nat.le_refl _, Nat.le_refl _, rfl⟩) | (cases hr; exact ⟨Nat.le_refl _, Nat.le_refl _, by simp⟩)
theorem mjgr_mjDup : MjGrow3 mjDup := by
  intro o q pc ml st h r hr
  unfold mjDup at hr
  (repeat' split at hr) <;> first | (cases hr; done) | (cases hr; exact ⟨Nat.le_refl _, Nat.le_refl _, rfl⟩) | (cases hr; exact ⟨Nat.le_refl _, Nat.le_refl _, by simp⟩)
theorem mjgr_mjPop : MjGrow3 mjPop := by
  intro o q pc ml st h r hr
  unfold mjPop at hr
  (repeat' split at hr) <;> first | (cases hr; done) | (cases hr; exact ⟨Nat.le_refl _, Nat.le_refl _, rfl⟩) | (cases hr; exact ⟨Nat.le_refl _, Nat.le_refl _, by simp⟩)
theorem mjgr_mjDupX1 : MjGrow3 mjDupX1 := by
  intro o q pc ml st h r hr
  unfold mjDupX1 at hr
  (repeat' split at hr) <;> first | (cases hr; done) | (cases hr; exact ⟨Nat.le_refl _, Nat.le_refl _, rfl⟩) | (cases hr; exact ⟨Nat.le_refl _, Nat.le_refl _, by simp⟩)
theorem mjgr_mjDup2 : MjGrow3 mjDup2 := by
  intro o q pc ml st h r hr
  unfold mjDup2 at hr
  (repeat' split at hr) <;> first | (cases hr; done) | (cases hr; exact ⟨Nat.le_refl _, Nat.le_refl _, rfl⟩) | (cases hr; exact ⟨Nat.le_refl _, Nat.le_refl _, by simp⟩)
theorem mjgr_mjGoto : MjGrow3 mjGoto := by
  intro o q pc ml st h r hr
  unfold mjGoto at hr
  (repeat' split at hr) <;> first | (cases hr; done) | (cases hr; exact ⟨Nat.le_refl _, Nat.le_refl _, rfl⟩) | (cases hr; exact ⟨Nat.le_refl _, Nat.le_refl _, by simp⟩)
theorem mjgr_mjSwitch : MjGrow3 mjSwitch := by
  intro o q pc ml st h r hr
  unfold mjSwitch at hr
  (repeat' split at hr) <;> first | (cases hr; done) | (cases hr; exact ⟨Nat.le_refl _, Nat.le_refl _, rfl⟩) | (cases hr; exact ⟨Nat.le_refl _, Nat.le_refl _, by simp⟩)
theorem mjgr_mjGet : MjGrow3 mjGet := by
  intro o q pc ml st h r hr
  unfold mjGet at hr
  (repeat' split at hr) <;> first | (cases hr; done) | (cases hr; exact ⟨Nat.le_refl _, Nat.le_refl _, rfl⟩) | (cases hr; exact ⟨Nat.le_refl _, Nat.le_refl _, by simp⟩)
theorem mjgr_mjLd {t : Nat} : MjGrow3 (mjLd t) := by
  intro o q pc ml st h r hr
  unfold mjLd at hr
  (repeat' split at hr) <;> first | (cases hr; done) | (cases hr; exact ⟨Nat.le_refl _, Nat.le_refl _, rfl⟩) | (cases hr; exact ⟨Nat.le_refl _, Nat.le_refl _, by simp⟩)
theorem mjgr_mjALd : MjGrow3 mjALd := by
  intro o q pc ml st h r hr
  unfold mjALd at hr
  (repeat' split at hr) <;> first | (cases hr; done) | (cases hr; exact ⟨Nat.le_refl _, Nat.le_refl _, rfl⟩) | (cases hr; exact ⟨Nat.le_refl _, Nat.le_refl _, by simp⟩)
theorem mjgr_mjLen : MjGrow3 mjLen := by
  intro o q pc ml st h r hr
  unfold mjLen at hr
  (repeat' split at hr) <;> first | (cases hr; done) | (cases hr; exact ⟨Nat.le_refl _, Nat.le_refl _, rfl⟩) | (cases hr; exact ⟨Nat.le_refl _, Nat.le_refl _, by simp⟩)
theorem mjgr_mjStatic : MjGrow3 mjStatic := by
  intro o q pc ml st h r hr
  unfold mjStatic at hr
  (repeat' split at hr) <;> first | (cases hr; done) | (cases hr; exact ⟨Nat.le_refl _, Nat.le_refl _, rfl⟩) | (cases hr; exact ⟨Nat.le_refl _, Nat.le_refl _, by simp⟩)
theorem mjgr_mjNull : MjGrow3 mjNull := by
  intro o q pc ml st h r hr
  unfold mjNull at hr
  (repeat' split at hr) <;> first | (cases hr; done) | (cases hr; exact ⟨Nat.le_refl _, Nat.le_refl _, rfl⟩) | (cases hr; exact ⟨Nat.le_refl _, Nat.le_refl _, by simp⟩)
theorem mjgr_mjIf {f : Int32 → Bool} : MjGrow3 (mjIf f) := by
  intro o q pc ml st h r hr
  unfold mjIf at hr
  (repeat' split at hr) <;> first | (cases hr; done) | (cases hr; exact ⟨Nat.le_refl _, Nat.le_refl _, rfl⟩) | (cases hr; exact ⟨Nat.le_refl _, Nat.le_refl _, by simp⟩)
theorem mjgr_mjIf2 {f : Int32 → Int32 → Bool} : MjGrow3 (mjIf2 f) := by
  intro o q pc ml st h r hr
  unfold mjIf2 at hr
  (repeat' split at hr) <;> first | (cases hr; done) | (cases hr; exact ⟨Nat.le_refl _, Nat.le_refl _, rfl⟩) | (cases hr; exact ⟨Nat.le_refl _, Nat.le_refl _, by simp⟩)
theorem mjgr_mjIfN {z : Bool} : MjGrow3 (mjIfN z) := by
  intro o q pc ml st h r hr
  unfold mjIfN at hr
  (repeat' split at hr) <;> first | (cases hr; done) | (cases hr; exact ⟨Nat.le_refl _, Nat.le_refl _, rfl⟩) | (cases hr; exact ⟨Nat.le_refl _, Nat.le_refl _, by simp⟩)
theorem mjgr_mjPut : MjGrow3 mjPut := by
  intro o q pc ml st h r hr
  unfold mjPut at hr
  (repeat' split at hr) <;> first | (cases hr; done) | (cases hr; refine ⟨by simp, Nat.le_of_eq (mjSlots_set (by assumption) (by simp [mjSl])).symm, rfl⟩)
theorem mjgr_mjSt {t : Nat} {g : Int32 → Int32} : MjGrow3 (mjSt t g) := by
  intro o q pc ml st h r hr
  unfold mjSt at hr
  (repeat' split at hr) <;> first | (cases hr; done) | (cases hr; refine ⟨by simp, Nat.le_of_eq (mjSlots_set (by assumption) (by simp [mjSl])).symm, rfl⟩)
theorem mjgr_mjASt : MjGrow3 mjASt := by
  intro o q pc ml st h r hr
  unfold mjASt at hr
  (repeat' split at hr) <;> first | (cases hr; done) | (cases hr; refine ⟨by simp, Nat.le_of_eq (mjSlots_set (by assumption) (by simp [mjSl])).symm, rfl⟩)
theorem mjgr_mjNewA : MjGrow3 mjNewA := by
  intro o q pc ml st h r hr
  unfold mjNewA at hr
  (repeat' split at hr) <;> first | (cases hr; done) | (cases hr; exact ⟨by simp, by show mjSlots h ≤ mjSlots (h ++ _); rw [mjSlots_push]; omega, rfl⟩)
theorem mjgr_mjNewQ : MjGrow3 mjNewQ := by
  intro o q pc ml st h r hr
  unfold mjNewQ at hr
  (repeat' split at hr) <;> first | (cases hr; done) | (cases hr; exact ⟨by simp, by show mjSlots h ≤ mjSlots (h ++ _); rw [mjSlots_push]; omega, rfl⟩)
theorem mjgr_mjNewO : MjGrow3 mjNewO := by
  intro o q pc ml st h r hr
  unfold mjNewO at hr
  (repeat' split at hr) <;> first | (cases hr; done) | (cases hr; exact ⟨by simp, by show mjSlots h ≤ mjSlots (h ++ _); rw [mjSlots_push]; omega, rfl⟩)
theorem mjHs_ok : ∀ (op : Nat) (hd : MjHd), mjHs[op]? = some hd → MjSound op hd ∧ MjGrow3 hd
  | 0, _, h => Option.some.inj h ▸ ⟨mjp_0.sound, mjgr_mjPush⟩
  | 1, _, h => Option.some.inj h ▸ ⟨mjp_1.sound, mjgr_mjPush⟩
  | 2, _, h => Option.some.inj h ▸ ⟨mjp_2.sound, mjgr_mjPush⟩
  | 3, _, h => Option.some.inj h ▸ ⟨(mjp_ldc (Or.inl ⟨rfl, rfl⟩)).sound, mjgr_mjPush⟩
  | 4, _, h => Option.some.inj h ▸ ⟨(mjp_ldc (Or.inr ⟨rfl, rfl⟩)).sound, mjgr_mjPush⟩
  | 5, _, h => Option.some.inj h ▸ ⟨mjp_5.sound, mjgr_mjPushL⟩
  | 6, _, h => Option.some.inj h ▸ ⟨mjp_6.sound, mjgr_mjILoad⟩
  | 7, _, h => Option.some.inj h ▸ ⟨mjp_7.sound, mjgr_mjILoad⟩
  | 8, _, h => Option.some.inj h ▸ ⟨mjp_8.sound, mjgr_mjALoad⟩
  | 9, _, h => Option.some.inj h ▸ ⟨mjp_9.sound, mjgr_mjALoad⟩
  | 10, _, h => Option.some.inj h ▸ ⟨mjp_10.sound, mjgr_mjIStore⟩
  | 11, _, h => Option.some.inj h ▸ ⟨mjp_11.sound, mjgr_mjIStore⟩
  | 12, _, h => Option.some.inj h ▸ ⟨mjp_12.sound, mjgr_mjAStore⟩
  | 13, _, h => Option.some.inj h ▸ ⟨mjp_13.sound, mjgr_mjAStore⟩
  | 14, _, h => Option.some.inj h ▸ ⟨mjp_14.sound, mjgr_mjInc⟩
  | 15, _, h => Option.some.inj h ▸ ⟨mjp_15.sound, mjgr_mjBin⟩
  | 16, _, h => Option.some.inj h ▸ ⟨mjp_16.sound, mjgr_mjBin⟩
  | 17, _, h => Option.some.inj h ▸ ⟨mjp_17.sound, mjgr_mjBin⟩
  | 18, _, h => Option.some.inj h ▸ ⟨mjp_18.sound, mjgr_mjDiv⟩
  | 19, _, h => Option.some.inj h ▸ ⟨mjp_19.sound, mjgr_mjDiv⟩
  | 20, _, h => Option.some.inj h ▸ ⟨mjp_20.sound, mjgr_mjUn⟩
  | 21, _, h => Option.some.inj h ▸ ⟨mjp_21.sound, mjgr_mjBin⟩
  | 22, _, h => Option.some.inj h ▸ ⟨mjp_22.sound, mjgr_mjBin⟩
  | 23, _, h => Option.some.inj h ▸ ⟨mjp_23.sound, mjgr_mjBin⟩
  | 24, _, h => Option.some.inj h ▸ ⟨mjp_24.sound, mjgr_mjBin⟩
  | 25, _, h => Option.some.inj h ▸ ⟨mjp_25.sound, mjgr_mjBin⟩
  | 26, _, h => Option.some.inj h ▸ ⟨mjp_26.sound, mjgr_mjBin⟩
  | 27, _, h => Option.some.inj h ▸ ⟨mjp_27.sound, mjgr_mjLAdd⟩
  | 28, _, h => Option.some.inj h ▸ ⟨mjp_28.sound, mjgr_mjL2I⟩
  | 29, _, h => Option.some.inj h ▸ ⟨mjp_29.sound, mjgr_mjUn⟩
  | 30, _, h => Option.some.inj h ▸ ⟨mjp_30.sound, mjgr_mjUn⟩
  | 31, _, h => Option.some.inj h ▸ ⟨mjp_31.sound, mjgr_mjUn⟩
  | 32, _, h => Option.some.inj h ▸ ⟨mjp_32.sound, mjgr_mjDup⟩
  | 33, _, h => Option.some.inj h ▸ ⟨mjp_33.sound, mjgr_mjPop⟩
  | 34, _, h => Option.some.inj h ▸ ⟨mjp_34.sound, mjgr_mjDupX1⟩
  | 35, _, h => Option.some.inj h ▸ ⟨mjp_35.sound, mjgr_mjDup2⟩
  | 36, _, h => Option.some.inj h ▸ ⟨mjp_36.sound, mjgr_mjIf⟩
  | 37, _, h => Option.some.inj h ▸ ⟨mjp_37.sound, mjgr_mjIf⟩
  | 38, _, h => Option.some.inj h ▸ ⟨mjp_38.sound, mjgr_mjIf⟩
  | 39, _, h => Option.some.inj h ▸ ⟨mjp_39.sound, mjgr_mjIf⟩
  | 40, _, h => Option.some.inj h ▸ ⟨mjp_40.sound, mjgr_mjIf⟩
  | 41, _, h => Option.some.inj h ▸ ⟨mjp_41.sound, mjgr_mjIf⟩
  | 42, _, h => Option.some.inj h ▸ ⟨mjp_42.sound, mjgr_mjIf2⟩
  | 43, _, h => Option.some.inj h ▸ ⟨mjp_43.sound, mjgr_mjIf2⟩
  | 44, _, h => Option.some.inj h ▸ ⟨mjp_44.sound, mjgr_mjIf2⟩
  | 45, _, h => Option.some.inj h ▸ ⟨mjp_45.sound, mjgr_mjIf2⟩
  | 46, _, h => Option.some.inj h ▸ ⟨mjp_46.sound, mjgr_mjIf2⟩
  | 47, _, h => Option.some.inj h ▸ ⟨mjp_47.sound, mjgr_mjIf2⟩
  | 48, _, h => Option.some.inj h ▸ ⟨mjp_48.sound, mjgr_mjGoto⟩
  | 49, _, h => Option.some.inj h ▸ ⟨mjp_49.sound, mjgr_mjIfN⟩
  | 50, _, h => Option.some.inj h ▸ ⟨mjp_50.sound, mjgr_mjIfN⟩
  | 51, _, h => Option.some.inj h ▸ ⟨mjp_51.sound, mjgr_mjSwitch⟩
  | 52, _, h => Option.some.inj h ▸ ⟨mjp_52.sound, mjgr_mjSwitch⟩
  | 53, _, h => Option.some.inj h ▸ ⟨mjp_53.sound, mjgr_mjGet⟩
  | 54, _, h => Option.some.inj h ▸ ⟨mjs_put (Or.inl rfl), mjgr_mjPut⟩
  | 55, _, h => Option.some.inj h ▸ ⟨mjs_put (Or.inr rfl), mjgr_mjPut⟩
  | 56, _, h => Option.some.inj h ▸ ⟨mjp_56.sound, mjgr_mjLd⟩
  | 57, _, h => Option.some.inj h ▸ ⟨mjs_57, mjgr_mjSt⟩
  | 58, _, h => Option.some.inj h ▸ ⟨mjp_58.sound, mjgr_mjLd⟩
  | 59, _, h => Option.some.inj h ▸ ⟨mjs_59, mjgr_mjSt⟩
  | 60, _, h => Option.some.inj h ▸ ⟨mjp_60.sound, mjgr_mjLd⟩
  | 61, _, h => Option.some.inj h ▸ ⟨mjs_61, mjgr_mjSt⟩
  | 62, _, h => Option.some.inj h ▸ ⟨mjp_62.sound, mjgr_mjALd⟩
  | 63, _, h => Option.some.inj h ▸ ⟨mjs_63, mjgr_mjASt⟩
  | 64, _, h => Option.some.inj h ▸ ⟨mjp_64.sound, mjgr_mjLen⟩
  | 65, _, h => Option.some.inj h ▸ ⟨mjs_65, mjgr_mjNewA⟩
  | 66, _, h => Option.some.inj h ▸ ⟨mjs_66, mjgr_mjNewQ⟩
  | 67, _, h => Option.some.inj h ▸ ⟨mjs_67, mjgr_mjNewO⟩
  | 68, _, h => Option.some.inj h ▸ ⟨mjp_68.sound, mjgr_mjStatic⟩
  | n + 69, _, h => by
    have h1 : mjHs[n + 69]? = none := List.getElem?_eq_none (by simp [mjHs])
    rw [h1] at h; cases h
theorem mjHd_ok {op : Nat} {hd : MjHd} (h : mjHd op = some hd) : MjSound op hd ∧ MjGrow3 hd := by
  unfold mjHd at h
  split at h
  · rename_i e; subst e; cases h; exact ⟨mjp_75.sound, mjgr_mjStatic⟩
  · split at h
    · rename_i e; subst e; cases h; exact ⟨mjp_76.sound, mjgr_mjNull⟩
    · exact mjHs_ok op hd h
