/-! THE ROWS THAT LEAVE THE CELLS ALONE -/
theorem mjp_0 : MjPure 0 (mjPush 1) := by
  intro p l e R s m args below meth c Q cc own ini D tc sz ol o C v i j k sw pc ml st h r H locs ls cells slots hr hdg hok hS hL
  cases hr
  exact ⟨rfl, fun kk => lv_iconst C.1 C.2.1 (show decode cc pc = .ok (.iconst v, 1) from hdg) rfl (kk ls hL)⟩
theorem mjp_1 : MjPure 1 (mjPush 2) := by
  intro p l e R s m args below meth c Q cc own ini D tc sz ol o C v i j k sw pc ml st h r H locs ls cells slots hr hdg hok hS hL
  cases hr
  exact ⟨rfl, fun kk => lv_bipush C.1 C.2.1 (show decode cc pc = .ok (.bipush v, 2) from hdg) (of_decide_eq_true hok) (kk ls hL)⟩
theorem mjp_2 : MjPure 2 (mjPush 3) := by
  intro p l e R s m args below meth c Q cc own ini D tc sz ol o C v i j k sw pc ml st h r H locs ls cells slots hr hdg hok hS hL
  cases hr
  exact ⟨rfl, fun kk => lv_sipush C.1 C.2.1 (show decode cc pc = .ok (.sipush v, 3) from hdg) (of_decide_eq_true hok) (kk ls hL)⟩
/-- a word of the tables that keeps, held at a method's start -/
theorem mjG_of {args : Array Value} {s : State} {w : Cond} (hts : ∀ w ∈ mjG, w.before args s = true) (hw : w ∈ lw_tbl) (hg : goodWord w = true) : w.before args s = true := hts w (List.mem_filter.mpr ⟨hw, hg⟩)
theorem mjp_5 : MjPure 5 mjPushL := by
  intro p l e R s m args below meth c Q cc own ini D tc sz ol o C v i j k sw pc ml st h r H locs ls cells slots hr hdg hok hS hL
  cases hr
  refine ⟨rfl, fun kk => lv_lconst C.1 C.2.1 (show decode cc pc = .ok (.lconst (Fin.ofNat 2 i), 1) from hdg) ?_ (kk ls hL)⟩
  have hi : i < 2 := of_decide_eq_true hok
  show Int64.ofNat (i % 2) = _
  rw [Nat.mod_eq_of_lt hi]
theorem mj4 {i : Nat} (h : i < 4) : ((Fin.ofNat 4 i : Fin 4) : Nat) = i := Nat.mod_eq_of_lt h
theorem mjp_6 : MjPure 6 (mjILoad 1) := by
  intro p l e R s m args below meth c Q cc own ini D tc sz ol o C v i j k sw pc ml st h r H locs ls cells slots hr hdg hok hS hL
  unfold mjILoad at hr
  split at hr
  · rename_i x hx
    cases hr
    exact ⟨rfl, fun kk => lv_iload_n C.1 C.2.1 (show decode cc pc = .ok (.iload_n (Fin.ofNat 4 i), 1) from hdg) (mj4 (of_decide_eq_true hok)) (hL.2.2 _ _ hx).2 (kk ls hL)⟩
  · cases hr
theorem mjp_7 : MjPure 7 (mjILoad 2) := by
  intro p l e R s m args below meth c Q cc own ini D tc sz ol o C v i j k sw pc ml st h r H locs ls cells slots hr hdg hok hS hL
  unfold mjILoad at hr
  split at hr
  · rename_i x hx
    cases hr
    exact ⟨rfl, fun kk => lv_iload C.1 C.2.1 (show decode cc pc = .ok (.iload i, 2) from hdg) (hL.2.2 _ _ hx).2 (kk ls hL)⟩
  · cases hr
theorem mjp_8 : MjPure 8 (mjALoad 1) := by
  intro p l e R s m args below meth c Q cc own ini D tc sz ol o C v i j k sw pc ml st h r H locs ls cells slots hr hdg hok hS hL
  unfold mjALoad at hr
  split at hr
  · rename_i x hx
    by_cases hA : mjA x = true
    · rw [if_pos hA] at hr
      cases hr
      refine ⟨rfl, fun kk => ?_⟩
      have hd' : decode cc pc = .ok (.aload_n (Fin.ofNat 4 i), 1) := hdg
      have h4 := mj4 (of_decide_eq_true hok)
      have hl := (hL.2.2 _ _ hx).2
      cases x with
      | ref a => exact lv_aload_n C.1 C.2.1 hd' h4 hl (kk ls hL)
      | retAddr a => exact lv_aload_n C.1 C.2.1 hd' h4 hl (kk ls hL)
      | null => exact lv_aload_nN C.1 C.2.1 hd' h4 hl (kk ls hL)
      | _ => cases hA
    · rw [if_neg hA] at hr
      cases hr
  · cases hr
theorem mjp_9 : MjPure 9 (mjALoad 2) := by
  intro p l e R s m args below meth c Q cc own ini D tc sz ol o C v i j k sw pc ml st h r H locs ls cells slots hr hdg hok hS hL
  unfold mjALoad at hr
  split at hr
  · rename_i x hx
    by_cases hA : mjA x = true
    · rw [if_pos hA] at hr
      cases hr
      refine ⟨rfl, fun kk => ?_⟩
      have hd' : decode cc pc = .ok (.aload i, 2) := hdg
      have hl := (hL.2.2 _ _ hx).2
      cases x with
      | ref a => exact lv_aload C.1 C.2.1 hd' hl (kk ls hL)
      | retAddr a => exact lv_aload C.1 C.2.1 hd' hl (kk ls hL)
      | null => exact lv_aloadN C.1 C.2.1 hd' hl (kk ls hL)
      | _ => cases hA
    · rw [if_neg hA] at hr
      cases hr
  · cases hr
theorem mjp_10 : MjPure 10 (mjIStore 1) := by
  intro p l e R s m args below meth c Q cc own ini D tc sz ol o C v i j k sw pc ml st h r H locs ls cells slots hr hdg hok hS hL
  unfold mjIStore at hr
  split at hr
  · rename_i x st
    by_cases hi : i < ml.length
    · rw [if_pos hi] at hr
      cases hr
      refine ⟨rfl, fun kk => ?_⟩
      exact lv_istore_n C.1 C.2.1 (show decode cc pc = .ok (.istore_n (Fin.ofNat 4 i), 1) from hdg) (mj4 (of_decide_eq_true hok)) hL.has hi rfl (fun ls' hl' => kk ls' (hL.store rfl hi hl'))
    · rw [if_neg hi] at hr
      cases hr
  · cases hr
theorem mjp_11 : MjPure 11 (mjIStore 2) := by
  intro p l e R s m args below meth c Q cc own ini D tc sz ol o C v i j k sw pc ml st h r H locs ls cells slots hr hdg hok hS hL
  unfold mjIStore at hr
  split at hr
  · rename_i x st
    by_cases hi : i < ml.length
    · rw [if_pos hi] at hr
      cases hr
      refine ⟨rfl, fun kk => ?_⟩
      exact lv_istore C.1 C.2.1 (show decode cc pc = .ok (.istore i, 2) from hdg) hL.has hi rfl (fun ls' hl' => kk ls' (hL.store rfl hi hl'))
    · rw [if_neg hi] at hr
      cases hr
  · cases hr
theorem mjp_12 : MjPure 12 (mjAStore 1) := by
  intro p l e R s m args below meth c Q cc own ini D tc sz ol o C v i j k sw pc ml st h r H locs ls cells slots hr hdg hok hS hL
  unfold mjAStore at hr
  split at hr
  · rename_i x st
    by_cases hi : mjA x = true ∧ i < ml.length
    · rw [if_pos hi] at hr
      cases hr
      refine ⟨rfl, fun kk => ?_⟩
      have hd' : decode cc pc = .ok (.astore_n (Fin.ofNat 4 i), 1) := hdg
      have h4 := mj4 (of_decide_eq_true hok)
      have hA := hi.1
      cases x with
      | ref a => exact lv_astore_n C.1 C.2.1 hd' h4 hL.has hi.2 rfl (fun ls' hl' => kk ls' (hL.store rfl hi.2 hl'))
      | retAddr a => exact lv_astore_n C.1 C.2.1 hd' h4 hL.has hi.2 rfl (fun ls' hl' => kk ls' (hL.store (v := .retAddr a) rfl hi.2 hl'))
      | null => exact lv_astore_nN C.1 C.2.1 hd' h4 hL.has hi.2 rfl (fun ls' hl' => kk ls' (hL.store rfl hi.2 hl'))
      | _ => cases hA
    · rw [if_neg hi] at hr
      cases hr
  · cases hr
theorem mjp_13 : MjPure 13 (mjAStore 2) := by
  intro p l e R s m args below meth c Q cc own ini D tc sz ol o C v i j k sw pc ml st h r H locs ls cells slots hr hdg hok hS hL
  unfold mjAStore at hr
  split at hr
  · rename_i x st
    by_cases hi : mjA x = true ∧ i < ml.length
    · rw [if_pos hi] at hr
      cases hr
      refine ⟨rfl, fun kk => ?_⟩
      have hd' : decode cc pc = .ok (.astore i, 2) := hdg
      have hA := hi.1
      cases x with
      | ref a => exact lv_astore C.1 C.2.1 hd' hL.has hi.2 rfl (fun ls' hl' => kk ls' (hL.store rfl hi.2 hl'))
      | retAddr a => exact lv_astore C.1 C.2.1 hd' hL.has hi.2 rfl (fun ls' hl' => kk ls' (hL.store (v := .retAddr a) rfl hi.2 hl'))
      | null => exact lv_astoreN C.1 C.2.1 hd' hL.has hi.2 rfl (fun ls' hl' => kk ls' (hL.store rfl hi.2 hl'))
      | _ => cases hA
    · rw [if_neg hi] at hr
      cases hr
  · cases hr
theorem mjp_14 : MjPure 14 mjInc := by
  intro p l e R s m args below meth c Q cc own ini D tc sz ol o C v i j k sw pc ml st h r H locs ls cells slots hr hdg hok hS hL
  unfold mjInc at hr
  split at hr
  · rename_i x hx
    cases hr
    refine ⟨rfl, fun kk => ?_⟩
    have hi : i < ml.length := (List.getElem?_eq_some_iff.mp hx).1
    obtain ⟨n, hn⟩ := List.getElem?_of_mem (mjLl_mem (sz := sz) (ol := ol) hx)
    exact lv_iinc C.1 C.2.1 (show decode cc pc = .ok (.iinc i v, 3) from hdg) hL.has hn rfl hi rfl (fun ls' hl' => kk ls' (hL.store (v := .int (x + Int32.ofInt v)) rfl hi hl'))
  · cases hr
/-- two ints come off, one goes on -/
theorem mjp_bin {op : Nat} {f : Int32 → Int32 → Int32} (hw : ∀ (p : Program) (l : Launch) (e : Env) (R : Room) (s : State) (m : MethodId) (args : Array Value) (below : List Frame) (meth : Method) (c : Code) (H : Heap) (locs : List Loc) (cells slots : Nat) (Q : State → Prop) (cc : ByteArray) (pc : Nat) (ls : Array Slot) (rest : List Value) (x y : Int32) (v : Int) (i j k : Nat) (sw : List (Int × Nat)),
    p.tables.exec = Jvm.exec → c.code = cc → decode cc pc = .ok (mjEnc pc (op, v, i, j, k, sw)) → W p l e R s m args below meth c H locs cells slots Q (F0 m (pc + 1) ls (.int (f x y) :: rest)) → W p l e R s m args below meth c H locs cells slots Q (F0 m pc ls (.int y :: .int x :: rest))) : MjPure op (mjBin f) := by
  intro p l e R s m args below meth c Q cc own ini D tc sz ol o C v i j k sw pc ml st h r H locs ls cells slots hr hdg hok hS hL
  unfold mjBin at hr
  split at hr
  · rename_i y x st
    cases hr
    exact ⟨rfl, fun kk => hw p l e R s m args below meth c H locs cells slots Q cc pc ls _ x y v i j k sw C.1 C.2.1 hdg (kk ls hL)⟩
  · cases hr
theorem mjp_15 : MjPure 15 (mjBin (· + ·)) := mjp_bin fun p l e R s m args below meth c H locs cells slots Q cc pc ls rest x y v i j k sw hx hb hd kk => lv_iadd hx hb (show decode cc pc = .ok (.iadd, 1) from hd) kk
theorem mjp_16 : MjPure 16 (mjBin (· - ·)) := mjp_bin fun p l e R s m args below meth c H locs cells slots Q cc pc ls rest x y v i j k sw hx hb hd kk => lv_isub hx hb (show decode cc pc = .ok (.isub, 1) from hd) kk
theorem mjp_17 : MjPure 17 (mjBin (· * ·)) := mjp_bin fun p l e R s m args below meth c H locs cells slots Q cc pc ls rest x y v i j k sw hx hb hd kk => lv_imul hx hb (show decode cc pc = .ok (.imul, 1) from hd) kk
theorem mjp_21 : MjPure 21 (mjBin (· &&& ·)) := mjp_bin fun p l e R s m args below meth c H locs cells slots Q cc pc ls rest x y v i j k sw hx hb hd kk => lv_iand hx hb (show decode cc pc = .ok (.iand, 1) from hd) kk
theorem mjp_22 : MjPure 22 (mjBin (· ||| ·)) := mjp_bin fun p l e R s m args below meth c H locs cells slots Q cc pc ls rest x y v i j k sw hx hb hd kk => lv_ior hx hb (show decode cc pc = .ok (.ior, 1) from hd) kk
theorem mjp_23 : MjPure 23 (mjBin (· ^^^ ·)) := mjp_bin fun p l e R s m args below meth c H locs cells slots Q cc pc ls rest x y v i j k sw hx hb hd kk => lv_ixor hx hb (show decode cc pc = .ok (.ixor, 1) from hd) kk
theorem mjp_24 : MjPure 24 (mjBin (fun x y => x <<< (y &&& 31))) := mjp_bin fun p l e R s m args below meth c H locs cells slots Q cc pc ls rest x y v i j k sw hx hb hd kk => lv_ishl hx hb (show decode cc pc = .ok (.ishl, 1) from hd) kk
theorem mjp_25 : MjPure 25 (mjBin (fun x y => x >>> (y &&& 31))) := mjp_bin fun p l e R s m args below meth c H locs cells slots Q cc pc ls rest x y v i j k sw hx hb hd kk => lv_ishr hx hb (show decode cc pc = .ok (.ishr, 1) from hd) kk
theorem mjp_26 : MjPure 26 (mjBin (fun x y => (x.toUInt32 >>> (y.toUInt32 &&& Int32.toUInt32 31)).toInt32)) := mjp_bin fun p l e R s m args below meth c H locs cells slots Q cc pc ls rest x y v i j k sw hx hb hd kk => lv_iushr hx hb (show decode cc pc = .ok (.iushr, 1) from hd) rfl kk
theorem mjp_18 : MjPure 18 (mjDiv (· / ·)) := by
  intro p l e R s m args below meth c Q cc own ini D tc sz ol o C v i j k sw pc ml st h r H locs ls cells slots hr hdg hok hS hL
  unfold mjDiv at hr
  split at hr
  · rename_i y x st
    by_cases hy : y = 0
    · rw [if_pos hy] at hr; cases hr
    · rw [if_neg hy] at hr
      cases hr
      exact ⟨rfl, fun kk => lv_idiv C.1 C.2.1 (show decode cc pc = .ok (.idiv, 1) from hdg) hy (kk ls hL)⟩
  · cases hr
theorem mjp_19 : MjPure 19 (mjDiv (fun x y => x - x / y * y)) := by
  intro p l e R s m args below meth c Q cc own ini D tc sz ol o C v i j k sw pc ml st h r H locs ls cells slots hr hdg hok hS hL
  unfold mjDiv at hr
  split at hr
  · rename_i y x st
    by_cases hy : y = 0
    · rw [if_pos hy] at hr; cases hr
    · rw [if_neg hy] at hr
      cases hr
      exact ⟨rfl, fun kk => lv_irem C.1 C.2.1 (show decode cc pc = .ok (.irem, 1) from hdg) hy (kk ls hL)⟩
  · cases hr
theorem mjp_un {op : Nat} {f : Int32 → Int32} (hw : ∀ (p : Program) (l : Launch) (e : Env) (R : Room) (s : State) (m : MethodId) (args : Array Value) (below : List Frame) (meth : Method) (c : Code) (H : Heap) (locs : List Loc) (cells slots : Nat) (Q : State → Prop) (cc : ByteArray) (pc : Nat) (ls : Array Slot) (rest : List Value) (x : Int32) (v : Int) (i j k : Nat) (sw : List (Int × Nat)),
    p.tables.exec = Jvm.exec → c.code = cc → decode cc pc = .ok (mjEnc pc (op, v, i, j, k, sw)) → W p l e R s m args below meth c H locs cells slots Q (F0 m (pc + 1) ls (.int (f x) :: rest)) → W p l e R s m args below meth c H locs cells slots Q (F0 m pc ls (.int x :: rest))) : MjPure op (mjUn f) := by
  intro p l e R s m args below meth c Q cc own ini D tc sz ol o C v i j k sw pc ml st h r H locs ls cells slots hr hdg hok hS hL
  unfold mjUn at hr
  split at hr
  · rename_i x st
    cases hr
    exact ⟨rfl, fun kk => hw p l e R s m args below meth c H locs cells slots Q cc pc ls _ x v i j k sw C.1 C.2.1 hdg (kk ls hL)⟩
  · cases hr
theorem mjp_20 : MjPure 20 (mjUn (- ·)) := mjp_un fun p l e R s m args below meth c H locs cells slots Q cc pc ls rest x v i j k sw hx hb hd kk => lv_ineg hx hb (show decode cc pc = .ok (.ineg, 1) from hd) kk
theorem mjp_29 : MjPure 29 (mjUn (fun x => x.toInt8.toInt32)) := mjp_un fun p l e R s m args below meth c H locs cells slots Q cc pc ls rest x v i j k sw hx hb hd kk => lv_i2b hx hb (show decode cc pc = .ok (.i2b, 1) from hd) rfl kk
theorem mjp_30 : MjPure 30 (mjUn (fun x => x.toInt16.toInt32)) := mjp_un fun p l e R s m args below meth c H locs cells slots Q cc pc ls rest x v i j k sw hx hb hd kk => lv_i2s hx hb (show decode cc pc = .ok (.i2s, 1) from hd) rfl kk
theorem mjp_31 : MjPure 31 (mjUn (fun x => (x.toUInt32 % 65536).toInt32)) := mjp_un fun p l e R s m args below meth c H locs cells slots Q cc pc ls rest x v i j k sw hx hb hd kk => lv_i2c hx hb (show decode cc pc = .ok (.i2c, 1) from hd) rfl kk
theorem mjp_27 : MjPure 27 mjLAdd := by
  intro p l e R s m args below meth c Q cc own ini D tc sz ol o C v i j k sw pc ml st h r H locs ls cells slots hr hdg hok hS hL
  unfold mjLAdd at hr
  split at hr
  · cases hr
    exact ⟨rfl, fun kk => lv_ladd C.1 C.2.1 (show decode cc pc = .ok (.ladd, 1) from hdg) (kk ls hL)⟩
  · cases hr
theorem mjp_28 : MjPure 28 mjL2I := by
  intro p l e R s m args below meth c Q cc own ini D tc sz ol o C v i j k sw pc ml st h r H locs ls cells slots hr hdg hok hS hL
  unfold mjL2I at hr
  split at hr
  · cases hr
    exact ⟨rfl, fun kk => lv_l2i C.1 C.2.1 (show decode cc pc = .ok (.l2i, 1) from hdg) rfl (kk ls hL)⟩
  · cases hr
theorem mjV_one {sz : Nat} {ol : Nat → Nat} {v : Value} (h : mjOne v = true) : (mjV sz ol v).category = 1 := by rw [mjV_cat]; exact mjOne_cat h
theorem mjp_32 : MjPure 32 mjDup := by
  intro p l e R s m args below meth c Q cc own ini D tc sz ol o C v i j k sw pc ml st h r H locs ls cells slots hr hdg hok hS hL
  unfold mjDup at hr
  split at hr
  · rename_i x st
    by_cases hA : mjOne x = true
    · rw [if_pos hA] at hr
      cases hr
      exact ⟨rfl, fun kk => lv_dup C.1 C.2.1 (show decode cc pc = .ok (.dup, 1) from hdg) (mjV_one hA) (kk ls hL)⟩
    · rw [if_neg hA] at hr; cases hr
  · cases hr
theorem mjp_33 : MjPure 33 mjPop := by
  intro p l e R s m args below meth c Q cc own ini D tc sz ol o C v i j k sw pc ml st h r H locs ls cells slots hr hdg hok hS hL
  unfold mjPop at hr
  split at hr
  · rename_i x st
    by_cases hA : mjOne x = true
    · rw [if_pos hA] at hr
      cases hr
      exact ⟨rfl, fun kk => lv_pop C.1 C.2.1 (show decode cc pc = .ok (.pop, 1) from hdg) (mjV_one hA) (kk ls hL)⟩
    · rw [if_neg hA] at hr; cases hr
  · cases hr
theorem mjp_34 : MjPure 34 mjDupX1 := by
  intro p l e R s m args below meth c Q cc own ini D tc sz ol o C v i j k sw pc ml st h r H locs ls cells slots hr hdg hok hS hL
  unfold mjDupX1 at hr
  split at hr
  · rename_i x y st
    by_cases hA : (mjOne x && mjOne y) = true
    · rw [if_pos hA] at hr
      cases hr
      have hB := Bool.and_eq_true_iff.mp hA
      exact ⟨rfl, fun kk => lv_dup_x1 C.1 C.2.1 (show decode cc pc = .ok (.dup_x1, 1) from hdg) (mjV_one hB.1) (mjV_one hB.2) (kk ls hL)⟩
    · rw [if_neg hA] at hr; cases hr
  · cases hr
theorem mjp_35 : MjPure 35 mjDup2 := by
  intro p l e R s m args below meth c Q cc own ini D tc sz ol o C v i j k sw pc ml st h r H locs ls cells slots hr hdg hok hS hL
  unfold mjDup2 at hr
  split at hr
  · rename_i x y st
    by_cases hA : (mjOne x && mjOne y) = true
    · rw [if_pos hA] at hr
      cases hr
      have hB := Bool.and_eq_true_iff.mp hA
      exact ⟨rfl, fun kk => lv_dup2_11 C.1 C.2.1 (show decode cc pc = .ok (.dup2, 1) from hdg) (mjV_one hB.1) (mjV_one hB.2) (kk ls hL)⟩
    · rw [if_neg hA] at hr; cases hr
  · cases hr
/-- a branch on one int -/
theorem mjp_if {op : Nat} {f : Int32 → Bool} (hw : ∀ (p : Program) (l : Launch) (e : Env) (R : Room) (s : State) (m : MethodId) (args : Array Value) (below : List Frame) (meth : Method) (c : Code) (H : Heap) (locs : List Loc) (cells slots : Nat) (Q : State → Prop) (cc : ByteArray) (pc : Nat) (ls : Array Slot) (rest : List Value) (x : Int32) (v : Int) (i j k : Nat) (sw : List (Int × Nat)),
    p.tables.exec = Jvm.exec → c.code = cc → decode cc pc = .ok (mjEnc pc (op, v, i, j, k, sw)) → (f x = true → W p l e R s m args below meth c H locs cells slots Q (F0 m i ls rest)) → (¬ f x = true → W p l e R s m args below meth c H locs cells slots Q (F0 m (pc + 3) ls rest)) → W p l e R s m args below meth c H locs cells slots Q (F0 m pc ls (.int x :: rest))) : MjPure op (mjIf f) := by
  intro p l e R s m args below meth c Q cc own ini D tc sz ol o C v i j k sw pc ml st h r H locs ls cells slots hr hdg hok hS hL
  unfold mjIf at hr
  split at hr
  · rename_i x st
    cases hr
    refine ⟨rfl, fun kk => hw p l e R s m args below meth c H locs cells slots Q cc pc ls _ x v i j k sw C.1 C.2.1 hdg (fun hc => ?_) (fun hc => ?_)⟩
    · have k2 := kk ls hL
      rw [if_pos hc] at k2
      exact k2
    · have k2 := kk ls hL
      rw [if_neg hc] at k2
      exact k2
  · cases hr
theorem mjp_if2 {op : Nat} {f : Int32 → Int32 → Bool} (hw : ∀ (p : Program) (l : Launch) (e : Env) (R : Room) (s : State) (m : MethodId) (args : Array Value) (below : List Frame) (meth : Method) (c : Code) (H : Heap) (locs : List Loc) (cells slots : Nat) (Q : State → Prop) (cc : ByteArray) (pc : Nat) (ls : Array Slot) (rest : List Value) (x y : Int32) (v : Int) (i j k : Nat) (sw : List (Int × Nat)),
    p.tables.exec = Jvm.exec → c.code = cc → decode cc pc = .ok (mjEnc pc (op, v, i, j, k, sw)) → (f x y = true → W p l e R s m args below meth c H locs cells slots Q (F0 m i ls rest)) → (¬ f x y = true → W p l e R s m args below meth c H locs cells slots Q (F0 m (pc + 3) ls rest)) → W p l e R s m args below meth c H locs cells slots Q (F0 m pc ls (.int y :: .int x :: rest))) : MjPure op (mjIf2 f) := by
  intro p l e R s m args below meth c Q cc own ini D tc sz ol o C v i j k sw pc ml st h r H locs ls cells slots hr hdg hok hS hL
  unfold mjIf2 at hr
  split at hr
  · rename_i y x st
    cases hr
    refine ⟨rfl, fun kk => hw p l e R s m args below meth c H locs cells slots Q cc pc ls _ x y v i j k sw C.1 C.2.1 hdg (fun hc => ?_) (fun hc => ?_)⟩
    · have k2 := kk ls hL
      rw [if_pos hc] at k2
      exact k2
    · have k2 := kk ls hL
      rw [if_neg hc] at k2
      exact k2
  · cases hr
theorem mjp_36 : MjPure 36 (mjIf (fun x => decide (x = 0))) := mjp_if fun p l e R s m args below meth c H locs cells slots Q cc pc ls rest x v i j k sw hx hb hd kt kf => lv_if_eq hx hb (show decode cc pc = .ok (.ifCond .eq ((i : Int) - pc), 3) from hd) (by omega) (fun hc => kt (decide_eq_true hc)) (fun hc => kf (fun hz => hc (of_decide_eq_true hz)))
theorem mjp_37 : MjPure 37 (mjIf (fun x => decide (¬ x = 0))) := mjp_if fun p l e R s m args below meth c H locs cells slots Q cc pc ls rest x v i j k sw hx hb hd kt kf => lv_if_ne hx hb (show decode cc pc = .ok (.ifCond .ne ((i : Int) - pc), 3) from hd) (by omega) (fun hc => kt (decide_eq_true hc)) (fun hc => kf (fun hz => (of_decide_eq_true hz) hc))
theorem mjp_38 : MjPure 38 (mjIf (fun x => decide (x < 0))) := mjp_if fun p l e R s m args below meth c H locs cells slots Q cc pc ls rest x v i j k sw hx hb hd kt kf => lv_if_lt hx hb (show decode cc pc = .ok (.ifCond .lt ((i : Int) - pc), 3) from hd) (by omega) (fun hc => kt (decide_eq_true hc)) (fun hc => kf (fun hz => hc (of_decide_eq_true hz)))
theorem mjp_39 : MjPure 39 (mjIf (fun x => decide (0 ≤ x))) := mjp_if fun p l e R s m args below meth c H locs cells slots Q cc pc ls rest x v i j k sw hx hb hd kt kf => lv_if_ge hx hb (show decode cc pc = .ok (.ifCond .ge ((i : Int) - pc), 3) from hd) (by omega) (fun hc => kt (decide_eq_true hc)) (fun hc => kf (fun hz => hc (of_decide_eq_true hz)))
theorem mjp_40 : MjPure 40 (mjIf (fun x => decide (0 < x))) := mjp_if fun p l e R s m args below meth c H locs cells slots Q cc pc ls rest x v i j k sw hx hb hd kt kf => lv_if_gt hx hb (show decode cc pc = .ok (.ifCond .gt ((i : Int) - pc), 3) from hd) (by omega) (fun hc => kt (decide_eq_true hc)) (fun hc => kf (fun hz => hc (of_decide_eq_true hz)))
theorem mjp_41 : MjPure 41 (mjIf (fun x => decide (x ≤ 0))) := mjp_if fun p l e R s m args below meth c H locs cells slots Q cc pc ls rest x v i j k sw hx hb hd kt kf => lv_if_le hx hb (show decode cc pc = .ok (.ifCond .le ((i : Int) - pc), 3) from hd) (by omega) (fun hc => kt (decide_eq_true hc)) (fun hc => kf (fun hz => hc (of_decide_eq_true hz)))
theorem mjp_42 : MjPure 42 (mjIf2 (fun x y => decide (x = y))) := mjp_if2 fun p l e R s m args below meth c H locs cells slots Q cc pc ls rest x y v i j k sw hx hb hd kt kf => lv_icmp_eq hx hb (show decode cc pc = .ok (.if_icmp .eq ((i : Int) - pc), 3) from hd) (by omega) (fun hc => kt (decide_eq_true hc)) (fun hc => kf (fun hz => hc (of_decide_eq_true hz)))
theorem mjp_43 : MjPure 43 (mjIf2 (fun x y => decide (¬ x = y))) := mjp_if2 fun p l e R s m args below meth c H locs cells slots Q cc pc ls rest x y v i j k sw hx hb hd kt kf => lv_icmp_ne hx hb (show decode cc pc = .ok (.if_icmp .ne ((i : Int) - pc), 3) from hd) (by omega) (fun hc => kt (decide_eq_true hc)) (fun hc => kf (fun hz => (of_decide_eq_true hz) hc))
theorem mjp_44 : MjPure 44 (mjIf2 (fun x y => decide (x < y))) := mjp_if2 fun p l e R s m args below meth c H locs cells slots Q cc pc ls rest x y v i j k sw hx hb hd kt kf => lv_icmp_lt hx hb (show decode cc pc = .ok (.if_icmp .lt ((i : Int) - pc), 3) from hd) (by omega) (fun hc => kt (decide_eq_true hc)) (fun hc => kf (fun hz => hc (of_decide_eq_true hz)))
theorem mjp_45 : MjPure 45 (mjIf2 (fun x y => decide (y ≤ x))) := mjp_if2 fun p l e R s m args below meth c H locs cells slots Q cc pc ls rest x y v i j k sw hx hb hd kt kf => lv_icmp_ge hx hb (show decode cc pc = .ok (.if_icmp .ge ((i : Int) - pc), 3) from hd) (by omega) (fun hc => kt (decide_eq_true hc)) (fun hc => kf (fun hz => hc (of_decide_eq_true hz)))
theorem mjp_46 : MjPure 46 (mjIf2 (fun x y => decide (y < x))) := mjp_if2 fun p l e R s m args below meth c H locs cells slots Q cc pc ls rest x y v i j k sw hx hb hd kt kf => lv_icmp_gt hx hb (show decode cc pc = .ok (.if_icmp .gt ((i : Int) - pc), 3) from hd) (by omega) (fun hc => kt (decide_eq_true hc)) (fun hc => kf (fun hz => hc (of_decide_eq_true hz)))
theorem mjp_47 : MjPure 47 (mjIf2 (fun x y => decide (x ≤ y))) := mjp_if2 fun p l e R s m args below meth c H locs cells slots Q cc pc ls rest x y v i j k sw hx hb hd kt kf => lv_icmp_le hx hb (show decode cc pc = .ok (.if_icmp .le ((i : Int) - pc), 3) from hd) (by omega) (fun hc => kt (decide_eq_true hc)) (fun hc => kf (fun hz => hc (of_decide_eq_true hz)))
theorem mjp_48 : MjPure 48 mjGoto := by
  intro p l e R s m args below meth c Q cc own ini D tc sz ol o C v i j k sw pc ml st h r H locs ls cells slots hr hdg hok hS hL
  cases hr
  exact ⟨rfl, fun kk => lv_goto (tgt := i) C.1 C.2.1 (show decode cc pc = .ok (.goto ((i : Int) - pc), 3) from hdg) (by omega) (kk ls hL)⟩
theorem mjp_49 : MjPure 49 (mjIfN true) := by
  intro p l e R s m args below meth c Q cc own ini D tc sz ol o C v i j k sw pc ml st h r H locs ls cells slots hr hdg hok hS hL
  unfold mjIfN at hr
  split at hr
  · cases hr
    exact ⟨rfl, fun kk => lv_ifnullN (tgt := i) C.1 C.2.1 (show decode cc pc = .ok (.ifnull ((i : Int) - pc), 3) from hdg) (by omega) (kk ls hL)⟩
  · cases hr
    exact ⟨rfl, fun kk => lv_ifnull C.1 C.2.1 (show decode cc pc = .ok (.ifnull ((i : Int) - pc), 3) from hdg) (kk ls hL)⟩
  · cases hr
theorem mjp_50 : MjPure 50 (mjIfN false) := by
  intro p l e R s m args below meth c Q cc own ini D tc sz ol o C v i j k sw pc ml st h r H locs ls cells slots hr hdg hok hS hL
  unfold mjIfN at hr
  split at hr
  · cases hr
    exact ⟨rfl, fun kk => lv_ifnonnullN C.1 C.2.1 (show decode cc pc = .ok (.ifnonnull ((i : Int) - pc), 3) from hdg) (kk ls hL)⟩
  · cases hr
    exact ⟨rfl, fun kk => lv_ifnonnull (tgt := i) C.1 C.2.1 (show decode cc pc = .ok (.ifnonnull ((i : Int) - pc), 3) from hdg) (by omega) (kk ls hL)⟩
  · cases hr
theorem mjp_76 : MjPure 76 mjNull := by
  intro p l e R s m args below meth c Q cc own ini D tc sz ol o C v i j k sw pc ml st h r H locs ls cells slots hr hdg hok hS hL
  cases hr
  exact ⟨rfl, fun kk => lv_null C.1 C.2.1 (show decode cc pc = .ok (.aconst_null, 1) from hdg) (kk ls hL)⟩
