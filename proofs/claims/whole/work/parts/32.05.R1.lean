/-! R1 -/
set_option maxRecDepth 20000 in
set_option maxHeartbeats 4000000 in
theorem cellsOf_eq {k : Kx} {T C : Nat → Nat} {n : Nat} {X : XS} {M M' : MS} {g : Nat → Int32} {h : Nat} {l : Nat → Int32} (j : Jm k T C n X M g h l) (ok : k.c.Ok) {K nl : Nat} (hK : KOk k.c.Mr k.c.kc K nl) (h96 : M'.1 96 = M.1 96) (h97 : M'.1 97 = M.1 97) : f_M_cellsOf (Int32.ofNat K) (Int32.ofNat nl) M' = some (Int32.ofNat (czK k.c.Mr K nl)) ∧ f_M_sizeOf (Int32.ofNat K) (Int32.ofNat nl) M' = some (Int32.ofNat (2 * wzK k.c.Mr K nl)) := by
  obtain ⟨i1, i2, i3, i4, i5, i6⟩ := j.im ok
  have k10 := (gp_k10 i2).1
  rcases hK with ⟨z1, z2, z3, z4⟩ | ⟨z1, z2⟩
  · have e96 : M.1 96 (10 + K) = Int32.ofNat (aI k.c.Mr K) ∧ M.1 97 (10 + K) = Int32.ofNat (aF k.c.Mr K) := by
      rw [i5 96 _ (by unfold RunM; omega), i5 97 _ (by unfold RunM; omega)]
      have := i6.1 K z1
      have ga := gp_all i2 z1
      rw [show 10 + K = 10 * 1 + K by omega, this.2.1, this.2.2.1]
      exact ⟨ga.1, ga.2.1⟩
    have ga := gp_all i2 z1
    have ix : ixo (10 + Int32.ofNat K) 20 := by rw [o_addL]; exact ixl (show 10 + K < 20 by omega) (show 10 + K < 2147483648 by omega)
    have cl : (10 + Int32.ofNat K).toNatClampNeg = 10 + K := by rw [o_addL]; exact o_cl _ (show 10 + K < 2147483648 by omega)
    have cz : czK k.c.Mr K nl = aI k.c.Mr K + aF k.c.Mr K := by unfold czK niK nrK; rw [if_pos (by omega), if_pos (by omega)]
    have wz : wzK k.c.Mr K nl = 4 + 2 * aI k.c.Mr K + aF k.c.Mr K := by unfold wzK hdK niK nrK; rw [if_pos (by omega), if_pos (by omega), if_pos (by omega)]
    unfold f_M_cellsOf f_M_sizeOf
    rw [if_pos (by rw [o_ltR _ _ (by omega) (by decide)]; show K < 10; omega), if_pos ix, if_pos (by rw [o_eqR _ _ (by omega) (by decide)]; show ¬ K = 10; omega), if_pos (by rw [o_eqR _ _ (by omega) (by decide)]; show ¬ K = 11; omega), if_pos ix, cl, h96, h97, e96.1, e96.2, o_add, cz, wz, o_mulL, o_addL, o_mulL, o_add]
    refine ⟨rfl, ?_⟩
    congr 2
    show 8 + 4 * aI k.c.Mr K + 2 * aF k.c.Mr K = _
    omega
  · have n10 : ¬ K < 10 := by omega
    have cz : czK k.c.Mr K nl = nl := by unfold czK niK nrK; rw [if_neg n10, if_neg n10]; split <;> omega
    unfold f_M_cellsOf f_M_sizeOf
    rw [if_neg (by rw [o_ltR _ _ (by omega) (by decide)]; exact n10), cz]
    refine ⟨rfl, ?_⟩
    rcases z1 with e | e
    · have wz : wzK k.c.Mr K nl = 5 + 2 * nl := by unfold wzK hdK niK nrK; rw [if_neg n10, if_neg n10, if_neg n10, if_pos e, if_pos e, Nat.add_zero]
      rw [if_neg (fun q => q (by rw [e]; rfl)), wz, o_mulL, o_addL]
      congr 2
      show 10 + 4 * nl = _
      omega
    · have wz : wzK k.c.Mr K nl = 5 + nl := by unfold wzK hdK niK nrK; rw [if_neg n10, if_neg n10, if_neg n10, if_neg (by omega), if_neg (by omega)]
      rw [if_pos (by rw [e]; decide), if_neg (fun q => q (by rw [e]; rfl)), wz, o_mulL, o_addL]
      congr 2
      show 10 + 2 * nl = _
      omega
set_option maxRecDepth 20000 in
set_option maxHeartbeats 4000000 in
theorem zero_eq {M : MS} {cu cz : Nat} (e86 : M.1 60 86 = Int32.ofNat cu) (hc : cu + cz ≤ 8200) : ∃ z, lp (b118_M_make (Int32.ofNat cz)) 10000 ((0 : Int32), M) = some (z, mf M 127 cu (cu + cz) 0) := by
  have st : ∀ q, mw (mf M 127 cu (cu + q) 0) 127 (cu + q) 0 = mf M 127 cu (cu + (q + 1)) 0 := by
    intro q
    refine Prod.ext ?_ rfl
    funext b j
    rw [mw1, mf1, mf1]
    by_cases e : b = 127
    · by_cases c : j = cu + q
      · rw [if_pos ⟨e, c⟩, if_pos ⟨e, by omega, by omega⟩]
      · rw [if_neg (fun z => c z.2)]
        by_cases d : cu ≤ j ∧ j < cu + q
        · rw [if_pos ⟨e, d⟩, if_pos ⟨e, by omega, by omega⟩]
        · rw [if_neg (fun z => d z.2), if_neg (fun z => d (by omega))]
    · rw [if_neg (fun z => e z.1), if_neg (fun z => e z.1), if_neg (fun z => e z.1)]
  have key : ∀ N q, q ≤ cz → cz - q < N → ∃ z, lp (b118_M_make (Int32.ofNat cz)) N (Int32.ofNat q, mf M 127 cu (cu + q) 0) = some (z, mf M 127 cu (cu + cz) 0) := by
    intro N
    induction N with
    | zero => intro q a b; omega
    | succ N ih =>
      intro q a b
      by_cases c : q = cz
      · subst c
        refine ⟨Int32.ofNat q, lp_inr ?_⟩
        unfold b118_M_make
        rw [if_pos (Int32.le_refl _)]
      · have e : b118_M_make (Int32.ofNat cz) (Int32.ofNat q, mf M 127 cu (cu + q) 0) = some (.inl (Int32.ofNat (q + 1), mf M 127 cu (cu + (q + 1)) 0)) := by
          unfold b118_M_make
          have c1 : ¬ Int32.ofNat cz ≤ Int32.ofNat q := by rw [o_le _ _ (by omega) (by omega)]; omega
          have e6 : (mf M 127 cu (cu + q) 0).1 60 86 = Int32.ofNat cu := by rw [mfr _ _ _ _ (by omega)]; exact e86
          have cl : (Int32.ofNat (cu + q)).toNatClampNeg = cu + q := o_cl _ (by omega)
          rw [if_neg c1]
          dsimp only [lt]
          rw [e6, o_add, if_pos (ixl (by omega) (by omega)), cl, st q, o_addR]
        rw [lp_inl e]
        exact ih (q + 1) (by omega) (by omega)
  have := key 10000 0 (by omega) (by omega)
  rw [Nat.add_zero, mf_0] at this
  exact this
set_option maxRecDepth 20000 in
set_option maxHeartbeats 4000000 in
theorem words_eq {k : Kx} {T C : Nat → Nat} {n : Nat} {X : XS} {V M : MS} {g : Nat → Int32} {h : Nat} {l : Nat → Int32} (md : Md k T C n X V M g h l) (ok : k.c.Ok) {K nl : Nat} (hK : KOk k.c.Mr k.c.kc K nl) : f_Memory_wordsFor (Int32.ofNat (kcode k.c.Mr K)) (Int32.ofNat nl) X = Int32.ofNat (wzK k.c.Mr K nl) ∧ kcode k.c.Mr K < 256 ∧ wzK k.c.Mr K nl ≤ 405 ∧ (kcode k.c.Mr K = 254 ∨ kcode k.c.Mr K = 255 ↔ 10 ≤ K) := by
  have k10 := (gp_k10 ok.1).1
  have nk := NK_le k.c.Mr
  unfold f_Memory_wordsFor
  rcases hK with ⟨z1, z2, z3, z4⟩ | ⟨z1, z2⟩
  · have kl := kn_lt (show K < 10 by omega) z3
    have ga := gp_all ok.1 z1
    have ek : kcode k.c.Mr K = kn k.c.Mr K := by unfold kcode; rw [if_pos (by omega)]
    have wz : wzK k.c.Mr K nl = 4 + 2 * aI k.c.Mr K + aF k.c.Mr K := by unfold wzK hdK niK nrK; rw [if_pos (by omega), if_pos (by omega), if_pos (by omega)]
    have fl := md.hr.fld K z1 z3
    rw [ek, if_neg (by rw [o_lt0 _ (by omega)]; exact fun q => q), if_neg (by rw [o_leL _ _ (by decide) (by omega)]; show ¬ 10 ≤ kn k.c.Mr K; omega), o_cl _ (by omega), md.rv.rf (a := 45) (by unfold Fx; omega), md.rv.rf (a := 46) (by unfold Fx; omega), fl.1, fl.2, o_mulL, o_addL, o_add, wz]
    exact ⟨rfl, by omega, by omega, by omega⟩
  · have n10 : ¬ K < 10 := by omega
    rcases z1 with e | e
    · have ek : kcode k.c.Mr K = 254 := by unfold kcode; rw [if_neg n10, if_pos e]
      have wz : wzK k.c.Mr K nl = 5 + 2 * nl := by unfold wzK hdK niK nrK; rw [if_neg n10, if_neg n10, if_neg n10, if_pos e, if_pos e, Nat.add_zero]
      rw [ek, if_neg (by decide), if_pos (by decide), if_neg (fun q => q rfl), wz, o_mulL, o_addL]
      exact ⟨rfl, by omega, by omega, by omega⟩
    · have ek : kcode k.c.Mr K = 255 := by unfold kcode; rw [if_neg n10, if_neg (by omega)]
      have wz : wzK k.c.Mr K nl = 5 + nl := by unfold wzK hdK niK nrK; rw [if_neg n10, if_neg n10, if_neg n10, if_neg (by omega), if_neg (by omega)]
      rw [ek, if_neg (by decide), if_pos (by decide), if_pos (by decide), wz, o_addL]
      exact ⟨rfl, by omega, by omega, by omega⟩
set_option maxRecDepth 20000 in
set_option maxHeartbeats 4000000 in
theorem OB.conv {Mr : MS} {kc : Nat} {A A' : HG} {V M : MS} {k : Nat} (h : OB Mr kc A V M k) (e1 : A'.os k = A.os k) (e2 : A'.K k = A.K k) (e3 : A'.n k = A.n k) (e4 : adH Mr A' k = adH Mr A k) (e5 : caH Mr A' k = caH Mr A k) (hr : ∀ x v, RefR Mr A x v → RefR Mr A' x v) : OB Mr kc A' V M k := by
  obtain ⟨o1, o2, o3, o4, o5, o6, o7, o8, o9, o10, o11, o12⟩ := h
  refine ⟨?_, ?_, ?_, ?_, ?_, ?_, ?_, ?_, ?_, ?_, ?_, ?_⟩
  · rw [e1]; exact o1
  · rw [e2, e3]; exact o2
  · rw [e1]; exact o3
  · rw [e1, e2]; exact o4
  · rw [e1, e3]; exact o5
  · rw [e1, e5]; exact o6
  · rw [e1, e4]; exact o7
  · rw [e2, e4]; exact o8
  · rw [e4]; exact o9
  · rw [e2, e3, e4]; exact o10
  · rw [e2, e3, e4, e5]; exact o11
  · rw [e2, e3, e4, e5]
    intro j hj
    exact hr _ _ (o12 j hj)
set_option maxRecDepth 20000 in
set_option maxHeartbeats 4000000 in
/-- a new object on both sides, where there is room -/
theorem alloc_ok {k : Kx} {T C : Nat → Nat} {n : Nat} {X : XS} {V M : MS} {g : Nat → Int32} {h : Nat} {l : Nat → Int32} (md : Md k T C n X V M g h l) (ok : k.c.Ok) {K nl : Nat} (hK : KOk k.c.Mr k.c.kc K nl) (room : 2 * (adH k.c.Mr k.A k.A.N - 1) + 2 * wzK k.c.Mr K nl ≤ k.hp) : ∃ o X' V' M', f_Memory_place (Int32.ofNat (kcode k.c.Mr K)) (Int32.ofNat nl) X = some (Int32.ofNat (adH k.c.Mr k.A k.A.N), X') ∧ alM (Int32.ofNat K) (Int32.ofNat nl) (Int32.ofNat (2 * wzK k.c.Mr K nl)) M = some (Int32.ofNat o, M') ∧ M'.1 60 90 = M.1 60 90 ∧ Md (k.ch (k.A.add o K nl) k.nb k.oc k.W) T C n X' V' M' g h l ∧ RefR k.c.Mr (k.A.add o K nl) (Int32.ofNat (adH k.c.Mr k.A k.A.N)) (Int32.ofNat o) := by
  have hr := md.hr
  have k10 := (gp_k10 ok.1).1
  obtain ⟨b1, b2, b3, b4⟩ := hr.N1000
  obtain ⟨li1, li2, li3, li4⟩ := hr.lim
  obtain ⟨us1, us2⟩ := hr.used
  obtain ⟨w1, w2, w3, w4⟩ := words_eq md ok hK
  have wz := wz4 k.c.Mr K nl
  have n200 : nl ≤ 200 := by rcases hK with z | z <;> omega
  have k12 : K < 12 := by rcases hK with z | z <;> omega
  obtain ⟨o, o1, o2, o3, o4⟩ := first_free hr k10
  obtain ⟨X', V', p1, p2, p3, p4, p5⟩ := place_ok md.rv (code := kcode k.c.Mr K) (len := nl) (sz := wzK k.c.Mr K nl) (tp := adH k.c.Mr k.A k.A.N) w2 n200 wz.1 (fun z => by have := w4.mp z; have h5 : hdK K = 5 := (by unfold hdK; rw [if_neg (by omega)]); unfold wzK; omega) b4 (by omega) hr.top w1
  have ix : ixo (Int32.ofNat o) 1002 := ixl o2 (by omega)
  have cl : (Int32.ofNat o).toNatClampNeg = o := o_cl _ (by omega)
  generalize hM12 : mw (mw (mw (mw (mw M 121 o (Int32.ofNat K)) 122 o (Int32.ofNat nl)) 123 o (Int32.ofNat (caH k.c.Mr k.A k.A.N))) 124 o 0) 125 o 0 = M12
  have q60 : M12.1 60 = M.1 60 := by rw [← hM12, mwr _ _ _ (by omega), mwr _ _ _ (by omega), mwr _ _ _ (by omega), mwr _ _ _ (by omega), mwr _ _ _ (by omega)]
  obtain ⟨zz, zl⟩ := zero_eq (M := M12) (cu := caH k.c.Mr k.A k.A.N) (cz := czK k.c.Mr K nl) (by rw [q60]; exact us2) (by omega)
  have ce := (cellsOf_eq (M' := M12) ⟨V, md⟩ ok hK (by rw [← hM12, mwr _ _ _ (by omega), mwr _ _ _ (by omega), mwr _ _ _ (by omega), mwr _ _ _ (by omega), mwr _ _ _ (by omega)]) (by rw [← hM12, mwr _ _ _ (by omega), mwr _ _ _ (by omega), mwr _ _ _ (by omega), mwr _ _ _ (by omega), mwr _ _ _ (by omega)])).1
  have f60 : (mf M12 127 (caH k.c.Mr k.A k.A.N) (caH k.c.Mr k.A k.A.N + czK k.c.Mr K nl) 0).1 60 = M.1 60 := by rw [mfr _ _ _ _ (by omega), q60]
  generalize hMf : mw (mw (mw (mw (mf M12 127 (caH k.c.Mr k.A k.A.N) (caH k.c.Mr k.A k.A.N + czK k.c.Mr K nl) 0) 60 86 (Int32.ofNat (caH k.c.Mr k.A k.A.N + czK k.c.Mr K nl))) 60 87 (Int32.ofNat (2 * (adH k.c.Mr k.A k.A.N - 1) + 2 * wzK k.c.Mr K nl))) 129 k.A.N (Int32.ofNat o)) 60 95 (Int32.ofNat (k.A.N + 1)) = Mf
  have run : alM (Int32.ofNat K) (Int32.ofNat nl) (Int32.ofNat (2 * wzK k.c.Mr K nl)) M = some (Int32.ofNat o, Mf) := by
    unfold alM
    rw [o4, Option.bind_some, if_pos ix]
    dsimp only [lt]
    have e86 : (mw (mw M 121 o (Int32.ofNat K)) 122 o (Int32.ofNat nl)).1 60 86 = Int32.ofNat (caH k.c.Mr k.A k.A.N) := by rw [mwr _ _ _ (by omega), mwr _ _ _ (by omega)]; exact us2
    rw [cl, e86, hM12, ce, Option.bind_some, zl, Option.bind_some]
    dsimp only
    rw [f60, us2, o_add]
    have e87 : (mw (mf M12 127 (caH k.c.Mr k.A k.A.N) (caH k.c.Mr k.A k.A.N + czK k.c.Mr K nl) 0) 60 86 (Int32.ofNat (caH k.c.Mr k.A k.A.N + czK k.c.Mr K nl))).1 60 87 = Int32.ofNat (2 * (adH k.c.Mr k.A k.A.N - 1)) := by rw [mwi _ _ _ (by omega), f60]; exact us1
    rw [e87, o_add]
    have e95 : (mw (mw (mf M12 127 (caH k.c.Mr k.A k.A.N) (caH k.c.Mr k.A k.A.N + czK k.c.Mr K nl) 0) 60 86 (Int32.ofNat (caH k.c.Mr k.A k.A.N + czK k.c.Mr K nl))) 60 87 (Int32.ofNat (2 * (adH k.c.Mr k.A k.A.N - 1) + 2 * wzK k.c.Mr K nl))).1 60 95 = Int32.ofNat k.A.N := by rw [mwi _ _ _ (by omega), mwi _ _ _ (by omega), f60]; exact hr.m95
    rw [e95, if_pos (ixl (show k.A.N < 1002 by omega) (by omega)), o_cl _ (show k.A.N < 2147483648 by omega), mwr _ _ _ (show 60 ≠ 129 by omega), e95, o_addR, hMf]
  have c60 : ∀ f, Mf.1 60 f = if f = 95 then Int32.ofNat (k.A.N + 1) else if f = 87 then Int32.ofNat (2 * (adH k.c.Mr k.A k.A.N - 1) + 2 * wzK k.c.Mr K nl) else if f = 86 then Int32.ofNat (caH k.c.Mr k.A k.A.N + czK k.c.Mr K nl) else M.1 60 f := fun f => by
    rw [← hMf, mw1, mwr _ _ _ (by omega), mw1, mw1, f60]; simp
  have c129 : ∀ q, Mf.1 129 q = if q = k.A.N then Int32.ofNat o else M.1 129 q := fun q => by
    rw [← hMf, mwr _ _ _ (by omega), mw1, mwr _ _ _ (by omega), mwr _ _ _ (by omega), mfr _ _ _ _ (by omega), ← hM12, mwr _ _ _ (by omega), mwr _ _ _ (by omega), mwr _ _ _ (by omega), mwr _ _ _ (by omega), mwr _ _ _ (by omega)]; simp
  have c127 : ∀ q, Mf.1 127 q = if caH k.c.Mr k.A k.A.N ≤ q ∧ q < caH k.c.Mr k.A k.A.N + czK k.c.Mr K nl then 0 else M.1 127 q := fun q => by
    rw [← hMf, mwr _ _ _ (by omega), mwr _ _ _ (by omega), mwr _ _ _ (by omega), mwr _ _ _ (by omega), mf1, ← hM12, mwr _ _ _ (by omega), mwr _ _ _ (by omega), mwr _ _ _ (by omega), mwr _ _ _ (by omega), mwr _ _ _ (by omega)]; simp
  have cO : ∀ a q, a ≠ 60 → a ≠ 127 → a ≠ 129 → ¬ (121 ≤ a ∧ a ≤ 125 ∧ q = o) → Mf.1 a q = M.1 a q := fun a q h1 h2 h3 h4 => by
    rw [← hMf, mwr _ _ _ h1, mwr _ _ _ h3, mwr _ _ _ h1, mwr _ _ _ h1, mfr _ _ _ _ h2, ← hM12, mw1, if_neg (by omega), mw1, if_neg (by omega), mw1, if_neg (by omega), mw1, if_neg (by omega), mw1, if_neg (by omega)]
  have cN : Mf.1 121 o = Int32.ofNat K ∧ Mf.1 122 o = Int32.ofNat nl ∧ Mf.1 123 o = Int32.ofNat (caH k.c.Mr k.A k.A.N) ∧ Mf.1 124 o = 0 ∧ Mf.1 125 o = 0 := by
    have r : ∀ a, 121 ≤ a → a ≤ 125 → Mf.1 a = M12.1 a := fun a h1 h2 => by rw [← hMf, mwr _ _ _ (by omega), mwr _ _ _ (by omega), mwr _ _ _ (by omega), mwr _ _ _ (by omega), mfr _ _ _ _ (by omega)]
    rw [r 121 (by omega) (by omega), r 122 (by omega) (by omega), r 123 (by omega) (by omega), r 124 (by omega) (by omega), r 125 (by omega) (by omega), ← hM12]
    refine ⟨?_, ?_, ?_, ?_, ?_⟩
    · rw [mwr _ _ _ (by omega), mwr _ _ _ (by omega), mwr _ _ _ (by omega), mwr _ _ _ (by omega), mw1, if_pos ⟨rfl, rfl⟩]
    · rw [mwr _ _ _ (by omega), mwr _ _ _ (by omega), mwr _ _ _ (by omega), mw1, if_pos ⟨rfl, rfl⟩]
    · rw [mwr _ _ _ (by omega), mwr _ _ _ (by omega), mw1, if_pos ⟨rfl, rfl⟩]
    · rw [mwr _ _ _ (by omega), mw1, if_pos ⟨rfl, rfl⟩]
    · rw [mw1, if_pos ⟨rfl, rfl⟩]
  obtain ⟨aN1, aN2⟩ := add_ad k.c.Mr k.A o K nl k.A.N (Nat.le_refl _)
  have eN : (k.A.add o K nl).N = k.A.N + 1 := rfl
  have eo : (k.A.add o K nl).os k.A.N = o := if_pos rfl
  have eK : (k.A.add o K nl).K k.A.N = K := if_pos rfl
  have en : (k.A.add o K nl).n k.A.N = nl := if_pos rfl
  have adN : adH k.c.Mr (k.A.add o K nl) (k.A.N + 1) = adH k.c.Mr k.A k.A.N + wzK k.c.Mr K nl := by
    show adH k.c.Mr (k.A.add o K nl) k.A.N + wzK k.c.Mr ((k.A.add o K nl).K k.A.N) ((k.A.add o K nl).n k.A.N) = _
    rw [aN1, eK, en]
  have caN' : caH k.c.Mr (k.A.add o K nl) (k.A.N + 1) = caH k.c.Mr k.A k.A.N + czK k.c.Mr K nl := by
    show caH k.c.Mr (k.A.add o K nl) k.A.N + czK k.c.Mr ((k.A.add o K nl).K k.A.N) ((k.A.add o K nl).n k.A.N) = _
    rw [aN2, eK, en]
  have hr' : HR k.c.Mr k.c.kc (k.A.add o K nl) k.hp V' Mf := by
    refine ⟨?_, ?_, ?_, ?_, ?_, ?_, ?_, ?_, ?_, ?_⟩
    · intro q hq
      rw [eN] at hq
      by_cases e : q = k.A.N
      · subst e
        have hd := hdK_le K
        have ew : wzK k.c.Mr K nl = hdK K + 2 * niK k.c.Mr K nl + nrK k.c.Mr K nl := rfl
        have ec : czK k.c.Mr K nl = niK k.c.Mr K nl + nrK k.c.Mr K nl := rfl
        have arr : ∀ p, adH k.c.Mr k.A k.A.N + hdK K ≤ p → p < adH k.c.Mr k.A k.A.N + wzK k.c.Mr K nl → V'.1 4 p = 0 := by
          intro p h1 h2
          rw [p5, if_neg (by omega), if_neg (fun z => by have := w4.mp z.1; have h5 : hdK K = 5 := (by unfold hdK; rw [if_neg (by omega)]); omega), if_pos (by omega)]
        refine ⟨?_, ?_, ?_, ?_, ?_, ?_, ?_, ?_, ?_, ?_, ?_, ?_⟩
        · rw [eo]; omega
        · rw [eK, en]; exact hK
        · rw [eo, c129, if_pos rfl]
        · rw [eo, eK]; exact cN.1
        · rw [eo, en]; exact cN.2.1
        · rw [eo, aN2]; exact cN.2.2.1
        · rw [eo, aN1]
          refine ⟨0, by omega, cN.2.2.2.2, ?_, fun _ => ?_, fun z => by omega⟩
          · rw [p5, if_neg (by omega), if_neg (fun z => by omega), if_pos (by omega)]; rfl
          · rw [p5, if_neg (by omega), if_neg (fun z => by omega), if_pos (by omega)]
        · rw [aN1, eK, p5, if_pos rfl]
        · rw [aN1, p5, if_neg (by omega), if_neg (fun z => by omega), if_pos (by omega)]
        · rw [aN1, eK, en]
          intro z
          rw [p5, if_neg (by omega), if_pos ⟨w4.mpr z, rfl⟩]
        · rw [aN1, aN2, eK, en]
          intro j hj
          rw [arr _ (by omega) (by omega), arr _ (by omega) (by omega), c127, if_pos (by omega)]
          decide
        · rw [aN1, aN2, eK, en]
          intro j hj
          rw [arr _ (by omega) (by omega), c127, if_pos (by omega)]
          exact Or.inl ⟨rfl, rfl⟩
      · have hq' : q < k.A.N := by omega
        have bd := adH_mono k.c.Mr k.A k.A.N hq'
        have bc := caH_mono k.c.Mr k.A k.A.N hq'
        obtain ⟨aq1, aq2⟩ := add_ad k.c.Mr k.A o K nl q (by omega)
        have ob := (hr.ob q hq').frame (V' := V') (M' := Mf) (fun p h1 h2 => by rw [p5, if_neg (by omega), if_neg (fun z => by omega), if_neg (by omega)]) (fun a h1 h2 => cO a _ (by omega) (by omega) (by omega) (fun z => o3 q hq' z.2.2)) (by rw [c129, if_neg e]) (fun p h1 h2 => by rw [c127, if_neg (by omega)])
        exact ob.conv (if_neg e) (if_neg e) (if_neg e) aq1 aq2 (fun x v hx => hx.add o K nl)
    · intro p q h1 h2 e
      rw [eN] at h1 h2
      have e' : (if p = k.A.N then o else k.A.os p) = (if q = k.A.N then o else k.A.os q) := e
      by_cases c1 : p = k.A.N
      · by_cases c2 : q = k.A.N
        · omega
        · rw [if_pos c1, if_neg c2] at e'
          exact absurd e'.symm (o3 q (by omega))
      · by_cases c2 : q = k.A.N
        · rw [if_neg c1, if_pos c2] at e'
          exact absurd e' (o3 p (by omega))
        · rw [if_neg c1, if_neg c2] at e'
          exact hr.inj p q (by omega) (by omega) e'
    · rw [c60, if_pos rfl]; rfl
    · intro w h1 h2
      by_cases c : w = o
      · exact Or.inl ⟨k.A.N, by rw [eN]; omega, by rw [eo, c]⟩
      · rcases hr.free w h1 h2 with ⟨q, hq, e⟩ | e
        · refine Or.inl ⟨q, by rw [eN]; omega, ?_⟩
          have : (k.A.add o K nl).os q = k.A.os q := if_neg (by omega)
          rw [this]; exact e
        · exact Or.inr (by rw [cO 121 w (by omega) (by omega) (by omega) (by omega)]; exact e)
    · intro j hj
      rw [p5]
      by_cases e1 : j = adH k.c.Mr k.A k.A.N
      · rw [if_pos e1]; exact ⟨_, by omega, rfl⟩
      · rw [if_neg e1]
        by_cases e2 : (kcode k.c.Mr K = 254 ∨ kcode k.c.Mr K = 255) ∧ j = adH k.c.Mr k.A k.A.N + 4
        · rw [if_pos e2]; exact ⟨nl, by omega, rfl⟩
        · rw [if_neg e2]
          by_cases e3 : adH k.c.Mr k.A k.A.N ≤ j ∧ j < adH k.c.Mr k.A k.A.N + wzK k.c.Mr K nl
          · rw [if_pos e3]; exact ⟨0, by omega, rfl⟩
          · rw [if_neg e3]; exact hr.wd j hj
    · rw [p4, if_pos rfl, eN, adN]
    · rw [p4, if_neg (by omega), c60, if_neg (by omega), if_neg (by omega), if_neg (by omega), eN, adN]
      exact ⟨li1, li2, li3, by omega⟩
    · rw [c60, if_neg (by omega), if_pos rfl, c60, if_neg (by omega), if_neg (by omega), if_pos rfl, eN, adN, caN']
      refine ⟨?_, rfl⟩
      congr 1
      omega
    · rw [p4, if_neg (by omega), c60, if_neg (by omega), if_neg (by omega), if_neg (by omega)]; exact hr.coll
    · rw [p3 1045 (by omega) (by omega), p3 1046 (by omega) (by omega)]; exact hr.fld
  have row : ∀ a, a ≤ 120 → a ≠ 60 → Mf.1 a = M.1 a := fun a h1 h2 => by
    funext q
    exact cO a q h2 (by omega) (by omega) (by omega)
  refine ⟨o, X', V', Mf, p1, run, by rw [c60, if_neg (by omega), if_neg (by omega), if_neg (by omega)], ?_, Or.inr ⟨k.A.N, by rw [eN]; omega, by rw [aN1], by rw [eo]⟩⟩
  refine md.hp p2 ?_ ?_ ?_ ?_ hr' ?_
  · intro a h1 _ h3 _ _; exact p3 a h1 h3
  · intro a f hf
    unfold Hm at hf
    by_cases e : a = 60
    · subst e; rw [c60, if_neg (by omega), if_neg (by omega), if_neg (by omega)]
    · exact cO a f e (by omega) (by omega) (by omega)
  · rw [← hMf, ← hM12]; rfl
  · intro u hu d _ _ s _ sl
    have hu' := md.nb1
    have := md.rv.no.1
    exact sl.add o K nl (p3 _ (by omega) (by omega)) (p3 _ (by omega) (by omega)) (row 115 (by omega) (by omega)) (row 116 (by omega) (by omega))
  · intro q hq
    have := md.sr q hq
    rw [p3 1056 (by omega) (by omega), p3 1057 (by omega) (by omega), p3 1058 (by omega) (by omega), row 117 (by omega) (by omega), row 118 (by omega) (by omega)]
    exact ⟨this.1, this.2.1.add o K nl, this.2.2⟩
