/-! Y1 -/
set_option maxRecDepth 20000 in
set_option maxHeartbeats 4000000 in
theorem c_cls {t : Nat} {X : XS} {M : MS} (h : Top t X M) (x y z : Int32) : CallOk t (f_P_cls x y z X) (f_M_cls x y z M) := by
  obtain ⟨T, h⟩ := h
  obtain ⟨kc, rc, sc⟩ := h.sc
  obtain ⟨⟨v, X'⟩, e1, ⟨w, M'⟩, e2, hv, ⟨kc', sc'⟩, so⟩ := RS_cls sc h.ht x y z
  have hv : v = w := hv
  subst hv
  exact ⟨v, X', M', e1, e2, top_src h so ⟨kc', rc, sc'⟩⟩
set_option maxRecDepth 20000 in
set_option maxHeartbeats 4000000 in
theorem c_method {t : Nat} {X : XS} {M : MS} (h : Top t X M) (x y z u v s : Int32) : CallOk t (f_P_method x y z u v s X) (f_M_method x y z u v s M) := by
  obtain ⟨T, h⟩ := h
  obtain ⟨kc, rc, sc⟩ := h.sc
  obtain ⟨⟨v, X'⟩, e1, ⟨w, M'⟩, e2, hv, T', rc', sc', so⟩ := RS_method sc h.ht x y z u v s
  have hv : v = w := hv
  subst hv
  exact ⟨v, X', M', e1, e2, top_src h so ⟨kc, rc', sc'⟩⟩
set_option maxRecDepth 20000 in
set_option maxHeartbeats 4000000 in
theorem c_code {t : Nat} {X : XS} {M : MS} (h : Top t X M) (x y : Int32) : CallOk t (f_P_code x y X) (f_M_code x y M) := by
  obtain ⟨T, h⟩ := h
  obtain ⟨kc, rc, sc⟩ := h.sc
  obtain ⟨⟨v, X'⟩, e1, ⟨w, M'⟩, e2, hv, sc', so⟩ := RS_code sc h.ht x y
  have hv : v = w := hv
  subst hv
  exact ⟨v, X', M', e1, e2, top_src h so ⟨kc, rc, sc'⟩⟩
set_option maxRecDepth 20000 in
set_option maxHeartbeats 4000000 in
theorem c_trap {t : Nat} {X : XS} {M : MS} (h : Top t X M) (x y z u : Int32) : CallOk t (f_P_trap x y z u X) (f_M_trap x y z u M) := by
  obtain ⟨T, h⟩ := h
  obtain ⟨kc, rc, sc⟩ := h.sc
  obtain ⟨⟨v, X'⟩, e1, ⟨w, M'⟩, e2, hv, sc', so⟩ := RS_trap sc h.ht x y z u
  have hv : v = w := hv
  subst hv
  exact ⟨v, X', M', e1, e2, top_src h so ⟨kc, rc, sc'⟩⟩
set_option maxRecDepth 20000 in
set_option maxHeartbeats 4000000 in
theorem c_feed {t : Nat} {X : XS} {M : MS} (h : Top t X M) (x : Int32) : CallOk t (f_P_feed x X) (f_M_feed x M) := by
  obtain ⟨T, h⟩ := h
  obtain ⟨⟨v, X'⟩, e1, ⟨w, M'⟩, e2, hv, T', fd, so⟩ := RFd_feed h.fd h.ht x
  have hv : v = w := hv
  subst hv
  exact ⟨v, X', M', e1, e2, top_fed h so fd⟩
set_option maxRecDepth 20000 in
set_option maxHeartbeats 4000000 in
theorem c_check {t : Nat} {X : XS} {M : MS} (h : Top t X M) : CallOk t (f_P_check X) (f_M_check M) := by
  obtain ⟨T, h⟩ := h
  obtain ⟨⟨v, X'⟩, e1, ⟨w, M'⟩, e2, hv, fd, so⟩ := check_ok h.fd h.im h.ht
  have hv : v = w := hv
  subst hv
  exact ⟨v, X', M', e1, e2, top_fed h so fd⟩
theorem c_image {t : Nat} {X : XS} {M : MS} (h : Top t X M) (x : Int32) : ∃ r, f_P_image x X = some r ∧ f_M_image x M = some r := by
  obtain ⟨T, h⟩ := h
  exact image_ok h.im x
set_option maxRecDepth 20000 in
set_option maxHeartbeats 4000000 in
theorem c_link {t : Nat} {X : XS} {M : MS} (h : Top t X M) (x : Int32) : CallOk t (f_P_link x X) (f_M_link x M) := by
  obtain ⟨T, h⟩ := h
  obtain ⟨kc, rc, sc⟩ := h.sc
  obtain ⟨⟨v, X'⟩, e1, ⟨w, M'⟩, e2, hv, T', l1, l2, l3, l4, l5, l6, l7⟩ := link_ok sc h.ht h.im h.lk h.m90 x
  have hv : v = w := hv
  subst hv
  have hal : aSm X' + aW X ≤ aSm X + aW X' := l5.1.2
  have mf : ∀ a i, ¬ Flnk a i → M'.1 a i = M.1 a i := l7.2
  refine ⟨v, X', M', e1, e2, T', h.fr (S := fun t => ¬ LinkT t) l2 l5.w l6 ⟨kc, rc, l1⟩ l3 l4 ?_ (mf 90 0 (by unfold Flnk Fkr Fkc Fkm Fki; omega)) ?_ ?_ ?_ ?_ ?_ ?_ ?_ l7.1 ?_ (by omega)⟩
  · exact RFd_un h.fd h.ht l5.w l6 (by unfold LinkT; omega) (by unfold LinkT; omega) (mf 60 42 (by unfold Flnk Fkr Fkc Fkm Fki; omega)) (funext fun i => mf 94 i (by unfold Flnk Fkr Fkc Fkm Fki; omega))
  · intro g hg; unfold RunT at hg; unfold LinkT; omega
  · unfold LinkT; omega
  · unfold LinkT; omega
  · unfold LinkT; omega
  · unfold LinkT; omega
  · unfold LinkT; omega
  · intro a i q
    exact mf a i (by unfold RunM at q; unfold Flnk Fkr Fkc Fkm Fki; omega)
  · intro Mr kc rc main hk hr k
    exact KP1_frame k hk hr (fun a i h1 h2 h3 => mf a i (fun q => by unfold Flnk at q; rcases q with q | q | q | q; omega; omega; exact h3 q; omega))
set_option maxRecDepth 20000 in
set_option maxHeartbeats 4000000 in
theorem c_boot {t : Nat} {X : XS} {M : MS} (h : Top t X M) (x y : Int32) : CallOk t (f_P_boot x y X) (f_M_boot x y M) := by
  obtain ⟨T, h⟩ := h
  have triv : CallOk t (some (false, X)) (some (false, M)) := ⟨false, X, M, rfl, rfl, T, h.next⟩
  obtain ⟨n, b, L, hn, im1, im2, im3⟩ := h.im
  have e30 : X.1 30 0 = Int32.ofNat n := im1.1
  have z : ∀ k : Nat, k ≤ 5663 → (Int32.ofNat k = 0 ↔ k = 0) := by
    intro k hk
    rw [show (0 : Int32) = Int32.ofNat 0 from rfl, o_eq _ _ (by omega) (by omega)]
  by_cases hx : 1 ≤ x ∧ x ≤ 50
  case neg =>
    unfold f_P_boot f_M_boot
    rw [if_neg hx, if_neg hx, ite_self]
    exact triv
  by_cases hy : 50 ≤ y ∧ y ≤ 8000
  case neg =>
    unfold f_P_boot f_M_boot
    rw [if_pos hx, if_pos hx, if_neg hy, if_neg hy, ite_self]
    exact triv
  by_cases h0 : n = 0
  · unfold f_P_boot f_M_boot
    rw [e30, im2, if_pos ((z n hn).mpr h0), if_pos hx, if_pos hy, if_neg (fun q => q ((z n hn).mpr h0))]
    exact triv
  obtain ⟨hp, hp8, rfl⟩ := toNle (n := 8000) (by omega) (Int32.le_trans (by decide) hy.1) hy.2
  have hh : 50 ≤ hp ∧ hp ≤ 8000 := by
    have := hy.1
    rw [o_leL _ _ (by decide) (by omega)] at this
    exact ⟨this, hp8⟩
  have hl : ¬ M.1 60 37 = 0 := by rw [im2]; exact fun q => h0 ((z n hn).mp q)
  have hx3 : ¬ X.1 30 0 = 0 := by rw [e30]; exact fun q => h0 ((z n hn).mp q)
  rcases h.lk with e | ⟨Mr, kc, rc, main, g1, g2, g3, g4⟩
  · exact absurd e hl
  obtain ⟨kc2, rc2, sc⟩ := h.sc
  obtain ⟨X', M', T', b1, b2, b3, b4, b5, b6, b7, b8, b9, b10, b11⟩ := boot_ok g1 g2 h.ht h.bx g4 hl hx3 hx hh
  have hal : aSm X' + aW X ≤ aSm X + aW X' := b4.1.2
  have hac := h.ac
  have row : ∀ a, ¬ ((95 ≤ a ∧ a ≤ 118) ∨ a = 121 ∨ a = 60) → M'.1 a = M.1 a := fun a ha => funext fun i => b6 a i (by unfold Fbo; omega)
  refine ⟨true, X', M', b1, b2, T', b3, ⟨kc2, rc2, ?_⟩, ?_, ?_, ?_, ?_, b9, Or.inr ⟨b10, b11, b8.mono (by omega)⟩, by omega⟩
  · exact RSc_frame sc h.ht (b5.mono (fun g hg => by unfold SrcT at hg; unfold CopT RunT; omega)) b4 ⟨fun a h1 h2 => row a (by omega), b6 60 3 (by unfold Fbo; omega), b6 60 15 (by unfold Fbo; omega)⟩
  · exact RIm_un h.im h.ht b4.w b5 (by unfold CopT RunT; omega) (by unfold CopT RunT; omega) (b6 60 37 (by unfold Fbo; omega)) (row 91 (by omega))
  · exact Or.inr ⟨Mr, kc, rc, main, g1, ImO_un g2 h.ht b4.w b5 (by unfold CopT RunT; omega) (by unfold CopT RunT; omega) (by unfold CopT RunT; omega) (by unfold CopT RunT; omega) (by unfold CopT RunT; omega), by rw [b6 60 37 (by unfold Fbo; omega)]; exact g3, b7⟩
  · exact RFd_un h.fd h.ht b4.w b5 (by unfold CopT RunT; omega) (by unfold CopT RunT; omega) (b6 60 42 (by unfold Fbo; omega)) (row 94 (by omega))
  · rw [row 90 (by omega)]; exact h.m90
set_option maxRecDepth 20000 in
set_option maxHeartbeats 4000000 in
theorem c_run {t : Nat} (ht : t ≤ 1000) {X : XS} {M : MS} (h : Top t X M) (x : Int32) : CallOk t (f_P_run x X) (f_M_run x M) := by
  obtain ⟨T, h⟩ := h
  rcases h.bo with ⟨a1, a2, a3⟩ | ⟨a1, a2, a3⟩
  · refine ⟨-1, X, M, ?_, ?_, T, h.next⟩
    · unfold f_P_run
      rw [if_pos a1]
    · unfold f_M_run
      rw [if_pos a2]
  · obtain ⟨Mr, kc, rc, main, hp, A, nb, oc, U, W, D, C, n, V, b1, b2, b3, b4, b5, b6, b7⟩ := a3
    obtain ⟨⟨v, X'⟩, e1, ⟨w, M'⟩, e2, hv, rt⟩ := run_ok (c := ⟨Mr, kc, rc, main, X, T, M⟩) ⟨b1, h.ht, b2, b3⟩ (hp := hp) (B := 5000 * t) ⟨A, nb, oc, U, W, D, T, C, n, V, b4, b5, by rw [Int32.add_zero]; exact b6, b7⟩ (by omega) a2 a1 x
    have hv : w = v := hv
    subst hv
    obtain ⟨A', nb', oc', U', W', D', T', C', n', V', r, tu, hd, ho⟩ := rt
    rw [Int32.add_zero] at hd
    exact ⟨w, X', M', e1, e2, top_run h b1 b2 b3 r tu hd (by omega) a2⟩
set_option maxRecDepth 20000 in
set_option maxHeartbeats 4000000 in
theorem c_input {t : Nat} {X : XS} {M : MS} (h : Top t X M) (x : Int32) : CallOk t (f_P_input x X) (f_M_input x M) := by
  obtain ⟨T, h⟩ := h
  rcases h.bo with ⟨a1, a2, a3⟩ | ⟨a1, a2, a3⟩
  · refine ⟨false, X, M, ?_, ?_, T, h.next⟩
    · unfold f_P_input
      rw [if_pos a1]
    · unfold f_M_input
      rw [if_pos a2]
  · obtain ⟨Mr, kc, rc, main, hp, A, nb, oc, U, W, D, C, n, V, b1, b2, b3, b4, b5, b6, b7⟩ := a3
    obtain ⟨b, X', V', M', e1, e2, r⟩ := input_ok b4 a2 x
    exact ⟨b, X', M', e1, e2, top_run h b1 b2 b3 r b5 b6 (by omega) a2⟩
set_option maxRecDepth 20000 in
set_option maxHeartbeats 4000000 in
theorem c_sound {t : Nat} {X : XS} {M : MS} (h : Top t X M) : ∃ X', f_P_sound X = some (true, X') ∧ Top (t + 1) X' M := by
  obtain ⟨T, h⟩ := h
  rcases h.bo with ⟨a1, a2, a3⟩ | ⟨a1, a2, a3⟩
  · refine ⟨X, ?_, T, h.next⟩
    unfold f_P_sound f_Engine_isSound
    rw [if_neg (fun q => q a1), Option.bind_some, if_pos rfl]
  · obtain ⟨Mr, kc, rc, main, hp, A, nb, oc, U, W, D, C, n, V, b1, b2, b3, b4, b5, b6, b7⟩ := a3
    obtain ⟨X', V', e1, r⟩ := sound_ok (c := ⟨Mr, kc, rc, main, X, T, M⟩) ⟨b1, h.ht, b2, b3⟩ b4
    exact ⟨X', e1, top_run h b1 b2 b3 r b5 b6 (by omega) a2⟩
set_option maxRecDepth 20000 in
set_option maxHeartbeats 4000000 in
theorem c_thread {t : Nat} {X : XS} {M : MS} (h : Top t X M) (x y : Int32) : ∃ v, f_P_thread x y X = some v ∧ f_M_thread x y M = some v := by
  obtain ⟨T, h⟩ := h
  rcases h.bo with ⟨a1, a2, a3⟩ | ⟨a1, a2, a3⟩
  · refine ⟨-1, ?_, ?_⟩
    · have ns : ¬ f_Engine_isStrand x X = true := by
        unfold f_Engine_isStrand
        rw [a3.2.2.1]
        by_cases q : x < 0
        · rw [if_pos q]; decide
        · rw [if_neg q, if_pos (Int32.not_lt.mp q)]; decide
      unfold f_P_thread f_Engine_tellThread
      rw [if_neg ns]
      rfl
    · unfold f_M_thread
      rw [if_pos a2]
  · obtain ⟨Mr, kc, rc, main, hp, A, nb, oc, U, W, D, C, n, V, b1, b2, b3, b4, b5, b6, b7⟩ := a3
    exact thread_ok (c := ⟨Mr, kc, rc, main, X, T, M⟩) ⟨b1, h.ht, b2, b3⟩ b4 a2 x y
set_option maxRecDepth 20000 in
set_option maxHeartbeats 4000000 in
theorem c_out {t : Nat} (ht : t ≤ 1000) {X : XS} {M : MS} (h : Top t X M) (x : Int32) : f_P_out x X = f_M_out x M := by
  obtain ⟨T, h⟩ := h
  rcases h.bo with ⟨a1, a2, a3⟩ | ⟨a1, a2, a3⟩
  · unfold f_P_out f_Ports_sent f_M_out
    rw [a3.2.2.2.2.2.2.2.2.1, a3.2.2.2.2.2.2.2.2.2.1]
    by_cases q : x < 0
    · rw [if_pos q, if_pos q]
    · rw [if_neg q, if_neg q, if_pos (Int32.not_lt.mp q), if_pos (Int32.not_lt.mp q)]
  · obtain ⟨Mr, kc, rc, main, hp, A, nb, oc, U, W, D, C, n, V, b1, b2, b3, b4, b5, b6, b7⟩ := a3
    exact out_ok b4.pr (b4.rv.rf (a := 47) (by unfold Fx; omega)) (b4.rv.rf (a := 49) (by unfold Fx; omega)) (by omega) x
set_option maxRecDepth 20000 in
set_option maxHeartbeats 4000000 in
theorem c_told {t : Nat} {X : XS} {M : MS} (h : Top t X M) (x : Int32) : f_P_told x X = f_M_told x M := by
  obtain ⟨T, h⟩ := h
  obtain ⟨kc, rc, sc⟩ := h.sc
  have t0 : X.1 1 1 = M.1 60 3 := sc.1.2.1.trans sc.1.2.2.1.symm
  have t1 : X.1 1 2 = M.1 60 15 := sc.2.2.1.trans sc.2.2.2.1.symm
  have t2 : X.1 30 0 = M.1 60 37 := by
    obtain ⟨n, b, L, hn, im1, im2, im3⟩ := h.im
    exact im1.1.trans im2.symm
  have t9 : X.1 35 0 = M.1 60 42 := by
    obtain ⟨n, b, L, hn, im1, im2, im3⟩ := h.fd
    exact im1.1.trans im2.symm
  have rest : X.1 59 0 = M.2.toInt32 ∧ X.1 40 2 = M.1 60 61 ∧ f_Memory_used X = M.1 60 87 ∧ X.1 41 0 = M.1 60 88 ∧ X.1 47 1 = M.1 60 78 ∧ X.1 47 0 = M.1 60 76 := by
    unfold f_Memory_used
    rcases h.bo with ⟨a1, a2, n1, n2, n3, n4, n5, n6, n7, n8, n9, n10, n11, n12⟩ | ⟨a1, a2, a3⟩
    · rw [n1, n2, n3, n4, n5, n6, n7, n8, n9, n10, n11, n12]
      decide
    · obtain ⟨Mr, kc, rc, main, hp, A, nb, oc, U, W, D, C, n, V, b1, b2, b3, b4, b5, b6, b7⟩ := a3
      have f : ∀ a, Fx a → X.1 a = V.1 (1000 + a) := fun a ha => b4.rv.rf ha
      have hr := b4.hr
      obtain ⟨l1, l2, l3, l4⟩ := hr.lim
      obtain ⟨z1, z2, z3, z4⟩ := hr.N1000
      obtain ⟨L, nx, p1, p2, p3, p4, p5, p6, p7, p8, p9⟩ := b4.pr
      rw [f 59 (by unfold Fx; omega), f 40 (by unfold Fx; omega), f 41 (by unfold Fx; omega), f 47 (by unfold Fx; omega)]
      refine ⟨?_, ?_, ?_, hr.coll, p7.trans p8.symm, p3.trans p4.symm⟩
      · rw [b4.dn, b6]
        exact congrFun b4.tu.1 0
      · exact b4.nb1.2.1.trans b4.nb1.2.2.symm
      · show 2 * (V.1 1041 7 - 1) = _
        rw [hr.top, hr.used.1, o_subR _ 1 (show 1 ≤ adH Mr A A.N by omega), o_mulL]
  obtain ⟨t3, t4, t5, t6, t7, t8⟩ := rest
  unfold f_P_told f_M_told
  rw [t0, t1, t2, t3, t4, t5, t6, t7, t8, t9]
set_option maxRecDepth 20000 in
set_option maxHeartbeats 4000000 in
/-- what the later cells take -/
theorem top_room {t : Nat} (ht : t ≤ 1000) {X : XS} {M : MS} (h : Top t X M) : aSm X ≤ 620000 := by
  obtain ⟨T, h⟩ := h
  have p7 : ∀ k, k ≤ 7 → 64 * 2 ^ k ≤ 8192 := by
    intro k hk
    have := Nat.pow_le_pow_right (n := 2) (by omega) hk
    omega
  have rl : ∀ c b L, X.2.1 c 2 = some b → xT X b = some (0, L) → aRl X c 2 = L := fun c b L h1 h2 => by unfold aRl; rw [h1]; dsimp only; rw [h2]
  have w1 : aRl X 30 2 ≤ 8192 := by
    obtain ⟨n, b, L, _, ⟨_, i2, i3, _, ⟨k, hk, hL⟩, _⟩, _⟩ := h.im
    rw [rl 30 b L i2 i3, hL]; exact p7 k hk
  have w2 : aRl X 35 2 ≤ 8192 := by
    obtain ⟨n, b, L, _, ⟨_, i2, i3, _, ⟨k, hk, hL⟩, _⟩, _⟩ := h.fd
    rw [rl 35 b L i2 i3, hL]; exact p7 k hk
  have w3 : aRl X 51 2 ≤ 8192 := by
    obtain ⟨b, L, i2, i3, ⟨k, hk, hL⟩, _⟩ := h.bx.1
    rw [rl 51 b L i2 i3, hL]; exact p7 k hk
  have w4 : aRl X 41 1 ≤ 4001 := by
    rcases h.bx.2.2 with ⟨b, a1, a2, _⟩ | ⟨C, n, V, r, _⟩
    · unfold aRl; rw [a1]; dsimp only; rw [a2]; exact Nat.zero_le _
    · unfold aRl; rw [r.m1.1]; dsimp only; rw [xL_iff.mp r.m1.2]; exact Nat.le_refl _
  have w5 : aNs X ≤ 6 := by
    have q : ∀ o, aOn o ≤ 1 := by intro o; cases o; exact Nat.zero_le _; exact Nat.le_refl _
    unfold aNs
    have := q (X.2.1 50 0)
    have := q (X.2.1 50 1)
    have := q (X.2.1 50 2)
    have := q (X.2.1 50 3)
    have := q (X.2.1 50 4)
    have := q (X.2.1 50 5)
    omega
  have := h.ac
  unfold aW at this
  omega
