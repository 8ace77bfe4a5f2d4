/-! K3 -/
set_option maxRecDepth 20000 in
set_option maxHeartbeats 4000000 in
theorem IMG_un {c g : Nat} {X X' : XS} {T T' : Nat → Nat} {n b L : Nat} {S : Nat → Prop} (h : IMG c g X T n b L) (hm : Mw T T' X X') (hu : Un S T X X') (hg : S g) (hc : S (T c)) (hc' : c < 130) : IMG c g X' T' n b L := by
  obtain ⟨h1, h2, h3, h4, h5, h6⟩ := h
  have hb := xT_lt h3
  have u := hu c (by have := xA130 X; omega) hc
  refine ⟨by rw [u.1]; exact h1, by rw [u.2]; exact h2, hm.2.2 b _ h3, h4, h5, by rw [hm.2.1 b hb]; exact h6⟩
set_option maxRecDepth 20000 in
set_option maxHeartbeats 4000000 in
theorem ImO_un {Mr : MS} {rc main : Nat} {X X' : XS} {T T' : Nat → Nat} {S : Nat → Prop} (h : ImO Mr rc main X T) (ht : TG T) (hm : Mw T T' X X') (hu : Un S T X X') (h1 : S 1) (h30 : S 1030) (h32 : S 1032) (h33 : S 1033) (h34 : S 1034) : ImO Mr rc main X' T' := by
  obtain ⟨b, L, i1, i2, i3, i4, i5⟩ := h
  have hb := xT_lt i1.2.2.1
  have tf : ∀ a, a = 30 ∨ a = 32 ∨ a = 33 ∨ a = 34 → T a = 1000 + a := fun a ha => ht a (by omega) (by omega) (by omega) (by omega) (by omega) (by omega) (by omega)
  have u : ∀ a, a = 32 ∨ a = 33 ∨ a = 34 → X'.1 a = X.1 a := fun a ha => (hu a (by have := xA130 X; omega) (by rw [tf a (by omega)]; rcases ha with e | e | e <;> subst e <;> assumption)).1
  refine ⟨b, L, IMG_un i1 hm hu h1 (by rw [tf 30 (by omega)]; exact h30) (by omega), ?_, ?_, ?_, ?_⟩
  · intro j hj; rw [(hu b hb (by rw [i1.2.2.2.2.2]; exact h1)).1]; exact i2 j hj
  · rw [u 32 (by omega)]; exact i3
  · rw [u 33 (by omega)]; exact i4
  · rw [u 34 (by omega)]; exact i5
set_option maxRecDepth 20000 in
set_option maxHeartbeats 4000000 in
theorem RIm_un {X X' : XS} {M M' : MS} {T T' : Nat → Nat} {S : Nat → Prop} (h : RIm X M T) (ht : TG T) (hm : Mw T T' X X') (hu : Un S T X X') (h1 : S 1) (h30 : S 1030) (m1 : M'.1 60 37 = M.1 60 37) (m2 : M'.1 91 = M.1 91) : RIm X' M' T' := by
  obtain ⟨n, b, L, a1, a2, a3, a4⟩ := h
  have hb := xT_lt a2.2.2.1
  refine ⟨n, b, L, a1, IMG_un a2 hm hu h1 (by rw [ht 30 (by omega) (by omega) (by omega) (by omega) (by omega) (by omega) (by omega)]; exact h30) (by omega), by rw [m1]; exact a3, ?_⟩
  intro j hj
  rw [(hu b hb (by rw [a2.2.2.2.2.2]; exact h1)).1, m2]
  exact a4 j hj
theorem GP_b {Mr : MS} {kc rc main : Nat} (h : GP Mr kc rc main) : kc ≤ 10 ∧ rc ≤ 24 := by
  obtain ⟨⟨X, T, hS⟩, _⟩ := h
  exact ⟨hS.1.1, hS.2.1⟩
set_option maxRecDepth 20000 in
set_option maxHeartbeats 4000000 in
theorem Lnk_un {X X' : XS} {M M' : MS} {T T' : Nat → Nat} {S : Nat → Prop} (h : Lnk X M T) (ht : TG T) (hm : Mw T T' X X') (hu : Un S T X X') (h1 : S 1) (h30 : S 1030) (h32 : S 1032) (h33 : S 1033) (h34 : S 1034) (m1 : M'.1 60 37 = M.1 60 37) (m2 : ∀ a i, 95 ≤ a → a ≤ 108 → Fkr a i → M'.1 a i = M.1 a i) : Lnk X' M' T' := by
  rcases h with e | ⟨Mr, kc, rc, main, g1, g2, g3, g4⟩
  · exact Or.inl (m1.trans e)
  · refine Or.inr ⟨Mr, kc, rc, main, g1, ImO_un g2 ht hm hu h1 h30 h32 h33 h34, m1.trans g3, KP_frame g4 (GP_b g1).1 (GP_b g1).2 ?_⟩
    intro a i q
    exact m2 a i (by omega) (by omega) (by unfold Fkr Fkc Fkm Fki; omega)
set_option maxRecDepth 20000 in
set_option maxHeartbeats 4000000 in
theorem link_ok {X : XS} {M : MS} {T : Nat → Nat} {kc rc : Nat} (h : RSc X M T kc rc) (ht : TG T) (hI : RIm X M T) (hL : Lnk X M T) (h90 : M.1 90 0 = 2) (x : Int32) : Wo (f_P_link x X) (fun p => Wo (f_M_link x M) (fun q => p.1 = q.1 ∧ ∃ T', RSc p.2 q.2 T' kc rc ∧ TG T' ∧ RIm p.2 q.2 T' ∧ Lnk p.2 q.2 T' ∧ Mo T T' X p.2 ∧ Un (fun t => ¬ LinkT t) T X p.2 ∧ MO Flnk M q.2)) := by
  have hr24 := h.2.1
  have hk10 := h.1.1
  obtain ⟨bx, ex, hbx⟩ := isMainX h x
  obtain ⟨bm, em, hbm⟩ := isStaticM hr24 h.2.2.2.1 x
  have triv : Wo (some ((-1 : Int32), X)) (fun p => Wo (some ((-1 : Int32), M)) (fun q => p.1 = q.1 ∧ ∃ T', RSc p.2 q.2 T' kc rc ∧ TG T' ∧ RIm p.2 q.2 T' ∧ Lnk p.2 q.2 T' ∧ Mo T T' X p.2 ∧ Un (fun t => ¬ LinkT t) T X p.2 ∧ MO Flnk M q.2)) := by
    rw [W_some, W_some]
    exact ⟨rfl, T, h, ht, hI, hL, Mo.id T rfl, fun _ _ _ => ⟨rfl, rfl⟩, MO.refl M⟩
  unfold f_P_link f_M_link
  rw [ex, em]
  simp only [Option.bind_some]
  by_cases hb : ∃ m, m < rc ∧ x = Int32.ofNat m ∧ M.1 65 m = -2 ∧ M.1 66 m = 0
  case neg =>
    rw [if_neg (fun q => hb (hbx.mp q))]
    by_cases hs : bm = true
    · rw [if_pos hs]
      obtain ⟨m, h1, h2, h3⟩ := hbm.mp hs
      have i24 : ixo x 24 := by rw [h2, o_ixo _ _ (by omega)]; omega
      rw [if_pos i24, if_neg (by rw [h2, o_cl m (by omega)]; exact fun q => hb ⟨m, h1, h2, h3, q⟩)]
      exact triv
    · rw [if_neg hs]
      exact triv
  case pos =>
    obtain ⟨main, hm, rfl, m65, m66⟩ := hb
    rw [if_pos (hbx.mpr ⟨main, hm, rfl, m65, m66⟩), if_pos (hbm.mpr ⟨main, hm, rfl, m65⟩)]
    have i24 : ixo (Int32.ofNat main) 24 := by rw [o_ixo _ _ (by omega)]; omega
    rw [if_pos i24, if_pos (by rw [o_cl main (by omega)]; exact m66)]
    obtain ⟨X1, e1, o1, r1⟩ := follow_ok h ht hm
    obtain ⟨M1, e2, r2⟩ := reachM_ok h hm
    have hs := reach_same hk10 hr24 r1 r2
    have om1 := r2.1
    have h1 : RSc X1 M T kc rc := Only.rsc h ht o1 (by unfold Rch; omega)
    have i0 : LkI M M1 X1 kc rc 0 X1 M1 := ⟨Only.refl X1, MO.refl M1, fun m' hm' => absurd hm' (Nat.not_lt_zero m')⟩
    have tX : ∀ {Y : XS}, Only Flk X1 Y → Mo T T X Y ∧ Un (fun t => ¬ (1010 ≤ t ∧ t ≤ 1029)) T X Y := by
      intro Y hY
      have q : Only (fun b => 11 ≤ b ∧ b ≤ 29) X Y := (o1.mono (fun b hb => by unfold Rch at hb; omega)).trans (hY.mono (fun b hb => by unfold Flk Fal at hb; omega))
      refine ⟨q.mo, q.un ?_⟩
      intro b hb hq
      rw [ht b (by omega) (by omega) (by omega) (by omega) (by omega) (by omega) (by omega)] at hq
      omega
    have mM : ∀ {N : MS}, MO Fmk M1 N → MO Flnk M N := fun q => (om1.mono (fun a i hh => by unfold Rcm at hh; unfold Flnk; omega)).trans (q.mono (fun a i hh => by unfold Fmk Flm at hh; unfold Flnk; omega))
    unfold f_Linker_produce_30
    rw [e1, e2]
    simp only [Option.bind_some]
    rcases prodLoop (Int32.ofNat main) h1 ht (om1.src Rcm_src) hs (by rw [om1.2 90 0 (by unfold Rcm; omega)]; exact h90) rc 0 10000 10000 X1 M1 (by omega) (by omega) (by omega) i0 with ⟨r, X', M', a1, a2, a3, a4⟩ | ⟨X', Mr, a1, a2, a3⟩
    · have a1' : lp (b10_Linker_produce_30 (Int32.ofNat main)) 10000 ((0 : Int32), X1) = some (r, X') := a1
      have a2' : lp b26_M_link 10000 ((0 : Int32), M1) = some (.inr (r, M')) := a2
      rw [a1', a2']
      simp only [Option.bind_some, sb]
      rw [W_some, W_some]
      obtain ⟨t1, t2⟩ := tX a3
      have mo := mM a4
      refine ⟨rfl, T, RSc_frame h ht (t2.mono (fun t q => by unfold SrcT at q; omega)) t1 (mo.src (by unfold Flnk Fkr Fkc Fkm Fki; omega)), ht, ?_, ?_, t1, t2.mono (fun t q => by unfold LinkT at q; omega), mo⟩
      · refine RIm_un hI ht t1.w t2 (by omega) (by omega) ?_ ?_
        · rw [a4.2 60 37 (by unfold Fmk Flm; omega), om1.2 60 37 (by unfold Rcm; omega)]
        · funext i
          rw [a4.2 91 i (by unfold Fmk Flm; omega), om1.2 91 i (by unfold Rcm; omega)]
      · refine Lnk_un hL ht t1.w t2 (by omega) (by omega) (by omega) (by omega) (by omega) ?_ ?_
        · rw [a4.2 60 37 (by unfold Fmk Flm; omega), om1.2 60 37 (by unfold Rcm; omega)]
        · intro a i q1 q2 _
          rw [a4.2 a i (by unfold Fmk Flm; omega), om1.2 a i (by unfold Rcm; omega)]
    · obtain ⟨b1, b2, b3⟩ := a3
      have a1' : lp (b10_Linker_produce_30 (Int32.ofNat main)) 10000 ((0 : Int32), X1) = (f_Linker_write_30 (Int32.ofNat main) X').bind (fun x15 => some (x15.1 30 0, x15)) := a1
      have a2' : lp b26_M_link 10000 ((0 : Int32), M1) = some (.inl (Int32.ofNat rc, Mr)) := a2
      obtain ⟨t1, t2⟩ := tX b1
      have mo := mM b2
      have srcM : MSrc M Mr := mo.src (by unfold Flnk Fkr Fkc Fkm Fki; omega)
      have hS : RSc X' Mr T kc rc := RSc_frame h ht (t2.mono (fun t q => by unfold SrcT at q; omega)) t1 srcM
      have hsr : Same kc rc X' Mr := Same_M (Flk_same hs b1) (Fmk_row b2 (by omega)) (Fmk_row b2 (by omega)) (Fmk_row b2 (by omega)) (Fmk_row b2 (by omega)) (b2.2 60 22 (by unfold Fmk Flm; omega)) (b2.2 60 23 (by unfold Fmk Flm; omega))
      have hty : ∀ m, m < 24 → fm Mr 75 m → ∃ S, TyM Mr kc rc Mr m S ∧ TyX X' m S := by
        intro m hm24 hf
        have hf1 : fm M1 75 m := by unfold fm at hf ⊢; rw [Fmk_row b2 (a := 75) (by omega)] at hf; exact hf
        obtain ⟨S, s1, s2⟩ := b3 m (hs.2.1 m hm24 hf1) hf1
        exact ⟨S, TyM_c srcM.1 s1, s2⟩
      have hT : LkT Mr kc rc := fun m hm24 hf => by
        obtain ⟨S, s1, _⟩ := hty m hm24 hf
        exact ⟨S, s1⟩
      have hR : LkR Mr kc rc main := LkR_of hm r2 b2
      have hE : EX Mr kc rc X' T := by
        refine ⟨hS, ht, hsr, ?_⟩
        intro m hm24 hf
        obtain ⟨S, s1, s2⟩ := hty m hm24 hf
        refine ⟨fun i hi => (s2.1 i hi).trans (s1.2.1 i hi).symm, s2.2.trans s1.2.2.1.symm⟩
      obtain ⟨n0, bb, L0, z1, z2, z3, z4⟩ := hI
      have hI' : IMG 30 1 X' T n0 bb L0 := IMG_un z2 t1.w t2 (by omega) (by rw [ht 30 (by omega) (by omega) (by omega) (by omega) (by omega) (by omega) (by omega)]; omega) (by omega)
      obtain ⟨X2, w1, T2, w2, w3, w4, w5⟩ := write_X hT hR hE hI'
      obtain ⟨M2, v1, v2, v3, v4⟩ := write_M hS hT hR
      have lb : (imgL Mr rc main).length ≤ 5663 ∧ 9 ≤ (imgL Mr rc main).length := by
        have hbl := hb_le hT 24 (by omega)
        have cdl := cd_le hT 24 (by omega)
        have ckl := cnt_max (fmB Mr 77) 10
        rw [imgL_len]
        unfold baseN
        omega
      obtain ⟨⟨zz, M3⟩, c1, c2, c3⟩ := copy91 v3 lb.1
      dsimp only at c2 c3
      have s3 : MSrc Mr M3 := (v2.src (by unfold Fw; omega)).trans (c2.src (by omega))
      have o4 : MO (fun a i => a = 60 ∧ i = 37) M3 (mw M3 60 37 (M3.1 60 39)) := (MO.refl M3).mw ⟨rfl, rfl⟩ _
      obtain ⟨M5, d1, d2, d3⟩ := keep_ok hS (s3.trans (o4.src (by omega))) main
      rw [a1', w1, a2']
      simp only [Option.bind_some, sb, v1, c1, lt, d1]
      rw [W_some, W_some]
      have e39 : M3.1 60 39 = Int32.ofNat (imgL Mr rc main).length := by rw [c2.2 60 39 (by omega)]; exact v3
      have e37 : M5.1 60 37 = Int32.ofNat (imgL Mr rc main).length := by
        rw [d2.2 60 37 (by unfold Fkr Fkc Fkm Fki; omega), mw1, if_pos ⟨rfl, rfl⟩]
        exact e39
      have mo5 : MO Flnk Mr M5 := by
        have q1 : MO Flnk Mr M2 := v2.mono (fun a i hh => by unfold Fw at hh; unfold Flnk; omega)
        have q2 : MO Flnk M2 M3 := c2.mono (fun a i hh => by unfold Flnk; omega)
        have q3 : MO Flnk M3 (mw M3 60 37 (M3.1 60 39)) := o4.mono (fun a i hh => by unfold Flnk; omega)
        have q4 : MO Flnk (mw M3 60 37 (M3.1 60 39)) M5 := d2.mono (fun a i hh => Or.inr (Or.inr (Or.inl hh)))
        exact ((q1.trans q2).trans q3).trans q4
      have u' : Un (fun t => ¬ LinkT t) T X X2 := (t2.mono (fun t q => by unfold LinkT at q; omega)).trans t1 (w5.mono (fun t q => by unfold LinkT at q; unfold WrT; omega))
      have mo' := t1.trans w4
      obtain ⟨b, L, i1, i2, i3⟩ := w3
      have moF := mo.trans mo5
      refine ⟨i1.1.trans e37.symm, T2, RSc_frame h ht (u'.mono (fun t q => by unfold SrcT at q; unfold LinkT; omega)) mo' (moF.src (by unfold Flnk Fkr Fkc Fkm Fki; omega)), w2.2.1, ?_, ?_, mo', u', moF⟩
      · refine ⟨_, b, L, lb.1, i1, e37, ?_⟩
        intro j hj
        have e91 : M5.1 91 j = sealB (bt (imgL Mr rc main)) (imgL Mr rc main).length j := by
          rw [d2.2 91 j (by unfold Fkr Fkc Fkm Fki; omega), mw1, if_neg (by omega), c3 j hj]
          exact v4 j hj
        rw [i2 j hj, e91]
        exact ⟨rfl, sealB_byte (bt_byte _) j hj⟩
      · refine Or.inr ⟨Mr, kc, rc, main, ⟨⟨X', T, hS⟩, hT, hR, ?_, ?_⟩, ⟨b, L, i1, i2, i3⟩, e37, d3⟩
        · rw [srcM.1 65 (by omega) (by omega)]; exact m65
        · rw [srcM.1 66 (by omega) (by omega)]; exact m66
