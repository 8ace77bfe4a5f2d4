/-! V9 -/
set_option maxRecDepth 20000 in
set_option maxHeartbeats 4000000 in
theorem RFd_un {X X' : XS} {M M' : MS} {T T' : Nat → Nat} {S : Nat → Prop} (h : RFd X M T) (ht : TG T) (hm : Mw T T' X X') (hu : Un S T X X') (h2 : S 2) (h35 : S 1035) (m1 : M'.1 60 42 = M.1 60 42) (m2 : M'.1 94 = M.1 94) : RFd X' M' T' := by
  obtain ⟨n, b, L, a1, a2, a3, a4⟩ := h
  have hb := xT_lt a2.2.2.1
  refine ⟨n, b, L, a1, IMG_un a2 hm hu h2 (by rw [ht 35 (by omega) (by omega) (by omega) (by omega) (by omega) (by omega) (by omega)]; exact h35) (by omega), by rw [m1]; exact a3, ?_⟩
  intro j hj
  rw [(hu b hb (by rw [a2.2.2.2.2.2]; exact h2)).1, m2]
  exact a4 j hj
set_option maxRecDepth 20000 in
set_option maxHeartbeats 4000000 in
theorem KP1_frame {Mr : MS} {kc rc main : Nat} {M M' : MS} (h : KP Mr kc rc main M 1) (hk : kc ≤ 10) (hr : rc ≤ 24) (e : ∀ a i, 95 ≤ a → a ≤ 108 → ¬ Fkr a i → M'.1 a i = M.1 a i) : KP Mr kc rc main M' 1 := by
  obtain ⟨k1, k2, k3, k4, k5⟩ := h
  refine ⟨?_, ?_, ?_, ?_, ?_⟩
  · intro c hc
    obtain ⟨a1, a2, a3, a4⟩ := k1 c hc
    refine ⟨by rw [e 95 _ (by omega) (by omega) (by unfold Fkr Fkc Fkm Fki; omega)]; exact a1, by rw [e 96 _ (by omega) (by omega) (by unfold Fkr Fkc Fkm Fki; omega)]; exact a2, by rw [e 97 _ (by omega) (by omega) (by unfold Fkr Fkc Fkm Fki; omega)]; exact a3, ?_⟩
    intro n hn
    rw [e 98 _ (by omega) (by omega) (by unfold Fkr Fkc Fkm Fki; omega)]; exact a4 n hn
  · intro m hm
    obtain ⟨a1, a2, a3, a4, a5⟩ := k2 m hm
    exact ⟨by rw [e 99 _ (by omega) (by omega) (by unfold Fkr Fkc Fkm Fki; omega)]; exact a1, by rw [e 100 _ (by omega) (by omega) (by unfold Fkr Fkc Fkm Fki; omega)]; exact a2, by rw [e 101 _ (by omega) (by omega) (by unfold Fkr Fkc Fkm Fki; omega)]; exact a3, by rw [e 102 _ (by omega) (by omega) (by unfold Fkr Fkc Fkm Fki; omega)]; exact a4, by rw [e 105 _ (by omega) (by omega) (by unfold Fkr Fkc Fkm Fki; omega)]; exact a5⟩
  · intro k hk; rw [e 106 _ (by omega) (by omega) (by unfold Fkr Fkc Fkm Fki; omega)]; exact k3 k hk
  · intro k hk
    obtain ⟨a1, a2, a3⟩ := k4 k hk
    exact ⟨by rw [e 103 _ (by omega) (by omega) (by unfold Fkr Fkc Fkm Fki; omega)]; exact a1, by rw [e 104 _ (by omega) (by omega) (by unfold Fkr Fkc Fkm Fki; omega)]; exact a2, by rw [e 108 _ (by omega) (by omega) (by unfold Fkr Fkc Fkm Fki; omega)]; exact a3⟩
  · rw [e 107 _ (by omega) (by omega) (by unfold Fkr Fkc Fkm Fki; omega)]; exact k5
theorem Boo.mono {B B' : Nat} {X : XS} {M : MS} {T : Nat → Nat} (h : Boo B X M T) (hb : B ≤ B') : Boo B' X M T := by
  obtain ⟨Mr, kc, rc, main, hp, A, nb, oc, U, W, D, C, n, V, b1, b2, b3, b4, b5, b6, b7⟩ := h
  exact ⟨Mr, kc, rc, main, hp, A, nb, oc, U, W, D, C, n, V, b1, b2, b3, b4, b5, b6, Nat.le_trans b7 hb⟩
set_option maxRecDepth 20000 in
set_option maxHeartbeats 4000000 in
theorem bx_of {Mr : MS} {kc rc main : Nat} {X0 : XS} {T0 : Nat → Nat} {M0 : MS} {A : HG} {hp nb oc : Nat} {U W : Nat → Int32} {D : Int64} {T C : Nat → Nat} {n : Nat} {X : XS} {V M : MS} (r : Rn ⟨Mr, kc, rc, main, X0, T0, M0⟩ A hp nb oc U W D T C n X V M) (im : IM Mr rc main X T) : BX X T := by
  refine ⟨?_, ?_, Or.inr ⟨C, n, V, r.rv.re (S := fun _ => True) (Mo.id T rfl).w r.rv.ba.2.1 (fun _ _ _ => ⟨rfl, rfl⟩) (fun _ _ => trivial), r.hr.wd⟩⟩
  · obtain ⟨b, L, i, _⟩ := im
    exact ⟨b, L, i.2.1, i.2.2.1, i.2.2.2.2.1, i.2.2.2.2.2⟩
  · intro k hk
    rw [r.rv.rf (a := 58) (by unfold Fx; omega)]
    exact (r.sr k hk).2.2
/-- before the first boot -/
def NB (X : XS) (M : MS) : Prop := X.1 59 0 = 0 ∧ M.2 = 0 ∧ X.1 40 2 = 0 ∧ M.1 60 61 = 0 ∧ X.1 41 7 = 1 ∧ M.1 60 87 = 0 ∧ X.1 41 0 = 0 ∧ M.1 60 88 = 0 ∧ X.1 47 1 = 0 ∧ M.1 60 78 = 0 ∧ X.1 47 0 = 0 ∧ M.1 60 76 = 0
/-- between two calls: both sides -/
def TopT (t : Nat) (X : XS) (M : MS) (T : Nat → Nat) : Prop := (TG T) ∧ (∃ kc rc, RSc X M T kc rc) ∧ (RIm X M T) ∧ (Lnk X M T) ∧ (RFd X M T) ∧ (M.1 90 0 = 2) ∧ (BX X T) ∧ ((X.1 40 0 = 0 ∧ M.1 60 57 = 0 ∧ NB X M) ∨ (¬ X.1 40 0 = 0 ∧ ¬ M.1 60 57 = 0 ∧ Boo (5000 * t) X M T)) ∧ (aSm X ≤ aW X + 500 * t)
theorem TopT.ht {t : Nat} {X : XS} {M : MS} {T : Nat → Nat} (h0 : TopT t X M T) : TG T := h0.1
theorem TopT.sc {t : Nat} {X : XS} {M : MS} {T : Nat → Nat} (h0 : TopT t X M T) : ∃ kc rc, RSc X M T kc rc := h0.2.1
theorem TopT.im {t : Nat} {X : XS} {M : MS} {T : Nat → Nat} (h0 : TopT t X M T) : RIm X M T := h0.2.2.1
theorem TopT.lk {t : Nat} {X : XS} {M : MS} {T : Nat → Nat} (h0 : TopT t X M T) : Lnk X M T := h0.2.2.2.1
theorem TopT.fd {t : Nat} {X : XS} {M : MS} {T : Nat → Nat} (h0 : TopT t X M T) : RFd X M T := h0.2.2.2.2.1
theorem TopT.m90 {t : Nat} {X : XS} {M : MS} {T : Nat → Nat} (h0 : TopT t X M T) : M.1 90 0 = 2 := h0.2.2.2.2.2.1
theorem TopT.bx {t : Nat} {X : XS} {M : MS} {T : Nat → Nat} (h0 : TopT t X M T) : BX X T := h0.2.2.2.2.2.2.1
theorem TopT.bo {t : Nat} {X : XS} {M : MS} {T : Nat → Nat} (h0 : TopT t X M T) : (X.1 40 0 = 0 ∧ M.1 60 57 = 0 ∧ NB X M) ∨ (¬ X.1 40 0 = 0 ∧ ¬ M.1 60 57 = 0 ∧ Boo (5000 * t) X M T) := h0.2.2.2.2.2.2.2.1
theorem TopT.ac {t : Nat} {X : XS} {M : MS} {T : Nat → Nat} (h0 : TopT t X M T) : aSm X ≤ aW X + 500 * t := h0.2.2.2.2.2.2.2.2
set_option maxRecDepth 20000 in
set_option maxHeartbeats 4000000 in
theorem TopT.next {t : Nat} {X : XS} {M : MS} {T : Nat → Nat} (h : TopT t X M T) : TopT (t + 1) X M T := by
  obtain ⟨h1, h2, h3, h4, h5, h6, h7, h8, h9⟩ := h
  refine ⟨h1, h2, h3, h4, h5, h6, h7, ?_, by omega⟩
  rcases h8 with h8 | ⟨a, b, c⟩
  · exact Or.inl h8
  · exact Or.inr ⟨a, b, c.mono (by omega)⟩
set_option maxRecDepth 20000 in
set_option maxHeartbeats 4000000 in
theorem TopT.fr {t : Nat} {X : XS} {M : MS} {T : Nat → Nat} (h : TopT t X M T) {X' : XS} {M' : MS} {T' : Nat → Nat} {S : Nat → Prop} (ht' : TG T') (hm : Mw T T' X X') (hu : Un S T X X') (sc' : ∃ kc rc, RSc X' M' T' kc rc) (im' : RIm X' M' T') (lk' : Lnk X' M' T') (fd' : RFd X' M' T') (h90 : M'.1 90 0 = M.1 90 0) (hS : ∀ g, RunT g → S g) (s3 : S 3) (s51 : S 1051) (s53 : S 1053) (s54 : S 1054) (s55 : S 1055) (hM : ∀ a i, RunM a i ∨ (a = 60 ∧ (57 ≤ i ∧ i ≤ 59)) → M'.1 a i = M.1 a i) (h2 : M'.2 = M.2) (hK : ∀ Mr kc rc main, kc ≤ 10 → rc ≤ 24 → KP Mr kc rc main M 1 → KP Mr kc rc main M' 1) (ac : aSm X' + aW X ≤ aSm X + aW X' + 500) : TopT (t + 1) X' M' T' := by
  obtain ⟨h1, _, _, _, _, h6, h7, h8, h9⟩ := h
  have hge := xA130 X
  have f : ∀ a, Fx a → X'.1 a = X.1 a := by
    intro a ha
    unfold Fx at ha
    refine (hu a (by omega) ?_).1
    rw [h1 a (by omega) (by omega) (by omega) (by omega) (by omega) (by omega) (by omega)]
    exact hS _ (by unfold RunT; omega)
  have f40 := f 40 (by unfold Fx; omega)
  have f41 := f 41 (by unfold Fx; omega)
  have f47 := f 47 (by unfold Fx; omega)
  have f59 := f 59 (by unfold Fx; omega)
  refine ⟨ht', sc', im', lk', fd', h90.trans h6, BX_un h7 h1 ht' hm hu s51 hS, ?_, by omega⟩
  rcases h8 with ⟨a1, a2, a3⟩ | ⟨a1, a2, a3⟩
  · refine Or.inl ⟨by rw [f40]; exact a1, by rw [hM 60 57 (by omega)]; exact a2, ?_⟩
    unfold NB
    rw [f40, f41, f47, f59, h2, hM 60 61 (by unfold RunM; omega), hM 60 87 (by unfold RunM; omega), hM 60 88 (by unfold RunM; omega), hM 60 78 (by unfold RunM; omega), hM 60 76 (by unfold RunM; omega)]
    exact a3
  · refine Or.inr ⟨by rw [f40]; exact a1, by rw [hM 60 57 (by omega)]; exact a2, ?_⟩
    exact (Boo_un a3 h1 ht' hm hu hS s3 s51 s53 s54 s55 (fun a i q => hM a i (q.elim Or.inl (fun q => Or.inr ⟨q.1, by omega⟩))) h2 hK).mono (by omega)
/-- what a call on both sides comes to -/
def Top (t : Nat) (X : XS) (M : MS) : Prop := ∃ T, TopT t X M T
def CallOk {α : Type} (t : Nat) (p : Option (α × XS)) (q : Option (α × MS)) : Prop := ∃ v X' M', p = some (v, X') ∧ q = some (v, M') ∧ Top (t + 1) X' M'
set_option maxRecDepth 20000 in
set_option maxHeartbeats 4000000 in
theorem top_src {t : Nat} {X X' : XS} {M M' : MS} {T T' : Nat → Nat} (h : TopT t X M T) (so : SrcOnly T T' X X' M M') (sc : ∃ kc rc, RSc X' M' T' kc rc) : Top (t + 1) X' M' := by
  obtain ⟨o1, o2, ⟨o3, o3', o3''⟩, o4, o5, o6, o7⟩ := so
  refine ⟨T', h.fr (S := fun g => ¬ SrcT g) o2 o1 o4 sc ?_ ?_ ?_ (by rw [o5 90 (by omega)]) ?_ ?_ ?_ ?_ ?_ ?_ ?_ o7 ?_ (by omega)⟩
  · exact RIm_un h.im h.ht o1 o4 (by unfold SrcT; omega) (by unfold SrcT; omega) (o6 37 (by omega) (by omega)) (o5 91 (by omega))
  · exact Lnk_un h.lk h.ht o1 o4 (by unfold SrcT; omega) (by unfold SrcT; omega) (by unfold SrcT; omega) (by unfold SrcT; omega) (by unfold SrcT; omega) (o6 37 (by omega) (by omega)) (fun a i h1 h2 _ => by rw [o5 a (by omega)])
  · exact RFd_un h.fd h.ht o1 o4 (by unfold SrcT; omega) (by unfold SrcT; omega) (o6 42 (by omega) (by omega)) (o5 94 (by omega))
  · intro g hg; unfold RunT at hg; unfold SrcT; omega
  · unfold SrcT; omega
  · unfold SrcT; omega
  · unfold SrcT; omega
  · unfold SrcT; omega
  · unfold SrcT; omega
  · intro a i q
    by_cases e : a = 60
    · subst e
      exact o6 i (by unfold RunM at q; omega) (by unfold RunM at q; omega)
    · rw [o5 a (by unfold RunM at q; omega)]
  · intro Mr kc rc main _ _ k
    exact KP_eq k (fun a h1 h2 => o5 a (by omega))
set_option maxRecDepth 20000 in
set_option maxHeartbeats 4000000 in
theorem top_fed {t : Nat} {X X' : XS} {M M' : MS} {T T' : Nat → Nat} (h : TopT t X M T) (so : FedOnly T T' X X' M M') (fd : RFd X' M' T') : Top (t + 1) X' M' := by
  obtain ⟨o1, o2, o4, o5, o6, o7⟩ := so
  obtain ⟨kc, rc, sc⟩ := h.sc
  have hal : aSm X' + aW X ≤ aSm X + aW X' := o1.1.2
  refine ⟨T', h.fr (S := fun t => t ≠ 2 ∧ t ≠ 1035) o2 o1.w o4 ⟨kc, rc, ?_⟩ ?_ ?_ fd (by rw [o5 90 (by omega) (by omega)]) ?_ ?_ ?_ ?_ ?_ ?_ ?_ o7 ?_ (by omega)⟩
  · refine RSc_frame sc h.ht (o4.mono (fun g hg => by unfold SrcT at hg; omega)) o1 ⟨fun a h1 h2 => o5 a (by omega) (by omega), o6 3 (by omega), o6 15 (by omega)⟩
  · exact RIm_un h.im h.ht o1.w o4 (by omega) (by omega) (o6 37 (by omega)) (o5 91 (by omega) (by omega))
  · exact Lnk_un h.lk h.ht o1.w o4 (by omega) (by omega) (by omega) (by omega) (by omega) (o6 37 (by omega)) (fun a i h1 h2 _ => by rw [o5 a (by omega) (by omega)])
  · intro g hg; unfold RunT at hg; omega
  · omega
  · omega
  · omega
  · omega
  · omega
  · intro a i q
    by_cases e : a = 60
    · subst e
      exact o6 i (by unfold RunM at q; omega)
    · rw [o5 a (by unfold RunM at q; omega) e]
  · intro Mr kc rc main _ _ k
    exact KP_eq k (fun a h1 h2 => o5 a (by omega) (by omega))
set_option maxRecDepth 20000 in
set_option maxHeartbeats 4000000 in
/-- while it ran -/
theorem top_run {t : Nat} {X : XS} {M : MS} {T : Nat → Nat} (h : TopT t X M T) {Mr : MS} {kc rc main hp : Nat} (gp : GP Mr kc rc main) (him : IM Mr rc main X T) (kp : KP Mr kc rc main M 1) {A : HG} {nb oc : Nat} {U W : Nat → Int32} {D : Int64} {T' C : Nat → Nat} {n : Nat} {X' : XS} {V M' : MS} (r : Rn ⟨Mr, kc, rc, main, X, T, M⟩ A hp nb oc U W D T' C n X' V M') (tu : TuR nb U W (M.1 60 58)) (hd : D.toInt32 = U 0) (ho : oc ≤ 5000 * (t + 1)) (h57 : ¬ M.1 60 57 = 0) : Top (t + 1) X' M' := by
  obtain ⟨o1, o2, o4⟩ := r.rv.ba
  have mf : ∀ a i, ¬ RunM a i → M'.1 a i = M.1 a i := r.mf
  obtain ⟨kc2, rc2, sc⟩ := h.sc
  have hal : aSm X' + aW X ≤ aSm X + aW X' := o1.1.2
  have hac := h.ac
  have im' : IM Mr rc main X' T' := r.rv.im h.ht him
  have row : ∀ a, ¬ (109 ≤ a ∧ a ≤ 129) → a ≠ 60 → M'.1 a = M.1 a := fun a h1 h2 => funext fun i => mf a i (by unfold RunM; omega)
  refine ⟨T', o2, ⟨kc2, rc2, ?_⟩, ?_, ?_, ?_, ?_, bx_of r im', Or.inr ⟨?_, ?_, ?_⟩, by omega⟩
  · exact RSc_frame sc h.ht (o4.mono (fun g hg => by unfold SrcT at hg; unfold RunT; omega)) o1 ⟨fun a h1 h2 => row a (by omega) (by omega), mf 60 3 (by unfold RunM; omega), mf 60 15 (by unfold RunM; omega)⟩
  · exact RIm_un h.im h.ht o1.w o4 (by unfold RunT; omega) (by unfold RunT; omega) (mf 60 37 (by unfold RunM; omega)) (row 91 (by omega) (by omega))
  · exact Lnk_un h.lk h.ht o1.w o4 (by unfold RunT; omega) (by unfold RunT; omega) (by unfold RunT; omega) (by unfold RunT; omega) (by unfold RunT; omega) (mf 60 37 (by unfold RunM; omega)) (fun a i h1 h2 _ => by rw [row a (by omega) (by omega)])
  · exact RFd_un h.fd h.ht o1.w o4 (by unfold RunT; omega) (by unfold RunT; omega) (mf 60 42 (by unfold RunM; omega)) (row 94 (by omega) (by omega))
  · rw [row 90 (by omega) (by omega)]; exact h.m90
  · rw [r.rv.rf (a := 40) (by unfold Fx; omega), r.tu.2.1]
    decide
  · rw [mf 60 57 (by unfold RunM; omega)]; exact h57
  · refine ⟨Mr, kc, rc, main, hp, A, nb, oc, U, W, D, C, n, V, gp, im', KP_eq kp (fun a h1 h2 => row a (by omega) (by omega)), ?_, ?_, hd, ho⟩
    · exact r.re (S := fun _ => True) (Mo.id T' rfl).w o2 (fun _ _ _ => ⟨rfl, rfl⟩) (fun _ _ => trivial) (fun _ _ _ => rfl) rfl rfl
    · rw [mf 60 58 (by unfold RunM; omega)]; exact tu
