/-! T6 -/
/-- the i-th of those that stay -/
def selS (S : Nat → Bool) : Nat → Nat → Nat
  | 0, _ => 0
  | N + 1, i => if S N = true ∧ cnt S N = i then N else selS S N i
set_option maxRecDepth 20000 in
set_option maxHeartbeats 4000000 in
theorem sel_at {S : Nat → Bool} {k : Nat} (hs : S k = true) : ∀ N, k < N → selS S N (cnt S k) = k := by
  intro N
  induction N with
  | zero => intro h; omega
  | succ N ih =>
    intro h
    show (if S N = true ∧ cnt S N = cnt S k then N else selS S N (cnt S k)) = k
    by_cases c : S N = true ∧ cnt S N = cnt S k
    · rw [if_pos c]; exact cnt_inj c.1 hs c.2
    · rw [if_neg c]
      by_cases e : k = N
      · subst e; exact absurd ⟨hs, rfl⟩ c
      · exact ih (by omega)
set_option maxRecDepth 20000 in
set_option maxHeartbeats 4000000 in
theorem sel_ex {S : Nat → Bool} : ∀ N i, i < cnt S N → ∃ k, k < N ∧ S k = true ∧ cnt S k = i := by
  intro N
  induction N with
  | zero => intro i h; have : cnt S 0 = 0 := rfl; omega
  | succ N ih =>
    intro i h
    rw [cnt_s] at h
    by_cases c : i < cnt S N
    · obtain ⟨k, h1, h2, h3⟩ := ih i c
      exact ⟨k, by omega, h2, h3⟩
    · by_cases s : S N = true
      · rw [if_pos s] at h; exact ⟨N, by omega, s, by omega⟩
      · rw [if_neg s] at h; omega
def HG.sub (A : HG) (S : Nat → Bool) : HG := ⟨cnt S A.N, fun i => A.os (selS S A.N i), fun i => A.K (selS S A.N i), fun i => A.n (selS S A.N i)⟩
set_option maxRecDepth 20000 in
set_option maxHeartbeats 4000000 in
theorem sub_at {A : HG} {S : Nat → Bool} {k : Nat} (hk : k < A.N) (hs : S k = true) : (A.sub S).os (cnt S k) = A.os k ∧ (A.sub S).K (cnt S k) = A.K k ∧ (A.sub S).n (cnt S k) = A.n k ∧ cnt S k < (A.sub S).N := by
  have e := sel_at hs A.N hk
  refine ⟨?_, ?_, ?_, cnt_step hs A.N hk⟩
  · show A.os (selS S A.N (cnt S k)) = _; rw [e]
  · show A.K (selS S A.N (cnt S k)) = _; rw [e]
  · show A.n (selS S A.N (cnt S k)) = _; rw [e]
set_option maxRecDepth 20000 in
set_option maxHeartbeats 4000000 in
theorem sub_ad (Mr : MS) (A : HG) (S : Nat → Bool) : ∀ k, k ≤ A.N → adH Mr (A.sub S) (cnt S k) = naH Mr A S k ∧ caH Mr (A.sub S) (cnt S k) = ncH Mr A S k := by
  intro k
  induction k with
  | zero => intro _; exact ⟨rfl, rfl⟩
  | succ k ih =>
    intro h
    obtain ⟨i1, i2⟩ := ih (by omega)
    show _ = naH Mr A S k + (if S k = true then wzK Mr (A.K k) (A.n k) else 0) ∧ _ = ncH Mr A S k + (if S k = true then czK Mr (A.K k) (A.n k) else 0)
    rw [cnt_s]
    by_cases s : S k = true
    · rw [if_pos s, if_pos s, if_pos s]
      obtain ⟨j1, j2, j3, j4⟩ := sub_at (A := A) (S := S) (show k < A.N by omega) s
      show adH Mr (A.sub S) (cnt S k) + wzK Mr ((A.sub S).K (cnt S k)) ((A.sub S).n (cnt S k)) = _ ∧ caH Mr (A.sub S) (cnt S k) + czK Mr ((A.sub S).K (cnt S k)) ((A.sub S).n (cnt S k)) = _
      rw [i1, i2, j2, j3]
      exact ⟨rfl, rfl⟩
    · rw [if_neg s, if_neg s, if_neg s]
      exact ⟨i1, i2⟩
set_option maxRecDepth 20000 in
set_option maxHeartbeats 4000000 in
/-- a reference to an object that stays -/
theorem RefR.fw {Mr : MS} {kc hp : Nat} {A : HG} {V M : MS} (hr : HR Mr kc A hp V M) {Vp : MS} {S : Nat → Bool} (vp : ∀ k, k < A.N → S k = true → Vp.1 4 (adH Mr A k + 3) = Int32.ofNat (naH Mr A S k)) {x v : Int32} (r : RefR Mr A x v) (hs : ∀ k, k < A.N → x = Int32.ofNat (adH Mr A k) → S k = true) : RefR Mr (A.sub S) (fwv Vp x) v := by
  rcases r with ⟨e1, e2⟩ | ⟨k, hk, e1, e2⟩
  · left
    refine ⟨?_, e2⟩
    unfold fwv
    rw [if_pos e1]
  · right
    have s := hs k hk e1
    obtain ⟨b1, b2, b3, b4⟩ := hr.N1000
    have l1 := adH_mono Mr A A.N hk
    have w1 := wz4 Mr (A.K k) (A.n k)
    have a1 := ad_one Mr A k
    obtain ⟨j1, j2, j3, j4⟩ := sub_at (A := A) (S := S) hk s
    refine ⟨cnt S k, j4, ?_, by rw [j1]; exact e2⟩
    have nx : ¬ x = 0 := by
      rw [e1]
      intro z
      have : Int32.ofNat (adH Mr A k) = Int32.ofNat 0 := z
      rw [o_eq _ _ (by omega) (by omega)] at this
      omega
    unfold fwv
    rw [if_neg nx, e1, o_cl _ (by omega), vp k hk s, (sub_ad Mr A S k (by omega)).1]
set_option maxRecDepth 20000 in
set_option maxHeartbeats 4000000 in
theorem collect_ok {k : Kx} {T C : Nat → Nat} {n : Nat} {X : XS} {V M : MS} {g : Nat → Int32} {h : Nat} {l : Nat → Int32} (md : Md k T C n X V M g h l) (ok : k.c.Ok) : ∃ A' X' V' M', f_Engine_collect X = some X' ∧ f_M_collect M = some M' ∧ M'.1 60 90 = M.1 60 90 ∧ Md (k.ch A' k.nb k.oc k.W) T C n X' V' M' g h l := by
  have hr := md.hr
  have k10 := (gp_k10 ok.1).1
  obtain ⟨b1, b2, b3, b4⟩ := hr.N1000
  have nb6 : k.nb ≤ 6 := by have := md.nb1; have := md.rv.no.1; omega
  have frs := md.frs
  obtain ⟨X', V', Vp, S, c1, c2, cN, c3, c4, c5, c6, c7, c8, c9, c10, c11, c12⟩ := collC hr k10 md.rv md.nb1.2.1 md.nb1.2.2.1 (fun s hs => (md.sr s hs).2.2) (fun s hs => (md.sr s hs).2.1.rx) (fun t ht => ((frs t ht).ok hr).1) (fun t ht => ((frs t ht).ok hr).2.1)
  generalize hM2 : mw (mw M 60 88 (M.1 60 88 + 1)) 60 93 0 = M2
  obtain ⟨zc, cl⟩ := clearM M2
  generalize hM3 : mf M2 126 0 1002 0 = M3 at cl
  have r3 : ∀ a, a ≠ 60 → a ≠ 126 → M3.1 a = M.1 a := fun a h1 h2 => by rw [← hM3, mfr _ _ _ _ h2, ← hM2, mwr _ _ _ h1, mwr _ _ _ h1]
  have r60 : ∀ f, M3.1 60 f = if f = 93 then 0 else if f = 88 then M.1 60 88 + 1 else M.1 60 f := fun f => by
    rw [← hM3, mfr _ _ _ _ (by omega), ← hM2, mw1]
    by_cases e : f = 93
    · rw [if_pos ⟨rfl, e⟩, if_pos e]
    · rw [if_neg (fun z => e z.2), if_neg e, mw1]
      by_cases e2 : f = 88
      · rw [if_pos ⟨rfl, e2⟩, if_pos e2]
      · rw [if_neg (fun z => e2 z.2), if_neg e2]
  have r126 : ∀ o, o < 1002 → M3.1 126 o = 0 := fun o ho => by rw [← hM3, mf1, if_pos ⟨rfl, by omega, ho⟩]
  have d3 : M3.2 = M.2 := by rw [← hM3, ← hM2]; rfl
  have my0 : MYS k.A M3 (fun _ => False) M3 := by
    refine ⟨0, fun _ => 0, 0, fun _ => 0, ⟨?_, ?_, ?_, ?_, ?_, ?_, fun _ _ _ _ => rfl, fun _ _ => rfl, rfl⟩, ?_, fun _ z => z.elim⟩
    · intro j hj
      rw [r126 _ (hr.ob j hj).os.2]
      constructor
      · intro z; exact absurd rfl z
      · rintro ⟨i, hi, _⟩; omega
    · intro j hj; omega
    · intro i j hi; omega
    · rw [r60, if_pos rfl]; rfl
    · intro j hj; omega
    · intro i j hi; omega
    · intro j
      constructor
      · rintro ⟨i, hi, _⟩; omega
      · intro z; exact z.elim
  have hi3 : ∀ F, hiM M3 F = hiM M F := fun F => by unfold hiM; rw [r3 114 (by omega) (by omega)]
  have dp3 : ∀ F, dpM M3 F = dpM M F := fun F => by unfold dpM; rw [r3 109 (by omega) (by omega)]
  have rt3 : ∀ t j, RtM k.A M3 t j ↔ RtM k.A M t j := fun t j => by unfold RtM Rf; simp only [hi3, dp3, r3 110 (by omega) (by omega), r3 115 (by omega) (by omega), r3 116 (by omega) (by omega)]
  have ed3 : ∀ i j, EdM k.c.Mr k.A M3 i j ↔ EdM k.c.Mr k.A M i j := fun i j => by unfold EdM; rw [r3 127 (by omega) (by omega)]
  have fo3 : ∀ t, t < k.nb → Fok k.A M3 t := fun t ht => by
    have := ((frs t ht).ok hr).2.2.1
    unfold Fok
    simp only [hi3, dp3, r3 110 (by omega) (by omega), r3 115 (by omega) (by omega), r3 116 (by omega) (by omega), r3 114 (by omega) (by omega), r3 109 (by omega) (by omega)]
    exact this
  obtain ⟨z4, M4, e4, y4⟩ := rootS_ok hr my0 (fun s hs => by rw [r3 118 (by omega) (by omega)]; exact (md.sr s hs).2.1.ry)
  obtain ⟨z5, M5, e5, y5⟩ := rootTs_ok hr y4 nb6 (by rw [r60, if_neg (by omega), if_neg (by omega)]; exact md.nb1.2.2.2) fo3
  have co : Cok k.c.Mr k.c.kc k.A M3 := fun j hj => by
    have ob := hr.ob j hj
    rw [r3 121 (by omega) (by omega), r3 122 (by omega) (by omega), r3 123 (by omega) (by omega), r3 96 (by omega) (by omega), r3 97 (by omega) (by omega)]
    refine ⟨ob.ok, ob.os, ob.m121, ob.m122, ob.m123, fun hK => ?_⟩
    obtain ⟨i1, i2, i3, i4, i5, i6⟩ := Jm.im (X := X) (M := M) ⟨V, md⟩ ok
    have z1 : k.A.K j < k.c.kc := by rcases ob.ok with z | z <;> omega
    rw [i5 96 _ (by unfold RunM; omega), i5 97 _ (by unfold RunM; omega)]
    have := i6.1 _ z1
    have ga := gp_all i2 z1
    rw [show 10 + k.A.K j = 10 * 1 + k.A.K j by omega, this.2.1, this.2.2.1]
    exact ⟨ga.1, ga.2.1, by omega, by omega⟩
  obtain ⟨M6, mc, ml, e6, ⟨pl, y6⟩, f1, f2, f3⟩ := dfs_ok hr k10 co (fun j hj i hi => by rw [r3 127 (by omega) (by omega)]; exact ((hr.ob j hj).refs i hi).ry) y5
  have same : ∀ j, inq mc ml j ↔ S j = true := by
    intro j
    constructor
    · intro z
      refine f3 (fun j => S j = true) (fun i hi => c3 i ?_) (fun i i' hi hs he => c4 i i' hs ((Ed_iff hr hi).mpr ((ed3 i i').mp he))) j z
      rcases hi with (w | ⟨w1, s, hs, w2⟩) | ⟨t, ht, w⟩
      · exact w.elim
      · rw [r3 118 (by omega) (by omega)] at w2
        exact Or.inl ⟨w1, s, hs, ((md.sr s hs).2.1.to hr w1).mpr w2⟩
      · exact Or.inr ⟨t, ht, (((frs t ht).ok hr).2.2.2 i).mpr ((rt3 t i).mp w)⟩
    · intro z
      refine c5 (fun j => inq mc ml j) (fun i hi => f1 i ?_) (fun i i' hi hs he => f2 i i' hs ((ed3 i i').mpr ((Ed_iff hr hi).mp he))) j z
      rcases hi with ⟨w1, s, hs, w2⟩ | ⟨t, ht, w⟩
      · refine Or.inl (Or.inr ⟨w1, s, hs, ?_⟩)
        rw [r3 118 (by omega) (by omega)]
        exact ((md.sr s hs).2.1.to hr w1).mp w2
      · exact Or.inr ⟨t, ht, (rt3 t i).mpr ((((frs t ht).ok hr).2.2.2 i).mp w)⟩
  have r6 : ∀ a, a ≠ 60 → a ≠ 126 → a ≠ 128 → M6.1 a = M.1 a := fun a h1 h2 h3 => by rw [y6.ot a h1 h2 h3, r3 a h1 h2]
  have co6 : Cok k.c.Mr k.c.kc k.A M6 := fun j hj => by
    have := co j hj
    rw [r3 121 (by omega) (by omega), r3 122 (by omega) (by omega), r3 123 (by omega) (by omega), r3 96 (by omega) (by omega), r3 97 (by omega) (by omega)] at this
    rw [r6 121 (by omega) (by omega) (by omega), r6 122 (by omega) (by omega) (by omega), r6 123 (by omega) (by omega) (by omega), r6 96 (by omega) (by omega) (by omega), r6 97 (by omega) (by omega) (by omega)]
    exact this
  obtain ⟨M7, s1, s2, s3, s4, s5, s6, s7⟩ := sweep_ok (M := M6) k10 S co6 hr.inj b1 b3 b2 (fun j hj => by rw [r6 129 (by omega) (by omega) (by omega)]; exact (hr.ob j hj).m129) (fun j hj => (y6.mk j hj).trans (same j)) (by rw [y6.o60 95 (by omega), r60, if_neg (by omega), if_neg (by omega)]; exact hr.m95)
  have q7 : ∀ a, a ≠ 60 → a ≠ 126 → a ≠ 128 → a ≠ 121 → a ≠ 123 → a ≠ 127 → a ≠ 129 → M7.1 a = M.1 a := fun a h1 h2 h3 h4 h5 h6 h7 => by rw [s2 a h1 h4 h5 h6 h7, r6 a h1 h2 h3]
  have q60 : ∀ f, f ≠ 87 → f ≠ 86 → f ≠ 95 → f ≠ 93 → f ≠ 88 → M7.1 60 f = M.1 60 f := fun f h1 h2 h3 h4 h5 => by rw [s3, if_neg h1, if_neg h2, if_neg h3, y6.o60 f h4, r60, if_neg h4, if_neg h5]
  have sad := sub_ad k.c.Mr k.A S
  have fwr : ∀ x v, RefR k.c.Mr k.A x v → (∀ j, j < k.A.N → x = Int32.ofNat (adH k.c.Mr k.A j) → S j = true) → RefR k.c.Mr (k.A.sub S) (fwv Vp x) v := fun x v r hs => r.fw hr c6 hs
  have hrob : ∀ j, j < (k.A.sub S).N → OB k.c.Mr k.c.kc (k.A.sub S) V' M7 j := by
    intro i hi
    obtain ⟨j, hj, hs, ei⟩ := sel_ex k.A.N i hi
    subst ei
    obtain ⟨j1, j2, j3, j4⟩ := sub_at (A := k.A) (S := S) hj hs
    obtain ⟨a1, a2⟩ := sad j (by omega)
    have ob := hr.ob j hj
    have fa := fa_in k.c.Mr k.A j
    have wz := wz4 k.c.Mr (k.A.K j) (k.A.n j)
    obtain ⟨t1, t2, t3⟩ := s6 j hj hs
    have wd := c11 j hj hs
    have w2 := wd 2 (by omega)
    have w1 := wd 1 (by omega)
    rw [if_neg (by omega), if_neg (by omega)] at w2 w1
    have fe : faH k.c.Mr k.A j = adH k.c.Mr k.A j + hdK (k.A.K j) + 2 * niK k.c.Mr (k.A.K j) (k.A.n j) := rfl
    refine ⟨?_, ?_, ?_, ?_, ?_, ?_, ?_, ?_, ?_, ?_, ?_, ?_⟩
    · rw [j1]; exact ob.os
    · rw [j2, j3]; exact ob.ok
    · rw [j1]; exact t2
    · rw [j1, j2, s4 j hj, if_pos hs, r6 121 (by omega) (by omega) (by omega)]; exact ob.m121
    · rw [j1, j3, q7 122 (by omega) (by omega) (by omega) (by omega) (by omega) (by omega) (by omega)]; exact ob.m122
    · rw [j1, a2]; exact t1
    · rw [j1, a1, w1, w2, q7 124 (by omega) (by omega) (by omega) (by omega) (by omega) (by omega) (by omega), q7 125 (by omega) (by omega) (by omega) (by omega) (by omega) (by omega) (by omega)]
      exact ob.mon
    · have w0 := wd 0 (by omega)
      rw [if_neg (by omega), if_neg (by omega)] at w0
      rw [j2, a1]
      exact w0.trans ob.h0
    · have w3 := wd 3 (by omega)
      rw [if_pos rfl] at w3
      rw [a1]; exact w3
    · intro h10
      rw [j2] at h10
      have f3 := fa.2.2 h10
      have w4 := wd 4 (by omega)
      rw [if_neg (by omega), if_neg (by omega)] at w4
      rw [j3, a1, w4]; exact ob.h4 h10
    · intro i hi
      rw [j2, j3] at hi
      rw [j2, a1, a2]
      have v1 := wd (hdK (k.A.K j) + 2 * i) (by omega)
      have v2 := wd (hdK (k.A.K j) + 2 * i + 1) (by omega)
      have hd4 : 4 ≤ hdK (k.A.K j) := (hdK_le _).1
      rw [if_neg (by omega), if_neg (by omega)] at v1 v2
      have m := t3 i (by unfold czK; omega)
      rw [r6 127 (by omega) (by omega) (by omega)] at m
      rw [m, ← ob.ints i hi]
      rw [← Nat.add_assoc, ← Nat.add_assoc] at v1
      rw [← Nat.add_assoc, ← Nat.add_assoc, ← Nat.add_assoc, ← Nat.add_assoc] at v2
      rw [v1, v2]
    · intro i hi
      rw [j2, j3] at hi
      rw [j2, j3, a1, a2]
      have v1 := wd (hdK (k.A.K j) + 2 * niK k.c.Mr (k.A.K j) (k.A.n j) + i) (by omega)
      have hd4 : 4 ≤ hdK (k.A.K j) := (hdK_le _).1
      rw [if_neg (by omega), if_pos (by omega)] at v1
      have m := t3 (niK k.c.Mr (k.A.K j) (k.A.n j) + i) (by unfold czK; omega)
      rw [r6 127 (by omega) (by omega) (by omega)] at m
      rw [← Nat.add_assoc, ← Nat.add_assoc] at m
      rw [← Nat.add_assoc, ← Nat.add_assoc, ← Nat.add_assoc, ← Nat.add_assoc] at v1
      rw [m, v1]
      exact fwr _ _ (ob.refs i hi) (fun j' h1 h2 => c4 j j' hs ⟨h1, i, hi, h2⟩)
  have hr' : HR k.c.Mr k.c.kc (k.A.sub S) k.hp V' M7 := by
    refine ⟨hrob, ?_, ?_, ?_, c12, ?_, ?_, ?_, ?_, ?_⟩
    · intro i i' hi hi' e
      obtain ⟨j, hj, hs, ei⟩ := sel_ex k.A.N i hi
      obtain ⟨j', hj', hs', ei'⟩ := sel_ex k.A.N i' hi'
      subst ei; subst ei'
      rw [(sub_at (A := k.A) hj hs).1, (sub_at (A := k.A) hj' hs').1] at e
      rw [hr.inj j j' hj hj' e]
    · rw [s3, if_neg (by omega), if_neg (by omega), if_pos rfl]; rfl
    · intro o h1 h2
      rcases hr.free o h1 h2 with ⟨j, hj, e⟩ | e
      · by_cases hs : S j = true
        · obtain ⟨j1, j2, j3, j4⟩ := sub_at (A := k.A) (S := S) hj hs
          exact Or.inl ⟨_, j4, by rw [j1]; exact e⟩
        · right
          rw [← e, s4 j hj, if_neg hs]
      · by_cases z : ∃ j, j < k.A.N ∧ k.A.os j = o
        · obtain ⟨j, hj, e'⟩ := z
          have m := (hr.ob j hj).m121
          have kk : k.A.K j < 12 := by rcases (hr.ob j hj).ok with z | z <;> omega
          rw [e', e] at m
          have : (-1 : Int32) < 0 := by decide
          rw [m, o_lt0 _ (by omega)] at this
          exact this.elim
        · right
          rw [s5 o (fun j hj e' => z ⟨j, hj, e'⟩), r6 121 (by omega) (by omega) (by omega)]; exact e
    · rw [c8.2.1, ← (sad k.A.N (by omega)).1]; rfl
    · obtain ⟨l1, l2, l3, l4⟩ := hr.lim
      have na := naH_le k.c.Mr k.A S k.A.N
      have ea : adH k.c.Mr (k.A.sub S) (k.A.sub S).N = naH k.c.Mr k.A S k.A.N := (sad k.A.N (by omega)).1
      refine ⟨by rw [c8.2.2]; exact l1, by rw [q60 59 (by omega) (by omega) (by omega) (by omega) (by omega)]; exact l2, l3, ?_⟩
      rw [ea]
      omega
    · have ea : adH k.c.Mr (k.A.sub S) (k.A.sub S).N = naH k.c.Mr k.A S k.A.N := (sad k.A.N (by omega)).1
      have ec : caH k.c.Mr (k.A.sub S) (k.A.sub S).N = ncH k.c.Mr k.A S k.A.N := (sad k.A.N (by omega)).2
      rw [ea, ec, s3, if_pos rfl, s3, if_neg (by omega), if_pos rfl]
      exact ⟨rfl, rfl⟩
    · rw [c8.1, s3, if_neg (by omega), if_neg (by omega), if_neg (by omega), y6.o60 88 (by omega), r60, if_neg (by omega), if_pos rfl, hr.coll]
    · intro c hc hf
      have t6 := md.nb1
      rw [c7 1045 (by omega) (by omega) (by omega) (by omega) (fun t ht => by omega), c7 1046 (by omega) (by omega) (by omega) (by omega) (fun t ht => by omega)]
      exact hr.fld c hc hf
  refine ⟨k.A.sub S, X', V', M7, c1, ?_, q60 90 (by omega) (by omega) (by omega) (by omega) (by omega), ?_⟩
  · unfold f_M_collect
    dsimp only [lt]
    rw [hM2, cl, Option.bind_some, e4, Option.bind_some, e5, Option.bind_some, e6, Option.bind_some, s1, Option.bind_some]
  · refine md.hp c2 (fun a h4 h5 h41 h57 ht => c7 a h4 h5 h41 h57 (fun t ht' => ht t (by omega))) ?_ (by rw [s7, y6.d2, d3]) ?_ hr' ?_
    · intro a f hf
      unfold Hm at hf
      by_cases e : a = 60
      · subst e; exact q60 f (by omega) (by omega) (by omega) (by omega) (by omega)
      · rw [q7 a e (by omega) (by omega) (by omega) (by omega) (by omega) (by omega)]
    · intro u hu d ed hd s hs r
      have e6 : V'.1 (606 + 16 * u) = V.1 (606 + 16 * u) := c7 _ (by omega) (by omega) (by omega) (by omega) (fun t ht => by omega)
      have dd : dep V u = d + 1 := by unfold dep; rw [ed]; exact o_cl _ (by omega)
      have e5 := c10 u hu s
      unfold SlR
      rw [e6, q7 115 (by omega) (by omega) (by omega) (by omega) (by omega) (by omega) (by omega), q7 116 (by omega) (by omega) (by omega) (by omega) (by omega) (by omega) (by omega)]
      rcases r with ⟨r1, r2, r3'⟩ | ⟨r1, r2, r3'⟩
      · left
        rw [if_neg (fun z => z.2 r2)] at e5
        exact ⟨r1, r2, by rw [e5]; exact r3'⟩
      · right
        rw [dd, if_pos ⟨hs, by rw [r2]; decide⟩] at e5
        refine ⟨r1, r2, ?_⟩
        rw [e5]
        exact fwr _ _ r3' (fun j hj ej => c3 j (Or.inr ⟨u, hu, hj, s, by rw [dd]; exact hs, by rw [r2]; decide, ej⟩))
    · intro s hs
      obtain ⟨z1, z2, z3⟩ := md.sr s hs
      rw [c7 1056 (by omega) (by omega) (by omega) (by omega) (fun t ht => by omega), c7 1058 (by omega) (by omega) (by omega) (by omega) (fun t ht => by omega), q7 117 (by omega) (by omega) (by omega) (by omega) (by omega) (by omega) (by omega), q7 118 (by omega) (by omega) (by omega) (by omega) (by omega) (by omega) (by omega), c9 s hs]
      exact ⟨z1, fwr _ _ z2 (fun j hj ej => c3 j (Or.inl ⟨hj, s, hs, ej⟩)), z3⟩
