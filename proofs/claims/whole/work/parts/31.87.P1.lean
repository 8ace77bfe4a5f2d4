/-! P1 -/
set_option maxRecDepth 20000 in
set_option maxHeartbeats 4000000 in
theorem set_int {k : Kx} {T C : Nat → Nat} {n : Nat} {X : XS} {V M : MS} {g : Nat → Int32} {h : Nat} {l : Nat → Int32} (md : Md k T C n X V M g h l) {q jj : Nat} (hq : q < k.A.N) (hj : jj < niK k.c.Mr (k.A.K q) (k.A.n q)) (v : Int32) : ∃ X', f_Memory_setIntAt (Int32.ofNat (adH k.c.Mr k.A q + hdK (k.A.K q) + 2 * jj)) v X = some X' ∧ ∃ V', Md k T C n X' V' (mw M 127 (caH k.c.Mr k.A q + jj) v) g h l := by
  have hr := md.hr
  have bd := hr.bd hq
  have hd := hdK_le (k.A.K q)
  have ew : wzK k.c.Mr (k.A.K q) (k.A.n q) = hdK (k.A.K q) + 2 * niK k.c.Mr (k.A.K q) (k.A.n q) + nrK k.c.Mr (k.A.K q) (k.A.n q) := rfl
  have ec : czK k.c.Mr (k.A.K q) (k.A.n q) = niK k.c.Mr (k.A.K q) (k.A.n q) + nrK k.c.Mr (k.A.K q) (k.A.n q) := rfl
  obtain ⟨w, hw, rfl⟩ := ofN_lt v
  obtain ⟨X', e1, r1⟩ := setIntAt_eq md.rv (j := adH k.c.Mr k.A q + hdK (k.A.K q) + 2 * jj) (by omega) (by omega) hw
  refine ⟨X', e1, _, md.heap r1 ?_ ?_ ?_ rfl ?_⟩
  · intro a ha; rw [mwr _ _ _ ha, mwr _ _ _ ha]
  · intro a _ _ h3 _; exact mwr _ _ _ h3
  · intro f _ _; rw [mwr _ _ _ (by omega)]
  · generalize hp : adH k.c.Mr k.A q + hdK (k.A.K q) + 2 * jj = p at *
    have v4 : ∀ s, (mw (mw V 4 p (Int32.ofNat (w / 65536))) 4 (p + 1) (Int32.ofNat (w % 65536))).1 4 s = if s = p + 1 then Int32.ofNat (w % 65536) else if s = p then Int32.ofNat (w / 65536) else V.1 4 s := fun s => by rw [mw1, mw1]; simp
    have m7 : ∀ s, (mw M 127 (caH k.c.Mr k.A q + jj) (Int32.ofNat w)).1 127 s = if s = caH k.c.Mr k.A q + jj then Int32.ofNat w else M.1 127 s := fun s => by rw [mw1]; simp
    refine hr.set hq ?_ ?_ ?_ ?_ ?_ ?_ ?_ ?_ ?_
    · intro s hs; rw [v4, if_neg (by omega), if_neg (by omega)]
    · intro a ha; rw [mwr _ _ _ (by omega), mwr _ _ _ (by omega)]
    · intro a s h1 h2 _; rw [mwr _ _ _ (by omega)]
    · exact mwr _ _ _ (by omega)
    · exact mwr _ _ _ (by omega)
    · intro s hs; exact mwi _ _ _ (by omega)
    · intro f _; rw [mwr _ _ _ (by omega)]
    · intro s hs
      rw [v4]
      by_cases c1 : s = p + 1
      · rw [if_pos c1]; exact ⟨w % 65536, by omega, rfl⟩
      · rw [if_neg c1]
        by_cases c2 : s = p
        · rw [if_pos c2]; exact ⟨w / 65536, by omega, rfl⟩
        · rw [if_neg c2]; exact hr.wd s hs
    · obtain ⟨o1, o2, o3, o4, o5, o6, o7, o8, o9, o10, o11, o12⟩ := hr.ob q hq
      refine ⟨o1, o2, by rw [mwr _ _ _ (by omega)]; exact o3, by rw [mwr _ _ _ (by omega)]; exact o4, by rw [mwr _ _ _ (by omega)]; exact o5, by rw [mwr _ _ _ (by omega)]; exact o6, ?_, ?_, ?_, ?_, ?_, ?_⟩
      · rw [mwr _ _ _ (show 125 ≠ 127 by omega), mwr _ _ _ (show 124 ≠ 127 by omega), v4, v4, if_neg (by omega), if_neg (by omega), if_neg (by omega), if_neg (by omega)]; exact o7
      · rw [v4, if_neg (by omega), if_neg (by omega)]; exact o8
      · rw [v4, if_neg (by omega), if_neg (by omega)]; exact o9
      · intro hk
        have : hdK (k.A.K q) = 5 := by unfold hdK; rw [if_neg (by omega)]
        rw [v4, if_neg (by omega), if_neg (by omega)]; exact o10 hk
      · intro s hs
        by_cases c : s = jj
        · subst c
          rw [hp, v4, v4, m7, if_neg (by omega), if_pos rfl, if_pos rfl, if_pos rfl, two16 (by omega)]
          congr 1
          omega
        · rw [v4, v4, m7, if_neg (by omega), if_neg (by omega), if_neg (by omega), if_neg (by omega), if_neg (by omega)]; exact o11 s hs
      · intro s hs
        rw [v4, m7, if_neg (by omega), if_neg (by omega), if_neg (by omega)]; exact o12 s hs
set_option maxRecDepth 20000 in
set_option maxHeartbeats 4000000 in
theorem ref_lt {k : Kx} {V M : MS} {x v : Int32} (r : RefR k.c.Mr k.A x v) (hr : HR k.c.Mr k.c.kc k.A k.hp V M) : ∃ w, w < 65536 ∧ x = Int32.ofNat w := by
  rcases r with ⟨a, b⟩ | ⟨q, hq, a, b⟩
  · exact ⟨0, by omega, a⟩
  · have bd := hr.bd hq
    exact ⟨_, by omega, a⟩
set_option maxRecDepth 20000 in
set_option maxHeartbeats 4000000 in
theorem set_ref {k : Kx} {T C : Nat → Nat} {n : Nat} {X : XS} {V M : MS} {g : Nat → Int32} {h : Nat} {l : Nat → Int32} (md : Md k T C n X V M g h l) {q jj : Nat} (hq : q < k.A.N) (hj : jj < nrK k.c.Mr (k.A.K q) (k.A.n q)) {x v : Int32} (rr : RefR k.c.Mr k.A x v) : ∃ X', f_Memory_setWord (Int32.ofNat (adH k.c.Mr k.A q + hdK (k.A.K q) + 2 * niK k.c.Mr (k.A.K q) (k.A.n q) + jj)) x X = some X' ∧ ∃ V', Md k T C n X' V' (mw M 127 (caH k.c.Mr k.A q + niK k.c.Mr (k.A.K q) (k.A.n q) + jj) v) g h l := by
  have hr := md.hr
  have bd := hr.bd hq
  have hd := hdK_le (k.A.K q)
  have ew : wzK k.c.Mr (k.A.K q) (k.A.n q) = hdK (k.A.K q) + 2 * niK k.c.Mr (k.A.K q) (k.A.n q) + nrK k.c.Mr (k.A.K q) (k.A.n q) := rfl
  have ec : czK k.c.Mr (k.A.K q) (k.A.n q) = niK k.c.Mr (k.A.K q) (k.A.n q) + nrK k.c.Mr (k.A.K q) (k.A.n q) := rfl
  obtain ⟨w, hw, ewx⟩ := ref_lt rr hr
  obtain ⟨X', e1, r1⟩ := setWord_eq md.rv (j := adH k.c.Mr k.A q + hdK (k.A.K q) + 2 * niK k.c.Mr (k.A.K q) (k.A.n q) + jj) (by omega) (by omega) w
  rw [Nat.mod_eq_of_lt hw, ← ewx] at r1
  rw [← ewx] at e1
  refine ⟨X', e1, _, md.heap r1 ?_ ?_ ?_ rfl ?_⟩
  · intro a ha; rw [mwr _ _ _ ha]
  · intro a _ _ h3 _; exact mwr _ _ _ h3
  · intro f _ _; rw [mwr _ _ _ (by omega)]
  · generalize hp : adH k.c.Mr k.A q + hdK (k.A.K q) + 2 * niK k.c.Mr (k.A.K q) (k.A.n q) + jj = p at *
    have v4 : ∀ s, (mw V 4 p x).1 4 s = if s = p then x else V.1 4 s := fun s => by rw [mw1]; simp
    have m7 : ∀ s, (mw M 127 (caH k.c.Mr k.A q + niK k.c.Mr (k.A.K q) (k.A.n q) + jj) v).1 127 s = if s = caH k.c.Mr k.A q + niK k.c.Mr (k.A.K q) (k.A.n q) + jj then v else M.1 127 s := fun s => by rw [mw1]; simp
    refine hr.set hq ?_ ?_ ?_ ?_ ?_ ?_ ?_ ?_ ?_
    · intro s hs; rw [v4, if_neg (by omega)]
    · intro a ha; rw [mwr _ _ _ (by omega)]
    · intro a s h1 h2 _; rw [mwr _ _ _ (by omega)]
    · exact mwr _ _ _ (by omega)
    · exact mwr _ _ _ (by omega)
    · intro s hs; exact mwi _ _ _ (by omega)
    · intro f _; rw [mwr _ _ _ (by omega)]
    · intro s hs
      rw [v4]
      by_cases c2 : s = p
      · rw [if_pos c2]; exact ⟨w, hw, ewx⟩
      · rw [if_neg c2]; exact hr.wd s hs
    · obtain ⟨o1, o2, o3, o4, o5, o6, o7, o8, o9, o10, o11, o12⟩ := hr.ob q hq
      refine ⟨o1, o2, by rw [mwr _ _ _ (by omega)]; exact o3, by rw [mwr _ _ _ (by omega)]; exact o4, by rw [mwr _ _ _ (by omega)]; exact o5, by rw [mwr _ _ _ (by omega)]; exact o6, ?_, ?_, ?_, ?_, ?_, ?_⟩
      · rw [mwr _ _ _ (show 125 ≠ 127 by omega), mwr _ _ _ (show 124 ≠ 127 by omega), v4, v4, if_neg (by omega), if_neg (by omega)]; exact o7
      · rw [v4, if_neg (by omega)]; exact o8
      · rw [v4, if_neg (by omega)]; exact o9
      · intro hk
        have : hdK (k.A.K q) = 5 := by unfold hdK; rw [if_neg (by omega)]
        rw [v4, if_neg (by omega)]; exact o10 hk
      · intro s hs
        rw [v4, v4, m7, if_neg (by omega), if_neg (by omega), if_neg (by omega)]; exact o11 s hs
      · intro s hs
        by_cases c : s = jj
        · subst c
          rw [hp, v4, m7, if_pos rfl, if_pos rfl]; exact rr
        · rw [v4, m7, if_neg (by omega), if_neg (by omega)]; exact o12 s hs
set_option maxRecDepth 20000 in
set_option maxHeartbeats 4000000 in
/-- the monitor of an object: entered e times by thread w -/
theorem set_mon {k : Kx} {T C : Nat → Nat} {n : Nat} {X : XS} {V M M' : MS} {g : Nat → Int32} {h : Nat} {l : Nat → Int32} (md : Md k T C n X V M g h l) {q e a : Nat} (hq : q < k.A.N) (he : e ≤ 60000) (ha : a ≤ 6) (hm : ∀ b, b ≠ 124 → b ≠ 125 → M'.1 b = M.1 b) (h45 : ∀ b s, s ≠ k.A.os q → M'.1 b s = M.1 b s) (e5 : M'.1 125 (k.A.os q) = Int32.ofNat e) (h0 : e = 0 → a = 0) (h1 : 0 < e → ∃ w, w < 6 ∧ M'.1 124 (k.A.os q) = Int32.ofNat w ∧ a = w + 1) (d2 : M'.2 = M.2) : ∃ X', f_Memory_setMonitor (Int32.ofNat (adH k.c.Mr k.A q)) (Int32.ofNat a) (Int32.ofNat e) X = some X' ∧ ∃ V', Md k T C n X' V' M' g h l := by
  have hr := md.hr
  have bd := hr.bd hq
  have w4 := wz4 k.c.Mr (k.A.K q) (k.A.n q)
  have hd := hdK_le (k.A.K q)
  obtain ⟨X1, e1, r1⟩ := setWord_eq md.rv (j := adH k.c.Mr k.A q + 1) (by omega) (by omega) a
  obtain ⟨X2, e2, r2⟩ := setWord_eq r1 (j := adH k.c.Mr k.A q + 2) (by omega) (by omega) e
  rw [Nat.mod_eq_of_lt (show e < 65536 by omega), Nat.mod_eq_of_lt (show a < 65536 by omega)] at r2
  refine ⟨X2, ?_, _, md.heap r2 ?_ ?_ ?_ d2 ?_⟩
  · unfold f_Memory_setMonitor
    rw [o_addR, e1, Option.bind_some, o_addR, e2]
    rfl
  · intro b hb; rw [mwr _ _ _ hb, mwr _ _ _ hb]
  · intro b h1 h2 _ _; exact hm b h1 h2
  · intro f _ _; rw [hm 60 (by omega) (by omega)]
  · have v4 : ∀ s, (mw (mw V 4 (adH k.c.Mr k.A q + 1) (Int32.ofNat a)) 4 (adH k.c.Mr k.A q + 2) (Int32.ofNat e)).1 4 s = if s = adH k.c.Mr k.A q + 2 then Int32.ofNat e else if s = adH k.c.Mr k.A q + 1 then Int32.ofNat a else V.1 4 s := fun s => by rw [mw1, mw1]; simp
    refine hr.set hq ?_ ?_ ?_ ?_ ?_ ?_ ?_ ?_ ?_
    · intro s hs; rw [v4, if_neg (by omega), if_neg (by omega)]
    · intro b hb; rw [mwr _ _ _ (by omega), mwr _ _ _ (by omega)]
    · intro b s _ _ h3; exact h45 b s h3
    · exact hm _ (by omega) (by omega)
    · exact hm _ (by omega) (by omega)
    · intro s hs; rw [hm _ (by omega) (by omega)]
    · intro f _; rw [hm 60 (by omega) (by omega)]
    · intro s hs
      rw [v4]
      by_cases c1 : s = adH k.c.Mr k.A q + 2
      · rw [if_pos c1]; exact ⟨e, by omega, rfl⟩
      · rw [if_neg c1]
        by_cases c2 : s = adH k.c.Mr k.A q + 1
        · rw [if_pos c2]; exact ⟨a, by omega, rfl⟩
        · rw [if_neg c2]; exact hr.wd s hs
    · obtain ⟨o1, o2, o3, o4, o5, o6, o7, o8, o9, o10, o11, o12⟩ := hr.ob q hq
      have ew : wzK k.c.Mr (k.A.K q) (k.A.n q) = hdK (k.A.K q) + 2 * niK k.c.Mr (k.A.K q) (k.A.n q) + nrK k.c.Mr (k.A.K q) (k.A.n q) := rfl
      refine ⟨o1, o2, by rw [hm _ (by omega) (by omega)]; exact o3, by rw [hm _ (by omega) (by omega)]; exact o4, by rw [hm _ (by omega) (by omega)]; exact o5, by rw [hm _ (by omega) (by omega)]; exact o6, ?_, ?_, ?_, ?_, ?_, ?_⟩
      · refine ⟨e, he, e5, by rw [v4, if_pos rfl], ?_, ?_⟩
        · intro z
          rw [v4, if_neg (by omega), if_pos rfl, h0 z]
          rfl
        · intro z
          obtain ⟨w, w1, w2, w3⟩ := h1 z
          exact ⟨w, w1, w2, by rw [v4, if_neg (by omega), if_pos rfl, w3]⟩
      · rw [v4, if_neg (by omega), if_neg (by omega)]; exact o8
      · rw [v4, if_neg (by omega), if_neg (by omega)]; exact o9
      · intro hk
        rw [v4, if_neg (by omega), if_neg (by omega)]; exact o10 hk
      · intro s hs
        rw [hm 127 (by omega) (by omega), v4, v4, if_neg (by omega), if_neg (by omega), if_neg (by omega), if_neg (by omega)]; exact o11 s hs
      · intro s hs
        rw [hm 127 (by omega) (by omega), v4, if_neg (by omega), if_neg (by omega)]; exact o12 s hs
