/-! THE LAW'S LOOP over the small machine -/
theorem go_sld {o : MjO} {q : MjIns} {pc : Nat} {ml : MjL} {st : List Value} {h : MjH} {k n j : Nat} {f : Nat → Int32} {i : Int32} (ho : o k = some (n, f)) (hi : i = nI j) (hj : j < n) (hn : n < 2 ^ 31) : mjLd 0 o q pc ml (.int i :: .retAddr k :: st) h = some (pc + 1, ml, .int (f j) :: st, h) := by
  subst hi
  unfold mjLd
  dsimp only
  rw [ho]
  dsimp only
  rw [nI_clamp (Nat.lt_trans hj hn), if_pos ⟨rfl, fun e => e.elim (fun e => nI_pos (Nat.lt_trans hj hn) e) (fun e => absurd e (Nat.not_le.mpr hj))⟩]
theorem go_slen {o : MjO} {q : MjIns} {pc : Nat} {ml : MjL} {st : List Value} {h : MjH} {k n : Nat} {f : Nat → Int32} (ho : o k = some (n, f)) : mjLen o q pc ml (.retAddr k :: st) h = some (pc + 1, ml, .int (Int32.ofNat n) :: st, h) := by
  unfold mjLen
  dsimp only
  rw [ho]
theorem go_recv {z k r c : Nat} {h : MjH} {fs vs : List Value} (hk : ¬ (k = 1 ∨ k = 4)) (hx : h[r]? = some (.inr (c, fs))) (hc : decide (c < vwCl.length ∧ (mjCls c).1 = (mjMeth z).1.cls) = true) : mjRecv z k h (.ref r :: vs) = true := by
  unfold mjRecv
  rw [if_neg hk]
  dsimp only
  rw [hx]
  exact hc
theorem go_if2t {f : Int32 → Int32 → Bool} {o : MjO} {q : MjIns} {pc : Nat} {ml : MjL} {st : List Value} {h : MjH} {x y : Int32} (hc : f x y = true) : mjIf2 f o q pc ml (.int y :: .int x :: st) h = some (q.2.2.1, ml, st, h) := by
  unfold mjIf2
  dsimp only
  rw [if_pos hc]
theorem go_if2f {f : Int32 → Int32 → Bool} {o : MjO} {q : MjIns} {pc : Nat} {ml : MjL} {st : List Value} {h : MjH} {x y : Int32} (hc : f x y = false) : mjIf2 f o q pc ml (.int y :: .int x :: st) h = some (pc + 3, ml, st, h) := by
  unfold mjIf2
  dsimp only
  rw [if_neg (by rw [hc]; decide)]
theorem law_ix (t : Nat) : ∀ k, k < 7 → nI (7 * t) + Int32.ofInt (k : Nat) = nI (7 * t + k) := by
  intro k hk
  rw [← nI_add]
  congr 1
/-- one call of the law: the class's method and the reference's, with one answer -/
def LawCall (o : MjO) (x m yx ym : Nat) (vs : List Value) (h h2 : MjH) : Prop := ∃ (r : Int32) (h1 : MjH) (f1 f2 : List Value), h[x]? = some (.inr (11, f1)) ∧ h1[m]? = some (.inr (12, f2)) ∧
  Go o yx 0 ((Value.ref x :: vs).map some ++ List.replicate ((mjMeth yx).2.2.1 - (Value.ref x :: vs).length) none) [] h (some (.int r)) h1 ∧
  Go o ym 0 ((Value.ref m :: vs).map some ++ List.replicate ((mjMeth ym).2.2.1 - (Value.ref m :: vs).length) none) [] h1 (some (.int r)) h2
set_option maxRecDepth 100000 in
set_option maxHeartbeats 4000000 in
/-- cls -/
theorem law_op_0 {o : MjO} {L t x m : Nat} {xs : Nat → Int32} {h h2 h' : MjH} {r : Option Value} (ho : o 0 = some (L, xs)) (hb : 7 * t + 7 ≤ L) (hL : L ≤ 3584) (hc : LawCall o x m 1 22 [.int (xs (7 * t + 1)), .int (xs (7 * t + 2)), .int (xs (7 * t + 3))] h h2) (k : Go o 309 565 [some (.retAddr 0), some (.ref x), some (.ref m), some (.int (nI (7 * t)))] [] h2 r h') : Go o 309 108 [some (.retAddr 0), some (.ref x), some (.ref m), some (.int (nI (7 * t)))] [] h r h' := by
  obtain ⟨r1, h1, f1, f2, hfx, hfm, kx, km⟩ := hc
  refine Go.step (pc1 := 109) rfl rfl rfl rfl ?_
  refine Go.step (pc1 := 110) rfl rfl rfl rfl ?_
  refine Go.step (pc1 := 111) rfl rfl rfl rfl ?_
  refine Go.step (pc1 := 112) rfl rfl rfl rfl ?_
  refine Go.step (pc1 := 113) rfl rfl rfl rfl ?_
  refine Go.step (pc1 := 114) rfl rfl rfl (go_sld (j := 7 * t + 1) ho (law_ix t 1 (by decide)) (by omega) (by omega)) ?_
  refine Go.step (pc1 := 115) rfl rfl rfl rfl ?_
  refine Go.step (pc1 := 116) rfl rfl rfl rfl ?_
  refine Go.step (pc1 := 117) rfl rfl rfl rfl ?_
  refine Go.step (pc1 := 118) rfl rfl rfl rfl ?_
  refine Go.step (pc1 := 119) rfl rfl rfl (go_sld (j := 7 * t + 2) ho (law_ix t 2 (by decide)) (by omega) (by omega)) ?_
  refine Go.step (pc1 := 120) rfl rfl rfl rfl ?_
  refine Go.step (pc1 := 121) rfl rfl rfl rfl ?_
  refine Go.step (pc1 := 122) rfl rfl rfl rfl ?_
  refine Go.step (pc1 := 123) rfl rfl rfl rfl ?_
  refine Go.step (pc1 := 124) rfl rfl rfl (go_sld (j := 7 * t + 3) ho (law_ix t 3 (by decide)) (by omega) (by omega)) ?_
  refine Go.call (q := (69, 0, 329, 1, 0, [])) (vs := .ref x :: [.int (xs (7 * t + 1)), .int (xs (7 * t + 2)), .int (xs (7 * t + 3))]) (rest := []) (r1 := some (.int r1)) rfl rfl rfl (go_recv (by decide) hfx (by decide +kernel)) kx ?_
  refine Go.step (pc1 := 128) rfl rfl rfl rfl ?_
  refine Go.step (pc1 := 129) rfl rfl rfl rfl ?_
  refine Go.step (pc1 := 130) rfl rfl rfl rfl ?_
  refine Go.step (pc1 := 131) rfl rfl rfl rfl ?_
  refine Go.step (pc1 := 132) rfl rfl rfl rfl ?_
  refine Go.step (pc1 := 133) rfl rfl rfl (go_sld (j := 7 * t + 1) ho (law_ix t 1 (by decide)) (by omega) (by omega)) ?_
  refine Go.step (pc1 := 134) rfl rfl rfl rfl ?_
  refine Go.step (pc1 := 135) rfl rfl rfl rfl ?_
  refine Go.step (pc1 := 136) rfl rfl rfl rfl ?_
  refine Go.step (pc1 := 137) rfl rfl rfl rfl ?_
  refine Go.step (pc1 := 138) rfl rfl rfl (go_sld (j := 7 * t + 2) ho (law_ix t 2 (by decide)) (by omega) (by omega)) ?_
  refine Go.step (pc1 := 139) rfl rfl rfl rfl ?_
  refine Go.step (pc1 := 140) rfl rfl rfl rfl ?_
  refine Go.step (pc1 := 141) rfl rfl rfl rfl ?_
  refine Go.step (pc1 := 142) rfl rfl rfl rfl ?_
  refine Go.step (pc1 := 143) rfl rfl rfl (go_sld (j := 7 * t + 3) ho (law_ix t 3 (by decide)) (by omega) (by omega)) ?_
  refine Go.call (q := (69, 0, 330, 22, 0, [])) (vs := .ref m :: [.int (xs (7 * t + 1)), .int (xs (7 * t + 2)), .int (xs (7 * t + 3))]) (rest := [.int r1]) (r1 := some (.int r1)) rfl rfl rfl (go_recv (by decide) hfm (by decide +kernel)) km ?_
  exact Go.step (pc1 := 565) rfl rfl rfl (go_if2t (by simp)) k
set_option maxRecDepth 100000 in
set_option maxHeartbeats 4000000 in
/-- method -/
theorem law_op_1 {o : MjO} {L t x m : Nat} {xs : Nat → Int32} {h h2 h' : MjH} {r : Option Value} (ho : o 0 = some (L, xs)) (hb : 7 * t + 7 ≤ L) (hL : L ≤ 3584) (hc : LawCall o x m 2 23 [.int (xs (7 * t + 1)), .int (xs (7 * t + 2)), .int (xs (7 * t + 3)), .int (xs (7 * t + 4)), .int (xs (7 * t + 5)), .int (xs (7 * t + 6))] h h2) (k : Go o 309 565 [some (.retAddr 0), some (.ref x), some (.ref m), some (.int (nI (7 * t)))] [] h2 r h') : Go o 309 151 [some (.retAddr 0), some (.ref x), some (.ref m), some (.int (nI (7 * t)))] [] h r h' := by
  obtain ⟨r1, h1, f1, f2, hfx, hfm, kx, km⟩ := hc
  refine Go.step (pc1 := 152) rfl rfl rfl rfl ?_
  refine Go.step (pc1 := 153) rfl rfl rfl rfl ?_
  refine Go.step (pc1 := 154) rfl rfl rfl rfl ?_
  refine Go.step (pc1 := 155) rfl rfl rfl rfl ?_
  refine Go.step (pc1 := 156) rfl rfl rfl rfl ?_
  refine Go.step (pc1 := 157) rfl rfl rfl (go_sld (j := 7 * t + 1) ho (law_ix t 1 (by decide)) (by omega) (by omega)) ?_
  refine Go.step (pc1 := 158) rfl rfl rfl rfl ?_
  refine Go.step (pc1 := 159) rfl rfl rfl rfl ?_
  refine Go.step (pc1 := 160) rfl rfl rfl rfl ?_
  refine Go.step (pc1 := 161) rfl rfl rfl rfl ?_
  refine Go.step (pc1 := 162) rfl rfl rfl (go_sld (j := 7 * t + 2) ho (law_ix t 2 (by decide)) (by omega) (by omega)) ?_
  refine Go.step (pc1 := 163) rfl rfl rfl rfl ?_
  refine Go.step (pc1 := 164) rfl rfl rfl rfl ?_
  refine Go.step (pc1 := 165) rfl rfl rfl rfl ?_
  refine Go.step (pc1 := 166) rfl rfl rfl rfl ?_
  refine Go.step (pc1 := 167) rfl rfl rfl (go_sld (j := 7 * t + 3) ho (law_ix t 3 (by decide)) (by omega) (by omega)) ?_
  refine Go.step (pc1 := 168) rfl rfl rfl rfl ?_
  refine Go.step (pc1 := 169) rfl rfl rfl rfl ?_
  refine Go.step (pc1 := 170) rfl rfl rfl rfl ?_
  refine Go.step (pc1 := 171) rfl rfl rfl rfl ?_
  refine Go.step (pc1 := 172) rfl rfl rfl (go_sld (j := 7 * t + 4) ho (law_ix t 4 (by decide)) (by omega) (by omega)) ?_
  refine Go.step (pc1 := 173) rfl rfl rfl rfl ?_
  refine Go.step (pc1 := 174) rfl rfl rfl rfl ?_
  refine Go.step (pc1 := 175) rfl rfl rfl rfl ?_
  refine Go.step (pc1 := 176) rfl rfl rfl rfl ?_
  refine Go.step (pc1 := 177) rfl rfl rfl (go_sld (j := 7 * t + 5) ho (law_ix t 5 (by decide)) (by omega) (by omega)) ?_
  refine Go.step (pc1 := 178) rfl rfl rfl rfl ?_
  refine Go.step (pc1 := 179) rfl rfl rfl rfl ?_
  refine Go.step (pc1 := 181) rfl rfl rfl rfl ?_
  refine Go.step (pc1 := 182) rfl rfl rfl rfl ?_
  refine Go.step (pc1 := 183) rfl rfl rfl (go_sld (j := 7 * t + 6) ho (law_ix t 6 (by decide)) (by omega) (by omega)) ?_
  refine Go.call (q := (69, 0, 331, 2, 0, [])) (vs := .ref x :: [.int (xs (7 * t + 1)), .int (xs (7 * t + 2)), .int (xs (7 * t + 3)), .int (xs (7 * t + 4)), .int (xs (7 * t + 5)), .int (xs (7 * t + 6))]) (rest := []) (r1 := some (.int r1)) rfl rfl rfl (go_recv (by decide) hfx (by decide +kernel)) kx ?_
  refine Go.step (pc1 := 187) rfl rfl rfl rfl ?_
  refine Go.step (pc1 := 188) rfl rfl rfl rfl ?_
  refine Go.step (pc1 := 189) rfl rfl rfl rfl ?_
  refine Go.step (pc1 := 190) rfl rfl rfl rfl ?_
  refine Go.step (pc1 := 191) rfl rfl rfl rfl ?_
  refine Go.step (pc1 := 192) rfl rfl rfl (go_sld (j := 7 * t + 1) ho (law_ix t 1 (by decide)) (by omega) (by omega)) ?_
  refine Go.step (pc1 := 193) rfl rfl rfl rfl ?_
  refine Go.step (pc1 := 194) rfl rfl rfl rfl ?_
  refine Go.step (pc1 := 195) rfl rfl rfl rfl ?_
  refine Go.step (pc1 := 196) rfl rfl rfl rfl ?_
  refine Go.step (pc1 := 197) rfl rfl rfl (go_sld (j := 7 * t + 2) ho (law_ix t 2 (by decide)) (by omega) (by omega)) ?_
  refine Go.step (pc1 := 198) rfl rfl rfl rfl ?_
  refine Go.step (pc1 := 199) rfl rfl rfl rfl ?_
  refine Go.step (pc1 := 200) rfl rfl rfl rfl ?_
  refine Go.step (pc1 := 201) rfl rfl rfl rfl ?_
  refine Go.step (pc1 := 202) rfl rfl rfl (go_sld (j := 7 * t + 3) ho (law_ix t 3 (by decide)) (by omega) (by omega)) ?_
  refine Go.step (pc1 := 203) rfl rfl rfl rfl ?_
  refine Go.step (pc1 := 204) rfl rfl rfl rfl ?_
  refine Go.step (pc1 := 205) rfl rfl rfl rfl ?_
  refine Go.step (pc1 := 206) rfl rfl rfl rfl ?_
  refine Go.step (pc1 := 207) rfl rfl rfl (go_sld (j := 7 * t + 4) ho (law_ix t 4 (by decide)) (by omega) (by omega)) ?_
  refine Go.step (pc1 := 208) rfl rfl rfl rfl ?_
  refine Go.step (pc1 := 209) rfl rfl rfl rfl ?_
  refine Go.step (pc1 := 210) rfl rfl rfl rfl ?_
  refine Go.step (pc1 := 211) rfl rfl rfl rfl ?_
  refine Go.step (pc1 := 212) rfl rfl rfl (go_sld (j := 7 * t + 5) ho (law_ix t 5 (by decide)) (by omega) (by omega)) ?_
  refine Go.step (pc1 := 213) rfl rfl rfl rfl ?_
  refine Go.step (pc1 := 214) rfl rfl rfl rfl ?_
  refine Go.step (pc1 := 216) rfl rfl rfl rfl ?_
  refine Go.step (pc1 := 217) rfl rfl rfl rfl ?_
  refine Go.step (pc1 := 218) rfl rfl rfl (go_sld (j := 7 * t + 6) ho (law_ix t 6 (by decide)) (by omega) (by omega)) ?_
  refine Go.call (q := (69, 0, 332, 23, 0, [])) (vs := .ref m :: [.int (xs (7 * t + 1)), .int (xs (7 * t + 2)), .int (xs (7 * t + 3)), .int (xs (7 * t + 4)), .int (xs (7 * t + 5)), .int (xs (7 * t + 6))]) (rest := [.int r1]) (r1 := some (.int r1)) rfl rfl rfl (go_recv (by decide) hfm (by decide +kernel)) km ?_
  exact Go.step (pc1 := 565) rfl rfl rfl (go_if2t (by simp)) k
set_option maxRecDepth 100000 in
set_option maxHeartbeats 4000000 in
/-- code -/
theorem law_op_2 {o : MjO} {L t x m : Nat} {xs : Nat → Int32} {h h2 h' : MjH} {r : Option Value} (ho : o 0 = some (L, xs)) (hb : 7 * t + 7 ≤ L) (hL : L ≤ 3584) (hc : LawCall o x m 3 24 [.int (xs (7 * t + 1)), .int (xs (7 * t + 2))] h h2) (k : Go o 309 565 [some (.retAddr 0), some (.ref x), some (.ref m), some (.int (nI (7 * t)))] [] h2 r h') : Go o 309 226 [some (.retAddr 0), some (.ref x), some (.ref m), some (.int (nI (7 * t)))] [] h r h' := by
  obtain ⟨r1, h1, f1, f2, hfx, hfm, kx, km⟩ := hc
  refine Go.step (pc1 := 227) rfl rfl rfl rfl ?_
  refine Go.step (pc1 := 228) rfl rfl rfl rfl ?_
  refine Go.step (pc1 := 229) rfl rfl rfl rfl ?_
  refine Go.step (pc1 := 230) rfl rfl rfl rfl ?_
  refine Go.step (pc1 := 231) rfl rfl rfl rfl ?_
  refine Go.step (pc1 := 232) rfl rfl rfl (go_sld (j := 7 * t + 1) ho (law_ix t 1 (by decide)) (by omega) (by omega)) ?_
  refine Go.step (pc1 := 233) rfl rfl rfl rfl ?_
  refine Go.step (pc1 := 234) rfl rfl rfl rfl ?_
  refine Go.step (pc1 := 235) rfl rfl rfl rfl ?_
  refine Go.step (pc1 := 236) rfl rfl rfl rfl ?_
  refine Go.step (pc1 := 237) rfl rfl rfl (go_sld (j := 7 * t + 2) ho (law_ix t 2 (by decide)) (by omega) (by omega)) ?_
  refine Go.call (q := (69, 0, 333, 3, 0, [])) (vs := .ref x :: [.int (xs (7 * t + 1)), .int (xs (7 * t + 2))]) (rest := []) (r1 := some (.int r1)) rfl rfl rfl (go_recv (by decide) hfx (by decide +kernel)) kx ?_
  refine Go.step (pc1 := 241) rfl rfl rfl rfl ?_
  refine Go.step (pc1 := 242) rfl rfl rfl rfl ?_
  refine Go.step (pc1 := 243) rfl rfl rfl rfl ?_
  refine Go.step (pc1 := 244) rfl rfl rfl rfl ?_
  refine Go.step (pc1 := 245) rfl rfl rfl rfl ?_
  refine Go.step (pc1 := 246) rfl rfl rfl (go_sld (j := 7 * t + 1) ho (law_ix t 1 (by decide)) (by omega) (by omega)) ?_
  refine Go.step (pc1 := 247) rfl rfl rfl rfl ?_
  refine Go.step (pc1 := 248) rfl rfl rfl rfl ?_
  refine Go.step (pc1 := 249) rfl rfl rfl rfl ?_
  refine Go.step (pc1 := 250) rfl rfl rfl rfl ?_
  refine Go.step (pc1 := 251) rfl rfl rfl (go_sld (j := 7 * t + 2) ho (law_ix t 2 (by decide)) (by omega) (by omega)) ?_
  refine Go.call (q := (69, 0, 334, 24, 0, [])) (vs := .ref m :: [.int (xs (7 * t + 1)), .int (xs (7 * t + 2))]) (rest := [.int r1]) (r1 := some (.int r1)) rfl rfl rfl (go_recv (by decide) hfm (by decide +kernel)) km ?_
  exact Go.step (pc1 := 565) rfl rfl rfl (go_if2t (by simp)) k
set_option maxRecDepth 100000 in
set_option maxHeartbeats 4000000 in
/-- trap -/
theorem law_op_3 {o : MjO} {L t x m : Nat} {xs : Nat → Int32} {h h2 h' : MjH} {r : Option Value} (ho : o 0 = some (L, xs)) (hb : 7 * t + 7 ≤ L) (hL : L ≤ 3584) (hc : LawCall o x m 4 25 [.int (xs (7 * t + 1)), .int (xs (7 * t + 2)), .int (xs (7 * t + 3)), .int (xs (7 * t + 4))] h h2) (k : Go o 309 565 [some (.retAddr 0), some (.ref x), some (.ref m), some (.int (nI (7 * t)))] [] h2 r h') : Go o 309 259 [some (.retAddr 0), some (.ref x), some (.ref m), some (.int (nI (7 * t)))] [] h r h' := by
  obtain ⟨r1, h1, f1, f2, hfx, hfm, kx, km⟩ := hc
  refine Go.step (pc1 := 260) rfl rfl rfl rfl ?_
  refine Go.step (pc1 := 261) rfl rfl rfl rfl ?_
  refine Go.step (pc1 := 262) rfl rfl rfl rfl ?_
  refine Go.step (pc1 := 263) rfl rfl rfl rfl ?_
  refine Go.step (pc1 := 264) rfl rfl rfl rfl ?_
  refine Go.step (pc1 := 265) rfl rfl rfl (go_sld (j := 7 * t + 1) ho (law_ix t 1 (by decide)) (by omega) (by omega)) ?_
  refine Go.step (pc1 := 266) rfl rfl rfl rfl ?_
  refine Go.step (pc1 := 267) rfl rfl rfl rfl ?_
  refine Go.step (pc1 := 268) rfl rfl rfl rfl ?_
  refine Go.step (pc1 := 269) rfl rfl rfl rfl ?_
  refine Go.step (pc1 := 270) rfl rfl rfl (go_sld (j := 7 * t + 2) ho (law_ix t 2 (by decide)) (by omega) (by omega)) ?_
  refine Go.step (pc1 := 271) rfl rfl rfl rfl ?_
  refine Go.step (pc1 := 272) rfl rfl rfl rfl ?_
  refine Go.step (pc1 := 273) rfl rfl rfl rfl ?_
  refine Go.step (pc1 := 274) rfl rfl rfl rfl ?_
  refine Go.step (pc1 := 275) rfl rfl rfl (go_sld (j := 7 * t + 3) ho (law_ix t 3 (by decide)) (by omega) (by omega)) ?_
  refine Go.step (pc1 := 276) rfl rfl rfl rfl ?_
  refine Go.step (pc1 := 277) rfl rfl rfl rfl ?_
  refine Go.step (pc1 := 278) rfl rfl rfl rfl ?_
  refine Go.step (pc1 := 279) rfl rfl rfl rfl ?_
  refine Go.step (pc1 := 280) rfl rfl rfl (go_sld (j := 7 * t + 4) ho (law_ix t 4 (by decide)) (by omega) (by omega)) ?_
  refine Go.call (q := (69, 0, 335, 4, 0, [])) (vs := .ref x :: [.int (xs (7 * t + 1)), .int (xs (7 * t + 2)), .int (xs (7 * t + 3)), .int (xs (7 * t + 4))]) (rest := []) (r1 := some (.int r1)) rfl rfl rfl (go_recv (by decide) hfx (by decide +kernel)) kx ?_
  refine Go.step (pc1 := 284) rfl rfl rfl rfl ?_
  refine Go.step (pc1 := 285) rfl rfl rfl rfl ?_
  refine Go.step (pc1 := 286) rfl rfl rfl rfl ?_
  refine Go.step (pc1 := 287) rfl rfl rfl rfl ?_
  refine Go.step (pc1 := 288) rfl rfl rfl rfl ?_
  refine Go.step (pc1 := 289) rfl rfl rfl (go_sld (j := 7 * t + 1) ho (law_ix t 1 (by decide)) (by omega) (by omega)) ?_
  refine Go.step (pc1 := 290) rfl rfl rfl rfl ?_
  refine Go.step (pc1 := 291) rfl rfl rfl rfl ?_
  refine Go.step (pc1 := 292) rfl rfl rfl rfl ?_
  refine Go.step (pc1 := 293) rfl rfl rfl rfl ?_
  refine Go.step (pc1 := 294) rfl rfl rfl (go_sld (j := 7 * t + 2) ho (law_ix t 2 (by decide)) (by omega) (by omega)) ?_
  refine Go.step (pc1 := 295) rfl rfl rfl rfl ?_
  refine Go.step (pc1 := 296) rfl rfl rfl rfl ?_
  refine Go.step (pc1 := 297) rfl rfl rfl rfl ?_
  refine Go.step (pc1 := 298) rfl rfl rfl rfl ?_
  refine Go.step (pc1 := 299) rfl rfl rfl (go_sld (j := 7 * t + 3) ho (law_ix t 3 (by decide)) (by omega) (by omega)) ?_
  refine Go.step (pc1 := 300) rfl rfl rfl rfl ?_
  refine Go.step (pc1 := 301) rfl rfl rfl rfl ?_
  refine Go.step (pc1 := 302) rfl rfl rfl rfl ?_
  refine Go.step (pc1 := 303) rfl rfl rfl rfl ?_
  refine Go.step (pc1 := 304) rfl rfl rfl (go_sld (j := 7 * t + 4) ho (law_ix t 4 (by decide)) (by omega) (by omega)) ?_
  refine Go.call (q := (69, 0, 336, 25, 0, [])) (vs := .ref m :: [.int (xs (7 * t + 1)), .int (xs (7 * t + 2)), .int (xs (7 * t + 3)), .int (xs (7 * t + 4))]) (rest := [.int r1]) (r1 := some (.int r1)) rfl rfl rfl (go_recv (by decide) hfm (by decide +kernel)) km ?_
  exact Go.step (pc1 := 565) rfl rfl rfl (go_if2t (by simp)) k
set_option maxRecDepth 100000 in
set_option maxHeartbeats 4000000 in
/-- link -/
theorem law_op_4 {o : MjO} {L t x m : Nat} {xs : Nat → Int32} {h h2 h' : MjH} {r : Option Value} (ho : o 0 = some (L, xs)) (hb : 7 * t + 7 ≤ L) (hL : L ≤ 3584) (hc : LawCall o x m 5 52 [.int (xs (7 * t + 1))] h h2) (k : Go o 309 565 [some (.retAddr 0), some (.ref x), some (.ref m), some (.int (nI (7 * t)))] [] h2 r h') : Go o 309 312 [some (.retAddr 0), some (.ref x), some (.ref m), some (.int (nI (7 * t)))] [] h r h' := by
  obtain ⟨r1, h1, f1, f2, hfx, hfm, kx, km⟩ := hc
  refine Go.step (pc1 := 313) rfl rfl rfl rfl ?_
  refine Go.step (pc1 := 314) rfl rfl rfl rfl ?_
  refine Go.step (pc1 := 315) rfl rfl rfl rfl ?_
  refine Go.step (pc1 := 316) rfl rfl rfl rfl ?_
  refine Go.step (pc1 := 317) rfl rfl rfl rfl ?_
  refine Go.step (pc1 := 318) rfl rfl rfl (go_sld (j := 7 * t + 1) ho (law_ix t 1 (by decide)) (by omega) (by omega)) ?_
  refine Go.call (q := (69, 0, 337, 5, 0, [])) (vs := .ref x :: [.int (xs (7 * t + 1))]) (rest := []) (r1 := some (.int r1)) rfl rfl rfl (go_recv (by decide) hfx (by decide +kernel)) kx ?_
  refine Go.step (pc1 := 322) rfl rfl rfl rfl ?_
  refine Go.step (pc1 := 323) rfl rfl rfl rfl ?_
  refine Go.step (pc1 := 324) rfl rfl rfl rfl ?_
  refine Go.step (pc1 := 325) rfl rfl rfl rfl ?_
  refine Go.step (pc1 := 326) rfl rfl rfl rfl ?_
  refine Go.step (pc1 := 327) rfl rfl rfl (go_sld (j := 7 * t + 1) ho (law_ix t 1 (by decide)) (by omega) (by omega)) ?_
  refine Go.call (q := (69, 0, 338, 52, 0, [])) (vs := .ref m :: [.int (xs (7 * t + 1))]) (rest := [.int r1]) (r1 := some (.int r1)) rfl rfl rfl (go_recv (by decide) hfm (by decide +kernel)) km ?_
  exact Go.step (pc1 := 565) rfl rfl rfl (go_if2t (by simp)) k
set_option maxRecDepth 100000 in
set_option maxHeartbeats 4000000 in
/-- image -/
theorem law_op_5 {o : MjO} {L t x m : Nat} {xs : Nat → Int32} {h h2 h' : MjH} {r : Option Value} (ho : o 0 = some (L, xs)) (hb : 7 * t + 7 ≤ L) (hL : L ≤ 3584) (hc : LawCall o x m 6 53 [.int (xs (7 * t + 1))] h h2) (k : Go o 309 565 [some (.retAddr 0), some (.ref x), some (.ref m), some (.int (nI (7 * t)))] [] h2 r h') : Go o 309 335 [some (.retAddr 0), some (.ref x), some (.ref m), some (.int (nI (7 * t)))] [] h r h' := by
  obtain ⟨r1, h1, f1, f2, hfx, hfm, kx, km⟩ := hc
  refine Go.step (pc1 := 336) rfl rfl rfl rfl ?_
  refine Go.step (pc1 := 337) rfl rfl rfl rfl ?_
  refine Go.step (pc1 := 338) rfl rfl rfl rfl ?_
  refine Go.step (pc1 := 339) rfl rfl rfl rfl ?_
  refine Go.step (pc1 := 340) rfl rfl rfl rfl ?_
  refine Go.step (pc1 := 341) rfl rfl rfl (go_sld (j := 7 * t + 1) ho (law_ix t 1 (by decide)) (by omega) (by omega)) ?_
  refine Go.call (q := (69, 0, 339, 6, 0, [])) (vs := .ref x :: [.int (xs (7 * t + 1))]) (rest := []) (r1 := some (.int r1)) rfl rfl rfl (go_recv (by decide) hfx (by decide +kernel)) kx ?_
  refine Go.step (pc1 := 345) rfl rfl rfl rfl ?_
  refine Go.step (pc1 := 346) rfl rfl rfl rfl ?_
  refine Go.step (pc1 := 347) rfl rfl rfl rfl ?_
  refine Go.step (pc1 := 348) rfl rfl rfl rfl ?_
  refine Go.step (pc1 := 349) rfl rfl rfl rfl ?_
  refine Go.step (pc1 := 350) rfl rfl rfl (go_sld (j := 7 * t + 1) ho (law_ix t 1 (by decide)) (by omega) (by omega)) ?_
  refine Go.call (q := (69, 0, 340, 53, 0, [])) (vs := .ref m :: [.int (xs (7 * t + 1))]) (rest := [.int r1]) (r1 := some (.int r1)) rfl rfl rfl (go_recv (by decide) hfm (by decide +kernel)) km ?_
  exact Go.step (pc1 := 565) rfl rfl rfl (go_if2t (by simp)) k
set_option maxRecDepth 100000 in
set_option maxHeartbeats 4000000 in
/-- feed -/
theorem law_op_6 {o : MjO} {L t x m : Nat} {xs : Nat → Int32} {h h2 h' : MjH} {r : Option Value} (ho : o 0 = some (L, xs)) (hb : 7 * t + 7 ≤ L) (hL : L ≤ 3584) (hc : LawCall o x m 7 54 [.int (xs (7 * t + 1))] h h2) (k : Go o 309 565 [some (.retAddr 0), some (.ref x), some (.ref m), some (.int (nI (7 * t)))] [] h2 r h') : Go o 309 358 [some (.retAddr 0), some (.ref x), some (.ref m), some (.int (nI (7 * t)))] [] h r h' := by
  obtain ⟨r1, h1, f1, f2, hfx, hfm, kx, km⟩ := hc
  refine Go.step (pc1 := 359) rfl rfl rfl rfl ?_
  refine Go.step (pc1 := 360) rfl rfl rfl rfl ?_
  refine Go.step (pc1 := 361) rfl rfl rfl rfl ?_
  refine Go.step (pc1 := 362) rfl rfl rfl rfl ?_
  refine Go.step (pc1 := 363) rfl rfl rfl rfl ?_
  refine Go.step (pc1 := 364) rfl rfl rfl (go_sld (j := 7 * t + 1) ho (law_ix t 1 (by decide)) (by omega) (by omega)) ?_
  refine Go.call (q := (69, 0, 341, 7, 0, [])) (vs := .ref x :: [.int (xs (7 * t + 1))]) (rest := []) (r1 := some (.int r1)) rfl rfl rfl (go_recv (by decide) hfx (by decide +kernel)) kx ?_
  refine Go.step (pc1 := 368) rfl rfl rfl rfl ?_
  refine Go.step (pc1 := 369) rfl rfl rfl rfl ?_
  refine Go.step (pc1 := 370) rfl rfl rfl rfl ?_
  refine Go.step (pc1 := 371) rfl rfl rfl rfl ?_
  refine Go.step (pc1 := 372) rfl rfl rfl rfl ?_
  refine Go.step (pc1 := 373) rfl rfl rfl (go_sld (j := 7 * t + 1) ho (law_ix t 1 (by decide)) (by omega) (by omega)) ?_
  refine Go.call (q := (69, 0, 342, 54, 0, [])) (vs := .ref m :: [.int (xs (7 * t + 1))]) (rest := [.int r1]) (r1 := some (.int r1)) rfl rfl rfl (go_recv (by decide) hfm (by decide +kernel)) km ?_
  exact Go.step (pc1 := 565) rfl rfl rfl (go_if2t (by simp)) k
set_option maxRecDepth 100000 in
set_option maxHeartbeats 4000000 in
/-- check -/
theorem law_op_7 {o : MjO} {L t x m : Nat} {xs : Nat → Int32} {h h2 h' : MjH} {r : Option Value} (ho : o 0 = some (L, xs)) (hb : 7 * t + 7 ≤ L) (hL : L ≤ 3584) (hc : LawCall o x m 8 55 [] h h2) (k : Go o 309 565 [some (.retAddr 0), some (.ref x), some (.ref m), some (.int (nI (7 * t)))] [] h2 r h') : Go o 309 381 [some (.retAddr 0), some (.ref x), some (.ref m), some (.int (nI (7 * t)))] [] h r h' := by
  obtain ⟨r1, h1, f1, f2, hfx, hfm, kx, km⟩ := hc
  refine Go.step (pc1 := 382) rfl rfl rfl rfl ?_
  refine Go.call (q := (69, 0, 343, 8, 0, [])) (vs := .ref x :: []) (rest := []) (r1 := some (.int r1)) rfl rfl rfl (go_recv (by decide) hfx (by decide +kernel)) kx ?_
  refine Go.step (pc1 := 386) rfl rfl rfl rfl ?_
  refine Go.call (q := (69, 0, 344, 55, 0, [])) (vs := .ref m :: []) (rest := [.int r1]) (r1 := some (.int r1)) rfl rfl rfl (go_recv (by decide) hfm (by decide +kernel)) km ?_
  exact Go.step (pc1 := 565) rfl rfl rfl (go_if2t (by simp)) k
set_option maxRecDepth 100000 in
set_option maxHeartbeats 4000000 in
/-- boot -/
theorem law_op_8 {o : MjO} {L t x m : Nat} {xs : Nat → Int32} {h h2 h' : MjH} {r : Option Value} (ho : o 0 = some (L, xs)) (hb : 7 * t + 7 ≤ L) (hL : L ≤ 3584) (hc : LawCall o x m 9 59 [.int (xs (7 * t + 1)), .int (xs (7 * t + 2))] h h2) (k : Go o 309 565 [some (.retAddr 0), some (.ref x), some (.ref m), some (.int (nI (7 * t)))] [] h2 r h') : Go o 309 394 [some (.retAddr 0), some (.ref x), some (.ref m), some (.int (nI (7 * t)))] [] h r h' := by
  obtain ⟨r1, h1, f1, f2, hfx, hfm, kx, km⟩ := hc
  refine Go.step (pc1 := 395) rfl rfl rfl rfl ?_
  refine Go.step (pc1 := 396) rfl rfl rfl rfl ?_
  refine Go.step (pc1 := 397) rfl rfl rfl rfl ?_
  refine Go.step (pc1 := 398) rfl rfl rfl rfl ?_
  refine Go.step (pc1 := 399) rfl rfl rfl rfl ?_
  refine Go.step (pc1 := 400) rfl rfl rfl (go_sld (j := 7 * t + 1) ho (law_ix t 1 (by decide)) (by omega) (by omega)) ?_
  refine Go.step (pc1 := 401) rfl rfl rfl rfl ?_
  refine Go.step (pc1 := 402) rfl rfl rfl rfl ?_
  refine Go.step (pc1 := 403) rfl rfl rfl rfl ?_
  refine Go.step (pc1 := 404) rfl rfl rfl rfl ?_
  refine Go.step (pc1 := 405) rfl rfl rfl (go_sld (j := 7 * t + 2) ho (law_ix t 2 (by decide)) (by omega) (by omega)) ?_
  refine Go.call (q := (69, 0, 345, 9, 0, [])) (vs := .ref x :: [.int (xs (7 * t + 1)), .int (xs (7 * t + 2))]) (rest := []) (r1 := some (.int r1)) rfl rfl rfl (go_recv (by decide) hfx (by decide +kernel)) kx ?_
  refine Go.step (pc1 := 409) rfl rfl rfl rfl ?_
  refine Go.step (pc1 := 410) rfl rfl rfl rfl ?_
  refine Go.step (pc1 := 411) rfl rfl rfl rfl ?_
  refine Go.step (pc1 := 412) rfl rfl rfl rfl ?_
  refine Go.step (pc1 := 413) rfl rfl rfl rfl ?_
  refine Go.step (pc1 := 414) rfl rfl rfl (go_sld (j := 7 * t + 1) ho (law_ix t 1 (by decide)) (by omega) (by omega)) ?_
  refine Go.step (pc1 := 415) rfl rfl rfl rfl ?_
  refine Go.step (pc1 := 416) rfl rfl rfl rfl ?_
  refine Go.step (pc1 := 417) rfl rfl rfl rfl ?_
  refine Go.step (pc1 := 418) rfl rfl rfl rfl ?_
  refine Go.step (pc1 := 419) rfl rfl rfl (go_sld (j := 7 * t + 2) ho (law_ix t 2 (by decide)) (by omega) (by omega)) ?_
  refine Go.call (q := (69, 0, 346, 59, 0, [])) (vs := .ref m :: [.int (xs (7 * t + 1)), .int (xs (7 * t + 2))]) (rest := [.int r1]) (r1 := some (.int r1)) rfl rfl rfl (go_recv (by decide) hfm (by decide +kernel)) km ?_
  exact Go.step (pc1 := 565) rfl rfl rfl (go_if2t (by simp)) k
set_option maxRecDepth 100000 in
set_option maxHeartbeats 4000000 in
/-- input -/
theorem law_op_9 {o : MjO} {L t x m : Nat} {xs : Nat → Int32} {h h2 h' : MjH} {r : Option Value} (ho : o 0 = some (L, xs)) (hb : 7 * t + 7 ≤ L) (hL : L ≤ 3584) (hc : LawCall o x m 10 62 [.int (xs (7 * t + 1))] h h2) (k : Go o 309 565 [some (.retAddr 0), some (.ref x), some (.ref m), some (.int (nI (7 * t)))] [] h2 r h') : Go o 309 427 [some (.retAddr 0), some (.ref x), some (.ref m), some (.int (nI (7 * t)))] [] h r h' := by
  obtain ⟨r1, h1, f1, f2, hfx, hfm, kx, km⟩ := hc
  refine Go.step (pc1 := 428) rfl rfl rfl rfl ?_
  refine Go.step (pc1 := 429) rfl rfl rfl rfl ?_
  refine Go.step (pc1 := 430) rfl rfl rfl rfl ?_
  refine Go.step (pc1 := 431) rfl rfl rfl rfl ?_
  refine Go.step (pc1 := 432) rfl rfl rfl rfl ?_
  refine Go.step (pc1 := 433) rfl rfl rfl (go_sld (j := 7 * t + 1) ho (law_ix t 1 (by decide)) (by omega) (by omega)) ?_
  refine Go.call (q := (69, 0, 347, 10, 0, [])) (vs := .ref x :: [.int (xs (7 * t + 1))]) (rest := []) (r1 := some (.int r1)) rfl rfl rfl (go_recv (by decide) hfx (by decide +kernel)) kx ?_
  refine Go.step (pc1 := 437) rfl rfl rfl rfl ?_
  refine Go.step (pc1 := 438) rfl rfl rfl rfl ?_
  refine Go.step (pc1 := 439) rfl rfl rfl rfl ?_
  refine Go.step (pc1 := 440) rfl rfl rfl rfl ?_
  refine Go.step (pc1 := 441) rfl rfl rfl rfl ?_
  refine Go.step (pc1 := 442) rfl rfl rfl (go_sld (j := 7 * t + 1) ho (law_ix t 1 (by decide)) (by omega) (by omega)) ?_
  refine Go.call (q := (69, 0, 348, 62, 0, [])) (vs := .ref m :: [.int (xs (7 * t + 1))]) (rest := [.int r1]) (r1 := some (.int r1)) rfl rfl rfl (go_recv (by decide) hfm (by decide +kernel)) km ?_
  exact Go.step (pc1 := 565) rfl rfl rfl (go_if2t (by simp)) k
set_option maxRecDepth 100000 in
set_option maxHeartbeats 4000000 in
/-- run -/
theorem law_op_10 {o : MjO} {L t x m : Nat} {xs : Nat → Int32} {h h2 h' : MjH} {r : Option Value} (ho : o 0 = some (L, xs)) (hb : 7 * t + 7 ≤ L) (hL : L ≤ 3584) (hc : LawCall o x m 11 98 [.int (xs (7 * t + 1))] h h2) (k : Go o 309 565 [some (.retAddr 0), some (.ref x), some (.ref m), some (.int (nI (7 * t)))] [] h2 r h') : Go o 309 450 [some (.retAddr 0), some (.ref x), some (.ref m), some (.int (nI (7 * t)))] [] h r h' := by
  obtain ⟨r1, h1, f1, f2, hfx, hfm, kx, km⟩ := hc
  refine Go.step (pc1 := 451) rfl rfl rfl rfl ?_
  refine Go.step (pc1 := 452) rfl rfl rfl rfl ?_
  refine Go.step (pc1 := 453) rfl rfl rfl rfl ?_
  refine Go.step (pc1 := 454) rfl rfl rfl rfl ?_
  refine Go.step (pc1 := 455) rfl rfl rfl rfl ?_
  refine Go.step (pc1 := 456) rfl rfl rfl (go_sld (j := 7 * t + 1) ho (law_ix t 1 (by decide)) (by omega) (by omega)) ?_
  refine Go.call (q := (69, 0, 349, 11, 0, [])) (vs := .ref x :: [.int (xs (7 * t + 1))]) (rest := []) (r1 := some (.int r1)) rfl rfl rfl (go_recv (by decide) hfx (by decide +kernel)) kx ?_
  refine Go.step (pc1 := 460) rfl rfl rfl rfl ?_
  refine Go.step (pc1 := 461) rfl rfl rfl rfl ?_
  refine Go.step (pc1 := 462) rfl rfl rfl rfl ?_
  refine Go.step (pc1 := 463) rfl rfl rfl rfl ?_
  refine Go.step (pc1 := 464) rfl rfl rfl rfl ?_
  refine Go.step (pc1 := 465) rfl rfl rfl (go_sld (j := 7 * t + 1) ho (law_ix t 1 (by decide)) (by omega) (by omega)) ?_
  refine Go.call (q := (69, 0, 350, 98, 0, [])) (vs := .ref m :: [.int (xs (7 * t + 1))]) (rest := [.int r1]) (r1 := some (.int r1)) rfl rfl rfl (go_recv (by decide) hfm (by decide +kernel)) km ?_
  exact Go.step (pc1 := 565) rfl rfl rfl (go_if2t (by simp)) k
set_option maxRecDepth 100000 in
set_option maxHeartbeats 4000000 in
/-- out -/
theorem law_op_11 {o : MjO} {L t x m : Nat} {xs : Nat → Int32} {h h2 h' : MjH} {r : Option Value} (ho : o 0 = some (L, xs)) (hb : 7 * t + 7 ≤ L) (hL : L ≤ 3584) (hc : LawCall o x m 12 99 [.int (xs (7 * t + 1))] h h2) (k : Go o 309 565 [some (.retAddr 0), some (.ref x), some (.ref m), some (.int (nI (7 * t)))] [] h2 r h') : Go o 309 473 [some (.retAddr 0), some (.ref x), some (.ref m), some (.int (nI (7 * t)))] [] h r h' := by
  obtain ⟨r1, h1, f1, f2, hfx, hfm, kx, km⟩ := hc
  refine Go.step (pc1 := 474) rfl rfl rfl rfl ?_
  refine Go.step (pc1 := 475) rfl rfl rfl rfl ?_
  refine Go.step (pc1 := 476) rfl rfl rfl rfl ?_
  refine Go.step (pc1 := 477) rfl rfl rfl rfl ?_
  refine Go.step (pc1 := 478) rfl rfl rfl rfl ?_
  refine Go.step (pc1 := 479) rfl rfl rfl (go_sld (j := 7 * t + 1) ho (law_ix t 1 (by decide)) (by omega) (by omega)) ?_
  refine Go.call (q := (69, 0, 351, 12, 0, [])) (vs := .ref x :: [.int (xs (7 * t + 1))]) (rest := []) (r1 := some (.int r1)) rfl rfl rfl (go_recv (by decide) hfx (by decide +kernel)) kx ?_
  refine Go.step (pc1 := 483) rfl rfl rfl rfl ?_
  refine Go.step (pc1 := 484) rfl rfl rfl rfl ?_
  refine Go.step (pc1 := 485) rfl rfl rfl rfl ?_
  refine Go.step (pc1 := 486) rfl rfl rfl rfl ?_
  refine Go.step (pc1 := 487) rfl rfl rfl rfl ?_
  refine Go.step (pc1 := 488) rfl rfl rfl (go_sld (j := 7 * t + 1) ho (law_ix t 1 (by decide)) (by omega) (by omega)) ?_
  refine Go.call (q := (69, 0, 352, 99, 0, [])) (vs := .ref m :: [.int (xs (7 * t + 1))]) (rest := [.int r1]) (r1 := some (.int r1)) rfl rfl rfl (go_recv (by decide) hfm (by decide +kernel)) km ?_
  exact Go.step (pc1 := 565) rfl rfl rfl (go_if2t (by simp)) k
set_option maxRecDepth 100000 in
set_option maxHeartbeats 4000000 in
/-- thread -/
theorem law_op_12 {o : MjO} {L t x m : Nat} {xs : Nat → Int32} {h h2 h' : MjH} {r : Option Value} (ho : o 0 = some (L, xs)) (hb : 7 * t + 7 ≤ L) (hL : L ≤ 3584) (hc : LawCall o x m 13 100 [.int (xs (7 * t + 1)), .int (xs (7 * t + 2))] h h2) (k : Go o 309 565 [some (.retAddr 0), some (.ref x), some (.ref m), some (.int (nI (7 * t)))] [] h2 r h') : Go o 309 496 [some (.retAddr 0), some (.ref x), some (.ref m), some (.int (nI (7 * t)))] [] h r h' := by
  obtain ⟨r1, h1, f1, f2, hfx, hfm, kx, km⟩ := hc
  refine Go.step (pc1 := 497) rfl rfl rfl rfl ?_
  refine Go.step (pc1 := 498) rfl rfl rfl rfl ?_
  refine Go.step (pc1 := 499) rfl rfl rfl rfl ?_
  refine Go.step (pc1 := 500) rfl rfl rfl rfl ?_
  refine Go.step (pc1 := 501) rfl rfl rfl rfl ?_
  refine Go.step (pc1 := 502) rfl rfl rfl (go_sld (j := 7 * t + 1) ho (law_ix t 1 (by decide)) (by omega) (by omega)) ?_
  refine Go.step (pc1 := 503) rfl rfl rfl rfl ?_
  refine Go.step (pc1 := 504) rfl rfl rfl rfl ?_
  refine Go.step (pc1 := 505) rfl rfl rfl rfl ?_
  refine Go.step (pc1 := 506) rfl rfl rfl rfl ?_
  refine Go.step (pc1 := 507) rfl rfl rfl (go_sld (j := 7 * t + 2) ho (law_ix t 2 (by decide)) (by omega) (by omega)) ?_
  refine Go.call (q := (69, 0, 353, 13, 0, [])) (vs := .ref x :: [.int (xs (7 * t + 1)), .int (xs (7 * t + 2))]) (rest := []) (r1 := some (.int r1)) rfl rfl rfl (go_recv (by decide) hfx (by decide +kernel)) kx ?_
  refine Go.step (pc1 := 511) rfl rfl rfl rfl ?_
  refine Go.step (pc1 := 512) rfl rfl rfl rfl ?_
  refine Go.step (pc1 := 513) rfl rfl rfl rfl ?_
  refine Go.step (pc1 := 514) rfl rfl rfl rfl ?_
  refine Go.step (pc1 := 515) rfl rfl rfl rfl ?_
  refine Go.step (pc1 := 516) rfl rfl rfl (go_sld (j := 7 * t + 1) ho (law_ix t 1 (by decide)) (by omega) (by omega)) ?_
  refine Go.step (pc1 := 517) rfl rfl rfl rfl ?_
  refine Go.step (pc1 := 518) rfl rfl rfl rfl ?_
  refine Go.step (pc1 := 519) rfl rfl rfl rfl ?_
  refine Go.step (pc1 := 520) rfl rfl rfl rfl ?_
  refine Go.step (pc1 := 521) rfl rfl rfl (go_sld (j := 7 * t + 2) ho (law_ix t 2 (by decide)) (by omega) (by omega)) ?_
  refine Go.call (q := (69, 0, 354, 100, 0, [])) (vs := .ref m :: [.int (xs (7 * t + 1)), .int (xs (7 * t + 2))]) (rest := [.int r1]) (r1 := some (.int r1)) rfl rfl rfl (go_recv (by decide) hfm (by decide +kernel)) km ?_
  exact Go.step (pc1 := 565) rfl rfl rfl (go_if2t (by simp)) k
set_option maxRecDepth 100000 in
set_option maxHeartbeats 4000000 in
/-- sound -/
theorem law_op_13 {o : MjO} {L t x m : Nat} {xs : Nat → Int32} {h h2 h' : MjH} {r : Option Value} (ho : o 0 = some (L, xs)) (hb : 7 * t + 7 ≤ L) (hL : L ≤ 3584) (hc : LawCall o x m 14 101 [] h h2) (k : Go o 309 565 [some (.retAddr 0), some (.ref x), some (.ref m), some (.int (nI (7 * t)))] [] h2 r h') : Go o 309 529 [some (.retAddr 0), some (.ref x), some (.ref m), some (.int (nI (7 * t)))] [] h r h' := by
  obtain ⟨r1, h1, f1, f2, hfx, hfm, kx, km⟩ := hc
  refine Go.step (pc1 := 530) rfl rfl rfl rfl ?_
  refine Go.call (q := (69, 0, 355, 14, 0, [])) (vs := .ref x :: []) (rest := []) (r1 := some (.int r1)) rfl rfl rfl (go_recv (by decide) hfx (by decide +kernel)) kx ?_
  refine Go.step (pc1 := 534) rfl rfl rfl rfl ?_
  refine Go.call (q := (69, 0, 356, 101, 0, [])) (vs := .ref m :: []) (rest := [.int r1]) (r1 := some (.int r1)) rfl rfl rfl (go_recv (by decide) hfm (by decide +kernel)) km ?_
  exact Go.step (pc1 := 565) rfl rfl rfl (go_if2t (by simp)) k
set_option maxRecDepth 100000 in
set_option maxHeartbeats 4000000 in
/-- told -/
theorem law_op_14 {o : MjO} {L t x m : Nat} {xs : Nat → Int32} {h h2 h' : MjH} {r : Option Value} (ho : o 0 = some (L, xs)) (hb : 7 * t + 7 ≤ L) (hL : L ≤ 3584) (hc : LawCall o x m 15 102 [.int (xs (7 * t + 1))] h h2) (k : Go o 309 565 [some (.retAddr 0), some (.ref x), some (.ref m), some (.int (nI (7 * t)))] [] h2 r h') : Go o 309 542 [some (.retAddr 0), some (.ref x), some (.ref m), some (.int (nI (7 * t)))] [] h r h' := by
  obtain ⟨r1, h1, f1, f2, hfx, hfm, kx, km⟩ := hc
  refine Go.step (pc1 := 543) rfl rfl rfl rfl ?_
  refine Go.step (pc1 := 544) rfl rfl rfl rfl ?_
  refine Go.step (pc1 := 545) rfl rfl rfl rfl ?_
  refine Go.step (pc1 := 546) rfl rfl rfl rfl ?_
  refine Go.step (pc1 := 547) rfl rfl rfl rfl ?_
  refine Go.step (pc1 := 548) rfl rfl rfl (go_sld (j := 7 * t + 1) ho (law_ix t 1 (by decide)) (by omega) (by omega)) ?_
  refine Go.call (q := (69, 0, 357, 15, 0, [])) (vs := .ref x :: [.int (xs (7 * t + 1))]) (rest := []) (r1 := some (.int r1)) rfl rfl rfl (go_recv (by decide) hfx (by decide +kernel)) kx ?_
  refine Go.step (pc1 := 552) rfl rfl rfl rfl ?_
  refine Go.step (pc1 := 553) rfl rfl rfl rfl ?_
  refine Go.step (pc1 := 554) rfl rfl rfl rfl ?_
  refine Go.step (pc1 := 555) rfl rfl rfl rfl ?_
  refine Go.step (pc1 := 556) rfl rfl rfl rfl ?_
  refine Go.step (pc1 := 557) rfl rfl rfl (go_sld (j := 7 * t + 1) ho (law_ix t 1 (by decide)) (by omega) (by omega)) ?_
  refine Go.call (q := (69, 0, 358, 102, 0, [])) (vs := .ref m :: [.int (xs (7 * t + 1))]) (rest := [.int r1]) (r1 := some (.int r1)) rfl rfl rfl (go_recv (by decide) hfm (by decide +kernel)) km ?_
  exact Go.step (pc1 := 565) rfl rfl rfl (go_if2t (by simp)) k
