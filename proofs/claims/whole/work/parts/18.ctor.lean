/-! THE TWO CONSTRUCTORS, run by the kernel: what the cells hold behind them -/
def mjHX : MjH := ((mjRun mjNone 4000 0 0 [some (.ref 0)] [] [.inr (11, mjDef 11)]).getD (none, [])).2
def mjH0 : MjH := ((mjRun mjNone 4000 20 0 [some (.ref 60)] [] (mjHX ++ [.inr (12, mjDef 12)])).getD (none, [])).2
theorem mjHX_ok : ((mjRun mjNone 4000 0 0 [some (.ref 0)] [] [.inr (11, mjDef 11)]).map (fun q => (q.1, q.2.length))) = some (none, 60) := by decide +kernel
theorem mjH0_ok : ((mjRun mjNone 4000 20 0 [some (.ref 60)] [] (mjHX ++ [.inr (12, mjDef 12)])).map (fun q => (q.1, q.2.length, mjSlots q.2))) = some (none, 130, 65646) := by decide +kernel
def mjObjAt (h : MjH) (a : Nat) : Option (Nat × List Value) := match h[a]? with
  | some (.inr q) => some q
  | _ => none
def mjArrChk (h : MjH) (a t n : Nat) (v : Nat → Int32) : Bool := match h[a]? with
  | some (.inl (t', n', .inl f)) => t' == t && n' == n && (List.range n).all (fun j => f j == v j)
  | _ => false
def mjRefChk (h : MjH) (a t n : Nat) : Bool := match h[a]? with
  | some (.inl (t', n', .inr (.inr (.inr (.inr f))))) => t' == t && n' == n && (List.range n).all (fun j => (f j).isNone)
  | _ => false
theorem mjObjAt_ok {h : MjH} {a : Nat} {q : Nat × List Value} (e : mjObjAt h a = some q) : h[a]? = some (.inr q) := by
  unfold mjObjAt at e
  split at e
  · rename_i q' hq
    cases e
    exact hq
  · cases e
theorem mjArrChk_ok {h : MjH} {a t n : Nat} {v : Nat → Int32} (e : mjArrChk h a t n v = true) : ∃ f, h[a]? = some (.inl (t, n, .inl f)) ∧ ∀ j, j < n → f j = v j := by
  unfold mjArrChk at e
  split at e
  · rename_i t' n' f hq
    obtain ⟨e1, e2⟩ := Bool.and_eq_true_iff.mp e
    obtain ⟨e3, e4⟩ := Bool.and_eq_true_iff.mp e1
    obtain rfl := eq_of_beq e3
    obtain rfl := eq_of_beq e4
    exact ⟨f, hq, fun j hj => eq_of_beq (List.all_eq_true.mp e2 j (List.mem_range.mpr hj))⟩
  · cases e
theorem mjRefChk_ok {h : MjH} {a t n : Nat} (e : mjRefChk h a t n = true) : ∃ f, h[a]? = some (.inl (t, n, .inr (.inr (.inr (.inr f))))) ∧ ∀ j, j < n → f j = none := by
  unfold mjRefChk at e
  split at e
  · rename_i t' n' f hq
    obtain ⟨e1, e2⟩ := Bool.and_eq_true_iff.mp e
    obtain ⟨e3, e4⟩ := Bool.and_eq_true_iff.mp e1
    obtain rfl := eq_of_beq e3
    obtain rfl := eq_of_beq e4
    exact ⟨f, hq, fun j hj => Option.isNone_iff_eq_none.mp (List.all_eq_true.mp e2 j (List.mem_range.mpr hj))⟩
  · cases e
def mjObj0 : List (Nat × Nat × List Value) := [(0, 11, [.ref 1, .ref 10, .ref 30, .ref 35, .ref 40, .ref 59]),
  (1, 8, [.ref 2, .int 0, .int 0, .ref 3, .ref 4, .ref 5, .ref 6, .ref 7, .ref 8, .ref 9]),
  (10, 3, [.ref 1, .ref 14, .ref 22, .ref 11, .ref 12, .ref 13]),
  (14, 6, [.int 0, .int 0, .ref 1, .ref 15, .ref 16, .ref 17, .ref 18, .ref 19, .ref 20, .ref 21]),
  (22, 1, [.int 0, .ref 1, .ref 23, .ref 24, .ref 25, .ref 26, .ref 27, .ref 28, .ref 29, .int 0, .int 0]),
  (30, 2, [.int 0, .int 5663, .ref 31, .ref 32, .ref 33, .ref 34]),
  (35, 2, [.int 0, .int 6000, .ref 36, .ref 37, .ref 38, .ref 39]),
  (40, 0, [.int 0, .int 0, .int 0, .ref 41, .ref 47, .ref 50, .ref 51, .ref 56, .ref 57, .ref 58, .int 0, .int 0]),
  (41, 4, [.int 0, .ref 42, .ref 43, .ref 44, .ref 45, .ref 46, .int 0, .int 1, .int 0]),
  (47, 5, [.int 0, .int 0, .int 0, .ref 48, .ref 49]),
  (51, 2, [.int 0, .int 5663, .ref 52, .ref 53, .ref 54, .ref 55]),
  (59, 10, [.int 0, .ref 40, .int 0, .int 0, .int 0]),
  (60, 12, [.ref 61, .ref 62, .ref 63, .int 0, .ref 64, .ref 65, .ref 66, .ref 67, .ref 68, .ref 69, .ref 70, .ref 71, .ref 72, .ref 73, .ref 74, .int 0, .ref 75, .ref 76, .ref 77, .ref 78, .ref 79, .ref 80, .int 0, .int 0, .ref 81, .ref 82, .ref 83, .ref 84, .ref 85, .ref 86, .int 0, .ref 87, .int 0, .ref 88, .ref 89, .ref 90, .ref 91, .int 0, .ref 92, .int 0, .ref 93, .ref 94, .int 0, .ref 95, .ref 96, .ref 97, .ref 98, .ref 99, .ref 100, .ref 101, .ref 102, .ref 103, .ref 104, .ref 105, .ref 106, .ref 107, .ref 108, .int 0, .int 0, .int 0, .long 0, .int 0, .int 0, .int 0, .int 0, .ref 109, .ref 110, .ref 111, .ref 112, .ref 113, .ref 114, .ref 115, .ref 116, .ref 117, .ref 118, .ref 119, .int 0, .ref 120, .int 0, .ref 121, .ref 122, .ref 123, .ref 124, .ref 125, .ref 126, .ref 127, .int 0, .int 0, .int 0, .int 0, .int 0, .int 0, .ref 128, .int 0, .ref 129, .int 0])]
/-- address, kind, length, what all places hold -/
def mjArr0 : List (Nat × Nat × Nat × Int32) := [(3, 0, 10, 0), (4, 0, 10, 0), (5, 0, 10, 0), (6, 0, 10, 0), (7, 0, 10, 0), (8, 0, 80, -1), (9, 0, 8, -1), (11, 1, 1440, 0), (12, 0, 24, 0), (13, 0, 61, 0), (15, 1, 10, 0), (16, 1, 10, 0), (17, 1, 24, 0), (18, 1, 24, 0), (19, 1, 8, 0), (20, 0, 10, 0), (21, 0, 24, 0), (23, 1, 60, 0), (24, 1, 60, 0), (25, 0, 60, 0), (26, 0, 600, 0), (27, 0, 720, 0), (28, 0, 10, 0), (29, 0, 12, 0), (31, 0, 64, 0), (32, 0, 24, 0), (33, 0, 8, 0), (34, 0, 10, 0), (36, 0, 64, 0), (37, 0, 24, 0), (38, 0, 8, 0), (39, 0, 10, 0), (42, 2, 0, 0), (43, 0, 0, 0), (44, 1, 0, 0), (45, 0, 10, 0), (46, 0, 10, 0), (48, 0, 100, 0), (49, 0, 300, 0), (52, 0, 64, 0), (53, 0, 24, 0), (54, 0, 8, 0), (55, 0, 10, 0), (56, 0, 8, 0), (57, 0, 8, 0), (58, 0, 8, 1), (61, 0, 10, 0), (62, 0, 10, 0), (63, 0, 10, 0), (64, 0, 24, 0), (65, 0, 24, 0), (66, 0, 24, 0), (67, 0, 24, 0), (68, 0, 24, 0), (69, 0, 24, 0), (70, 0, 24, 0), (71, 0, 1440, 0), (72, 0, 1440, 0), (73, 0, 24, 0), (74, 0, 576, 0), (75, 1, 24, 0), (76, 1, 10, 0), (77, 1, 10, 0), (78, 1, 8, 0), (79, 0, 24, 0), (80, 0, 10, 0), (81, 1, 60, 0), (82, 1, 60, 0), (83, 0, 60, 0), (84, 0, 600, 0), (85, 0, 720, 0), (86, 0, 16, 0), (87, 0, 12, 0), (88, 1, 1440, 0), (89, 0, 24, 0), (91, 0, 8000, 0), (92, 0, 8000, 0), (93, 0, 61, 0), (94, 0, 6000, 0), (95, 0, 20, 0), (96, 0, 20, 0), (97, 0, 20, 0), (98, 0, 160, 0), (99, 0, 48, 0), (100, 0, 48, 0), (101, 0, 48, 0), (102, 0, 48, 0), (103, 0, 2880, 0), (104, 0, 2880, 0), (105, 0, 48, 0), (106, 0, 1152, 0), (107, 0, 2, 0), (108, 0, 2880, 0), (109, 0, 6, 0), (110, 0, 6, 0), (111, 0, 6, 0), (112, 0, 120, 0), (113, 0, 120, 0), (114, 0, 120, 0), (115, 0, 2640, 0), (116, 1, 2640, 0), (117, 0, 8, 0), (118, 0, 8, 0), (119, 0, 100, 0), (120, 0, 300, 0), (121, 0, 1002, 0), (122, 0, 1002, 0), (123, 0, 1002, 0), (124, 0, 1002, 0), (125, 0, 1002, 0), (126, 1, 1002, 0), (127, 0, 8200, 0), (128, 0, 1002, 0), (129, 0, 1002, 0)]
theorem mjObj0_ok : (mjObj0.all fun q => decide (mjObjAt mjH0 q.1 = some q.2)) = true := by decide +kernel
theorem mjArr0_ok : (mjArr0.all fun q => mjArrChk mjH0 q.1 q.2.1 q.2.2.1 (fun _ => q.2.2.2)) = true := by decide +kernel
theorem mjArr0_90 : mjArrChk mjH0 90 0 10 (fun j => [2, 0, 0, 0, 0, 0, 0, 0, 0, 0].getD j 0) = true := by decide +kernel
theorem mjRef0_2 : mjRefChk mjH0 2 3 24 = true := by decide +kernel
theorem mjRef0_50 : mjRefChk mjH0 50 4 6 = true := by decide +kernel
