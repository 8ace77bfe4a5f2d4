/-! T8 -/
/-- an instruction of the class, and what follows it -/
def dX (a : Nat) (x7 p x : Int32) (X1 : XS) : Option (Int32 × XS) := (if 3 < x7 then (if 15 < x7 then (if f_P_jumps x7 = true then ((f_Engine_doJump a x7 p X1).bind fun x12 => some (x12.1, x12.2)) else (if x7 = 26 then ((f_Image_at_51 (p + 1) X1).bind fun x15 => ((f_Engine_doMake a x7 x15 X1).bind fun x16 => some (x16.1, x16.2))) else (if x7 = 31 then ((f_Image_at_51 (p + 1) X1).bind fun x18 => ((f_Engine_doMake a x7 x18 X1).bind fun x19 => some (x19.1, x19.2))) else (if ¬ x7 = 35 then (if f_P_usesField x7 = true then ((f_Engine_doField a x7 p X1).bind fun x23 => some (x23.1, x23.2)) else (if ¬ x7 = 34 then (if 32 ≤ x7 ∧ x7 ≤ 37 then ((f_Engine_doPlace a x7 X1).bind fun x28 => some (x28.1, x28.2)) else (if 38 ≤ x7 ∧ x7 ≤ 43 then ((f_Image_at_51 (p + 1) X1).bind fun x32 => ((f_Engine_doCall a x7 x32 X1).bind fun x33 => some (x33.1, x33.2))) else (if ¬ x7 = 48 then (if x7 = 49 then ((f_Strand_pop a X1).bind fun x37 => ((f_Engine_doMonitor x37.1 x7 (x + 1) x37.2).bind fun x38 => some (x38.1, x38.2))) else (if ¬ x7 = 50 then (if ¬ x7 = 51 then (if 52 ≤ x7 ∧ x7 ≤ 55 then ((f_Image_at_51 (p + 1) X1).bind fun x43 => ((f_Engine_doStatic a x7 x43 X1).bind fun x44 => some (x44.1, x44.2))) else ((f_Engine_doPlain a x7 (p + 1) X1).bind fun x46 => some (x46.1, x46.2))) else (lt (xw X1 40 1 1) fun X47 => some (0, X47))) else ((f_Strand_pop a X1).bind fun x48 => ((f_Engine_doMonitor x48.1 x7 (x + 1) x48.2).bind fun x49 => some (x49.1, x49.2))))) else ((f_Strand_pop a X1).bind fun x50 => ((f_Engine_doBegin x50.1 x50.2).bind fun x51 => some (x51.1, x51.2)))))) else ((f_Engine_doLength a X1).bind fun x52 => some (x52.1, x52.2)))) else ((f_Image_at_51 (p + 1) X1).bind fun x53 => ((f_Engine_doMake a x7 x53 X1).bind fun x54 => some (x54.1, x54.2))))))) else ((f_Engine_doArithmetic a x7 X1).bind fun x55 => some (x55.1, x55.2))) else ((f_Engine_doPlain a x7 (p + 1) X1).bind fun x56 => some (x56.1, x56.2)))
def tX (a : Nat) (x7 p : Int32) (o : Int32 × XS) : Option XS := (if ¬ o.1 = 0 then (if o.1 ≤ 0 then some o.2 else ((f_Engine_raise a o.1 o.2).bind fun x60 => some x60)) else (if (xT o.2 a = some (14, 0)) then (lt (xw o.2 a 4 (p + (f_P_bytesOf x7))) fun X62 => some X62) else none))
theorem stepX_eq (x : Int32) (X : XS) : f_Engine_step x X = (lt (xw X 40 1 0) fun X1 => (if f_Engine_isStrand x X1 = true then (ocz (X1.2.1 50 x.toNatClampNeg) none (fun a4 => (if (xT X1 a4 = some (14, 0)) then ((f_Image_at_51 (X1.1 a4 4) X1).bind fun x7 => ((dX a4 x7 (X1.1 a4 4) x X1).bind (tX a4 x7 (X1.1 a4 4)))) else none))) else some X1)) := rfl
/-- an instruction of the reference, and what follows it -/
def fM (x3 : Int32) (M1 : MS) : Option MS := (lt (mlg M1 (M1.2 + (Int64.ofNat 1))) fun M112 => (if ¬ x3 = 51 then (lt (mw M112 60 63 ((M112.1 60 63) - 1)) fun M114 => some M114) else (lt (mw M112 60 63 0) fun M115 => some M115)))
def tM1 (x x3 : Int32) (M1 : MS) : Option MS := (((if M1.1 60 90 ≤ 0 then (if ixo (M1.1 60 89) 120 then (lt (mw M1 113 (M1.1 60 89).toNatClampNeg ((M1.1 113 (M1.1 60 89).toNatClampNeg) + 1)) fun M12 => some M12) else none) else ((f_M_unwind x M1).bind fun x13 => some x13)) : Option (MS)).bind fun x14 => fM x3 x14)
def tM0 (x x3 : Int32) (M1 : MS) : Option MS := (((if M1.1 60 90 ≤ 0 then some M1 else ((f_M_unwind x M1).bind fun x29 => some x29)) : Option (MS)).bind fun x30 => fM x3 x30)
def sM (x x3 x4 : Int32) (M5 : MS) : Option MS := (if 4 ≤ x3 ∧ x3 ≤ 15 then ((f_M_arithmetic x3 M5).bind fun x8 => (((if x8.1 60 90 ≤ 0 then (if ixo (x8.1 60 89) 120 then (lt (mw x8 113 (x8.1 60 89).toNatClampNeg ((x8.1 113 (x8.1 60 89).toNatClampNeg) + 1)) fun M12 => some M12) else none) else ((f_M_unwind x x8).bind fun x13 => some x13)) : Option (MS)).bind fun x14 => (lt (mlg x14 (x14.2 + (Int64.ofNat 1))) fun M15 => (if ¬ x3 = 51 then (lt (mw M15 60 63 ((M15.1 60 63) - 1)) fun M17 => some M17) else (lt (mw M15 60 63 0) fun M18 => some M18))))) else (if 19 ≤ x3 ∧ x3 ≤ 25 then ((f_M_jumps x3 M5).bind fun x22 => (if x22.1 = true then (if ixo (x22.2.1 60 89) 120 then (lt (mw x22.2 113 (x22.2.1 60 89).toNatClampNeg x4) fun M26 => (((if M26.1 60 90 ≤ 0 then some M26 else ((f_M_unwind x M26).bind fun x29 => some x29)) : Option (MS)).bind fun x30 => (lt (mlg x30 (x30.2 + (Int64.ofNat 1))) fun M31 => (if ¬ x3 = 51 then (lt (mw M31 60 63 ((M31.1 60 63) - 1)) fun M33 => some M33) else (lt (mw M31 60 63 0) fun M34 => some M34))))) else none) else (if ixo (x22.2.1 60 89) 120 then (lt (mw x22.2 113 (x22.2.1 60 89).toNatClampNeg ((x22.2.1 113 (x22.2.1 60 89).toNatClampNeg) + 1)) fun M37 => (((if M37.1 60 90 ≤ 0 then some M37 else ((f_M_unwind x M37).bind fun x40 => some x40)) : Option (MS)).bind fun x41 => (lt (mlg x41 (x41.2 + (Int64.ofNat 1))) fun M42 => (if ¬ x3 = 51 then (lt (mw M42 60 63 ((M42.1 60 63) - 1)) fun M44 => some M44) else (lt (mw M42 60 63 0) fun M45 => some M45))))) else none))) else (if 27 ≤ x3 ∧ x3 ≤ 30 then (if ixo (M5.1 60 89) 120 then (if ixo ((1440 + (60 * (M5.1 112 (M5.1 60 89).toNatClampNeg))) + (M5.1 113 (M5.1 60 89).toNatClampNeg)) 2880 then ((f_M_fields x3 (x4 / 8) (M5.1 108 ((1440 + (60 * (M5.1 112 (M5.1 60 89).toNatClampNeg))) + (M5.1 113 (M5.1 60 89).toNatClampNeg)).toNatClampNeg) M5).bind fun x51 => (((if x51.1 60 90 ≤ 0 then (if ixo (x51.1 60 89) 120 then (lt (mw x51 113 (x51.1 60 89).toNatClampNeg ((x51.1 113 (x51.1 60 89).toNatClampNeg) + 1)) fun M55 => some M55) else none) else ((f_M_unwind x x51).bind fun x56 => some x56)) : Option (MS)).bind fun x57 => (lt (mlg x57 (x57.2 + (Int64.ofNat 1))) fun M58 => (if ¬ x3 = 51 then (lt (mw M58 60 63 ((M58.1 60 63) - 1)) fun M60 => some M60) else (lt (mw M58 60 63 0) fun M61 => some M61))))) else none) else none) else (if 31 ≤ x3 ∧ x3 ≤ 37 then ((f_M_arrays x3 M5).bind fun x65 => (((if x65.1 60 90 ≤ 0 then (if ixo (x65.1 60 89) 120 then (lt (mw x65 113 (x65.1 60 89).toNatClampNeg ((x65.1 113 (x65.1 60 89).toNatClampNeg) + 1)) fun M69 => some M69) else none) else ((f_M_unwind x x65).bind fun x70 => some x70)) : Option (MS)).bind fun x71 => (lt (mlg x71 (x71.2 + (Int64.ofNat 1))) fun M72 => (if ¬ x3 = 51 then (lt (mw M72 60 63 ((M72.1 60 63) - 1)) fun M74 => some M74) else (lt (mw M72 60 63 0) fun M75 => some M75))))) else (((if x3 = 38 then (((if ¬ M5.1 60 90 = 0 then some M5 else ((f_M_call x x4 M5).bind fun x80 => some x80)) : Option (MS)).bind fun x81 => some (0, x81)) else (if ¬ x3 = 39 then (if 40 ≤ x3 ∧ x3 ≤ 42 then ((f_M_giveBack x x3 M5).bind fun x85 => some (0, x85)) else (if ¬ x3 = 48 then (if x3 = 49 then ((f_M_monitor x x3 M5).bind fun x89 => some (1, x89)) else (if ¬ x3 = 50 then (if 52 ≤ x3 ∧ x3 ≤ 55 then ((f_M_statics x3 x4 M5).bind fun x93 => some (1, x93)) else ((f_M_others x3 x4 M5).bind fun x95 => some (1, x95))) else ((f_M_monitor x x3 M5).bind fun x96 => some (1, x96)))) else ((f_M_beginOther M5).bind fun x97 => some (1, x97)))) else ((f_M_argumentsOf x4 M5).bind fun x99 => ((f_M_peek x99 M5).bind fun x100 => ((f_M_methodOf x100 x4 M5).bind fun x101 => (((if ¬ x101.2.1 60 90 = 0 then some x101.2 else ((f_M_call x x101.1 x101.2).bind fun x103 => some x103)) : Option (MS)).bind fun x104 => some (0, x104))))))) : Option (Int32 × MS)).bind fun x105 => (((if x105.2.1 60 90 ≤ 0 then (if x105.1 = 0 then some x105.2 else (if ixo (x105.2.1 60 89) 120 then (lt (mw x105.2 113 (x105.2.1 60 89).toNatClampNeg ((x105.2.1 113 (x105.2.1 60 89).toNatClampNeg) + 1)) fun M109 => some M109) else none)) else ((f_M_unwind x x105.2).bind fun x110 => some x110)) : Option (MS)).bind fun x111 => (lt (mlg x111 (x111.2 + (Int64.ofNat 1))) fun M112 => (if ¬ x3 = 51 then (lt (mw M112 60 63 ((M112.1 60 63) - 1)) fun M114 => some M114) else (lt (mw M112 60 63 0) fun M115 => some M115)))))))))
theorem stepM_eq (x : Int32) (M : MS) : f_M_step x M = (if ixo x 6 then (lt (mw M 60 89 (((20 * x) + (M.1 109 x.toNatClampNeg)) - 1)) fun M2 => ((f_M_op (M2.1 60 89) M2).bind fun x3 => ((f_M_operand (M2.1 60 89) M2).bind fun x4 => sM x x3 x4 (mw M2 60 90 0)))) else none) := rfl
set_option maxRecDepth 20000 in
set_option maxHeartbeats 4000000 in
theorem sM_ar {x x3 x4 : Int32} {M5 : MS} (h : 4 ≤ x3 ∧ x3 ≤ 15) : sM x x3 x4 M5 = (f_M_arithmetic x3 M5).bind (tM1 x x3) := by
  unfold sM
  rw [if_pos h]
  rfl
set_option maxRecDepth 20000 in
set_option maxHeartbeats 4000000 in
theorem sM_ju {x x3 x4 : Int32} {M5 : MS} (n1 : ¬ (4 ≤ x3 ∧ x3 ≤ 15)) (h : 19 ≤ x3 ∧ x3 ≤ 25) : sM x x3 x4 M5 = (f_M_jumps x3 M5).bind fun x22 => (if x22.1 = true then (if ixo (x22.2.1 60 89) 120 then (lt (mw x22.2 113 (x22.2.1 60 89).toNatClampNeg x4) fun M26 => tM0 x x3 M26) else none) else (if ixo (x22.2.1 60 89) 120 then (lt (mw x22.2 113 (x22.2.1 60 89).toNatClampNeg ((x22.2.1 113 (x22.2.1 60 89).toNatClampNeg) + 1)) fun M37 => tM0 x x3 M37) else none)) := by
  unfold sM
  rw [if_neg n1, if_pos h]
  rfl
set_option maxRecDepth 20000 in
set_option maxHeartbeats 4000000 in
theorem sM_fi {x x3 x4 : Int32} {M5 : MS} (n1 : ¬ (4 ≤ x3 ∧ x3 ≤ 15)) (n2 : ¬ (19 ≤ x3 ∧ x3 ≤ 25)) (h : 27 ≤ x3 ∧ x3 ≤ 30) : sM x x3 x4 M5 = (if ixo (M5.1 60 89) 120 then (if ixo ((1440 + (60 * (M5.1 112 (M5.1 60 89).toNatClampNeg))) + (M5.1 113 (M5.1 60 89).toNatClampNeg)) 2880 then ((f_M_fields x3 (x4 / 8) (M5.1 108 ((1440 + (60 * (M5.1 112 (M5.1 60 89).toNatClampNeg))) + (M5.1 113 (M5.1 60 89).toNatClampNeg)).toNatClampNeg) M5).bind (tM1 x x3)) else none) else none) := by
  unfold sM
  rw [if_neg n1, if_neg n2, if_pos h]
  rfl
set_option maxRecDepth 20000 in
set_option maxHeartbeats 4000000 in
theorem sM_av {x x3 x4 : Int32} {M5 : MS} (n1 : ¬ (4 ≤ x3 ∧ x3 ≤ 15)) (n2 : ¬ (19 ≤ x3 ∧ x3 ≤ 25)) (n3 : ¬ (27 ≤ x3 ∧ x3 ≤ 30)) (h : 31 ≤ x3 ∧ x3 ≤ 37) : sM x x3 x4 M5 = (f_M_arrays x3 M5).bind (tM1 x x3) := by
  unfold sM
  rw [if_neg n1, if_neg n2, if_neg n3, if_pos h]
  rfl
def tM2 (x x3 : Int32) (x105 : Int32 × MS) : Option MS := (((if x105.2.1 60 90 ≤ 0 then (if x105.1 = 0 then some x105.2 else (if ixo (x105.2.1 60 89) 120 then (lt (mw x105.2 113 (x105.2.1 60 89).toNatClampNeg ((x105.2.1 113 (x105.2.1 60 89).toNatClampNeg) + 1)) fun M109 => some M109) else none)) else ((f_M_unwind x x105.2).bind fun x110 => some x110)) : Option (MS)).bind fun x111 => fM x3 x111)
set_option maxRecDepth 20000 in
set_option maxHeartbeats 4000000 in
theorem tM2_1 (x x3 : Int32) (M : MS) : tM2 x x3 (1, M) = tM1 x x3 M := by
  unfold tM2 tM1
  dsimp only
  rw [if_neg (show ¬ (1 : Int32) = 0 by decide)]
set_option maxRecDepth 20000 in
set_option maxHeartbeats 4000000 in
theorem tM2_0 (x x3 : Int32) (M : MS) : tM2 x x3 (0, M) = tM0 x x3 M := by
  unfold tM2 tM0
  dsimp only
  rw [if_pos (show (0 : Int32) = 0 from rfl)]
theorem bd1 {α : Type} (o : Option α) (F : Int32 × α → Option α) : (o.bind fun z => some ((1 : Int32), z)).bind F = o.bind fun z => F (1, z) := by cases o <;> rfl
theorem bd0 {α : Type} (o : Option α) (F : Int32 × α → Option α) : (o.bind fun z => some ((0 : Int32), z)).bind F = o.bind fun z => F (0, z) := by cases o <;> rfl
theorem bdx {α β : Type} (o : Option (α × β)) : (o.bind fun z => some (z.1, z.2)) = o := by cases o <;> rfl
theorem bdi {α : Type} (o : Option α) : (o.bind fun z => some z) = o := by cases o <;> rfl
def oM (x x3 x4 : Int32) (M5 : MS) : Option (Int32 × MS) := (if x3 = 38 then (((if ¬ M5.1 60 90 = 0 then some M5 else ((f_M_call x x4 M5).bind fun x80 => some x80)) : Option (MS)).bind fun x81 => some (0, x81)) else (if ¬ x3 = 39 then (if 40 ≤ x3 ∧ x3 ≤ 42 then ((f_M_giveBack x x3 M5).bind fun x85 => some (0, x85)) else (if ¬ x3 = 48 then (if x3 = 49 then ((f_M_monitor x x3 M5).bind fun x89 => some (1, x89)) else (if ¬ x3 = 50 then (if 52 ≤ x3 ∧ x3 ≤ 55 then ((f_M_statics x3 x4 M5).bind fun x93 => some (1, x93)) else ((f_M_others x3 x4 M5).bind fun x95 => some (1, x95))) else ((f_M_monitor x x3 M5).bind fun x96 => some (1, x96)))) else ((f_M_beginOther M5).bind fun x97 => some (1, x97)))) else ((f_M_argumentsOf x4 M5).bind fun x99 => ((f_M_peek x99 M5).bind fun x100 => ((f_M_methodOf x100 x4 M5).bind fun x101 => (((if ¬ x101.2.1 60 90 = 0 then some x101.2 else ((f_M_call x x101.1 x101.2).bind fun x103 => some x103)) : Option (MS)).bind fun x104 => some (0, x104)))))))
set_option maxRecDepth 20000 in
set_option maxHeartbeats 4000000 in
theorem sM_ot {x x3 x4 : Int32} {M5 : MS} (n1 : ¬ (4 ≤ x3 ∧ x3 ≤ 15)) (n2 : ¬ (19 ≤ x3 ∧ x3 ≤ 25)) (n3 : ¬ (27 ≤ x3 ∧ x3 ≤ 30)) (n4 : ¬ (31 ≤ x3 ∧ x3 ≤ 37)) : sM x x3 x4 M5 = (oM x x3 x4 M5).bind (tM2 x x3) := by
  unfold sM
  rw [if_neg n1, if_neg n2, if_neg n3, if_neg n4]
  rfl
/-- where a step leads -/
def RnO (k : Kx) (op : Int32) (X : XS) (M : MS) : Prop := ∃ A nb oc W T C n V, Rn k.c A k.hp nb oc k.U W (k.D + Int64.ofNat 1) T C n X V M ∧ oc ≤ k.oc + 1 ∧ W 1 = k.W 1 ∧ W 62 = k.W 62 ∧ W 64 = k.W 64 ∧ W 63 = (if op = 51 then 0 else k.W 63 - 1) ∧ k.nb ≤ nb
set_option maxRecDepth 20000 in
set_option maxHeartbeats 4000000 in
theorem Rn.fin {k : Kx} {A : HG} {nb oc : Nat} {W : Nat → Int32} {T C : Nat → Nat} {n : Nat} {X : XS} {V M : MS} (r : Rn k.c A k.hp nb oc k.U W k.D T C n X V M) (h1 : oc ≤ k.oc + 1) (h2 : k.nb ≤ nb) (hW : ∀ f, 1 ≤ f → f ≤ 64 → W f = k.W f) (op : Int32) : Wo (fM op M) (fun M' => RnO k op X M') := by
  obtain ⟨r0, r1, r2, r3, r4, r5, r6, r7, r8⟩ := r
  have fin : ∀ v, v = (if op = 51 then 0 else k.W 63 - 1) → RnO k op X (mw (mlg M (M.2 + Int64.ofNat 1)) 60 63 v) := by
    intro v hv
    have mr : ∀ a, a ≠ 60 → (mw (mlg M (M.2 + Int64.ofNat 1)) 60 63 v).1 a = M.1 a := fun a ha => by rw [mwr _ _ _ ha]; rfl
    have m60 : ∀ f, f ≠ 63 → (mw (mlg M (M.2 + Int64.ofNat 1)) 60 63 v).1 60 f = M.1 60 f := fun f hf => by rw [mwi _ _ _ hf]; rfl
    refine ⟨A, nb, oc, upd W 63 v, T, C, n, V, ⟨r0, ?_, ?_, ?_, ?_, ?_, ?_, ?_, ?_⟩, h1, ?_, ?_, ?_, ?_, h2⟩
    · intro a q hr
      rw [← r1 a q hr]
      by_cases e : a = 60
      · subst e; exact m60 q (by unfold RunM at hr; omega)
      · rw [mr a e]
    · intro u hu
      exact (r2 u hu).congr (fun j hj => rfl) (fun a h1 h2 => by rw [mr _ (by omega)]) (fun a q h1 h2 h3 => by rw [mr _ (by omega)]) (fun a s h1 h2 h3 => by rw [mr _ (by omega)])
    · exact r3.congr (fun a ha => rfl) (fun a h1 h2 _ _ => mr _ (by omega)) (fun f hf => m60 f (by omega))
    · exact r4.congr (fun a h1 h2 => rfl) (fun a h1 h2 => mr _ (by omega))
    · exact r5.congr (fun a h1 h2 => rfl) (fun a h1 h2 => mr _ (by omega)) (fun f hf => m60 f (by omega))
    · rw [m60 61 (by omega)]; exact r6
    · refine ⟨r7.1, r7.2.1, ?_, fun f h1 h2 => ?_⟩
      · rw [r7.2.2.1]; exact (if_neg (by omega) : upd W 63 v 1 = W 1).symm
      · by_cases e : f = 63
        · subst e
          rw [mw1, if_pos ⟨rfl, rfl⟩]
          exact (if_pos rfl : upd W 63 v 63 = v).symm
        · rw [m60 f e, r7.2.2.2 f h1 h2]
          exact (if_neg e : upd W 63 v f = W f).symm
    · show M.2 + Int64.ofNat 1 = _
      rw [r8]
    · rw [← hW 1 (by omega) (by omega)]; exact if_neg (by omega)
    · rw [← hW 62 (by omega) (by omega)]; exact if_neg (by omega)
    · rw [← hW 64 (by omega) (by omega)]; exact if_neg (by omega)
    · rw [← hv]; exact if_pos rfl
  have e63 : (mlg M (M.2 + Int64.ofNat 1)).1 60 63 = k.W 63 := by
    show M.1 60 63 = _
    rw [r7.2.2.2 63 (by omega) (by omega), hW 63 (by omega) (by omega)]
  unfold fM
  dsimp only [lt]
  by_cases c : op = 51
  · rw [if_neg (fun q => q c)]
    exact W_some.mpr (fin 0 (by rw [if_pos c]))
  · rw [if_pos c, e63]
    exact W_some.mpr (fin _ (by rw [if_neg c]))
