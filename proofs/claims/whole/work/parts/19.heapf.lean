/-! THE FIXED CELLS as one function: numbers φ (cell · 100 + field), rows σ, the reference's count of steps dn, references that change ρ, rows of references κ; behind them the cells d that were made later -/
def hF (φ : Nat → Int32) (σ : Nat → Nat → Int32) (dn : Int64) (ρ : Nat → Nat) (κ : Nat → Nat → Option Nat) (d : MjH) : MjH :=
  .inr (11, [.ref 1, .ref 10, .ref 30, .ref 35, .ref 40, .ref 59])::
  .inr (8, [.ref 2, .int (φ 101), .int (φ 102), .ref 3, .ref 4, .ref 5, .ref 6, .ref 7, .ref 8, .ref 9])::
  .inl (3, 24, .inr (.inr (.inr (.inr (κ 2)))))::
  .inl (0, 10, .inl (σ 3))::
  .inl (0, 10, .inl (σ 4))::
  .inl (0, 10, .inl (σ 5))::
  .inl (0, 10, .inl (σ 6))::
  .inl (0, 10, .inl (σ 7))::
  .inl (0, 80, .inl (σ 8))::
  .inl (0, 8, .inl (σ 9))::
  .inr (3, [.ref 1, .ref 14, .ref 22, .ref 11, .ref 12, .ref 13])::
  .inl (1, 1440, .inl (σ 11))::
  .inl (0, 24, .inl (σ 12))::
  .inl (0, 61, .inl (σ 13))::
  .inr (6, [.int (φ 1400), .int (φ 1401), .ref 1, .ref 15, .ref 16, .ref 17, .ref 18, .ref 19, .ref 20, .ref 21])::
  .inl (1, 10, .inl (σ 15))::
  .inl (1, 10, .inl (σ 16))::
  .inl (1, 24, .inl (σ 17))::
  .inl (1, 24, .inl (σ 18))::
  .inl (1, 8, .inl (σ 19))::
  .inl (0, 10, .inl (σ 20))::
  .inl (0, 24, .inl (σ 21))::
  .inr (1, [.int (φ 2200), .ref 1, .ref 23, .ref 24, .ref 25, .ref 26, .ref 27, .ref 28, .ref 29, .int (φ 2209), .int (φ 2210)])::
  .inl (1, 60, .inl (σ 23))::
  .inl (1, 60, .inl (σ 24))::
  .inl (0, 60, .inl (σ 25))::
  .inl (0, 600, .inl (σ 26))::
  .inl (0, 720, .inl (σ 27))::
  .inl (0, 10, .inl (σ 28))::
  .inl (0, 12, .inl (σ 29))::
  .inr (2, [.int (φ 3000), .int 5663, .ref (ρ 3002), .ref 32, .ref 33, .ref 34])::
  .inl (0, 64, .inl (σ 31))::
  .inl (0, 24, .inl (σ 32))::
  .inl (0, 8, .inl (σ 33))::
  .inl (0, 10, .inl (σ 34))::
  .inr (2, [.int (φ 3500), .int 6000, .ref (ρ 3502), .ref 37, .ref 38, .ref 39])::
  .inl (0, 64, .inl (σ 36))::
  .inl (0, 24, .inl (σ 37))::
  .inl (0, 8, .inl (σ 38))::
  .inl (0, 10, .inl (σ 39))::
  .inr (0, [.int (φ 4000), .int (φ 4001), .int (φ 4002), .ref 41, .ref 47, .ref 50, .ref 51, .ref 56, .ref 57, .ref 58, .int (φ 4010), .int (φ 4011)])::
  .inr (4, [.int (φ 4100), .ref (ρ 4101), .ref (ρ 4102), .ref (ρ 4103), .ref 45, .ref 46, .int (φ 4106), .int (φ 4107), .int (φ 4108)])::
  .inl (2, 0, .inl (σ 42))::
  .inl (0, 0, .inl (σ 43))::
  .inl (1, 0, .inl (σ 44))::
  .inl (0, 10, .inl (σ 45))::
  .inl (0, 10, .inl (σ 46))::
  .inr (5, [.int (φ 4700), .int (φ 4701), .int (φ 4702), .ref 48, .ref 49])::
  .inl (0, 100, .inl (σ 48))::
  .inl (0, 300, .inl (σ 49))::
  .inl (4, 6, .inr (.inr (.inr (.inr (κ 50)))))::
  .inr (2, [.int (φ 5100), .int 5663, .ref (ρ 5102), .ref 53, .ref 54, .ref 55])::
  .inl (0, 64, .inl (σ 52))::
  .inl (0, 24, .inl (σ 53))::
  .inl (0, 8, .inl (σ 54))::
  .inl (0, 10, .inl (σ 55))::
  .inl (0, 8, .inl (σ 56))::
  .inl (0, 8, .inl (σ 57))::
  .inl (0, 8, .inl (σ 58))::
  .inr (10, [.int (φ 5900), .ref 40, .int (φ 5902), .int (φ 5903), .int (φ 5904)])::
  .inr (12, [.ref 61, .ref 62, .ref 63, .int (φ 6003), .ref 64, .ref 65, .ref 66, .ref 67, .ref 68, .ref 69, .ref 70, .ref 71, .ref 72, .ref 73, .ref 74, .int (φ 6015), .ref 75, .ref 76, .ref 77, .ref 78, .ref 79, .ref 80, .int (φ 6022), .int (φ 6023), .ref 81, .ref 82, .ref 83, .ref 84, .ref 85, .ref 86, .int (φ 6030), .ref 87, .int (φ 6032), .ref 88, .ref 89, .ref 90, .ref 91, .int (φ 6037), .ref 92, .int (φ 6039), .ref 93, .ref 94, .int (φ 6042), .ref 95, .ref 96, .ref 97, .ref 98, .ref 99, .ref 100, .ref 101, .ref 102, .ref 103, .ref 104, .ref 105, .ref 106, .ref 107, .ref 108, .int (φ 6057), .int (φ 6058), .int (φ 6059), .long dn, .int (φ 6061), .int (φ 6062), .int (φ 6063), .int (φ 6064), .ref 109, .ref 110, .ref 111, .ref 112, .ref 113, .ref 114, .ref 115, .ref 116, .ref 117, .ref 118, .ref 119, .int (φ 6076), .ref 120, .int (φ 6078), .ref 121, .ref 122, .ref 123, .ref 124, .ref 125, .ref 126, .ref 127, .int (φ 6086), .int (φ 6087), .int (φ 6088), .int (φ 6089), .int (φ 6090), .int (φ 6091), .ref 128, .int (φ 6093), .ref 129, .int (φ 6095)])::
  .inl (0, 10, .inl (σ 61))::
  .inl (0, 10, .inl (σ 62))::
  .inl (0, 10, .inl (σ 63))::
  .inl (0, 24, .inl (σ 64))::
  .inl (0, 24, .inl (σ 65))::
  .inl (0, 24, .inl (σ 66))::
  .inl (0, 24, .inl (σ 67))::
  .inl (0, 24, .inl (σ 68))::
  .inl (0, 24, .inl (σ 69))::
  .inl (0, 24, .inl (σ 70))::
  .inl (0, 1440, .inl (σ 71))::
  .inl (0, 1440, .inl (σ 72))::
  .inl (0, 24, .inl (σ 73))::
  .inl (0, 576, .inl (σ 74))::
  .inl (1, 24, .inl (σ 75))::
  .inl (1, 10, .inl (σ 76))::
  .inl (1, 10, .inl (σ 77))::
  .inl (1, 8, .inl (σ 78))::
  .inl (0, 24, .inl (σ 79))::
  .inl (0, 10, .inl (σ 80))::
  .inl (1, 60, .inl (σ 81))::
  .inl (1, 60, .inl (σ 82))::
  .inl (0, 60, .inl (σ 83))::
  .inl (0, 600, .inl (σ 84))::
  .inl (0, 720, .inl (σ 85))::
  .inl (0, 16, .inl (σ 86))::
  .inl (0, 12, .inl (σ 87))::
  .inl (1, 1440, .inl (σ 88))::
  .inl (0, 24, .inl (σ 89))::
  .inl (0, 10, .inl (σ 90))::
  .inl (0, 8000, .inl (σ 91))::
  .inl (0, 8000, .inl (σ 92))::
  .inl (0, 61, .inl (σ 93))::
  .inl (0, 6000, .inl (σ 94))::
  .inl (0, 20, .inl (σ 95))::
  .inl (0, 20, .inl (σ 96))::
  .inl (0, 20, .inl (σ 97))::
  .inl (0, 160, .inl (σ 98))::
  .inl (0, 48, .inl (σ 99))::
  .inl (0, 48, .inl (σ 100))::
  .inl (0, 48, .inl (σ 101))::
  .inl (0, 48, .inl (σ 102))::
  .inl (0, 2880, .inl (σ 103))::
  .inl (0, 2880, .inl (σ 104))::
  .inl (0, 48, .inl (σ 105))::
  .inl (0, 1152, .inl (σ 106))::
  .inl (0, 2, .inl (σ 107))::
  .inl (0, 2880, .inl (σ 108))::
  .inl (0, 6, .inl (σ 109))::
  .inl (0, 6, .inl (σ 110))::
  .inl (0, 6, .inl (σ 111))::
  .inl (0, 120, .inl (σ 112))::
  .inl (0, 120, .inl (σ 113))::
  .inl (0, 120, .inl (σ 114))::
  .inl (0, 2640, .inl (σ 115))::
  .inl (1, 2640, .inl (σ 116))::
  .inl (0, 8, .inl (σ 117))::
  .inl (0, 8, .inl (σ 118))::
  .inl (0, 100, .inl (σ 119))::
  .inl (0, 300, .inl (σ 120))::
  .inl (0, 1002, .inl (σ 121))::
  .inl (0, 1002, .inl (σ 122))::
  .inl (0, 1002, .inl (σ 123))::
  .inl (0, 1002, .inl (σ 124))::
  .inl (0, 1002, .inl (σ 125))::
  .inl (1, 1002, .inl (σ 126))::
  .inl (0, 8200, .inl (σ 127))::
  .inl (0, 1002, .inl (σ 128))::
  .inl (0, 1002, .inl (σ 129))::
  d
theorem hF_len {φ : Nat → Int32} {σ : Nat → Nat → Int32} {dn : Int64} {ρ : Nat → Nat} {κ : Nat → Nat → Option Nat} {d : MjH} : (hF φ σ dn ρ κ d).length = 130 + d.length := by
  simp only [hF, List.length_cons]; omega
theorem hF_dyn {φ : Nat → Int32} {σ : Nat → Nat → Int32} {dn : Int64} {ρ : Nat → Nat} {κ : Nat → Nat → Option Nat} {d : MjH} (i : Nat) : (hF φ σ dn ρ κ d)[130 + i]? = d[i]? := by
  have e : 130 + i = i + 130 := by omega
  rw [e]
  rfl
