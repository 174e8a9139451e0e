def shq (x : Int32) (w : Nat) : Int32 := (x.toUInt32 >>> ((nI w).toUInt32 &&& Int32.toUInt32 31)).toInt32
def bsa (x : Int32) : Int32 := x - (shq x 1 &&& nI 1431655765)
def bsb (y : Int32) : Int32 := (y &&& nI 858993459) + (shq y 2 &&& nI 858993459)
def bsc (y : Int32) : Int32 := (y + shq y 4) &&& nI 252645135
def bsd (y : Int32) : Int32 := y + shq y 8
def bse (y : Int32) : Int32 := y + shq y 16
theorem bcF_e {x : Int32} : bcF x = bse (bsd (bsc (bsb (bsa x)))) &&& nI 63 := rfl
/-- the bits of an int as a number -/
def uN (x : Int32) : Nat := x.toBitVec.toNat
theorem uN_lt {x : Int32} : uN x < 2 ^ 32 := x.toBitVec.isLt
theorem uN_inj {x y : Int32} (h : uN x = uN y) : x = y := Int32.toBitVec_inj.mp (BitVec.eq_of_toNat_eq h)
theorem uN_and {x y : Int32} : uN (x &&& y) = uN x &&& uN y := by
  unfold uN
  rw [Int32.toBitVec_and, BitVec.toNat_and]
theorem uN_add {x y : Int32} (h : uN x + uN y < 2 ^ 32) : uN (x + y) = uN x + uN y := by
  unfold uN at *
  rw [Int32.toBitVec_add, BitVec.toNat_add, Nat.mod_eq_of_lt h]
theorem uN_sub {x y : Int32} (h : uN y ≤ uN x) : uN (x - y) = uN x - uN y := by
  unfold uN at *
  rw [Int32.toBitVec_sub, BitVec.toNat_sub]
  have := x.toBitVec.isLt
  omega
theorem uN_sh {x : Int32} {w p : Nat} (hw : ((nI w).toUInt32 &&& Int32.toUInt32 31).toNat % 32 = w) (hp : 2 ^ w = p) : uN (shq x w) = uN x / p := by
  show (x.toUInt32 >>> ((nI w).toUInt32 &&& Int32.toUInt32 31)).toNat = x.toUInt32.toNat / p
  rw [UInt32.toNat_shiftRight, hw, Nat.shiftRight_eq_div_pow, hp]
theorem land_d {a b g h : Nat} (hb : b < 16) (hh : h < 16) : (16 * a + b) &&& (16 * g + h) = 16 * (a &&& g) + (b &&& h) := by
  refine Nat.eq_of_testBit_eq (fun j => ?_)
  have hb2 : b < 2 ^ 4 := hb
  have hh2 : h < 2 ^ 4 := hh
  have hx : b &&& h < 2 ^ 4 := Nat.and_lt_two_pow _ hh2
  rw [Nat.testBit_and, show 16 * a + b = 2 ^ 4 * a + b from rfl, show 16 * g + h = 2 ^ 4 * g + h from rfl, show 16 * (a &&& g) + (b &&& h) = 2 ^ 4 * (a &&& g) + (b &&& h) from rfl, Nat.testBit_two_pow_mul_add _ hb2, Nat.testBit_two_pow_mul_add _ hh2, Nat.testBit_two_pow_mul_add _ hx]
  split
  · rw [Nat.testBit_and]
  · rw [Nat.testBit_and]
def m5N : Nat → Nat
  | 0 => 0
  | j + 1 => 16 * m5N j + 5
def m3N : Nat → Nat
  | 0 => 0
  | j + 1 => 16 * m3N j + 3
def s1N (j x : Nat) : Nat := x - ((x / 2) &&& m5N j)
def s2N (j x : Nat) : Nat := (x &&& m3N j) + ((x / 4) &&& m3N j)
theorem dg1 : ∀ b, b < 16 → ∀ g, g < 2 → (b / 2 + 8 * g) &&& 5 = (b / 2) &&& 5 := by decide +kernel
theorem dg2 : ∀ b, b < 16 → ∀ g, g < 4 → (b / 4 + 4 * g) &&& 3 = (b / 4) &&& 3 := by decide +kernel
def pc4 (b : Nat) : Nat := b % 2 + b / 2 % 2 + b / 4 % 2 + b / 8 % 2
theorem dg3 : ∀ b, b < 16 → ((b - ((b / 2) &&& 5)) &&& 3) + (((b - ((b / 2) &&& 5)) / 4) &&& 3) = pc4 b := by decide +kernel
theorem s1N_s {j a b : Nat} (hb : b < 16) : s1N (j + 1) (16 * a + b) = 16 * s1N j a + (b - ((b / 2) &&& 5)) := by
  unfold s1N
  have e : (16 * a + b) / 2 = 16 * (a / 2) + (b / 2 + 8 * (a % 2)) := by omega
  rw [e, show m5N (j + 1) = 16 * m5N j + 5 from rfl, land_d (by omega) (by decide), dg1 b hb (a % 2) (by omega)]
  have h1 : (a / 2) &&& m5N j ≤ a / 2 := Nat.and_le_left
  have h2 : (b / 2) &&& 5 ≤ b / 2 := Nat.and_le_left
  omega
theorem s2N_s {j a b : Nat} (hb : b < 16) : s2N (j + 1) (16 * a + b) = 16 * s2N j a + ((b &&& 3) + ((b / 4) &&& 3)) := by
  unfold s2N
  have e : (16 * a + b) / 4 = 16 * (a / 4) + (b / 4 + 4 * (a % 4)) := by omega
  rw [e, show m3N (j + 1) = 16 * m3N j + 3 from rfl, land_d hb (by decide), land_d (show b / 4 + 4 * (a % 4) < 16 by omega) (by decide), dg2 b hb (a % 4) (by omega)]
  omega
def t2N (j x : Nat) : Nat := s2N j (s1N j x)
theorem t2N_s {j x : Nat} : t2N (j + 1) x = 16 * t2N j (x / 16) + pc4 (x % 16) := by
  have hx : x = 16 * (x / 16) + x % 16 := by omega
  have hb : x % 16 < 16 := by omega
  unfold t2N
  generalize x / 16 = a at hx
  generalize x % 16 = b at hx hb
  rw [hx, s1N_s hb, s2N_s (by omega), dg3 b hb]
theorem t2N_0 {x : Nat} : t2N 0 x = 0 := by
  unfold t2N s2N
  rw [show m3N 0 = 0 from rfl, Nat.and_zero, Nat.and_zero]
/-- the number of bits of a number, nibble by nibble -/
def pcN : Nat → Nat → Nat
  | 0, _ => 0
  | j + 1, x => pcN j (x / 16) + pc4 (x % 16)
theorem pc4_le {b : Nat} : pc4 b ≤ 4 := by unfold pc4; omega
theorem bsT {x : Int32} : uN (bsb (bsa x)) = t2N 8 (uN x) := by
  have h5 : uN (nI 1431655765) = m5N 8 := by decide +kernel
  have h3 : uN (nI 858993459) = m3N 8 := by decide +kernel
  have ez1 : uN (shq x 1 &&& nI 1431655765) = (uN x / 2) &&& m5N 8 := by rw [uN_and, uN_sh (p := 2) (by decide +kernel) rfl, h5]
  have l1 : (uN x / 2) &&& m5N 8 ≤ uN x / 2 := Nat.and_le_left
  have ea : uN (bsa x) = s1N 8 (uN x) := by
    unfold bsa s1N
    rw [uN_sub (by rw [ez1]; omega), ez1]
  have l2 : uN (bsa x) &&& m3N 8 ≤ m3N 8 := Nat.and_le_right
  have l3 : (uN (bsa x) / 4) &&& m3N 8 ≤ m3N 8 := Nat.and_le_right
  have l4 : m3N 8 = 858993459 := by decide +kernel
  have ez2 : uN (bsa x &&& nI 858993459) = uN (bsa x) &&& m3N 8 := by rw [uN_and, h3]
  have ez3 : uN (shq (bsa x) 2 &&& nI 858993459) = (uN (bsa x) / 4) &&& m3N 8 := by rw [uN_and, uN_sh (p := 4) (by decide +kernel) rfl, h3]
  unfold bsb t2N s2N
  rw [uN_add (by rw [ez2, ez3]; omega), ez2, ez3, ea]
theorem q_div {A b w : Nat} (h : b < w) : (w * A + b) / w = A := by
  rw [Nat.mul_add_div (by omega), Nat.div_eq_of_lt h, Nat.add_zero]
theorem ar1 {p0 p1 p2 p3 p4 p5 p6 p7 Y : Nat} (g0 : p0 ≤ 4) (hT : Y = 16 * (16 * (16 * (16 * (16 * (16 * (16 * (16 * 0 + p7) + p6) + p5) + p4) + p3) + p2) + p1) + p0) : Y + Y / 16 = 16 * (16 * (16 * (16 * (16 * (16 * (16 * p7 + (p6 + p7)) + (p5 + p6)) + (p4 + p5)) + (p3 + p4)) + (p2 + p3)) + (p1 + p2)) + (p0 + p1) := by
  rw [hT, q_div (by omega)]
  omega
theorem ar2 {a b c d V : Nat} (ha : a < 256) (hV : V = 16 * (16 * (16 * (16 * (16 * (16 * (16 * 0 + d) + 0) + c) + 0) + b) + 0) + a) : V + V / 256 = (a + b) + 256 * (b + c) + 65536 * (c + d) + 16777216 * d := by
  have e : V = 256 * (b + 256 * c + 65536 * d) + a := by omega
  rw [e, q_div ha]
  omega
theorem ar3 {a b c d U : Nat} (h : a + 256 * b < 65536) (hU : U = a + 256 * b + 65536 * c + 16777216 * d) : U + U / 65536 = (a + c) + 256 * (b + d) + 65536 * c + 16777216 * d := by
  have e : U = 65536 * (c + 256 * d) + (a + 256 * b) := by omega
  rw [e, q_div h]
  omega
theorem ar4 {s b c d : Nat} (h : s < 64) : (s + 256 * b + 65536 * c + 16777216 * d) % 64 = s := by omega
theorem land_15 {b : Nat} (h : b < 16) : b &&& 15 = b := by
  have := Nat.and_two_pow_sub_one_of_lt_two_pow (n := 4) h
  exact this
theorem nib {p0 p1 p2 p3 p4 p5 p6 p7 : Nat} (h0 : p0 < 16) (h1 : p1 < 16) (h2 : p2 < 16) (h3 : p3 < 16) (h4 : p4 < 16) (h5 : p5 < 16) (h6 : p6 < 16) (h7 : p7 < 16) : (16 * (16 * (16 * (16 * (16 * (16 * (16 * p7 + p6) + p5) + p4) + p3) + p2) + p1) + p0) &&& 252645135 = 16 * (16 * (16 * (16 * (16 * (16 * (16 * 0 + p6) + 0) + p4) + 0) + p2) + 0) + p0 := by
  rw [show 252645135 = 16 * (16 * (16 * (16 * (16 * (16 * (16 * 0 + 15) + 0) + 15) + 0) + 15) + 0) + 15 from rfl]
  rw [land_d h0 (by decide), land_d h1 (by decide), land_d h2 (by decide), land_d h3 (by decide), land_d h4 (by decide), land_d h5 (by decide), land_d h6 (by decide), Nat.and_zero, Nat.and_zero, Nat.and_zero, Nat.and_zero, land_15 h0, land_15 h2, land_15 h4, land_15 h6]
theorem bcN_e {x : Int32} : uN (bcF x) = pcN 8 (uN x) ∧ pcN 8 (uN x) ≤ 32 := by
  have hT := bsT (x := x)
  rw [t2N_s, t2N_s, t2N_s, t2N_s, t2N_s, t2N_s, t2N_s, t2N_s, t2N_0] at hT
  have hP : pcN 8 (uN x) = 0 + pc4 (uN x / 16 / 16 / 16 / 16 / 16 / 16 / 16 % 16) + pc4 (uN x / 16 / 16 / 16 / 16 / 16 / 16 % 16) + pc4 (uN x / 16 / 16 / 16 / 16 / 16 % 16) + pc4 (uN x / 16 / 16 / 16 / 16 % 16) + pc4 (uN x / 16 / 16 / 16 % 16) + pc4 (uN x / 16 / 16 % 16) + pc4 (uN x / 16 % 16) + pc4 (uN x % 16) := rfl
  rw [hP]
  have g0 := pc4_le (b := uN x % 16)
  have g1 := pc4_le (b := uN x / 16 % 16)
  have g2 := pc4_le (b := uN x / 16 / 16 % 16)
  have g3 := pc4_le (b := uN x / 16 / 16 / 16 % 16)
  have g4 := pc4_le (b := uN x / 16 / 16 / 16 / 16 % 16)
  have g5 := pc4_le (b := uN x / 16 / 16 / 16 / 16 / 16 % 16)
  have g6 := pc4_le (b := uN x / 16 / 16 / 16 / 16 / 16 / 16 % 16)
  have g7 := pc4_le (b := uN x / 16 / 16 / 16 / 16 / 16 / 16 / 16 % 16)
  generalize pc4 (uN x % 16) = p0 at hT g0 ⊢
  generalize pc4 (uN x / 16 % 16) = p1 at hT g1 ⊢
  generalize pc4 (uN x / 16 / 16 % 16) = p2 at hT g2 ⊢
  generalize pc4 (uN x / 16 / 16 / 16 % 16) = p3 at hT g3 ⊢
  generalize pc4 (uN x / 16 / 16 / 16 / 16 % 16) = p4 at hT g4 ⊢
  generalize pc4 (uN x / 16 / 16 / 16 / 16 / 16 % 16) = p5 at hT g5 ⊢
  generalize pc4 (uN x / 16 / 16 / 16 / 16 / 16 / 16 % 16) = p6 at hT g6 ⊢
  generalize pc4 (uN x / 16 / 16 / 16 / 16 / 16 / 16 / 16 % 16) = p7 at hT g7 ⊢
  rw [bcF_e]
  generalize bsb (bsa x) = y at hT ⊢
  have q4 : uN (shq y 4) = uN y / 16 := uN_sh (by decide +kernel) rfl
  have es1 := ar1 g0 hT
  have es : uN (y + shq y 4) = 16 * (16 * (16 * (16 * (16 * (16 * (16 * p7 + (p6 + p7)) + (p5 + p6)) + (p4 + p5)) + (p3 + p4)) + (p2 + p3)) + (p1 + p2)) + (p0 + p1) := by
    rw [uN_add (by rw [q4, es1]; omega), q4, es1]
  have ec : uN (bsc y) = 16 * (16 * (16 * (16 * (16 * (16 * (16 * 0 + (p6 + p7)) + 0) + (p4 + p5)) + 0) + (p2 + p3)) + 0) + (p0 + p1) := by
    unfold bsc
    rw [uN_and, es, show uN (nI 252645135) = 252645135 by decide +kernel, nib (by omega) (by omega) (by omega) (by omega) (by omega) (by omega) (by omega) (by omega)]
  clear hT es es1 q4
  generalize bsc y = v at ec ⊢
  have q8 : uN (shq v 8) = uN v / 256 := uN_sh (by decide +kernel) rfl
  have ed1 := ar2 (by omega) ec
  have ed : uN (bsd v) = (p0 + p1 + (p2 + p3)) + 256 * (p2 + p3 + (p4 + p5)) + 65536 * (p4 + p5 + (p6 + p7)) + 16777216 * (p6 + p7) := by
    unfold bsd
    rw [uN_add (by rw [q8, ed1]; omega), q8, ed1]
  clear ec ed1 q8
  generalize bsd v = u at ed ⊢
  have q16 : uN (shq u 16) = uN u / 65536 := uN_sh (by decide +kernel) rfl
  have ee1 := ar3 (by omega) ed
  have ee : uN (bse u) = (p0 + p1 + (p2 + p3) + (p4 + p5 + (p6 + p7))) + 256 * (p2 + p3 + (p4 + p5) + (p6 + p7)) + 65536 * (p4 + p5 + (p6 + p7)) + 16777216 * (p6 + p7) := by
    unfold bse
    rw [uN_add (by rw [q16, ee1]; omega), q16, ee1]
  clear ed ee1 q16
  rw [uN_and, ee, show uN (nI 63) = 2 ^ 6 - 1 by decide +kernel, Nat.and_two_pow_sub_one_eq_mod, show 2 ^ 6 = 64 from rfl, ar4 (by omega)]
  omega
/-- the same, bit by bit -/
def pbN : Nat → Nat → Nat
  | 0, _ => 0
  | j + 1, x => pbN j (x / 2) + x % 2
theorem pb_4 {j x : Nat} : pbN (j + 4) x = pbN j (x / 16) + pc4 (x % 16) := by
  show pbN j (x / 2 / 2 / 2 / 2) + x / 2 / 2 / 2 % 2 + x / 2 / 2 % 2 + x / 2 % 2 + x % 2 = _
  rw [show x / 2 / 2 / 2 / 2 = x / 16 by omega]
  unfold pc4
  omega
theorem pc_b {x : Nat} : pcN 8 x = pbN 32 x := by
  show pcN 8 x = pbN (0 + 4 + 4 + 4 + 4 + 4 + 4 + 4 + 4) x
  rw [pb_4, pb_4, pb_4, pb_4, pb_4, pb_4, pb_4, pb_4]
  rfl
theorem land_2 {a b g h : Nat} (hb : b < 2) (hh : h < 2) : (2 * a + b) &&& (2 * g + h) = 2 * (a &&& g) + (b &&& h) := by
  refine Nat.eq_of_testBit_eq (fun j => ?_)
  have hb2 : b < 2 ^ 1 := hb
  have hh2 : h < 2 ^ 1 := hh
  have hx : b &&& h < 2 ^ 1 := Nat.and_lt_two_pow _ hh2
  rw [Nat.testBit_and, show 2 * a + b = 2 ^ 1 * a + b from rfl, show 2 * g + h = 2 ^ 1 * g + h from rfl, show 2 * (a &&& g) + (b &&& h) = 2 ^ 1 * (a &&& g) + (b &&& h) from rfl, Nat.testBit_two_pow_mul_add _ hb2, Nat.testBit_two_pow_mul_add _ hh2, Nat.testBit_two_pow_mul_add _ hx]
  split
  · rw [Nat.testBit_and]
  · rw [Nat.testBit_and]
/-- without the lowest bit there is one less -/
theorem pb_l : ∀ (j x : Nat), 0 < x → x < 2 ^ j → pbN j (x &&& (x - 1)) + 1 = pbN j x
  | 0, x, h, h2 => by omega
  | j + 1, x, h, h2 => by
    rcases Nat.mod_two_eq_zero_or_one x with e | e
    · have hx : x = 2 * (x / 2) + 0 := by omega
      have hy : x - 1 = 2 * (x / 2 - 1) + 1 := by omega
      have ha : x &&& (x - 1) = 2 * (x / 2 &&& (x / 2 - 1)) := by
        rw [hy]
        conv => lhs; lhs; rw [hx]
        rw [land_2 (by decide) (by decide)]
        rfl
      have ih := pb_l j (x / 2) (by omega) (by rw [Nat.pow_succ] at h2; omega)
      show pbN j ((x &&& (x - 1)) / 2) + (x &&& (x - 1)) % 2 + 1 = pbN j (x / 2) + x % 2
      rw [ha, show 2 * (x / 2 &&& (x / 2 - 1)) / 2 = x / 2 &&& (x / 2 - 1) by omega, show 2 * (x / 2 &&& (x / 2 - 1)) % 2 = 0 by omega]
      omega
    · have hx : x = 2 * (x / 2) + 1 := by omega
      have hy : x - 1 = 2 * (x / 2) + 0 := by omega
      have ha : x &&& (x - 1) = 2 * (x / 2) := by
        rw [hy]
        conv => lhs; lhs; rw [hx]
        rw [land_2 (by decide) (by decide), Nat.and_self]
        rfl
      show pbN j ((x &&& (x - 1)) / 2) + (x &&& (x - 1)) % 2 + 1 = pbN j (x / 2) + x % 2
      rw [ha, show 2 * (x / 2) / 2 = x / 2 by omega, show 2 * (x / 2) % 2 = 0 by omega]
      omega
theorem uN_nI {w : Nat} (h : w < 2 ^ 31) : uN (nI w) = w := by
  have : ((nI w).toBitVec.toNat : Nat) = w % 2 ^ 32 := by
    show (BitVec.ofNat 32 w).toNat = _
    exact BitVec.toNat_ofNat _ _
  unfold uN
  rw [this]
  omega
theorem bc_n {x : Int32} : bcF x = nI (pbN 32 (uN x)) ∧ pbN 32 (uN x) ≤ 32 := by
  have h := bcN_e (x := x)
  rw [pc_b] at h
  refine ⟨uN_inj ?_, h.2⟩
  rw [h.1, uN_nI (by omega)]
theorem bc_l {x : Int32} (h : ¬ x = 0) : pbN 32 (uN (x &&& (x - nI 1))) + 1 = pbN 32 (uN x) ∧ uN (x &&& (x - nI 1)) < uN x := by
  have hp : 0 < uN x := by
    rcases Nat.eq_zero_or_pos (uN x) with z | z
    · exact absurd (uN_inj (z.trans (show uN 0 = 0 by decide +kernel).symm)) h
    · exact z
  have e : uN (x &&& (x - nI 1)) = uN x &&& (uN x - 1) := by
    rw [uN_and, uN_sub (by rw [uN_nI (by decide)]; exact hp), uN_nI (by decide)]
  rw [e]
  have l : uN x &&& (uN x - 1) ≤ uN x - 1 := Nat.and_le_right
  exact ⟨pb_l 32 (uN x) hp uN_lt, by omega⟩
theorem lbits {sc : Nat × (Nat → Int32)} {d : Nat} {m : Mm} {Q : Option Value → Mm → Prop} {x : Int32} (hQ : Q (some (.int (bcF x))) m) : ∀ (j c : Nat) (y : Int32), c + pbN 32 (uN y) = pbN 32 (uN x) ∧ uN y < j → Jj sc d 0 0 (mth 206) (pg P206 4).1 [some (.int x), some (.int (nI c)), some (.int y)] [] m 0 0 Q := by
  intro j
  induction j with
  | zero => intro c y hall; omega
  | succ j ih =>
    intro c y hall
    have hb := (bc_n (x := x)).2
    refine J_w z206 (i := 4) (by decide) 52 ?_
    refine And.intro (fun cz5 => ?_) (fun cz5 => ?_)
    · -- 5 taken: y = 0
      refine And.intro ⟨rfl, trivial, Nat.le_refl _, Nat.le_refl _⟩ ?_
      rw [cz5, show pbN 32 (uN 0) = 0 by decide +kernel, Nat.add_zero] at hall
      rw [hall.1, ← bc_n.1]
      exact hQ
    · -- 5 not: ¬ y = 0
      show Jj sc d 0 0 (mth 206) (pg P206 4).1 [some (.int x), some (.int (nI c + nI 1)), some (.int (y &&& (y - nI 1)))] [] m 0 0 Q
      rw [show nI c + nI 1 = nI (c + 1) from by simp only [nI_add, pk_mul]]
      have hl := bc_l cz5
      exact ih (c + 1) _ ⟨by have := hall.1; omega, by have := hall.2; omega⟩
theorem C206 {d : Nat} {m : Mm} {Q : Option Value → Mm → Prop} {x : Int32} (hQ : Q (some (.int (bcF x))) m) : Cc d 0 0 206 [.int x] m Q := by
  refine ent (n := 52) z206 (by decide) rfl (by decide) (Nat.le_of_ble_eq_true rfl) (fun sc => ?_)
  show Jj sc d 0 0 (mth 206) (pg P206 4).1 [some (.int x), some (.int (nI 0)), some (.int x)] [] m 0 0 Q
  exact lbits hQ (uN x + 1) 0 x ⟨Nat.zero_add _, by omega⟩
