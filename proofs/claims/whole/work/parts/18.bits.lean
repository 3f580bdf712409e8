/-- a long as a number of its bits -/
def nb (x : Int64) : Nat := x.toBitVec.toNat
theorem nb_lt (x : Int64) : nb x < 18446744073709551616 := x.toBitVec.isLt
theorem nb_and (x y : Int64) : nb (x &&& y) = nb x &&& nb y := by
  show (x &&& y).toBitVec.toNat = _
  rw [Int64.toBitVec_and, BitVec.toNat_and]; rfl
theorem nb_or (x y : Int64) : nb (x ||| y) = nb x ||| nb y := by
  show (x ||| y).toBitVec.toNat = _
  rw [Int64.toBitVec_or, BitVec.toNat_or]; rfl
theorem nb_xor (x y : Int64) : nb (x ^^^ y) = nb x ^^^ nb y := by
  show (x ^^^ y).toBitVec.toNat = _
  rw [Int64.toBitVec_xor, BitVec.toNat_xor]; rfl
theorem nb_add (x y : Int64) : nb (x + y) = (nb x + nb y) % 18446744073709551616 := by
  show (x + y).toBitVec.toNat = _
  rw [Int64.toBitVec_add, BitVec.toNat_add]; rfl
theorem nb_sub (x y : Int64) : nb (x - y) = (18446744073709551616 - nb y + nb x) % 18446744073709551616 := by
  show (x - y).toBitVec.toNat = _
  rw [Int64.toBitVec_sub, BitVec.toNat_sub]; rfl
theorem nb_inj {x y : Int64} (h : nb x = nb y) : x = y := Int64.toBitVec_inj.mp (BitVec.eq_of_toNat_eq h)
/-- how far a shift goes -/
theorem sh63 {y : Int} (h : 0 ≤ y ∧ y < 64) : ((Int32.ofInt y).toInt64 &&& 63).toBitVec.toNat = y.toNat := by
  obtain ⟨k, rfl⟩ := Int.eq_ofNat_of_zero_le h.1
  have hk : k < 64 := by omega
  have H : ∀ k : Nat, k < 64 → ((Int32.ofInt (k : Int)).toInt64 &&& 63).toBitVec.toNat = (k : Int).toNat := by decide
  exact H k hk
theorem nb_shr {x : Int64} {y : Int} (h : 0 ≤ y ∧ y < 64) : nb (xlushr x y) = nb x / 2 ^ y.toNat := by
  have e := sh63 h
  unfold nb xlushr
  have e2 : ((Int32.ofInt y).toInt64.toUInt64 &&& Int64.toUInt64 63).toBitVec.toNat = y.toNat := e
  show (x.toUInt64 >>> ((Int32.ofInt y).toInt64.toUInt64 &&& Int64.toUInt64 63)).toBitVec.toNat = _
  rw [UInt64.toBitVec_shiftRight]
  show (x.toUInt64.toBitVec >>> (((Int32.ofInt y).toInt64.toUInt64 &&& Int64.toUInt64 63).toBitVec % 64)).toNat = _
  rw [BitVec.ushiftRight_eq', BitVec.toNat_ushiftRight, BitVec.toNat_umod, e2, Nat.shiftRight_eq_div_pow]
  have : y.toNat % BitVec.toNat (64 : BitVec 64) = y.toNat := Nat.mod_eq_of_lt (by show y.toNat < 64; omega)
  rw [this]
  rfl
theorem nb_shl {x : Int64} {y : Int} (h : 0 ≤ y ∧ y < 64) : nb (xlshl x y) = nb x * 2 ^ y.toNat % 18446744073709551616 := by
  have e := sh63 h
  unfold nb xlshl
  rw [Int64.toBitVec_shiftLeft]
  show (x.toBitVec <<< (((Int32.ofInt y).toInt64 &&& 63).toBitVec.smod 64)).toNat = _
  have e3 : (((Int32.ofInt y).toInt64 &&& 63).toBitVec.smod 64) = ((Int32.ofInt y).toInt64 &&& 63).toBitVec := by
    obtain ⟨k, rfl⟩ := Int.eq_ofNat_of_zero_le h.1
    have hk : k < 64 := by omega
    have H : ∀ k : Nat, k < 64 → (((Int32.ofInt (k : Int)).toInt64 &&& 63).toBitVec.smod 64) = ((Int32.ofInt (k : Int)).toInt64 &&& 63).toBitVec := by decide
    exact H k hk
  rw [e3, BitVec.shiftLeft_eq', BitVec.toNat_shiftLeft, e, Nat.shiftLeft_eq]
-- bytes
theorem land_split {a b A B : Nat} (ha : a < 256) (hb : b < 256) : (a + 256 * A) &&& (b + 256 * B) = (a &&& b) + 256 * (A &&& B) := by
  apply Nat.eq_of_testBit_eq
  intro j
  rw [Nat.testBit_and, Nat.add_comm a, Nat.add_comm b, Nat.add_comm (a &&& b)]
  have h8 : (256 : Nat) = 2 ^ 8 := rfl
  have hab : a &&& b < 2 ^ 8 := Nat.and_lt_two_pow a hb
  rw [h8, Nat.testBit_two_pow_mul_add A ha, Nat.testBit_two_pow_mul_add B hb, Nat.testBit_two_pow_mul_add (A &&& B) hab]
  by_cases q : j < 8
  · rw [if_pos q, if_pos q, if_pos q, Nat.testBit_and]
  · rw [if_neg q, if_neg q, if_neg q, Nat.testBit_and]
def rep8 (c : Nat) : Nat → Nat
  | 0 => 0
  | n + 1 => c + 256 * rep8 c n
def bf1 (n x : Nat) : Nat := x - ((x / 2) &&& rep8 85 n)
def bf2 (n x : Nat) : Nat := (x &&& rep8 51 n) + ((x / 4) &&& rep8 51 n)
def bf3 (n x : Nat) : Nat := (x + x / 16) &&& rep8 15 n
def bg1 (a : Nat) : Nat := a - ((a / 2) &&& 85)
def bg2 (a : Nat) : Nat := (a &&& 51) + ((a / 4) &&& 51)
def pc8 (a : Nat) : Nat := a % 2 + a / 2 % 2 + a / 4 % 2 + a / 8 % 2 + a / 16 % 2 + a / 32 % 2 + a / 64 % 2 + a / 128 % 2
set_option maxRecDepth 20000 in
theorem bd1 : ∀ a : Nat, a < 256 → ∀ e : Nat, e < 2 → (a / 2 + 128 * e) &&& 85 = (a / 2) &&& 85 := by decide
set_option maxRecDepth 20000 in
theorem bd2 : ∀ a : Nat, a < 256 → ∀ e : Nat, e < 4 → (a / 4 + 64 * e) &&& 51 = (a / 4) &&& 51 := by decide
set_option maxRecDepth 20000 in
theorem bd3 : ∀ y : Nat, y < 256 → bg1 y < 256 ∧ bg2 (bg1 y) ≤ 68 ∧ bg2 (bg1 y) % 16 ≤ 4 ∧ pc8 y ≤ 8 := by decide
set_option maxRecDepth 20000 in
theorem bd4 : ∀ y : Nat, y < 256 → ∀ e : Nat, e < 5 → (bg2 (bg1 y) + bg2 (bg1 y) / 16 + 16 * e) &&& 15 = pc8 y := by decide
theorem bf1_s {a A n : Nat} (ha : a < 256) : bf1 (n + 1) (a + 256 * A) = bg1 a + 256 * bf1 n A := by
  have e : (a + 256 * A) / 2 = (a / 2 + 128 * (A % 2)) + 256 * (A / 2) := by omega
  have h1 : (a / 2) &&& 85 ≤ a / 2 := Nat.and_le_left
  have h2 : (A / 2) &&& rep8 85 n ≤ A / 2 := Nat.and_le_left
  unfold bf1 bg1
  rw [e]
  show a + 256 * A - ((a / 2 + 128 * (A % 2)) + 256 * (A / 2) &&& 85 + 256 * rep8 85 n) = _
  rw [land_split (by omega) (by decide), bd1 a ha _ (by omega)]
  omega
theorem bf2_s {a A n : Nat} (ha : a < 256) : bf2 (n + 1) (a + 256 * A) = bg2 a + 256 * bf2 n A := by
  have e : (a + 256 * A) / 4 = (a / 4 + 64 * (A % 4)) + 256 * (A / 4) := by omega
  unfold bf2 bg2
  rw [e]
  show (a + 256 * A &&& 51 + 256 * rep8 51 n) + ((a / 4 + 64 * (A % 4)) + 256 * (A / 4) &&& 51 + 256 * rep8 51 n) = _
  rw [land_split ha (by decide), land_split (by omega) (by decide), bd2 a ha _ (by omega)]
  omega
theorem bf3_s {a A n : Nat} (h : a + a / 16 + 16 * (A % 16) < 256) : bf3 (n + 1) (a + 256 * A) = ((a + a / 16 + 16 * (A % 16)) &&& 15) + 256 * bf3 n A := by
  have e : a + 256 * A + (a + 256 * A) / 16 = (a + a / 16 + 16 * (A % 16)) + 256 * (A + A / 16) := by omega
  unfold bf3
  rw [e]
  show (a + a / 16 + 16 * (A % 16)) + 256 * (A + A / 16) &&& 15 + 256 * rep8 15 n = _
  rw [land_split h (by decide)]
theorem be4 : ∀ (n Y : Nat), bf2 n (bf1 n Y) % 16 ≤ 4 := by
  intro n Y
  cases n with
  | zero => show ((bf1 0 Y &&& 0) + (bf1 0 Y / 4 &&& 0)) % 16 ≤ 4; rw [Nat.and_zero, Nat.and_zero]; decide
  | succ n =>
    have hy : Y % 256 < 256 := Nat.mod_lt _ (by decide)
    have e : Y = Y % 256 + 256 * (Y / 256) := by omega
    have q := bd3 _ hy
    rw [e, bf1_s hy, bf2_s q.1]
    omega
def bF (n x : Nat) : Nat := bf3 n (bf2 n (bf1 n x))
theorem bF_s {y Y n : Nat} (hy : y < 256) : bF (n + 1) (y + 256 * Y) = pc8 y + 256 * bF n Y := by
  have q := bd3 _ hy
  have q4 := be4 n Y
  unfold bF
  rw [bf1_s hy, bf2_s q.1, bf3_s (by omega), bd4 y hy _ (by omega)]
/-- the bits that are set, of the lowest n eights -/
def bS : Nat → Nat → Nat
  | 0, _ => 0
  | n + 1, x => pc8 (x % 256) + bS n (x / 256)
theorem bits_sum (x : Nat) (hx : x < 18446744073709551616) : ∃ i1 i2 i3 : Nat, i1 = bF 8 x + bF 8 x / 256 ∧ i2 = i1 + i1 / 65536 ∧ i3 = i2 + i2 / 4294967296 ∧ i3 < 18446744073709551616 ∧ bF 8 x < 18446744073709551616 / 2 ∧ i3 % 128 = bS 8 x := by
  have st : ∀ n z : Nat, bF (n + 1) z = pc8 (z % 256) + 256 * bF n (z / 256) := by
    intro n z
    have hy : z % 256 < 256 := Nat.mod_lt _ (by decide)
    have e : z = z % 256 + 256 * (z / 256) := by omega
    rw [← bF_s hy, ← e]
  have z0 : ∀ z, bF 0 z = 0 := fun z => by show (_ &&& 0) = 0; rw [Nat.and_zero]
  have le : ∀ z : Nat, pc8 (z % 256) ≤ 8 := fun z => (bd3 _ (Nat.mod_lt _ (by decide))).2.2.2
  have key : ∀ p0 p1 p2 p3 p4 p5 p6 p7 t i1 i2 i3 : Nat, p0 ≤ 8 → p1 ≤ 8 → p2 ≤ 8 → p3 ≤ 8 → p4 ≤ 8 → p5 ≤ 8 → p6 ≤ 8 → p7 ≤ 8 → t = p0 + 256 * (p1 + 256 * (p2 + 256 * (p3 + 256 * (p4 + 256 * (p5 + 256 * (p6 + 256 * (p7 + 256 * 0))))))) → i1 = t + t / 256 → i2 = i1 + i1 / 65536 → i3 = i2 + i2 / 4294967296 → i3 < 18446744073709551616 ∧ t < 18446744073709551616 / 2 ∧ i3 % 128 = p0 + (p1 + (p2 + (p3 + (p4 + (p5 + (p6 + (p7 + 0))))))) := by
    intro p0 p1 p2 p3 p4 p5 p6 p7 t i1 i2 i3 q0 q1 q2 q3 q4 q5 q6 q7 h0 h1 h2 h3
    obtain ⟨A7, a7⟩ : ∃ A7 : Nat, A7 = p7 + 256 * 0 := ⟨_, rfl⟩
    obtain ⟨A6, a6⟩ : ∃ A6 : Nat, A6 = p6 + 256 * A7 := ⟨_, rfl⟩
    obtain ⟨A5, a5⟩ : ∃ A5 : Nat, A5 = p5 + 256 * A6 := ⟨_, rfl⟩
    obtain ⟨A4, a4⟩ : ∃ A4 : Nat, A4 = p4 + 256 * A5 := ⟨_, rfl⟩
    obtain ⟨A3, a3⟩ : ∃ A3 : Nat, A3 = p3 + 256 * A4 := ⟨_, rfl⟩
    obtain ⟨A2, a2⟩ : ∃ A2 : Nat, A2 = p2 + 256 * A3 := ⟨_, rfl⟩
    obtain ⟨A1, a1⟩ : ∃ A1 : Nat, A1 = p1 + 256 * A2 := ⟨_, rfl⟩
    rw [← a7, ← a6, ← a5, ← a4, ← a3, ← a2, ← a1] at h0
    have e1 : t / 256 = A1 := by clear a1 a2 a3 a4 a5 a6 a7 h1 h2 h3; omega
    rw [e1] at h1
    have e2 : i1 / 65536 = A2 + A3 := by
      have z : i1 = (p0 + p1 + 256 * (p1 + p2)) + 65536 * (A2 + A3) := by clear a4 a5 a6 a7 h2 h3 e1; omega
      rw [z]; clear z a1 a2 a3 a4 a5 a6 a7 h0 h1 h2 h3 e1; omega
    rw [e2] at h2
    have z2 : i2 = (p0 + p1 + p2 + p3) + 256 * (p1 + p2 + p3 + p4) + 65536 * (p2 + p3 + p4 + p5) + 16777216 * (p3 + p4 + p5 + p6) + 4294967296 * (A4 + A5 + A6 + A7) := by clear h3 e1 e2; omega
    have e3 : i2 / 4294967296 = A4 + A5 + A6 + A7 := by
      obtain ⟨D, hD⟩ : ∃ D : Nat, D = A4 + A5 + A6 + A7 := ⟨_, rfl⟩
      rw [z2, ← hD]; clear z2 a1 a2 a3 a4 a5 a6 a7 h0 h1 h2 h3 e1 e2 hD; omega
    rw [e3] at h3
    have d4 : A4 + A5 + A6 + A7 = (p4 + p5 + p6 + p7) + 256 * (A5 + A6 + A7) := by clear h0 h1 h2 h3 e1 e2 e3 z2 a1 a2 a3; omega
    have l7 : A7 ≤ 8 := by clear h0 h1 h2 h3 e1 e2 e3 z2 d4; omega
    have l6 : A6 ≤ 2056 := by clear h0 h1 h2 h3 e1 e2 e3 z2 d4; omega
    have l5 : A5 ≤ 526344 := by clear h0 h1 h2 h3 e1 e2 e3 z2 d4; omega
    have l4 : A4 ≤ 134744072 := by clear h0 h1 h2 h3 e1 e2 e3 z2 d4; omega
    have l3 : A3 ≤ 34494482440 := by clear h0 h1 h2 h3 e1 e2 e3 z2 d4; omega
    have l2 : A2 ≤ 8830587504648 := by clear h0 h1 h2 h3 e1 e2 e3 z2 d4; omega
    have l1 : A1 ≤ 2260630401189896 := by clear h0 h1 h2 h3 e1 e2 e3 z2 d4; omega
    have g1 : t ≤ 578721382704613384 := by clear h1 h2 h3 e1 e2 e3 z2 d4 a1 a2 a3 a4 a5 a6 a7; omega
    refine ⟨by clear e1 e2 e3 z2 d4 a1 a2 a3 a4 a5 a6 a7 h0; omega, by clear e1 e2 e3 z2 d4 a1 a2 a3 a4 a5 a6 a7 h0; omega, ?_⟩
    rw [h3, z2, d4]
    clear g1 h0 h1 h2 h3 z2 e1 e2 e3 a1 a2 a3 a4 a5 a6 a7 l1 l2 l3 l4 l5 l6 l7 d4
    generalize A5 + A6 + A7 = D
    omega
  refine ⟨_, _, _, rfl, rfl, rfl, ?_⟩
  rw [st 7, st 6, st 5, st 4, st 3, st 2, st 1, st 0, z0]
  unfold bS bS bS bS bS bS bS bS bS
  exact key _ _ _ _ _ _ _ _ _ _ _ _ (le _) (le _) (le _) (le _) (le _) (le _) (le _) (le _) rfl rfl rfl rfl

theorem cN_add (f : Int → Bool) : ∀ m n : Nat, cN f (m + n) = cN f m + cN (fun i => f (i + m)) n := by
  intro m n
  induction n with
  | zero => show cN f m = cN f m + 0; omega
  | succ n ih =>
    show cN f (m + n) + (if f ((m + n : Nat) : Int) then 1 else 0) = cN f m + (cN (fun i => f (i + m)) n + if f ((n : Int) + m) then 1 else 0)
    rw [ih, show ((m + n : Nat) : Int) = (n : Int) + m by omega]
    omega
theorem cN_or (f : Int → Bool) (v : Int) (h0 : 0 ≤ v) : ∀ n : Nat, cN (fun i => f i || decide (v = i)) n = cN f n + if v < n ∧ f v = false then 1 else 0 := by
  intro n
  induction n with
  | zero => rw [if_neg (fun h => by omega)]; rfl
  | succ n ih =>
    show cN (fun i => f i || decide (v = i)) n + (if (f n || decide (v = n)) = true then 1 else 0) = cN f n + (if f n = true then 1 else 0) + _
    rw [ih]
    by_cases q : v = n
    · subst q
      have hlt : (n : Int) < ((n + 1 : Nat) : Int) := by omega
      have hnl : ¬ (n : Int) < (n : Int) := by omega
      cases hf : f (n : Int) <;> simp only [hf, hlt, hnl] <;> simp
    · have e : (v < ((n + 1 : Nat) : Int)) = (v < (n : Int)) := propext ⟨fun h => by omega, fun h => by omega⟩
      simp only [e, q, decide_false, Bool.or_false]
      omega
theorem tB (x i : Nat) : (if x.testBit i = true then (1 : Int) else 0) = ((x / 2 ^ i % 2 : Nat) : Int) := by
  rw [Nat.testBit_eq_decide_div_mod_eq]
  by_cases q : x / 2 ^ i % 2 = 1
  · rw [if_pos (decide_eq_true q), q]; rfl
  · rw [if_neg (fun h => q (of_decide_eq_true h))]
    have : x / 2 ^ i % 2 < 2 := Nat.mod_lt _ (by decide)
    omega
theorem bS_cN : ∀ n x : Nat, ((bS n x : Nat) : Int) = cN (fun i => x.testBit i.toNat) (8 * n) := by
  intro n
  induction n with
  | zero => intro x; rfl
  | succ n ih =>
    intro x
    show (((pc8 (x % 256) + bS n (x / 256) : Nat)) : Int) = _
    rw [show 8 * (n + 1) = 8 + 8 * n by omega, cN_add, Int.natCast_add, ih]
    have e1 : ((pc8 (x % 256) : Nat) : Int) = cN (fun i => x.testBit i.toNat) 8 := by
      show _ = 0 + (if x.testBit 0 = true then 1 else 0) + (if x.testBit 1 = true then 1 else 0) + (if x.testBit 2 = true then 1 else 0) + (if x.testBit 3 = true then 1 else 0) + (if x.testBit 4 = true then 1 else 0) + (if x.testBit 5 = true then 1 else 0) + (if x.testBit 6 = true then 1 else 0) + (if x.testBit 7 = true then (1 : Int) else 0)
      rw [tB, tB, tB, tB, tB, tB, tB, tB]
      unfold pc8
      omega
    rw [e1]
    congr 1
    apply cN_congr
    intro j h1 h2
    show (x / 256).testBit j.toNat = x.testBit (j + ((8 : Nat) : Int)).toNat
    rw [show (256 : Nat) = 2 ^ 8 from rfl, Nat.testBit_div_two_pow, show (j + ((8 : Nat) : Int)).toNat = j.toNat + 8 by omega]
/-- the bits of a long that are set -/
def bc (x : Int64) : Int := cN (fun i => (nb x).testBit i.toNat) 64
/-- the low bits of a number -/
theorem xand_63 {v : Int} (hv : In32 v) : xand v 63 = v % 64 := by
  unfold xand
  show ((Int32.ofInt v &&& Int32.ofInt 63).toBitVec).toInt = _
  rw [Int32.toBitVec_and, Int32.toBitVec_ofInt, Int32.toBitVec_ofInt]
  have hN : (BitVec.ofInt 32 v &&& BitVec.ofInt 32 63).toNat = (v % 64).toNat := by
    rw [BitVec.toNat_and, BitVec.toNat_ofInt, show (BitVec.ofInt 32 63).toNat = 2 ^ 6 - 1 from rfl, Nat.and_two_pow_sub_one_eq_mod]
    omega
  rw [BitVec.toInt_eq_toNat_of_lt (by rw [hN]; omega), hN]
  omega
theorem xand_127 {v : Int} (hv : In32 v) : xand v 127 = v % 128 := by
  unfold xand
  show ((Int32.ofInt v &&& Int32.ofInt 127).toBitVec).toInt = _
  rw [Int32.toBitVec_and, Int32.toBitVec_ofInt, Int32.toBitVec_ofInt]
  have hN : (BitVec.ofInt 32 v &&& BitVec.ofInt 32 127).toNat = (v % 128).toNat := by
    rw [BitVec.toNat_and, BitVec.toNat_ofInt, show (BitVec.ofInt 32 127).toNat = 2 ^ 7 - 1 from rfl, Nat.and_two_pow_sub_one_eq_mod]
    omega
  rw [BitVec.toInt_eq_toNat_of_lt (by rw [hN]; omega), hN]
  omega
theorem xand_255 {v : Int} (hv : In32 v) : xand v 255 = v % 256 := by
  unfold xand
  show ((Int32.ofInt v &&& Int32.ofInt 255).toBitVec).toInt = _
  rw [Int32.toBitVec_and, Int32.toBitVec_ofInt, Int32.toBitVec_ofInt]
  have hN : (BitVec.ofInt 32 v &&& BitVec.ofInt 32 255).toNat = (v % 256).toNat := by
    rw [BitVec.toNat_and, BitVec.toNat_ofInt, show (BitVec.ofInt 32 255).toNat = 2 ^ 8 - 1 from rfl, Nat.and_two_pow_sub_one_eq_mod]
    omega
  rw [BitVec.toInt_eq_toNat_of_lt (by rw [hN]; omega), hN]
  omega

theorem xl2i_mod (x : Int64) : In32 (xl2i x) ∧ xl2i x % 128 = ((nb x % 128 : Nat) : Int) := by
  have h1 := Int32.le_toInt x.toInt32
  have h2 := Int32.toInt_lt x.toInt32
  have e : x.toInt32.toInt = x.toInt.bmod (2 ^ 32) := Int64.toInt_toInt32 x
  have e2 : x.toInt = (x.toBitVec.toNat : Int).bmod (2 ^ 64) := BitVec.toInt_eq_toNat_bmod x.toBitVec
  refine ⟨⟨by show _ ≤ x.toInt32.toInt; omega, by show x.toInt32.toInt ≤ _; omega⟩, ?_⟩
  show x.toInt32.toInt % 128 = ((x.toBitVec.toNat % 128 : Nat) : Int)
  rw [e, e2]
  generalize x.toBitVec.toNat = n
  have b1 : ∀ z : Int, z.bmod (2 ^ 32) % 128 = z % 128 := by
    intro z
    unfold Int.bmod
    simp only
    split <;> omega
  have b2 : ∀ z : Int, z.bmod (2 ^ 64) % 128 = z % 128 := by
    intro z
    unfold Int.bmod
    simp only
    split <;> omega
  rw [b1, b2]
  omega
theorem bits_code {x a b c d e f : Int64} (h1 : a = x - (xlushr x 1 &&& Int64.ofInt 6148914691236517205)) (h2 : b = (a &&& Int64.ofInt 3689348814741910323) + (xlushr a 2 &&& Int64.ofInt 3689348814741910323)) (h3 : c = (b + xlushr b 4) &&& Int64.ofInt 1085102592571150095) (h4 : d = c + xlushr c 8) (h5 : e = d + xlushr d 16) (h6 : f = e + xlushr e 32) : xand (xl2i f) 127 = bc x := by
  have c5 : nb (Int64.ofInt 6148914691236517205) = rep8 85 8 := by decide
  have c3 : nb (Int64.ofInt 3689348814741910323) = rep8 51 8 := by decide
  have cf : nb (Int64.ofInt 1085102592571150095) = rep8 15 8 := by decide
  have lx := nb_lt x
  have a1 : nb a = bf1 8 (nb x) := by
    rw [h1, nb_sub, nb_and, nb_shr (by decide), c5]
    show (18446744073709551616 - (nb x / 2 &&& rep8 85 8) + nb x) % 18446744073709551616 = nb x - (nb x / 2 &&& rep8 85 8)
    have : nb x / 2 &&& rep8 85 8 ≤ nb x / 2 := Nat.and_le_left
    omega
  have la := nb_lt a
  have b1 : nb b = bf2 8 (nb a) := by
    rw [h2, nb_add, nb_and, nb_and, nb_shr (by decide), c3]
    show ((nb a &&& rep8 51 8) + (nb a / 4 &&& rep8 51 8)) % 18446744073709551616 = (nb a &&& rep8 51 8) + (nb a / 4 &&& rep8 51 8)
    have q1 : nb a &&& rep8 51 8 ≤ 3689348814741910323 := Nat.and_le_right
    have q2 : nb a / 4 &&& rep8 51 8 ≤ 3689348814741910323 := Nat.and_le_right
    omega
  have lb : nb b ≤ 7378697629483820646 := by
    rw [b1]
    have q1 : nb a &&& rep8 51 8 ≤ 3689348814741910323 := Nat.and_le_right
    have q2 : nb a / 4 &&& rep8 51 8 ≤ 3689348814741910323 := Nat.and_le_right
    show (nb a &&& rep8 51 8) + (nb a / 4 &&& rep8 51 8) ≤ _
    omega
  have c1 : nb c = bF 8 (nb x) := by
    rw [h3, nb_and, nb_add, nb_shr (by decide), cf]
    show (nb b + nb b / 16) % 18446744073709551616 &&& rep8 15 8 = bf3 8 (bf2 8 (bf1 8 (nb x)))
    rw [← a1, ← b1, Nat.mod_eq_of_lt (by omega)]
    rfl
  obtain ⟨i1, i2, i3, k1, k2, k3, k4, k5, k6⟩ := bits_sum (nb x) lx
  rw [← c1] at k1 k5
  have d1 : nb d = i1 := by
    rw [h4, nb_add, nb_shr (by decide)]
    show (nb c + nb c / 256) % 18446744073709551616 = i1
    omega
  have e1 : nb e = i2 := by
    rw [h5, nb_add, nb_shr (by decide), d1]
    show (i1 + i1 / 65536) % 18446744073709551616 = i2
    omega
  have f1 : nb f = i3 := by
    rw [h6, nb_add, nb_shr (by decide), e1]
    show (i2 + i2 / 4294967296) % 18446744073709551616 = i3
    omega
  have m := xl2i_mod f
  rw [xand_127 m.1, m.2, f1, k6]
  exact bS_cN 8 (nb x)
/-- one more bit -/
theorem nb_set {x : Int64} {v : Int} (h : 0 ≤ v ∧ v < 64) : ∀ i : Int, 0 ≤ i → (nb (x ||| xlshl (Int64.ofInt 1) v)).testBit i.toNat = ((nb x).testBit i.toNat || decide (v = i)) := by
  intro i hi
  have e : nb (xlshl (Int64.ofInt 1) v) = 2 ^ v.toNat := by
    rw [nb_shl h]
    have e1 : nb (Int64.ofInt 1) = 1 := by decide
    rw [e1, Nat.one_mul]
    have : 2 ^ v.toNat < 2 ^ 64 := Nat.pow_lt_pow_right (by decide) (by omega)
    exact Nat.mod_eq_of_lt this
  rw [nb_or, Nat.testBit_or, e, Nat.testBit_two_pow]
  congr 1
  exact decide_eq_decide.mpr ⟨fun h => by omega, fun h => by omega⟩
theorem bc_set {x : Int64} {v : Int} (h : 0 ≤ v ∧ v < 64) : bc (x ||| xlshl (Int64.ofInt 1) v) = bc x + if (nb x).testBit v.toNat = false then 1 else 0 := by
  unfold bc
  have e := cN_congr (f := fun i => (nb (x ||| xlshl (Int64.ofInt 1) v)).testBit i.toNat) (g := fun i => (nb x).testBit i.toNat || decide (v = i)) 64 (fun j h1 _ => nb_set h j h1)
  rw [e]
  have q := cN_or (fun i => (nb x).testBit i.toNat) v h.1 64
  rw [q]
  congr 1
  have hv : v < ((64 : Nat) : Int) := h.2
  by_cases z : (nb x).testBit v.toNat = false
  · rw [if_pos ⟨hv, z⟩, if_pos z]
  · rw [if_neg (fun k => z k.2), if_neg z]
theorem bc_0 : bc (Int64.ofInt 0) = 0 := by decide
set_option maxRecDepth 20000 in
set_option maxHeartbeats 4000000 in
theorem c_bitCount {d : Nat} {A : abAl} {M : abMem} {x : Int64} : abW d (0, 0) 283 0 (abEnt (abL 283) [vl x]) [] (0, 0) A M (qE (some (vi (bc x))) A M) := by
  show abW d (0, 0) 283 0 [some (vl x), none] [] (0, 0) A M (qE (some (vi (bc x))) A M)
  refine bw_lload rfl rfl ?_
  refine bw_lload rfl rfl ?_
  refine bw_push rfl ?_
  refine bw_lushr rfl ?_
  refine bw_lldc rfl ?_
  refine bw_land rfl ?_
  refine bw_lsub rfl ?_
  refine bw_lstore (ls2 := [_, _]) rfl rfl (Nat.le_of_ble_eq_true rfl) rfl ?_
  refine bw_lload rfl rfl ?_
  refine bw_lldc rfl ?_
  refine bw_land rfl ?_
  refine bw_lload rfl rfl ?_
  refine bw_push rfl ?_
  refine bw_lushr rfl ?_
  refine bw_lldc rfl ?_
  refine bw_land rfl ?_
  refine bw_ladd rfl ?_
  refine bw_lstore (ls2 := [_, _]) rfl rfl (Nat.le_of_ble_eq_true rfl) rfl ?_
  refine bw_lload rfl rfl ?_
  refine bw_lload rfl rfl ?_
  refine bw_push rfl ?_
  refine bw_lushr rfl ?_
  refine bw_ladd rfl ?_
  refine bw_lldc rfl ?_
  refine bw_land rfl ?_
  refine bw_lstore (ls2 := [_, _]) rfl rfl (Nat.le_of_ble_eq_true rfl) rfl ?_
  refine bw_lload rfl rfl ?_
  refine bw_lload rfl rfl ?_
  refine bw_push rfl ?_
  refine bw_lushr rfl ?_
  refine bw_ladd rfl ?_
  refine bw_lstore (ls2 := [_, _]) rfl rfl (Nat.le_of_ble_eq_true rfl) rfl ?_
  refine bw_lload rfl rfl ?_
  refine bw_lload rfl rfl ?_
  refine bw_push rfl ?_
  refine bw_lushr rfl ?_
  refine bw_ladd rfl ?_
  refine bw_lstore (ls2 := [_, _]) rfl rfl (Nat.le_of_ble_eq_true rfl) rfl ?_
  refine bw_lload rfl rfl ?_
  refine bw_lload rfl rfl ?_
  refine bw_push rfl ?_
  refine bw_lushr rfl ?_
  refine bw_ladd rfl ?_
  refine bw_lstore (ls2 := [_, _]) rfl rfl (Nat.le_of_ble_eq_true rfl) rfl ?_
  refine bw_lload rfl rfl ?_
  refine bw_l2i rfl ?_
  refine bw_push rfl ?_
  refine bw_iand rfl ?_
  refine bw_ret rfl rfl ?_
  exact ⟨congrArg (fun z => some (vi z)) (bits_code rfl rfl rfl rfl rfl rfl), rfl, rfl⟩
/-- what the two longs hold of the first i frames -/
def unI (f : Int → Int) (lo hi : Int64) (i : Int) : Prop := (∀ v : Int, 0 ≤ v → v < 64 → ((nb lo).testBit v.toNat = true ↔ 1 ≤ v ∧ ∃ j : Int, 0 ≤ j ∧ j < i ∧ f j = v)) ∧ (∀ v : Int, 0 ≤ v → v < 64 → ((nb hi).testBit v.toNat = true ↔ ∃ j : Int, 0 ≤ j ∧ j < i ∧ f j = 64 + v)) ∧ bc lo + bc hi = cN (pU f) i.toNat
theorem unI_0 (f : Int → Int) : unI f (Int64.ofInt 0) (Int64.ofInt 0) 0 := by
  have z : nb (Int64.ofInt 0) = 0 := by decide
  refine ⟨fun v _ _ => ?_, fun v _ _ => ?_, by rw [bc_0]; rfl⟩
  · rw [z, Nat.zero_testBit]
    exact ⟨fun h => by simp at h, fun ⟨_, j, h1, h2, _⟩ => by omega⟩
  · rw [z, Nat.zero_testBit]
    exact ⟨fun h => by simp at h, fun ⟨j, h1, h2, _⟩ => by omega⟩
theorem unI_skip {f : Int → Int} {lo hi : Int64} {i : Int} (h : unI f lo hi i) (hi0 : 0 ≤ i) (h0 : f i = 0) : unI f lo hi (i + 1) := by
  refine ⟨fun v h1 h2 => ?_, fun v h1 h2 => ?_, ?_⟩
  · rw [h.1 v h1 h2]
    constructor
    · rintro ⟨q, j, j1, j2, j3⟩; exact ⟨q, j, j1, by omega, j3⟩
    · rintro ⟨q, j, j1, j2, j3⟩
      refine ⟨q, j, j1, ?_, j3⟩
      by_cases e : j = i
      · rw [e, h0] at j3; omega
      · omega
  · rw [h.2.1 v h1 h2]
    constructor
    · rintro ⟨j, j1, j2, j3⟩; exact ⟨j, j1, by omega, j3⟩
    · rintro ⟨j, j1, j2, j3⟩
      refine ⟨j, j1, ?_, j3⟩
      by_cases e : j = i
      · rw [e, h0] at j3; omega
      · omega
  · exact cN_f hi0 h.2.2 (pU_f (fun k => k.1 h0))
theorem unI_lo {f : Int → Int} {lo hi : Int64} {i : Int} (h : unI f lo hi i) (hi0 : 0 ≤ i) (h0 : 0 < f i) (h6 : f i < 64) : unI f (lo ||| xlshl (Int64.ofInt 1) (f i)) hi (i + 1) := by
  refine ⟨fun v h1 h2 => ?_, fun v h1 h2 => ?_, ?_⟩
  · rw [nb_set ⟨by omega, h6⟩ v h1, Bool.or_eq_true, decide_eq_true_eq, h.1 v h1 h2]
    constructor
    · rintro (⟨q, j, j1, j2, j3⟩ | q)
      · exact ⟨q, j, j1, by omega, j3⟩
      · exact ⟨by omega, i, hi0, by omega, q⟩
    · rintro ⟨q, j, j1, j2, j3⟩
      by_cases e : j = i
      · exact Or.inr (by rw [← e]; exact j3)
      · exact Or.inl ⟨q, j, j1, by omega, j3⟩
  · rw [h.2.1 v h1 h2]
    constructor
    · rintro ⟨j, j1, j2, j3⟩; exact ⟨j, j1, by omega, j3⟩
    · rintro ⟨j, j1, j2, j3⟩
      refine ⟨j, j1, ?_, j3⟩
      by_cases e : j = i
      · rw [e] at j3; omega
      · omega
  · rw [bc_set ⟨by omega, h6⟩, cN_s _ hi0, ← h.2.2]
    have q := h.1 (f i) (by omega) h6
    by_cases z : (nb lo).testBit (f i).toNat = false
    · rw [if_pos z, pU_t (by omega) (fun ⟨j, j1, j2, j3⟩ => by rw [q.mpr ⟨by omega, j, j1, j2, j3⟩] at z; simp at z), if_pos rfl]
      omega
    · have zt : (nb lo).testBit (f i).toNat = true := by simpa using z
      obtain ⟨_, j, j1, j2, j3⟩ := q.mp zt
      rw [if_neg z, pU_f (fun k => k.2 ⟨j, j1, j2, j3⟩)]
      simp
theorem unI_hi {f : Int → Int} {lo hi : Int64} {i : Int} (h : unI f lo hi i) (hi0 : 0 ≤ i) (h0 : 64 ≤ f i) (h6 : f i < 128) : unI f lo (hi ||| xlshl (Int64.ofInt 1) (f i - 64)) (i + 1) := by
  refine ⟨fun v h1 h2 => ?_, fun v h1 h2 => ?_, ?_⟩
  · rw [h.1 v h1 h2]
    constructor
    · rintro ⟨q, j, j1, j2, j3⟩; exact ⟨q, j, j1, by omega, j3⟩
    · rintro ⟨q, j, j1, j2, j3⟩
      refine ⟨q, j, j1, ?_, j3⟩
      by_cases e : j = i
      · rw [e] at j3; omega
      · omega
  · rw [nb_set ⟨by omega, by omega⟩ v h1, Bool.or_eq_true, decide_eq_true_eq, h.2.1 v h1 h2]
    constructor
    · rintro (⟨j, j1, j2, j3⟩ | q)
      · exact ⟨j, j1, by omega, j3⟩
      · exact ⟨i, hi0, by omega, by omega⟩
    · rintro ⟨j, j1, j2, j3⟩
      by_cases e : j = i
      · exact Or.inr (by rw [← e]; omega)
      · exact Or.inl ⟨j, j1, by omega, j3⟩
  · rw [bc_set ⟨by omega, by omega⟩, cN_s _ hi0, ← h.2.2]
    have q := h.2.1 (f i - 64) (by omega) (by omega)
    by_cases z : (nb hi).testBit (f i - 64).toNat = false
    · rw [if_pos z, pU_t (by omega) (fun ⟨j, j1, j2, j3⟩ => by rw [q.mpr ⟨j, j1, j2, by omega⟩] at z; simp at z), if_pos rfl]
      omega
    · have zt : (nb hi).testBit (f i - 64).toNat = true := by simpa using z
      obtain ⟨j, j1, j2, j3⟩ := q.mp zt
      rw [if_neg z, pU_f (fun k => k.2 ⟨j, j1, j2, by omega⟩)]
      simp
set_option maxRecDepth 20000 in
set_option maxHeartbeats 4000000 in
theorem c_unlike {d : Nat} {A : abAl} {M : abMem} {o : Nat} {n : Int} {z : Int} (hz : z < 100000) (hk : A.2 o = (20, z)) (hn : 0 ≤ n ∧ n ≤ z) (hv : ∀ j : Int, 0 ≤ j → j < n → 0 ≤ gI M o j ∧ gI M o j ≤ 99) (hd : 1 ≤ d) : abW d (0, 0) 274 0 (abEnt (abL 274) [vr (some o), vi n]) [] (0, 0) A M (qE (some (vi (cN (pU (gI M o)) n.toNat))) A M) := by
  have L8 : ∀ (kf : Nat) (lo hi : Int64) (i : Int), (unI (gI M o) lo hi i) → (0 ≤ i ∧ i ≤ n) → ((n - i).toNat) < kf → abW d (0, 0) 274 8 [some (vr (some o)), some (vi n), some (vl lo), none, some (vl hi), none, some (vi i)] [] (0, 0) A (M) (qE (some (vi (cN (pU (gI M o)) n.toNat))) A M) := by
    intro kf
    induction kf with
    | zero => intro lo hi  i  g1 g2 hm9; exact absurd hm9 (Nat.not_lt_zero _)
    | succ kf ih8 =>
      intro lo hi  i  g1 g2 hm8
      have ih := ih8
      refine bw_iload rfl rfl ?_
      refine bw_iload rfl rfl ?_
      refine bw_icge rfl (fun c11 => ?_) (fun c11 => ?_)
      · skip
        refine bw_lload rfl rfl ?_
        refine bw_callSe (e := d - 1) (as := [_]) rfl (by omega) rfl rfl (Nat.le_of_ble_eq_true rfl) (Nat.le_of_ble_eq_true rfl) (c_bitCount) ?_
        refine bw_lload rfl rfl ?_
        refine bw_callSe (e := d - 1) (as := [_]) rfl (by omega) rfl rfl (Nat.le_of_ble_eq_true rfl) (Nat.le_of_ble_eq_true rfl) (c_bitCount) ?_
        have b9 := cN_in (fun i => (nb lo).testBit i.toNat) 64
        have b8 := cN_in (fun i => (nb hi).testBit i.toNat) 64
        have b7 : 0 ≤ bc lo ∧ bc lo ≤ 64 := b9
        have b6 : 0 ≤ bc hi ∧ bc hi ≤ 64 := b8
        refine bw_iadd rfl ⟨by omega, by omega⟩ ?_
        refine bw_ret rfl rfl ?_
        obtain rfl : i = n := by omega
        exact ⟨by rw [← g1.2.2], rfl, rfl⟩
      · skip
        have v9 := hv i (by omega) (by omega)
        refine bw_aload rfl rfl ?_
        refine bw_iload rfl rfl ?_
        refine bw_aldi rfl hk (by omega) (by omega) ?_
        refine bw_push rfl ?_
        refine bw_iclt rfl (fun c20 => ?_) (fun c20 => ?_)
        · skip
          refine bw_aload rfl rfl ?_
          refine bw_iload rfl rfl ?_
          refine bw_aldi rfl hk (by omega) (by omega) ?_
          refine bw_ifle rfl (fun c44 => ?_) (fun c44 => ?_)
          · skip
            refine bw_iinc (ls2 := [_, _, _, _, _, _, _]) rfl rfl rfl ⟨by omega, by omega⟩ rfl ?_
            refine bw_goto rfl ?_
            first
            | exact ih _ _ _ (unI_skip g1 (by omega) (by omega)) (by omega) (by omega)
            | exact ih _ _ _ (unI_lo g1 (by omega) (by omega) (by omega)) (by omega) (by omega)
            | exact ih _ _ _ (unI_hi g1 (by omega) (by omega) (by omega)) (by omega) (by omega)
          · skip
            refine bw_lload rfl rfl ?_
            refine bw_lconst rfl ?_
            refine bw_aload rfl rfl ?_
            refine bw_iload rfl rfl ?_
            refine bw_aldi rfl hk (by omega) (by omega) ?_
            refine bw_lshl rfl ?_
            refine bw_lor rfl ?_
            refine bw_lstore (ls2 := [_, _, _, _, _, _, _]) rfl rfl (Nat.le_of_ble_eq_true rfl) rfl ?_
            refine bw_iinc (ls2 := [_, _, _, _, _, _, _]) rfl rfl rfl ⟨by omega, by omega⟩ rfl ?_
            refine bw_goto rfl ?_
            first
            | exact ih _ _ _ (unI_skip g1 (by omega) (by omega)) (by omega) (by omega)
            | exact ih _ _ _ (unI_lo g1 (by omega) (by omega) (by omega)) (by omega) (by omega)
            | exact ih _ _ _ (unI_hi g1 (by omega) (by omega) (by omega)) (by omega) (by omega)
        · skip
          refine bw_lload rfl rfl ?_
          refine bw_lconst rfl ?_
          refine bw_aload rfl rfl ?_
          refine bw_iload rfl rfl ?_
          refine bw_aldi rfl hk (by omega) (by omega) ?_
          refine bw_push rfl ?_
          refine bw_isub rfl ⟨by omega, by omega⟩ ?_
          refine bw_lshl rfl ?_
          refine bw_lor rfl ?_
          refine bw_lstore (ls2 := [_, _, _, _, _, _, _]) rfl rfl (Nat.le_of_ble_eq_true rfl) rfl ?_
          refine bw_goto rfl ?_
          refine bw_iinc (ls2 := [_, _, _, _, _, _, _]) rfl rfl rfl ⟨by omega, by omega⟩ rfl ?_
          refine bw_goto rfl ?_
          first
          | exact ih _ _ _ (unI_skip g1 (by omega) (by omega)) (by omega) (by omega)
          | exact ih _ _ _ (unI_lo g1 (by omega) (by omega) (by omega)) (by omega) (by omega)
          | exact ih _ _ _ (unI_hi g1 (by omega) (by omega) (by omega)) (by omega) (by omega)
  show abW d (0, 0) 274 0 [some (vr (some o)), some (vi n), none, none, none, none, none] [] (0, 0) A M (qE (some (vi (cN (pU (gI M o)) n.toNat))) A M)
  refine bw_lconst rfl ?_
  refine bw_lstore (ls2 := [_, _, _, _, _, _, _]) rfl rfl (Nat.le_of_ble_eq_true rfl) rfl ?_
  refine bw_lconst rfl ?_
  refine bw_lstore (ls2 := [_, _, _, _, _, _, _]) rfl rfl (Nat.le_of_ble_eq_true rfl) rfl ?_
  refine bw_push rfl ?_
  refine bw_istore (ls2 := [_, _, _, _, _, _, _]) rfl rfl (Nat.le_of_ble_eq_true rfl) rfl ?_
  exact L8 (n.toNat + 1) _ _ 0 (unI_0 _) (by omega) (by omega)
