/-! Long.bitCount of a set of at most 40 places, by its five bytes -/
theorem bc_and {a b x y : Nat} (hb : b < 256) (hy : y < 256) : (256 * a + b) &&& (256 * x + y) = 256 * (a &&& x) + (b &&& y) := by
  have h1 : b &&& y < 2 ^ 8 := Nat.lt_of_le_of_lt Nat.and_le_left hb
  apply Nat.eq_of_testBit_eq
  intro i
  have e1 : (256 * a + b).testBit i = if i < 8 then b.testBit i else a.testBit (i - 8) := Nat.testBit_two_pow_mul_add a (i := 8) hb i
  have e2 : (256 * x + y).testBit i = if i < 8 then y.testBit i else x.testBit (i - 8) := Nat.testBit_two_pow_mul_add x (i := 8) hy i
  have e3 : (256 * (a &&& x) + (b &&& y)).testBit i = if i < 8 then (b &&& y).testBit i else (a &&& x).testBit (i - 8) := Nat.testBit_two_pow_mul_add (a &&& x) (i := 8) h1 i
  rw [Nat.testBit_and, e1, e2, e3]
  by_cases h : i < 8
  · simp [h, Nat.testBit_and]
  · simp [h, Nat.testBit_and]
/-- the mask m in k bytes -/
def bc_m (m : Nat) : Nat → Nat
  | 0 => 0
  | k + 1 => 256 * bc_m m k + m
def bc_a (k n : Nat) : Nat := n - (n / 2 &&& bc_m 0x55 k)
def bc_b (k n : Nat) : Nat := (n &&& bc_m 0x33 k) + (n / 4 &&& bc_m 0x33 k)
def bc_c (k n : Nat) : Nat := (n + n / 16) &&& bc_m 0x0f k
theorem bc_a1 : ∀ b, b < 256 → ∀ t, t < 2 → (b / 2 + 128 * t) &&& 0x55 = b / 2 &&& 0x55 := by decide +kernel
theorem bc_a2 : ∀ b, b < 256 → b / 2 &&& 0x55 ≤ b ∧ b - (b / 2 &&& 0x55) < 256 := by decide +kernel
theorem bc_b1 : ∀ b, b < 256 → ∀ t, t < 4 → (b / 4 + 64 * t) &&& 0x33 = b / 4 &&& 0x33 := by decide +kernel
theorem bc_b2 : ∀ b, b < 256 → (b &&& 0x33) + (b / 4 &&& 0x33) < 256 := by decide +kernel
theorem bc_lt (m : Nat) (k : Nat) (n : Nat) : n &&& bc_m m k ≤ n := Nat.and_le_left
/-- a byte's own count, by the three steps -/
def bc_p (b : Nat) : Nat := bc_c 1 (bc_b 1 (bc_a 1 b))
theorem bc_p8 : ∀ b, b < 256 → bc_p b = fb_ct b.testBit 8 ∧ bc_p b ≤ 8 ∧ bc_b 1 (bc_a 1 b) ≤ 0x44 ∧ bc_b 1 (bc_a 1 b) % 16 ≤ 4 ∧ bc_b 1 (bc_a 1 b) / 16 ≤ 4 := by decide +kernel
theorem bc_a_step {k a b : Nat} (hb : b < 256) : bc_a (k + 1) (256 * a + b) = 256 * bc_a k a + bc_a 1 b := by
  unfold bc_a
  have e : (256 * a + b) / 2 = 256 * (a / 2) + (b / 2 + 128 * (a % 2)) := by omega
  have hl : b / 2 + 128 * (a % 2) < 256 := by omega
  rw [e, show bc_m 0x55 (k + 1) = 256 * bc_m 0x55 k + 0x55 from rfl, bc_and hl (by decide), bc_a1 b hb (a % 2) (by omega)]
  have h1 := bc_a2 b hb
  have h2 : a / 2 &&& bc_m 0x55 k ≤ a := Nat.le_trans Nat.and_le_left (Nat.div_le_self a 2)
  rw [show bc_m 0x55 1 = 0x55 from rfl]
  omega
theorem bc_b_step {k a b : Nat} (hb : b < 256) : bc_b (k + 1) (256 * a + b) = 256 * bc_b k a + bc_b 1 b := by
  unfold bc_b
  have e : (256 * a + b) / 4 = 256 * (a / 4) + (b / 4 + 64 * (a % 4)) := by omega
  have hl : b / 4 + 64 * (a % 4) < 256 := by omega
  rw [e, show bc_m 0x33 (k + 1) = 256 * bc_m 0x33 k + 0x33 from rfl, bc_and hl (by decide), bc_and hb (by decide), bc_b1 b hb (a % 4) (by omega), show bc_m 0x33 1 = 0x33 from rfl]
  omega
theorem bc_15 (n : Nat) : n &&& 0x0f = n % 16 := Nat.and_two_pow_sub_one_eq_mod n 4
theorem bc_c_step {k a b : Nat} (hb : b ≤ 0x44) (ha : a % 16 ≤ 4) : bc_c (k + 1) (256 * a + b) = 256 * bc_c k a + bc_c 1 b := by
  unfold bc_c
  have e : 256 * a + b + (256 * a + b) / 16 = 256 * (a + a / 16) + (b + b / 16 + 16 * (a % 16)) := by omega
  have hl : b + b / 16 + 16 * (a % 16) < 256 := by omega
  rw [e, show bc_m 0x0f (k + 1) = 256 * bc_m 0x0f k + 0x0f from rfl, bc_and hl (by decide), bc_15, show bc_m 0x0f 1 = 0x0f from rfl, bc_15]
  omega
/-- the bytes of n: k of them -/
theorem bc_bytes (k a b : Nat) (hb : b < 256) (h : bc_b k (bc_a k a) % 16 ≤ 4) : bc_c (k + 1) (bc_b (k + 1) (bc_a (k + 1) (256 * a + b))) = 256 * bc_c k (bc_b k (bc_a k a)) + bc_p b := by
  have h8 := bc_p8 b hb
  have h1 : bc_a 1 b < 256 := (bc_a2 b hb).2
  rw [bc_a_step hb, bc_b_step h1, bc_c_step h8.2.2.1 h]
  rfl
theorem bc_low (k a b : Nat) (hb : b < 256) : bc_b (k + 1) (bc_a (k + 1) (256 * a + b)) % 16 ≤ 4 := by
  have h8 := bc_p8 b hb
  have h1 : bc_a 1 b < 256 := (bc_a2 b hb).2
  rw [bc_a_step hb, bc_b_step h1]
  omega
theorem bc_five {b0 b1 b2 b3 b4 : Nat} (h0 : b0 < 256) (h1 : b1 < 256) (h2 : b2 < 256) (h3 : b3 < 256) (h4 : b4 < 256) :
    bc_c 8 (bc_b 8 (bc_a 8 (256 * (256 * (256 * (256 * b4 + b3) + b2) + b1) + b0))) = 256 * (256 * (256 * (256 * bc_p b4 + bc_p b3) + bc_p b2) + bc_p b1) + bc_p b0 := by
  have z : ∀ k, bc_c k (bc_b k (bc_a k 0)) = 0 ∧ bc_b k (bc_a k 0) = 0 := by
    intro k
    have e1 : bc_a k 0 = 0 := by unfold bc_a; simp
    have e2 : bc_b k 0 = 0 := by unfold bc_b; simp
    have e3 : bc_c k 0 = 0 := by unfold bc_c; simp
    rw [e1, e2, e3]; exact ⟨rfl, rfl⟩
  have g4 : bc_c 4 (bc_b 4 (bc_a 4 b4)) = bc_p b4 ∧ bc_b 4 (bc_a 4 b4) % 16 ≤ 4 := by
    have q := bc_bytes 3 0 b4 h4 (by rw [(z 3).2]; decide)
    have q2 := bc_low 3 0 b4 h4
    rw [(z 3).1] at q
    simp only [Nat.mul_zero, Nat.zero_add] at q q2
    exact ⟨q, q2⟩
  rw [bc_bytes 7 _ b0 h0 (bc_low 6 _ b1 h1), bc_bytes 6 _ b1 h1 (bc_low 5 _ b2 h2), bc_bytes 5 _ b2 h2 (bc_low 4 _ b3 h3), bc_bytes 4 _ b3 h3 g4.2, g4.1]
theorem bc_and127 (a : Nat) : a &&& 127 = a % 128 := Nat.and_two_pow_sub_one_eq_mod a 7
theorem bc_andI (a b : Nat) : nI a &&& nI b = nI (a &&& b) := by
  apply Int32.toBitVec_inj.mp
  show BitVec.ofNat 32 a &&& BitVec.ofNat 32 b = BitVec.ofNat 32 (a &&& b)
  apply BitVec.eq_of_toNat_eq
  rw [BitVec.toNat_and, BitVec.toNat_ofNat, BitVec.toNat_ofNat, BitVec.toNat_ofNat, Nat.and_mod_two_pow]
theorem bc_shr {n : Nat} (hn : n < 2 ^ 64) (k : Nat) (hk : k < 64) : jushrl (lN n) (nI k) = lN (n / 2 ^ k) := wb_shr hn hk
theorem bc_sum {c0 c1 c2 c3 c4 C D E F : Nat} (h0 : c0 ≤ 8) (h1 : c1 ≤ 8) (h2 : c2 ≤ 8) (h3 : c3 ≤ 8) (h4 : c4 ≤ 8)
    (hC : C = 256 * (256 * (256 * (256 * c4 + c3) + c2) + c1) + c0) (hD : D = C + C / 2 ^ 8) (hE : E = D + D / 2 ^ 16) (hF : F = E + E / 2 ^ 32) : F % 128 = c0 + c1 + c2 + c3 + c4 := by
  have d1 : C / 2 ^ 8 = 256 * (256 * (256 * c4 + c3) + c2) + c1 := by omega
  have d2 : D = 4294967296 * c4 + 16777216 * (c3 + c4) + 65536 * (c2 + c3) + 256 * (c1 + c2) + (c0 + c1) := by omega
  have d3 : D / 2 ^ 16 = 65536 * c4 + 256 * (c3 + c4) + (c2 + c3) := by omega
  have d4 : E = 4294967296 * c4 + 16777216 * (c3 + c4) + 65536 * (c2 + c3 + c4) + 256 * (c1 + c2 + c3 + c4) + (c0 + c1 + c2 + c3) := by omega
  have d5 : E / 2 ^ 32 = c4 := by omega
  omega
theorem bc_bit5 {b0 b1 b2 b3 b4 : Nat} (h0 : b0 < 256) (h1 : b1 < 256) (h2 : b2 < 256) (h3 : b3 < 256) (h4 : b4 < 256) :
    fb_ct (256 * (256 * (256 * (256 * b4 + b3) + b2) + b1) + b0).testBit 40 = fb_ct b0.testBit 8 + fb_ct b1.testBit 8 + fb_ct b2.testBit 8 + fb_ct b3.testBit 8 + fb_ct b4.testBit 8 := by
  have key : ∀ (a b m : Nat), b < 256 → fb_ct (256 * a + b).testBit (8 + m) = fb_ct b.testBit 8 + fb_ct a.testBit m := by
    intro a b m hb
    have e1 : ∀ i, (256 * a + b).testBit i = if i < 8 then b.testBit i else a.testBit (i - 8) := fun i => Nat.testBit_two_pow_mul_add a (i := 8) hb i
    rw [fb_ct_split]
    congr 1
    · exact fb_ct_cong (fun k hk => by rw [e1, if_pos hk])
    · exact fb_ct_cong (fun k hk => by rw [e1, if_neg (by omega)]; congr 1; omega)
  rw [show (40 : Nat) = 8 + 32 from rfl, key _ b0 32 h0, show (32 : Nat) = 8 + 24 from rfl, key _ b1 24 h1, show (24 : Nat) = 8 + 16 from rfl, key _ b2 16 h2, show (16 : Nat) = 8 + 8 from rfl, key _ b3 8 h3]
  omega
theorem pu_bitCount {n : Nat} (hn : n < 2 ^ 40) : mJ13_bitCount_95d88 (lN n) = nI (fb_ct n.testBit 40) := by
  have hA : bc_a 8 n ≤ n := Nat.sub_le _ _
  have hB : bc_b 8 (bc_a 8 n) ≤ 2 * n := by
    have q1 : bc_a 8 n &&& bc_m 0x33 8 ≤ bc_a 8 n := Nat.and_le_left
    have q2 : bc_a 8 n / 4 &&& bc_m 0x33 8 ≤ bc_a 8 n / 4 := Nat.and_le_left
    unfold bc_b
    omega
  have hC : bc_c 8 (bc_b 8 (bc_a 8 n)) ≤ 4 * n := by
    have q1 : (bc_b 8 (bc_a 8 n) + bc_b 8 (bc_a 8 n) / 16) &&& bc_m 0x0f 8 ≤ bc_b 8 (bc_a 8 n) + bc_b 8 (bc_a 8 n) / 16 := Nat.and_le_left
    unfold bc_c
    omega
  unfold mJ13_bitCount_95d88
  have e1 : lN n - (jushrl (lN n) (1 : Int32) &&& (6148914691236517205 : Int64)) = lN (bc_a 8 n) := by
    have q : jushrl (lN n) (1 : Int32) = lN (n / 2) := bc_shr (by omega) 1 (by decide)
    rw [q]
    have q2 : lN (n / 2) &&& (6148914691236517205 : Int64) = lN (n / 2 &&& bc_m 0x55 8) := wb_and (b := bc_m 0x55 8) (by omega) (by decide)
    rw [q2, lN_sub (Nat.le_trans Nat.and_le_left (Nat.div_le_self n 2))]
    rfl
  rw [e1]
  generalize hA0 : bc_a 8 n = A at *
  have e2 : (lN A &&& (3689348814741910323 : Int64)) + (jushrl (lN A) (2 : Int32) &&& (3689348814741910323 : Int64)) = lN (bc_b 8 A) := by
    have q : jushrl (lN A) (2 : Int32) = lN (A / 4) := bc_shr (by omega) 2 (by decide)
    rw [q]
    have q2 : lN (A / 4) &&& (3689348814741910323 : Int64) = lN (A / 4 &&& bc_m 0x33 8) := wb_and (b := bc_m 0x33 8) (by omega) (by decide)
    have q3 : lN A &&& (3689348814741910323 : Int64) = lN (A &&& bc_m 0x33 8) := wb_and (b := bc_m 0x33 8) (by omega) (by decide)
    rw [q2, q3, lN_add]
    rfl
  rw [e2]
  generalize hB0 : bc_b 8 A = B at *
  have e3 : (lN B + jushrl (lN B) (4 : Int32)) &&& (1085102592571150095 : Int64) = lN (bc_c 8 B) := by
    have q : jushrl (lN B) (4 : Int32) = lN (B / 16) := bc_shr (by omega) 4 (by decide)
    rw [q, lN_add]
    exact wb_and (b := bc_m 0x0f 8) (by omega) (by decide)
  rw [e3]
  generalize hC0 : bc_c 8 B = C at *
  have e4 : lN C + jushrl (lN C) (8 : Int32) = lN (C + C / 2 ^ 8) := by
    have q : jushrl (lN C) (8 : Int32) = lN (C / 2 ^ 8) := bc_shr (by omega) 8 (by decide)
    rw [q, lN_add]
  rw [e4]
  obtain ⟨D, hD⟩ : ∃ D, D = C + C / 2 ^ 8 := ⟨_, rfl⟩
  rw [← hD]
  have e5 : lN D + jushrl (lN D) (16 : Int32) = lN (D + D / 2 ^ 16) := by
    have q : jushrl (lN D) (16 : Int32) = lN (D / 2 ^ 16) := bc_shr (by omega) 16 (by decide)
    rw [q, lN_add]
  rw [e5]
  obtain ⟨E, hE⟩ : ∃ E, E = D + D / 2 ^ 16 := ⟨_, rfl⟩
  rw [← hE]
  have e6 : lN E + jushrl (lN E) (32 : Int32) = lN (E + E / 2 ^ 32) := by
    have q : jushrl (lN E) (32 : Int32) = lN (E / 2 ^ 32) := bc_shr (by omega) 32 (by decide)
    rw [q, lN_add]
  rw [e6]
  obtain ⟨F, hF⟩ : ∃ F, F = E + E / 2 ^ 32 := ⟨_, rfl⟩
  rw [← hF, lN_i, show (127 : Int32) = nI 127 from rfl, bc_andI, bc_and127]
  congr 1
  obtain ⟨b0, b1, b2, b3, b4, h0, h1, h2, h3, h4, hn5⟩ : ∃ b0 b1 b2 b3 b4, b0 < 256 ∧ b1 < 256 ∧ b2 < 256 ∧ b3 < 256 ∧ b4 < 256 ∧ n = 256 * (256 * (256 * (256 * b4 + b3) + b2) + b1) + b0 :=
    ⟨n % 256, n / 256 % 256, n / 65536 % 256, n / 16777216 % 256, n / 4294967296, by omega, by omega, by omega, by omega, by omega, by omega⟩
  have h5 := bc_five h0 h1 h2 h3 h4
  rw [← hn5, hA0, hB0, hC0] at h5
  have p0 := bc_p8 b0 h0
  have p1 := bc_p8 b1 h1
  have p2 := bc_p8 b2 h2
  have p3 := bc_p8 b3 h3
  have p4 := bc_p8 b4 h4
  rw [bc_sum p0.2.1 p1.2.1 p2.2.1 p3.2.1 p4.2.1 h5 hD hE hF, hn5, bc_bit5 h0 h1 h2 h3 h4, p0.1, p1.1, p2.1, p3.1, p4.1]
