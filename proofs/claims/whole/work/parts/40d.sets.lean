/-! Sets of cells as longs -/
def nb (P : Nat → Bool) : Nat → Nat
  | 0 => 0
  | n + 1 => nb P n + (if P n then 2 ^ n else 0)
theorem nb_lt (P : Nat → Bool) : ∀ n, nb P n < 2 ^ n
  | 0 => by simp [nb]
  | n + 1 => by
    have := nb_lt P n
    show nb P n + (if P n then 2 ^ n else 0) < 2 ^ (n + 1)
    rw [Nat.pow_succ]
    split <;> omega
theorem nb_tb (P : Nat → Bool) : ∀ n i, (nb P n).testBit i = (decide (i < n) && P i)
  | 0, i => by simp [nb]
  | n + 1, i => by
    have hl := nb_lt P n
    have ih := nb_tb P n i
    show (nb P n + (if P n then 2 ^ n else 0)).testBit i = _
    by_cases hp : P n = true
    · rw [if_pos hp]
      rw [Nat.add_comm, ← Nat.mul_one (2 ^ n), Nat.testBit_two_pow_mul_add 1 hl i]
      by_cases hi : i < n
      · rw [if_pos hi, ih]; simp [hi, Nat.lt_succ_of_lt hi]
      · rw [if_neg hi]
        by_cases he : i = n
        · subst he; simp [hp]
        · have h1 : ¬ i < n + 1 := by omega
          have h2 : i - n ≠ 0 := by omega
          rw [show i - n = (i - n - 1) + 1 by omega, Nat.testBit_succ]
          simp [h1]
    · rw [if_neg hp, Nat.add_zero, ih]
      by_cases hi : i < n
      · simp [hi, Nat.lt_succ_of_lt hi]
      · by_cases he : i = n
        · subst he; simp at hp; simp [hp]
        · have h1 : ¬ i < n + 1 := by omega
          simp [hi, h1]
theorem nb_cong {P Q : Nat → Bool} : ∀ {n : Nat}, (∀ x, x < n → P x = Q x) → nb P n = nb Q n
  | 0, _ => rfl
  | n + 1, h => by
    show nb P n + _ = nb Q n + _
    rw [nb_cong (fun x hx => h x (by omega)), h n (by omega)]
theorem nb_eq {P Q : Nat → Bool} {n : Nat} (h : nb P n = nb Q n) : ∀ x, x < n → P x = Q x := by
  intro x hx
  have h1 := nb_tb P n x
  have h2 := nb_tb Q n x
  rw [h, h2] at h1
  simpa [hx] using h1.symm
theorem nb_of {P : Nat → Bool} {n k : Nat} (hk : k < 2 ^ n) (h : ∀ i, i < n → k.testBit i = P i) : k = nb P n := by
  apply Nat.eq_of_testBit_eq
  intro i
  rw [nb_tb]
  by_cases hi : i < n
  · simp [hi, h i hi]
  · simp [hi]
    exact Nat.testBit_lt_two_pow (Nat.lt_of_lt_of_le hk (Nat.pow_le_pow_right (by decide) (by omega)))
theorem nb_lt64 (P : Nat → Bool) : nb P 36 < 2 ^ 64 := Nat.lt_trans (nb_lt P 36) (by decide)
def sL (P : Nat → Bool) : Int64 := lN (nb P 36)
theorem sL_cong {P Q : Nat → Bool} (h : ∀ x, x < 36 → P x = Q x) : sL P = sL Q := by
  unfold sL; rw [nb_cong h]
theorem lN_inj {a b : Nat} (ha : a < 2 ^ 64) (hb : b < 2 ^ 64) (h : lN a = lN b) : a = b := by
  have h1 := congrArg (fun x : Int64 => x.toBitVec.toNat) h
  simpa [wb_tn ha, wb_tn hb] using h1
theorem sL_inj {P Q : Nat → Bool} (h : sL P = sL Q) : ∀ x, x < 36 → P x = Q x := nb_eq (lN_inj (nb_lt64 P) (nb_lt64 Q) h)
theorem sL_and (P Q : Nat → Bool) : sL P &&& sL Q = sL (fun x => P x && Q x) := by
  unfold sL
  rw [wb_and (nb_lt64 P) (nb_lt64 Q)]
  congr 1
  apply nb_of (Nat.lt_of_le_of_lt Nat.and_le_left (nb_lt P 36))
  intro i hi
  rw [Nat.testBit_and, nb_tb, nb_tb]; simp [hi]
theorem sL_or (P Q : Nat → Bool) : sL P ||| sL Q = sL (fun x => P x || Q x) := by
  unfold sL
  rw [wb_or (nb_lt64 P) (nb_lt64 Q)]
  congr 1
  apply nb_of (Nat.or_lt_two_pow (nb_lt P 36) (nb_lt Q 36))
  intro i hi
  rw [Nat.testBit_or, nb_tb, nb_tb]; simp [hi]
theorem lN_neg1 : (-1 : Int64) = lN (2 ^ 64 - 1) := by decide +kernel
theorem lN_xor {a b : Nat} (ha : a < 2 ^ 64) (hb : b < 2 ^ 64) : lN a ^^^ lN b = lN (a ^^^ b) := by
  apply wb_inj
  apply BitVec.eq_of_toNat_eq
  rw [show (lN a ^^^ lN b).toBitVec = (lN a).toBitVec ^^^ (lN b).toBitVec from rfl, BitVec.toNat_xor, wb_tn ha, wb_tn hb, wb_tn (Nat.xor_lt_two_pow ha hb)]
theorem sL_diff (P Q : Nat → Bool) : sL P &&& (sL Q ^^^ (-1 : Int64)) = sL (fun x => P x && !Q x) := by
  unfold sL
  rw [lN_neg1, lN_xor (nb_lt64 Q) (by decide), wb_and (nb_lt64 P) (Nat.xor_lt_two_pow (nb_lt64 Q) (by decide))]
  congr 1
  apply nb_of (Nat.lt_of_le_of_lt Nat.and_le_left (nb_lt P 36))
  intro i hi
  rw [Nat.testBit_and, Nat.testBit_xor, nb_tb, nb_tb, Nat.testBit_two_pow_sub_one]
  have : i < 64 := by omega
  simp [hi, this]
theorem sL_none : sL (fun _ => false) = 0 := by decide +kernel
theorem sL_set {c : Nat} (hc : c < 36) : mX2_setOf (nI c) = sL (fun x => x == c) := by
  rw [pu_setOf hc]
  unfold sL
  congr 1
  apply nb_of (Nat.pow_lt_pow_right (by decide) hc)
  intro i hi
  rw [Nat.testBit_two_pow]
  by_cases h : c = i
  · subst h; simp
  · simp [h]; exact fun q => h q.symm
theorem sL_setN : mX2_setOf (-1) = sL (fun _ => false) := by rw [pu_setOfN, sL_none]; decide +kernel
theorem sL_opt (o : Option Nat) (h : ∀ x, o = some x → x < 36) : mX2_setOf (opI o) = sL (fun x => decide (o = some x)) := by
  cases o with
  | none => exact sL_setN.trans (sL_cong (fun x _ => by simp))
  | some c => exact (sL_set (h c rfl)).trans (sL_cong (fun x _ => by
      by_cases e : x = c
      · subst e; simp
      · have e' : ¬ c = x := fun q => e q.symm
        simp [e, e']))
theorem sL_holds {P : Nat → Bool} {c : Nat} (hc : c < 36) : mX2_holds (sL P) (nI c) = if P c then 1 else 0 := by
  unfold sL
  rw [pu_holds (nb_lt64 P) hc, nb_tb]
  simp [hc]
theorem sL_holds0 {P : Nat → Bool} {c : Nat} (hc : c < 36) : mX2_holds (sL P) (nI c) = 0 ↔ P c = false := by
  rw [sL_holds hc]
  cases P c <;> simp
theorem sL_zero {P : Nat → Bool} : lg_cmp (sL P) (0 : Int64) = 0 ↔ ∀ x, x < 36 → P x = false := by
  have h : lg_cmp (sL P) (0 : Int64) = 0 ↔ sL P = 0 := by
    unfold lg_cmp
    constructor
    · intro h
      apply Classical.byContradiction
      intro q
      simp only [q, if_false] at h
      revert h
      split <;> decide
    · intro h; rw [h]; decide +kernel
  rw [h, ← sL_none]
  exact ⟨fun h => sL_inj h, fun h => sL_cong h⟩
theorem sL_count (P : Nat → Bool) : mJ13_bitCount_95d88 (sL P) = nI (fb_ct P 36) := by
  unfold sL
  rw [pu_bitCount (Nat.lt_trans (nb_lt P 36) (by decide))]
  congr 1
  have h1 : fb_ct (nb P 36).testBit 40 = fb_ct (nb P 36).testBit 36 := by
    have := fb_ct_split (nb P 36).testBit 36 4
    have z : fb_ct (fun k => (nb P 36).testBit (36 + k)) 4 = 0 := fb_ct_zero.mpr (fun k _ => by rw [nb_tb]; simp; intro q; exact absurd q (by omega))
    rw [this, z, Nat.add_zero]
  rw [h1]
  exact fb_ct_cong (fun k hk => by rw [nb_tb]; simp [hk])
