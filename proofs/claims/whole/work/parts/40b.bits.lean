/-! The floor's cells and directions as numbers; sets of cells as longs -/
def opI : Option Nat → Int32
  | none => -1
  | some c => nI c
/-- the cell beside a cell -/
def bs (c d : Nat) : Option Nat :=
  if d = 0 then (if c < 6 then none else some (c - 6))
  else if d = 1 then (if c % 6 < 5 then some (c + 1) else none)
  else if d = 2 then (if c < 30 then some (c + 6) else none)
  else (if 0 < c % 6 then some (c - 1) else none)
theorem bs_lt : ∀ c, c < 36 → ∀ d, d < 4 → ∀ x, bs c d = some x → x < 36 := by
  intro c hc d hd x h
  unfold bs at h
  split at h
  · split at h <;> simp at h; omega
  · split at h
    · split at h <;> simp at h; omega
    · split at h
      · split at h <;> simp at h; omega
      · split at h <;> simp at h; omega
theorem pu_beside : ∀ c, c < 36 → ∀ d, d < 4 → mX2_beside (nI c) (nI d) = opI (bs c d) := by decide +kernel
theorem pu_besideN (d : Int32) : mX2_beside (-1) d = -1 := by
  unfold mX2_beside
  rw [if_pos (by decide)]
theorem pu_next : ∀ c, c < 36 → ∀ d, d < 4 → mX9_next (nI c) (nI d) = opI (bs c d) := by decide +kernel
theorem pu_turned : ∀ d, d < 4 → ∀ k, k < 4 → mX2_turned (nI d) (nI k) = nI ((d + k) % 4) := by decide +kernel
theorem pu_lt {a b : Nat} (ha : a < 2 ^ 31) (hb : b < 2 ^ 31) : nI a < nI b ↔ a < b := nI_ltI ha hb
theorem pu_le {a b : Nat} (ha : a < 2 ^ 31) (hb : b < 2 ^ 31) : nI a ≤ nI b ↔ a ≤ b := nI_leI ha hb
theorem pu_neg {a : Nat} (ha : a < 2 ^ 31) : ¬ nI a < 0 := nI_pos ha
theorem opI_none {o : Option Nat} (h : ∀ x, o = some x → x < 36) : opI o = -1 ↔ o = none := by
  cases o with
  | none => simp [opI]
  | some c =>
    have hc : c < 36 := h c rfl
    refine ⟨fun e => ?_, fun e => by cases e⟩
    exfalso
    have key : ∀ c, c < 36 → ¬ nI c = -1 := by decide +kernel
    exact key c hc e
theorem pu_setOf {c : Nat} (hc : c < 36) : mX2_setOf (nI c) = lN (2 ^ c) := by
  unfold mX2_setOf
  rw [if_neg (pu_neg (by omega)), if_neg (fun h => by
    have h1 : nI 36 ≤ nI c := h
    rw [pu_le (by omega) (by omega)] at h1
    omega)]
  have h := wb_shl 1 (k := c) (by omega)
  rw [Nat.one_mul] at h
  exact h
theorem pu_setOfN : mX2_setOf (-1) = lN 0 := by decide +kernel
theorem pu_bit01 (n k : Nat) : (lg_cmp (lN (n / 2 ^ k % 2)) (0 : Int64) = 0) ↔ n.testBit k = false := by
  have h : n / 2 ^ k % 2 = 0 ∨ n / 2 ^ k % 2 = 1 := by omega
  rw [Nat.testBit_eq_decide_div_mod_eq]
  rcases h with h | h <;> rw [h]
  · simp; decide +kernel
  · simp; decide +kernel
theorem pu_holds {n c : Nat} (hn : n < 2 ^ 64) (hc : c < 36) : mX2_holds (lN n) (nI c) = if n.testBit c then 1 else 0 := by
  unfold mX2_holds
  rw [if_neg (pu_neg (by omega)), if_neg (fun h => by
    have h1 : nI 36 ≤ nI c := h
    rw [pu_le (by omega) (by omega)] at h1
    omega)]
  have h : jushrl (lN n) (nI c) &&& 1 = lN (n / 2 ^ c % 2) := wb_bit hn (by omega)
  rw [h]
  by_cases hb : n.testBit c = true
  · rw [if_neg (fun e => by rw [pu_bit01] at e; rw [e] at hb; cases hb), if_pos hb]
  · have hb' : n.testBit c = false := by simpa using hb
    rw [if_pos ((pu_bit01 n c).mpr hb'), if_neg hb]
theorem pu_holdsN (x : Int64) : mX2_holds x (-1) = 0 := by
  unfold mX2_holds
  rw [if_pos (by decide)]
