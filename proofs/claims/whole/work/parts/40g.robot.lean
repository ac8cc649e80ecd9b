/-! A robot's wish and its next place -/
def OKr (f : Nat) (h I : Nat → Int32) : Prop := f < 4 ∧ ∃ p l : Nat, h 7 = nI p ∧ h 8 = nI l ∧ l ≤ 10 ∧ (p < l ∨ (p = 0 ∧ l = 0)) ∧ ∀ j, j < l → ∃ i, i < 6 ∧ I j = nI i
/-- robot r in a row of the reference -/
def RR (s : Nat → Int32) (r f : Nat) (h I : Nat → Int32) : Prop := s (72 + 9 * r + 1) = nI f ∧ (∀ j, 2 ≤ j → j < 9 → s (72 + 9 * r + j) = h j) ∧ ∀ j, nI j < h 8 → j < 10 → s (90 + 10 * r + j) = I j
/-- a robot of the class -/
def RA (va vpa : Nat → Int32) (f : Nat) (h I : Nat → Int32) : Prop := va 1 = nI f ∧ (∀ j, 2 ≤ j → j < 9 → va j = h j) ∧ ∀ j, nI j < h 8 → j < 10 → vpa j = I j
def nowA (h I : Nat → Int32) : Int32 := I (h 7).toNatClampNeg
def wdA (f : Nat) (h I : Nat → Int32) : Option Nat := if h 8 = 0 then none else if nowA h I = 0 then some f else if nowA h I = 1 then some ((f + 2) % 4) else none
def byA (i : Int32) : Nat := if i = 2 then 3 else if i = 3 then 1 else if i = 4 then 2 else 0
def tfA (f : Nat) (h I : Nat → Int32) : Nat := if h 8 = 0 then f else (f + byA (nowA h I)) % 4
def tpA (h : Nat → Int32) : Nat → Int32 := if h 8 ≤ h 7 + 1 then upd h 7 0 else upd h 7 (h 7 + 1)
theorem g_prog {r p : Nat} (hr : r < 2) (hp : p < 10) : (((90 : Int32) + ((10 : Int32) * nI r)) + nI p) = nI (90 + 10 * r + p) := by
  have h : ∀ r, r < 2 → ∀ p, p < 10 → (((90 : Int32) + ((10 : Int32) * nI r)) + nI p) = nI (90 + 10 * r + p) := by decide +kernel
  exact h r hr p hp
theorem wd_lt {f : Nat} {h I : Nat → Int32} (hf : f < 4) : ∀ d, wdA f h I = some d → d < 4 := by
  intro d hd
  unfold wdA at hd
  split at hd
  · cases hd
  · split at hd
    · cases hd; exact hf
    · split at hd
      · cases hd; exact Nat.mod_lt _ (by decide)
      · cases hd
theorem jrem4 {a : Nat} (ha : a < 8) : jrem (nI a) (4 : Int32) = nI (a % 4) := by
  have h : ∀ a, a < 8 → jrem (nI a) (4 : Int32) = nI (a % 4) := by decide +kernel
  exact h a ha
theorem g_wants {s : Nat → Int32} {r f : Nat} {h I : Nat → Int32} (hr : r < 2) (hR : RR s r f h I) (hO : OKr f h I) : mX9_wants s (nI r) = some (opI (wdA f h I)) := by
  obtain ⟨hf, p, l, e7, e8, hl, hp, hi⟩ := hO
  have e8' : mX9_of s (nI r) (8 : Int32) = some (h 8) := (g_of s (k := 8) hr (by decide)).trans (by rw [hR.2.1 8 (by decide) (by decide)])
  have e7' : mX9_of s (nI r) (7 : Int32) = some (h 7) := (g_of s (k := 7) hr (by decide)).trans (by rw [hR.2.1 7 (by decide) (by decide)])
  have e1' : mX9_of s (nI r) (1 : Int32) = some (nI f) := (g_of s (k := 1) hr (by decide)).trans (by rw [hR.1])
  unfold mX9_wants wdA
  rw [e8', bo1_some]
  by_cases h8 : h 8 = 0
  · rw [if_pos h8, if_pos h8]; rfl
  · have hpl : p < l := by
      rcases hp with q | ⟨-, q⟩
      · exact q
      · exact absurd (by rw [e8, q]; decide +kernel) h8
    rw [if_neg h8, if_neg h8, e7', bo1_some, e7, g_prog hr (by omega), if_pos (g_idx (by omega) 117 (by omega)), nI_clamp (by omega), e1']
    have eI : s (90 + 10 * r + p) = I p := hR.2.2 p (by rw [e8]; exact nI_lt hpl (by omega)) (by omega)
    have en : nowA h I = I p := by unfold nowA; rw [e7, nI_clamp (by omega)]
    rw [eI, en]
    by_cases h0 : I p = 0
    · rw [if_pos h0, if_pos h0]; rfl
    · rw [if_neg h0, if_neg h0]
      by_cases h1 : I p = 1
      · rw [if_pos h1, if_pos h1, bo1_some, show nI f + (2 : Int32) = nI (f + 2) from nI_add f 2, jrem4 (by omega)]; rfl
      · rw [if_neg h1, if_neg h1]; rfl
theorem v_now {va vpa : Nat → Int32} {f : Nat} {h I : Nat → Int32} (hR : RA va vpa f h I) (hO : OKr f h I) : mX4_instructionNow va vpa = if h 8 = 0 then 5 else nowA h I := by
  obtain ⟨hf, p, l, e7, e8, hl, hp, hi⟩ := hO
  have a8 := hR.2.1 8 (by decide) (by decide)
  have a7 := hR.2.1 7 (by decide) (by decide)
  unfold mX4_instructionNow
  rw [a8]
  by_cases h8 : h 8 = 0
  · rw [if_pos h8, if_pos h8]
  · have hpl : p < l := by
      rcases hp with q | ⟨-, q⟩
      · exact q
      · exact absurd (by rw [e8, q]; decide +kernel) h8
    rw [if_neg h8, if_neg h8]
    unfold mX4_instruction
    rw [a8, a7, e7, e8, if_neg (pu_neg (by omega)), if_neg (fun q => by rw [pu_le (by omega) (by omega)] at q; omega), if_neg (fun q => by
      have q1 : nI 10 ≤ nI p := q
      rw [pu_le (by omega) (by omega)] at q1
      omega), nI_clamp (by omega), hR.2.2 p (by rw [e8]; exact nI_lt hpl (by omega)) (by omega)]
    unfold nowA
    rw [e7, nI_clamp (by omega)]
theorem v_wanted {va vpa : Nat → Int32} {f : Nat} {h I : Nat → Int32} (hR : RA va vpa f h I) (hO : OKr f h I) : mX4_wantedDirection va vpa = opI (wdA f h I) := by
  unfold mX4_wantedDirection wdA
  rw [v_now hR hO, hR.1]
  by_cases h8 : h 8 = 0
  · rw [if_pos h8, if_pos h8, if_neg (by decide), if_neg (by decide)]; rfl
  · rw [if_neg h8, if_neg h8]
    by_cases h0 : nowA h I = 0
    · rw [if_pos h0, if_pos h0]; rfl
    · rw [if_neg h0, if_neg h0]
      by_cases h1 : nowA h I = 1
      · rw [if_pos h1, if_pos h1, show (2 : Int32) = nI 2 from by decide +kernel, pu_turned f hO.1 2 (by decide)]; rfl
      · rw [if_neg h1, if_neg h1]; rfl
theorem v_turn {va vpa : Nat → Int32} {f : Nat} {h I : Nat → Int32} (hR : RA va vpa f h I) (hO : OKr f h I) : mX4_turn va vpa = va ∧ tfA f h I = f ∨ mX4_turn va vpa = upd va 1 (nI (tfA f h I)) := by
  unfold mX4_turn
  rw [v_now hR hO, hR.1]
  unfold tfA byA
  by_cases h8 : h 8 = 0
  · left
    simp only [if_pos h8]
    exact ⟨by rw [if_neg (by decide), if_neg (by decide), if_neg (by decide)], trivial⟩
  · simp only [if_neg h8]
    by_cases h2 : nowA h I = 2
    · right
      rw [if_pos h2, if_pos h2, show (3 : Int32) = nI 3 from by decide +kernel, pu_turned f hO.1 3 (by decide)]
    · rw [if_neg h2, if_neg h2]
      by_cases h3 : nowA h I = 3
      · right
        rw [if_pos h3, if_pos h3, show (1 : Int32) = nI 1 from by decide +kernel, pu_turned f hO.1 1 (by decide)]
      · rw [if_neg h3, if_neg h3]
        by_cases h4 : nowA h I = 4
        · right
          rw [if_pos h4, if_pos h4, show (2 : Int32) = nI 2 from by decide +kernel, pu_turned f hO.1 2 (by decide)]
        · left
          rw [if_neg h4, if_neg h4]
          exact ⟨rfl, Nat.mod_eq_of_lt hO.1⟩
