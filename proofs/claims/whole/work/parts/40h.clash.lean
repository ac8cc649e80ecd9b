/-! The reference's clash: whether two ways have a cell in common -/
theorem pth_step {d j : Nat} {o : Option Nat} (h : (pth d (j + 1) o).length = j + 1) : ∃ y, o = some y ∧ pth d (j + 1) o = y :: pth d j (bs y d) ∧ (pth d j (bs y d)).length = j := by
  cases o with
  | none => simp [pth] at h
  | some y => exact ⟨y, rfl, rfl, by simpa [pth] using h⟩
theorem g_isOnWay_L {d c : Nat} (hd : d < 4) (hc : c < 36) :
    ∀ (j n x k : Nat), j < n → x < 36 → k + j < 100 → (pth d j (bs x d)).length = j →
      mX9_isOnWay_L6 n (nI d) (nI (k + j - 1)) (nI c) (nI x) (nI k) = some (if c ∈ x :: pth d j (bs x d) then 1 else 0) ∨ k + j = 0 := by
  intro j
  induction j with
  | zero =>
    intro n x k hn hx hk hl
    by_cases h0 : k = 0
    · right; omega
    left
    obtain ⟨n, rfl⟩ : ∃ m, n = m + 1 := ⟨n - 1, by omega⟩
    unfold mX9_isOnWay_L6
    rw [nI_1, if_pos (by rw [pu_le (by omega) (by omega)]; omega)]
    simp only [pth, List.mem_cons, List.not_mem_nil, or_false, nI_inj (show x < 2 ^ 31 by omega) (show c < 2 ^ 31 by omega)]
    by_cases e : x = c
    · subst e; simp
    · have e' : ¬ c = x := fun q => e q.symm
      simp [e, e']
  | succ j ih =>
    intro n x k hn hx hk hl
    left
    obtain ⟨n, rfl⟩ : ∃ m, n = m + 1 := ⟨n - 1, by omega⟩
    obtain ⟨y, hy, hp, hly⟩ := pth_step hl
    have hy36 := bs_lt x hx d hd y hy
    unfold mX9_isOnWay_L6
    rw [nI_1, if_neg (by rw [pu_le (by omega) (by omega)]; omega), hp, pu_next x hx d hd, hy, opI_some]
    have exc : nI x = nI c ↔ x = c := nI_inj (show x < 2 ^ 31 by omega) (show c < 2 ^ 31 by omega)
    by_cases e : x = c
    · subst e; simp
    · have e' : ¬ c = x := fun q => e q.symm
      rw [if_neg (fun q => e (exc.mp q)), nI_1]
      have := ih n y (k + 1) (by omega) hy36 (by omega) hly
      rw [show k + (j + 1) - 1 = k + 1 + j - 1 by omega]
      rcases this with this | this
      · rw [this]
        simp [e']
      · omega
theorem g_isOnWay {d c x r : Nat} (hd : d < 4) (hc : c < 36) (hx : x < 36) (hr : r < 10) (hl : (pth d (r + 1) (bs x d)).length = r + 1) : mX9_isOnWay (nI x) (nI d) (nI r) (nI c) = some (if c ∈ x :: pth d (r + 1) (bs x d) then 1 else 0) := by
  unfold mX9_isOnWay
  have := g_isOnWay_L hd hc (r + 1) 4096 x 0 (by omega) hx (by omega) hl
  rw [show 0 + (r + 1) - 1 = r by omega] at this
  rcases this with this | this
  · exact this
  · omega
/-- both ways have a cell in common -/
def clA (c0 d0 r0 c1 d1 r1 : Nat) : Bool := (c0 :: pth d0 (r0 + 1) (bs c0 d0)).any (fun y => decide (y ∈ c1 :: pth d1 (r1 + 1) (bs c1 d1)))
theorem g_clash_L {vwy vah s : Nat → Int32} {K : Nat → Nat} {C : Nat → Bool} {c0 c1 d0 d1 r0 r1 : Nat} (h : RS s K C c0 c1) (h1 : c1 < 36) (hd0 : d0 < 4) (hd1 : d1 < 4) (hr0 : r0 < 10) (hr1 : r1 < 10)
    (hw0 : vwy 0 = nI d0) (hw1 : vwy 1 = nI d1) (ha0 : vah 0 = nI r0) (ha1 : vah 1 = nI r1) (hl1 : (pth d1 (r1 + 1) (bs c1 d1)).length = r1 + 1) :
    ∀ (j n x k : Nat) (b : Bool), j < n → x < 36 → k + j = r0 + 1 → (pth d0 j (bs x d0)).length = j →
      mX9_clash_L55 n vwy vah s (nI x) (if b then 1 else 0) (nI k) = some (if (b || (pth d0 j (bs x d0)).any (fun y => decide (y ∈ c1 :: pth d1 (r1 + 1) (bs c1 d1)))) then 1 else 0) := by
  intro j
  induction j with
  | zero =>
    intro n x k b hn hx hk hl
    obtain ⟨n, rfl⟩ : ∃ m, n = m + 1 := ⟨n - 1, by omega⟩
    unfold mX9_clash_L55
    rw [show vah (0 : Int32).toNatClampNeg = nI r0 from ha0, if_pos (by rw [pu_lt (by omega) (by omega)]; omega)]
    cases b <;> rfl
  | succ j ih =>
    intro n x k b hn hx hk hl
    obtain ⟨n, rfl⟩ : ∃ m, n = m + 1 := ⟨n - 1, by omega⟩
    obtain ⟨y, hy, hp, hly⟩ := pth_step hl
    have hy36 := bs_lt x hx d0 hd0 y hy
    have e1 : mX9_of s (1 : Int32) (0 : Int32) = some (nI c1) := (g_of s (r := 1) (k := 0) (by decide) (by decide)).trans (by rw [h.2.2])
    have hn1 : mX9_next (nI x) (vwy (0 : Int32).toNatClampNeg) = nI y := by
      rw [show vwy (0 : Int32).toNatClampNeg = nI d0 from hw0, pu_next x hx d0 hd0, hy]; rfl
    unfold mX9_clash_L55
    rw [show vah (0 : Int32).toNatClampNeg = nI r0 from ha0, if_neg (by rw [pu_lt (by omega) (by omega)]; omega), hn1, e1, bo1_some, show vwy (1 : Int32).toNatClampNeg = nI d1 from hw1, show vah (1 : Int32).toNatClampNeg = nI r1 from ha1, g_isOnWay hd1 hy36 h1 hr1 hl1, bo1_some]
    rw [hp, List.any_cons]
    unfold mX9_clash_J106 mX9_clash_J111
    rw [nI_1]
    cases b
    · rw [if_pos (show (if false = true then (1 : Int32) else 0) = 0 from rfl)]
      by_cases hm : y ∈ c1 :: pth d1 (r1 + 1) (bs c1 d1)
      · rw [if_pos hm, if_neg (by decide)]
        have := ih n y (k + 1) true (by omega) hy36 (by omega) hly
        rw [show (if true = true then (1 : Int32) else 0) = 1 from rfl] at this
        show mX9_clash_L55 n vwy vah s (nI y) 1 (nI (k + 1)) = _
        rw [this, decide_eq_true hm]; rfl
      · rw [if_neg hm, if_pos rfl]
        have := ih n y (k + 1) false (by omega) hy36 (by omega) hly
        rw [show (if false = true then (1 : Int32) else 0) = 0 from rfl] at this
        show mX9_clash_L55 n vwy vah s (nI y) 0 (nI (k + 1)) = _
        rw [this, decide_eq_false hm]; rfl
    · rw [if_neg (show ¬ (if true = true then (1 : Int32) else 0) = 0 by decide)]
      have := ih n y (k + 1) true (by omega) hy36 (by omega) hly
      rw [show (if true = true then (1 : Int32) else 0) = 1 from rfl] at this
      show mX9_clash_L55 n vwy vah s (nI y) 1 (nI (k + 1)) = _
      rw [this]
      simp
theorem g_clash {vwy vah s : Nat → Int32} {K : Nat → Nat} {C : Nat → Bool} {c0 c1 d0 d1 r0 r1 : Nat} (h : RS s K C c0 c1) (h0 : c0 < 36) (h1 : c1 < 36) (hd0 : d0 < 4) (hd1 : d1 < 4) (hr0 : r0 < 10) (hr1 : r1 < 10)
    (hw0 : vwy 0 = nI d0) (hw1 : vwy 1 = nI d1) (ha0 : vah 0 = nI r0) (ha1 : vah 1 = nI r1) (hl0 : (pth d0 (r0 + 1) (bs c0 d0)).length = r0 + 1) (hl1 : (pth d1 (r1 + 1) (bs c1 d1)).length = r1 + 1) :
    mX9_clash vwy vah s = some (if clA c0 d0 r0 c1 d1 r1 then 1 else 0) := by
  have e0 : mX9_of s (0 : Int32) (0 : Int32) = some (nI c0) := (g_of s (r := 0) (k := 0) (by decide) (by decide)).trans (by rw [h.2.1])
  have e1 : mX9_of s (1 : Int32) (0 : Int32) = some (nI c1) := (g_of s (r := 1) (k := 0) (by decide) (by decide)).trans (by rw [h.2.2])
  have hne : ∀ r, r < 10 → ¬ nI r = (-1 : Int32) := by decide +kernel
  unfold mX9_clash
  rw [show vah (0 : Int32).toNatClampNeg = nI r0 from ha0, show vah (1 : Int32).toNatClampNeg = nI r1 from ha1, if_neg (hne r0 hr0), if_neg (hne r1 hr1), e0, bo1_some, e1, bo1_some, show vwy (1 : Int32).toNatClampNeg = nI d1 from hw1, g_isOnWay hd1 h0 h1 hr1 hl1, bo1_some]
  have := g_clash_L h h1 hd0 hd1 hr0 hr1 hw0 hw1 ha0 ha1 hl1 (r0 + 1) 4096 c0 0 (decide (c0 ∈ c1 :: pth d1 (r1 + 1) (bs c1 d1))) (by omega) h0 (by omega) hl0
  simp only [decide_eq_true_eq] at this
  refine this.trans ?_
  unfold clA
  rw [List.any_cons]
/-- the class's clash -/
theorem v_clash (P Q : Nat → Bool) : mX6_clash (sL P) (sL Q) = if (List.range 36).any (fun y => P y && Q y) then 1 else 0 := by
  unfold mX6_clash
  rw [sL_and]
  by_cases h : (List.range 36).any (fun y => P y && Q y) = true
  · rw [if_pos h, if_neg (fun q => by
      rw [sL_zero] at q
      obtain ⟨y, hy, hp⟩ := List.any_eq_true.mp h
      rw [q y (List.mem_range.mp hy)] at hp
      cases hp)]
  · rw [if_neg h, if_pos (sL_zero.mpr (fun y hy => by
      rw [← Bool.not_eq_true]
      exact fun q => h (List.any_eq_true.mpr ⟨y, List.mem_range.mpr hy, q⟩)))]
