/-! passesIn and the loops: both sides -/
theorem bo8_some {α α2 α3 α4 α5 α6 α7 α8 β : Type} (a : α) (b : α2) (c : α3) (d : α4) (e : α5) (g : α6) (h : α7) (i : α8) (f : α → α2 → α3 → α4 → α5 → α6 → α7 → α8 → Option β) : bo8 (some (a, b, c, d, e, g, h, i)) f = f a b c d e g h i := rfl
theorem FL_next {vi : Nat → Int32} {vj : Nat → Int64} {vk vc va vpa vb vpb s : Nat → Int32} (h : FL vi vj vk vc va vpa vb vpb s) : s (72 + 2) = va 2 ∧ s (81 + 2) = vb 2 := by
  obtain ⟨K, t, f0, f1, m, hV, hS, hk, hB0, hB1, -⟩ := h
  exact ⟨hB0.2.1.2.1 2 (by decide) (by decide), hB1.2.1.2.1 2 (by decide) (by decide)⟩
theorem FL_NLe {vi : Nat → Int32} {vj : Nat → Int64} {vk vc va vpa vb vpb s : Nat → Int32} (h : FL vi vj vk vc va vpa vb vpb s) : NLe va va ∧ NLe vb vb := by
  obtain ⟨K, t, f0, f1, m, hV, hS, hk, hB0, hB1, -⟩ := h
  exact ⟨NLe_refl hB0, NLe_refl hB1⟩
theorem NLe_iff {a b : Nat → Int32} (h : NLe a b) : b 2 = a 2 ↔ b 2 ≤ a 2 := by
  obtain ⟨x, y, q1, q2, q3, q4⟩ := h
  rw [q3, q4, pu_le (by omega) (by omega), nI_inj (by omega) (by omega)]
  omega
theorem passes_0 {vi : Nat → Int32} {vj : Nat → Int64} {vk vc va vpa vb vpb : Nat → Int32} {vkT vcT vpaT vpbT mi vnw a0 : Nat → Int32} (hw : vnw (72 + 2) = a0 2) :
    ∀ (j n i : Nat) (viT : Nat → Int32) (vjT : Nat → Int64) (vaT vbT vtr vwy vah vtg vws : Nat → Int32), j < n → i + j = 151 → FL viT vjT vkT vcT vaT vpaT vbT vpbT vtr → NLe a0 vaT →
      ∃ r viT' vjT' vaT' vbT' vtr' vwy' vah' vtg' vws', mX8_passesIn_L32 n vi vj vk vc va vpa vb vpb viT vjT vkT vcT vaT vpaT vbT vpbT (a0 2) (nI i) = some (Sum.inl (r, viT', vjT', vkT, vcT, vaT', vpaT, vbT', vpbT)) ∧ mX9_passesIn_L25 n mi vnw vtr vwy vah vtg vws (0 : Int32) (nI i) = some (r, mi, vtr', vwy', vah', vtg', vws') := by
  intro j
  induction j with
  | zero =>
    intro n i viT vjT vaT vbT vtr vwy vah vtg vws hn hi hF hL
    obtain ⟨n, rfl⟩ : ∃ m, n = m + 1 := ⟨n - 1, by omega⟩
    obtain rfl : i = 151 := by omega
    unfold mX8_passesIn_L32 mX9_passesIn_L25
    rw [if_pos (by decide), if_pos (by decide)]
    exact ⟨_, _, _, _, _, _, _, _, _, _, rfl, rfl⟩
  | succ j ih =>
    intro n i viT vjT vaT vbT vtr vwy vah vtg vws hn hi hF hL
    obtain ⟨n, rfl⟩ : ∃ m, n = m + 1 := ⟨n - 1, by omega⟩
    have hc : ¬ ((150 : Int32) < nI i) := fun q => by
      have q1 : nI 150 < nI i := q
      rw [pu_lt (by omega) (by omega)] at q1
      omega
    obtain ⟨r, vi', vj', va', vb', vwy', vah', vtg', vws', s', e1, e2, e3, l0, l1⟩ := one_step hF vwy vah vtg vws
    unfold mX8_passesIn_L32 mX9_passesIn_L25
    have oT : mX9_of s' (0 : Int32) (2 : Int32) = some (va' 2) := (g_of s' (r := 0) (k := 2) (by decide) (by decide)).trans (congrArg some (FL_next e3).1)
    have oN : mX9_of vnw (0 : Int32) (2 : Int32) = some (a0 2) := (g_of vnw (r := 0) (k := 2) (by decide) (by decide)).trans (congrArg some hw)
    have hL' := NLe_trans hL l0
    rw [if_neg hc, if_neg hc, e1, bo5_some, e2, bo6_some, oT, bo1_some, oN, bo1_some, nI_1]
    by_cases q : va' 2 = a0 2
    · rw [if_pos q, if_pos ((NLe_iff hL').mp q)]
      exact ih n (i + 1) vi' vj' va' vb' s' vwy' vah' vtg' vws' (by omega) (by omega) e3 hL'
    · rw [if_neg q, if_neg (fun z => q ((NLe_iff hL').mpr z))]
      exact ⟨_, _, _, _, _, _, _, _, _, _, rfl, rfl⟩
theorem passes_1 {vi : Nat → Int32} {vj : Nat → Int64} {vk vc va vpa vb vpb : Nat → Int32} {vkT vcT vpaT vpbT mi vnw a0 : Nat → Int32} (hw : vnw (81 + 2) = a0 2) :
    ∀ (j n i : Nat) (viT : Nat → Int32) (vjT : Nat → Int64) (vaT vbT vtr vwy vah vtg vws : Nat → Int32), j < n → i + j = 151 → FL viT vjT vkT vcT vaT vpaT vbT vpbT vtr → NLe a0 vbT →
      ∃ r viT' vjT' vaT' vbT' vtr' vwy' vah' vtg' vws', mX8_passesIn_L32_1 n vi vj vk vc va vpa vb vpb viT vjT vkT vcT vaT vpaT vbT vpbT (a0 2) (nI i) = some (Sum.inl (r, viT', vjT', vkT, vcT, vaT', vpaT, vbT', vpbT)) ∧ mX9_passesIn_L25 n mi vnw vtr vwy vah vtg vws (1 : Int32) (nI i) = some (r, mi, vtr', vwy', vah', vtg', vws') := by
  intro j
  induction j with
  | zero =>
    intro n i viT vjT vaT vbT vtr vwy vah vtg vws hn hi hF hL
    obtain ⟨n, rfl⟩ : ∃ m, n = m + 1 := ⟨n - 1, by omega⟩
    obtain rfl : i = 151 := by omega
    unfold mX8_passesIn_L32_1 mX9_passesIn_L25
    rw [if_pos (by decide), if_pos (by decide)]
    exact ⟨_, _, _, _, _, _, _, _, _, _, rfl, rfl⟩
  | succ j ih =>
    intro n i viT vjT vaT vbT vtr vwy vah vtg vws hn hi hF hL
    obtain ⟨n, rfl⟩ : ∃ m, n = m + 1 := ⟨n - 1, by omega⟩
    have hc : ¬ ((150 : Int32) < nI i) := fun q => by
      have q1 : nI 150 < nI i := q
      rw [pu_lt (by omega) (by omega)] at q1
      omega
    obtain ⟨r, vi', vj', va', vb', vwy', vah', vtg', vws', s', e1, e2, e3, l0, l1⟩ := one_step hF vwy vah vtg vws
    unfold mX8_passesIn_L32_1 mX9_passesIn_L25
    have oT : mX9_of s' (1 : Int32) (2 : Int32) = some (vb' 2) := (g_of s' (r := 1) (k := 2) (by decide) (by decide)).trans (congrArg some (FL_next e3).2)
    have oN : mX9_of vnw (1 : Int32) (2 : Int32) = some (a0 2) := (g_of vnw (r := 1) (k := 2) (by decide) (by decide)).trans (congrArg some hw)
    have hL' := NLe_trans hL l1
    rw [if_neg hc, if_neg hc, e1, bo5_some, e2, bo6_some, oT, bo1_some, oN, bo1_some, nI_1]
    by_cases q : vb' 2 = a0 2
    · rw [if_pos q, if_pos ((NLe_iff hL').mp q)]
      exact ih n (i + 1) vi' vj' va' vb' s' vwy' vah' vtg' vws' (by omega) (by omega) e3 hL'
    · rw [if_neg q, if_neg (fun z => q ((NLe_iff hL').mpr z))]
      exact ⟨_, _, _, _, _, _, _, _, _, _, rfl, rfl⟩
/-- waiting -/
theorem wait_L {vi : Nat → Int32} {vj : Nat → Int64} {vk vc va vpa vb vpb : Nat → Int32} {vkT vcT vpaT vpbT mi vnw vot : Nat → Int32} {v0 : Nat → Int32} {w0 : Nat → Int64} {k0 c0 a0 pa0 b0 pb0 : Nat → Int32} (h0 : FL v0 w0 k0 c0 a0 pa0 b0 pb0 vot) :
    ∀ (j n i : Nat) (viT : Nat → Int32) (vjT : Nat → Int64) (vaT vbT vtr vwy vah vtg vws : Nat → Int32), j < n → i + j = 121 → FL viT vjT vkT vcT vaT vpaT vbT vpbT vtr →
      ∃ r viT' vjT' vaT' vbT' vtr' vwy' vah' vtg' vws', mX8_loopByWaiting_L40 n vi vj vk vc va vpa vb vpb viT vjT vkT vcT vaT vpaT vbT vpbT (w0 4) (mX1_robotsAsNumber a0 b0) (nI i) = some (r, viT', vjT', vkT, vcT, vaT', vpaT, vbT', vpbT) ∧ mX9_loop_L44 n mi vnw vtr vot vwy vah vtg vws (nI i) = some (r, mi, vtr', vot, vwy', vah', vtg', vws') := by
  intro j
  induction j with
  | zero =>
    intro n i viT vjT vaT vbT vtr vwy vah vtg vws hn hi hF
    obtain ⟨n, rfl⟩ : ∃ m, n = m + 1 := ⟨n - 1, by omega⟩
    obtain rfl : i = 121 := by omega
    unfold mX8_loopByWaiting_L40 mX9_loop_L44
    rw [if_pos (by decide), if_pos (by decide)]
    exact ⟨_, _, _, _, _, _, _, _, _, _, rfl, rfl⟩
  | succ j ih =>
    intro n i viT vjT vaT vbT vtr vwy vah vtg vws hn hi hF
    obtain ⟨n, rfl⟩ : ∃ m, n = m + 1 := ⟨n - 1, by omega⟩
    have hc : ¬ ((120 : Int32) < nI i) := fun q => by
      have q1 : nI 120 < nI i := q
      rw [pu_lt (by omega) (by omega)] at q1
      omega
    obtain ⟨r, vi', vj', va', vb', vwy', vah', vtg', vws', s', e1, e2, e3, l0, l1⟩ := one_step hF vwy vah vtg vws
    obtain ⟨b, b1, b2⟩ := g_like s' vot
    have hlk := (like_iff e3 h0).trans b2.symm
    unfold mX8_loopByWaiting_L40 mX9_loop_L44 mX8_loopByWaiting_J82
    rw [if_neg hc, if_neg hc, e1, bo5_some, e2, bo6_some, b1, bo1_some, nI_1]
    have go := ih n (i + 1) vi' vj' va' vb' s' vwy' vah' vtg' vws' (by omega) (by omega) e3
    by_cases hb : b = true
    · obtain ⟨q1, q2⟩ := hlk.mpr hb
      rw [if_pos (lg_eq.mpr q1), if_pos (lg_eq.mpr q2), if_pos hb, if_neg (by decide)]
      exact ⟨_, _, _, _, _, _, _, _, _, _, rfl, rfl⟩
    · rw [if_neg hb, if_pos rfl]
      by_cases q1 : vj' 4 = w0 4
      · rw [if_pos (lg_eq.mpr q1), if_neg (fun z => hb (hlk.mp ⟨q1, lg_eq.mp z⟩))]
        exact go
      · rw [if_neg (fun z => q1 (lg_eq.mp z))]
        exact go
/-- keeping: the class's states one after the other -/
abbrev Sv : Type := (Nat → Int32) × (Nat → Int64) × (Nat → Int32) × (Nat → Int32)
def itV (vk vc vpa vpb : Nat → Int32) : Nat → Sv → Option Sv
  | 0, X => some X
  | n + 1, X => (itV vk vc vpa vpb n X).bind (fun Y => (mX6_makeOne Y.1 Y.2.1 vk vc Y.2.2.1 vpa Y.2.2.2 vpb).map (fun z => z.2))
theorem itV_succ {vk vc vpa vpb : Nat → Int32} {n : Nat} {X Y : Sv} (h : itV vk vc vpa vpb n X = some Y) {r : Int32} {Z : Sv} (e : mX6_makeOne Y.1 Y.2.1 vk vc Y.2.2.1 vpa Y.2.2.2 vpb = some (r, Z)) : itV vk vc vpa vpb (n + 1) X = some Z := by
  show (itV vk vc vpa vpb n X).bind _ = _
  rw [h]
  show (mX6_makeOne Y.1 Y.2.1 vk vc Y.2.2.1 vpa Y.2.2.2 vpb).map _ = _
  rw [e]; rfl
def kptV (vk vc vpa vpb : Nat → Int32) (X : Sv) (vkc vkr : Nat → Int64) (N : Nat) : Prop := ∀ i, i < N → ∃ Y, itV vk vc vpa vpb i X = some Y ∧ vkc i = Y.2.1 4 ∧ vkr i = mX1_robotsAsNumber Y.2.2.1 Y.2.2.2
theorem keep_1 {vi : Nat → Int32} {vj : Nat → Int64} {vk vc va vpa vb vpb : Nat → Int32} {vkT vcT vpaT vpbT : Nat → Int32} {X : Sv} :
    ∀ (j n i : Nat) (viT : Nat → Int32) (vjT : Nat → Int64) (vaT vbT vtr : Nat → Int32) (vkc vkr : Nat → Int64), j < n → i + j = 241 → FL viT vjT vkT vcT vaT vpaT vbT vpbT vtr → itV vkT vcT vpaT vpbT i X = some (viT, vjT, vaT, vbT) → kptV vkT vcT vpaT vpbT X vkc vkr i →
      ∃ viT' vjT' vaT' vbT' vkc' vkr', mX8_loopByKeeping_L13 n vi vj vk vc va vpa vb vpb viT vjT vkT vcT vaT vpaT vbT vpbT vkc vkr (nI i) = mX8_loopByKeeping_L73 4096 vi vj vk vc va vpa vb vpb viT' vjT' vkT vcT vaT' vpaT vbT' vpbT vkc' vkr' (1 : Int32) ∧ kptV vkT vcT vpaT vpbT X vkc' vkr' 241 := by
  intro j
  induction j with
  | zero =>
    intro n i viT vjT vaT vbT vtr vkc vkr hn hi hF hI hK
    obtain ⟨n, rfl⟩ : ∃ m, n = m + 1 := ⟨n - 1, by omega⟩
    obtain rfl : i = 241 := by omega
    unfold mX8_loopByKeeping_L13 mX8_loopByKeeping_J71
    rw [if_pos (by decide)]
    exact ⟨_, _, _, _, _, _, rfl, hK⟩
  | succ j ih =>
    intro n i viT vjT vaT vbT vtr vkc vkr hn hi hF hI hK
    obtain ⟨n, rfl⟩ : ∃ m, n = m + 1 := ⟨n - 1, by omega⟩
    have hc : ¬ ((241 : Int32) ≤ nI i) := nI_leF (b := 241) (by omega) (by decide) (by omega)
    obtain ⟨r, vi', vj', va', vb', vwy', vah', vtg', vws', s', e1, e2, e3, l0, l1⟩ := one_step hF vaT vaT vaT vaT
    unfold mX8_loopByKeeping_L13
    rw [if_neg hc, if_neg hc, if_pos (g_idx (by omega) 241 (by omega)), e1, bo5_some, nI_clamp (by omega), nI_1]
    refine ih n (i + 1) vi' vj' va' vb' s' _ _ (by omega) (by omega) e3 (itV_succ hI e1) (fun k hk => ?_)
    by_cases e : k = i
    · subst e
      exact ⟨_, hI, if_pos rfl, if_pos rfl⟩
    · obtain ⟨Y, y1, y2, y3⟩ := hK k (by omega)
      exact ⟨Y, y1, (if_neg e).trans y2, (if_neg e).trans y3⟩
theorem kept_alike {vkc vkr : Nat → Int64} {i : Nat} (hi : 1 ≤ i) (hi2 : i ≤ 120) : mX8_keptAlike vkc vkr (120 : Int32) ((120 : Int32) + nI i) = some (if vkc 120 = vkc (120 + i) ∧ vkr 120 = vkr (120 + i) then 1 else 0) := by
  have e : ((120 : Int32) + nI i) = nI (120 + i) := nI_add 120 i
  have hj : jmin (241 : Int32) (241 : Int32) = nI 241 := by decide +kernel
  unfold mX8_keptAlike
  rw [e, hj, if_neg (by decide), if_neg (by decide), if_neg (pu_neg (by omega)), if_pos (by rw [pu_lt (by omega) (by omega)]; omega), if_pos (by decide), if_pos (g_idx (by omega) 241 (by omega)), nI_clamp (by omega)]
  show (if lg_cmp (vkc 120) (vkc (120 + i)) = 0 then (if lg_cmp (vkr 120) (vkr (120 + i)) = 0 then some (1 : Int32) else some 0) else some 0) = _
  by_cases q1 : vkc 120 = vkc (120 + i)
  · rw [if_pos (lg_eq.mpr q1)]
    by_cases q2 : vkr 120 = vkr (120 + i)
    · rw [if_pos (lg_eq.mpr q2), if_pos ⟨q1, q2⟩]
    · rw [if_neg (fun z => q2 (lg_eq.mp z)), if_neg (fun z => q2 z.2)]
  · rw [if_neg (fun z => q1 (lg_eq.mp z)), if_neg (fun z => q1 z.1)]
theorem keep_2 {vi : Nat → Int32} {vj : Nat → Int64} {vk vc va vpa vb vpb viT : Nat → Int32} {vjT : Nat → Int64} {vkT vcT vaT vpaT vbT vpbT mi vnw vot : Nat → Int32} {vkc vkr : Nat → Int64} {X Y0 : Sv} (hK : kptV vkT vcT vpaT vpbT X vkc vkr 241) (hY0 : itV vkT vcT vpaT vpbT 120 X = some Y0) (h0 : FL Y0.1 Y0.2.1 vkT vcT Y0.2.2.1 vpaT Y0.2.2.2 vpbT vot) :
    ∀ (j n i : Nat) (Y : Sv) (vtr vwy vah vtg vws : Nat → Int32), j < n → i + j = 121 → 1 ≤ i → itV vkT vcT vpaT vpbT (119 + i) X = some Y → FL Y.1 Y.2.1 vkT vcT Y.2.2.1 vpaT Y.2.2.2 vpbT vtr →
      ∃ r vtr' vwy' vah' vtg' vws', mX8_loopByKeeping_L73 n vi vj vk vc va vpa vb vpb viT vjT vkT vcT vaT vpaT vbT vpbT vkc vkr (nI i) = some (r, viT, vjT, vkT, vcT, vaT, vpaT, vbT, vpbT, vkc, vkr) ∧ mX9_loop_L44 n mi vnw vtr vot vwy vah vtg vws (nI i) = some (r, mi, vtr', vot, vwy', vah', vtg', vws') := by
  obtain ⟨Z0, z1, z2, z3⟩ := hK 120 (by decide)
  rw [hY0] at z1
  cases z1
  intro j
  induction j with
  | zero =>
    intro n i Y vtr vwy vah vtg vws hn hi h1 hI hF
    obtain ⟨n, rfl⟩ : ∃ m, n = m + 1 := ⟨n - 1, by omega⟩
    obtain rfl : i = 121 := by omega
    unfold mX8_loopByKeeping_L73 mX9_loop_L44
    rw [if_pos (by decide), if_pos (by decide)]
    exact ⟨_, _, _, _, _, _, rfl, rfl⟩
  | succ j ih =>
    intro n i Y vtr vwy vah vtg vws hn hi h1 hI hF
    obtain ⟨n, rfl⟩ : ∃ m, n = m + 1 := ⟨n - 1, by omega⟩
    have hc : ¬ ((120 : Int32) < nI i) := fun q => by
      have q1 : nI 120 < nI i := q
      rw [pu_lt (by omega) (by omega)] at q1
      omega
    obtain ⟨r, vi', vj', va', vb', vwy', vah', vtg', vws', s', e1, e2, e3, l0, l1⟩ := one_step hF vwy vah vtg vws
    have hI' : itV vkT vcT vpaT vpbT (119 + (i + 1)) X = some (vi', vj', va', vb') := itV_succ hI e1
    obtain ⟨Z, w1, w2, w3⟩ := hK (120 + i) (by omega)
    rw [show 120 + i = 119 + (i + 1) by omega, hI'] at w1
    cases w1
    obtain ⟨b, b1, b2⟩ := g_like s' vot
    have hlk := (like_iff e3 h0).trans b2.symm
    have ek := kept_alike (vkc := vkc) (vkr := vkr) h1 (show i ≤ 120 by omega)
    rw [z2, z3, w2, w3] at ek
    unfold mX8_loopByKeeping_L73 mX9_loop_L44
    by_cases hb : b = true
    · obtain ⟨q1, q2⟩ := hlk.mpr hb
      rw [if_pos ⟨q1.symm, q2.symm⟩] at ek
      rw [if_neg hc, if_neg hc, ek, bo1_some, e2, bo6_some, b1, bo1_some, if_neg ne10, if_pos hb, if_neg ne10]
      exact ⟨_, _, _, _, _, _, rfl, rfl⟩
    · rw [if_neg (fun z => hb (hlk.mp ⟨z.1.symm, z.2.symm⟩))] at ek
      rw [if_neg hc, if_neg hc, ek, bo1_some, e2, bo6_some, b1, bo1_some, if_pos rfl, if_neg hb, if_pos rfl, nI_1]
      exact ih n (i + 1) (vi', vj', va', vb') s' vwy' vah' vtg' vws' (by omega) (by omega) (by omega) hI' e3
