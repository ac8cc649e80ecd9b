/-! What may be changed on a floor: refused alike, done alike -/
def hp (m : Nat) (vc : Nat → Int32) (c : Nat) : Bool := (List.range m).any (fun k => decide (vc k = nI c))
theorem v_isPoint_L {vi vc : Nat → Int32} {m c : Nat} (hm : m ≤ 4) (h7 : vi 7 = nI m) : ∀ (j n l : Nat), j < n → l + j = m + 1 → 1 ≤ l → (List.range (l - 1)).any (fun k => decide (vc k = nI c)) = false → mX1_isCheckpoint_L2 n vi vc (nI c) (nI l) = some (if hp m vc c then 1 else 0) := by
  intro j
  induction j with
  | zero =>
    intro n l hn hl h1 hf
    obtain ⟨n, rfl⟩ : ∃ m, n = m + 1 := ⟨n - 1, by omega⟩
    obtain rfl : l = m + 1 := by omega
    unfold mX1_isCheckpoint_L2
    rw [h7, if_pos (ltc (by omega) (by omega) (by omega))]
    unfold hp
    rw [show m = m + 1 - 1 by omega, hf]; rfl
  | succ j ih =>
    intro n l hn hl h1 hf
    obtain ⟨n, rfl⟩ : ∃ m, n = m + 1 := ⟨n - 1, by omega⟩
    unfold mX1_isCheckpoint_L2
    rw [h7, if_neg (fun q => by rw [pu_lt (by omega) (by omega)] at q; omega), v_point hm h7 h1 (by omega), bo1_some, if_pos (show l ≤ m by omega)]
    by_cases q : vc (l - 1) = nI c
    · rw [if_pos q]
      have : hp m vc c = true := any_rng.mpr ⟨l - 1, by omega, decide_eq_true q⟩
      rw [this]; rfl
    · rw [if_neg q, nI_1]
      refine ih n (l + 1) (by omega) (by omega) (by omega) ?_
      rw [show l + 1 - 1 = (l - 1) + 1 by omega, any_succ, hf, decide_eq_false q]; rfl
theorem v_isPoint {vi vc : Nat → Int32} {m : Nat} (hm : m ≤ 4) (h7 : vi 7 = nI m) (c : Nat) : mX1_isCheckpoint vi vc (nI c) = some (if hp m vc c then 1 else 0) := by
  unfold mX1_isCheckpoint
  exact v_isPoint_L hm h7 m 4096 1 (by omega) (by omega) (by decide) rfl
theorem g_hasPoint_L {s vc : Nat → Int32} {m c : Nat} (hm : m ≤ 4) (h110 : s 110 = nI m) (hvc : ∀ k, k < m → s (111 + k) = vc k) : ∀ (j n l : Nat), j < n → l + j = m + 1 → 1 ≤ l → mX9_hasPoint_L4 n s (nI c) (if (List.range (l - 1)).any (fun k => decide (vc k = nI c)) then 1 else 0) (nI l) = some (if hp m vc c then 1 else 0) := by
  intro j
  induction j with
  | zero =>
    intro n l hn hl h1
    obtain ⟨n, rfl⟩ : ∃ m, n = m + 1 := ⟨n - 1, by omega⟩
    obtain rfl : l = m + 1 := by omega
    unfold mX9_hasPoint_L4
    rw [show s (110 : Int32).toNatClampNeg = nI m from h110, if_pos (ltc (by omega) (by omega) (by omega)), show m + 1 - 1 = m by omega]
    have : ∀ b : Bool, (if b = true then (1 : Int32) else 0) = 0 ∨ (if b = true then (1 : Int32) else 0) = 1 := by decide
    rw [if_pos (this _)]; rfl
  | succ j ih =>
    intro n l hn hl h1
    obtain ⟨n, rfl⟩ : ∃ m, n = m + 1 := ⟨n - 1, by omega⟩
    have e110 : ((110 : Int32) + nI l) = nI (110 + l) := nI_add 110 l
    have i1 := ih n (l + 1) (by omega) (by omega) (by omega)
    have el : l + 1 - 1 = (l - 1) + 1 := by omega
    rw [el, any_succ] at i1
    unfold mX9_hasPoint_L4 mX9_hasPoint_J26 mX9_hasPoint_J31
    rw [show s (110 : Int32).toNatClampNeg = nI m from h110, if_neg (fun q => by rw [pu_lt (by omega) (by omega)] at q; omega), e110, nI_1]
    cases hb : (List.range (l - 1)).any (fun k => decide (vc k = nI c)) with
    | true =>
      rw [hb] at i1
      rw [if_neg (show ¬ (if true = true then (1 : Int32) else 0) = 0 by decide)]
      exact i1
    | false =>
      rw [hb] at i1
      rw [if_pos (show (if false = true then (1 : Int32) else 0) = 0 from rfl), if_pos (g_idx117 (by omega)), nI_clamp (by omega), show 110 + l = 111 + (l - 1) by omega, hvc (l - 1) (by omega)]
      by_cases q : vc (l - 1) = nI c
      · rw [decide_eq_true q] at i1
        rw [if_pos q]
        exact i1
      · rw [decide_eq_false q] at i1
        rw [if_neg q]
        exact i1
theorem g_hasPoint {s vc : Nat → Int32} {m : Nat} (hm : m ≤ 4) (h110 : s 110 = nI m) (hvc : ∀ k, k < m → s (111 + k) = vc k) (c : Nat) : mX9_hasPoint s (nI c) = some (if hp m vc c then 1 else 0) := by
  unfold mX9_hasPoint
  exact g_hasPoint_L hm h110 hvc m 4096 1 (by omega) (by omega) (by decide)
theorem v_with {P : Nat → Bool} {c : Nat} (hc : c < 36) (b : Bool) : mX1_with (sL P) (nI c) (if b then 1 else 0) = sL (fun x => if x = c then b else P x) := by
  unfold mX1_with
  cases b with
  | false =>
    rw [if_pos (show (if false = true then (1 : Int32) else 0) = 0 from rfl), sL_set hc, sL_diff]
    apply sL_cong
    intro x _
    by_cases e : x = c
    · subst e; simp
    · simp [e]
  | true =>
    rw [if_neg (show ¬ (if true = true then (1 : Int32) else 0) = 0 by decide), sL_set hc, sL_or]
    apply sL_cong
    intro x _
    by_cases e : x = c
    · subst e; simp
    · simp [e]
theorem RB_row {va vpa s s' : Nat → Int32} {r f : Nat} (h : RB va vpa s r f) (e : ∀ k, (72 + 9 * r + 1 ≤ k ∧ k < 72 + 9 * r + 9) ∨ (90 + 10 * r ≤ k ∧ k < 90 + 10 * r + 10) → s' k = s k) : RB va vpa s' r f := ⟨h.1, RR_tr h.2.1 e, h.2.2.1, h.2.2.2⟩
theorem op_kind {vi : Nat → Int32} {vj : Nat → Int64} {vk vc va vpa vb vpb s : Nat → Int32} (hF : FL vi vj vk vc va vpa vb vpb s) {c k : Nat} (hc : c < 36) (hk7 : k < 7) :
    ∃ rf : Bool, mX1_refusesKind vi vj vc va vb (nI c) (nI k) = some (if rf then 1 else 0) ∧ mX9_canKind s (nI c) (nI k) = some (if rf then 0 else 1) ∧ (rf = true → mX1_giveKind vi vj vk vc va vb (nI c) (nI k) = some (0, vj, vk)) ∧
      (rf = false → ∃ vj' vk' s', mX1_giveKind vi vj vk vc va vb (nI c) (nI k) = some (1, vj', vk') ∧ mX9_kindOn s (nI c) (nI k) = some (mX1_kindAt vk (nI c), s') ∧ FL vi vj' vk' vc va vpa vb vpb s') := by
  obtain ⟨K, t, f0, f1, m, hV, hS, hk, hB0, hB1, ⟨h5, h6, hm, h7, h110, hvc, h115, h116, hct⟩⟩ := hF
  have hth := v_things hV hk.2.1 hk.2.2.1
  have n12 : ∀ k, k < 7 → (nI k = (1 : Int32) ↔ k = 1) ∧ (nI k = (2 : Int32) ↔ k = 2) ∧ (nI k < (3 : Int32) ↔ k < 3) := by decide +kernel
  obtain ⟨n1, n2, n3⟩ := n12 k hk7
  have ez : ∀ b : Bool, (if b = true then (1 : Int32) else 0) = 0 ↔ b = false := by decide
  have e10 : mX1_refusesKind_J10 vi vj vc va vb (nI c) = some (if (tht t c || hp m vc c) then 1 else 0) := by
    unfold mX1_refusesKind_J10
    rw [hth, v_isPoint hm h7]
    show (if mX2_holds (sL (tht t)) (nI c) = 0 then _ else _) = _
    cases ht : tht t c with
    | true => rw [if_neg (fun q => by rw [sL_holds0 hc, ht] at q; cases q)]; rfl
    | false =>
      rw [if_pos ((sL_holds0 hc).mpr ht), bo1_some]
      cases hp m vc c <;> rfl
  have g10 : mX9_canKind_J10 s (nI c) = some (if (tht t c || hp m vc c) then 0 else 1) := by
    unfold mX9_canKind_J10
    rw [g_hasThing hS hk.2.1 hk.2.2.1 hc, bo1_some, g_hasPoint hm h110 (fun k hk => (hvc k hk).1)]
    show (if (if tht t c = true then (1 : Int32) else 0) = 0 then _ else _) = _
    cases ht : tht t c with
    | true => rfl
    | false =>
      rw [if_pos (show (if false = true then (1 : Int32) else 0) = 0 from rfl), bo1_some]
      cases hp m vc c <;> rfl
  obtain ⟨rf, hrf⟩ : ∃ rf : Bool, rf = (decide (k = 1 ∨ k = 2) && (tht t c || hp m vc c)) := ⟨_, rfl⟩
  have eR : mX1_refusesKind vi vj vc va vb (nI c) (nI k) = some (if rf then 1 else 0) := by
    unfold mX1_refusesKind
    rw [e10]
    by_cases k1 : k = 1
    · rw [if_pos (n1.mpr k1), hrf, decide_eq_true (Or.inl k1), Bool.true_and]
    · rw [if_neg (fun q => k1 (n1.mp q))]
      by_cases k2 : k = 2
      · rw [if_pos (n2.mpr k2), hrf, decide_eq_true (Or.inr k2), Bool.true_and]
      · rw [if_neg (fun q => k2 (n2.mp q)), hrf, decide_eq_false (fun q => by rcases q with q | q; exact k1 q; exact k2 q), Bool.false_and]; rfl
  have eC : mX9_canKind s (nI c) (nI k) = some (if rf then 0 else 1) := by
    unfold mX9_canKind
    rw [g10]
    by_cases k1 : k = 1
    · rw [if_pos (n1.mpr k1), hrf, decide_eq_true (Or.inl k1), Bool.true_and]
    · rw [if_neg (fun q => k1 (n1.mp q))]
      by_cases k2 : k = 2
      · rw [if_pos (n2.mpr k2), hrf, decide_eq_true (Or.inr k2), Bool.true_and]
      · rw [if_neg (fun q => k2 (n2.mp q)), hrf, decide_eq_false (fun q => by rcases q with q | q; exact k1 q; exact k2 q), Bool.false_and]; rfl
  refine ⟨rf, eR, eC, fun h => ?_, fun h => ?_⟩
  · unfold mX1_giveKind
    rw [eR, bo1_some, h]; rfl
  · have hfree : k = 1 → tht t c = false := fun q => by
      rw [h, decide_eq_true (Or.inl q), Bool.true_and] at hrf
      cases ht : tht t c with
      | false => rfl
      | true => rw [ht] at hrf; cases hrf
    have eG : mX1_giveKind vi vj vk vc va vb (nI c) (nI k) = some (1, vp_updL (vp_updL vj 5 (sL (fun x => if x = c then decide (3 ≤ k) else decide (3 ≤ K x)))) 6 (sL (fun x => if x = c then decide (k = 2) else decide (K x = 2))), upd vk c (nI k)) := by
      unfold mX1_giveKind mX1_giveKind_J47
      have w5a := v_with (P := fun x => decide (3 ≤ K x)) hc false
      have w5b := v_with (P := fun x => decide (3 ≤ K x)) hc true
      have w6a := v_with (P := fun x => decide (K x = 2)) hc false
      have w6b := v_with (P := fun x => decide (K x = 2)) hc true
      rw [eR, bo1_some, h, if_pos (show (if false = true then (1 : Int32) else 0) = 0 from rfl), if_neg (lt0_nI (by omega)), if_pos (show nI c < (36 : Int32) from ltc (b := 36) (by omega) (by decide) hc), nI_clamp (by omega), h5, h6, show (0 : Int32) = (if false = true then (1 : Int32) else 0) from rfl, w5a, w6a, show mX1_with (sL fun x => decide (3 ≤ K x)) (nI c) 1 = _ from w5b, show mX1_with (sL fun x => decide (K x = 2)) (nI c) 1 = _ from w6b]
      by_cases k3 : k < 3
      · rw [if_pos (n3.mpr k3), decide_eq_false (show ¬ 3 ≤ k by omega)]
        by_cases k2 : k = 2
        · rw [if_pos (n2.mpr k2), decide_eq_true k2]
        · rw [if_neg (fun q => k2 (n2.mp q)), decide_eq_false k2]
      · rw [if_neg (fun q => k3 (n3.mp q)), decide_eq_true (show 3 ≤ k by omega), if_neg (fun q => by have := n2.mp q; omega), decide_eq_false (show ¬ k = 2 by omega)]
    have eO : mX9_kindOn s (nI c) (nI k) = some (mX1_kindAt vk (nI c), upd s c (nI k)) := by
      unfold mX9_kindOn
      rw [if_pos (g_idx117 (by omega)), nI_clamp (by omega), v_kind hV.1 hc, (hS.1 c hc).1]
    have hs : ∀ x, x ≠ c → upd s c (nI k) x = s x := fun x hx => if_neg hx
    refine ⟨_, _, _, eG, eO, fun x => if x = c then k else K x, t, f0, f1, m, ⟨fun x hx => ?_, hV.2.1, hV.2.2⟩, ⟨fun x hx => ⟨?_, ?_⟩, (hs 72 (by omega)).trans hS.2.1, (hs 81 (by omega)).trans hS.2.2⟩, ?_, RB_row hB0 (fun k hk => hs k (by omega)), RB_row hB1 (fun k hk => hs k (by omega)), ?_, ?_, hm, h7, (hs 110 (by omega)).trans h110, fun k hk => ⟨(hs (111 + k) (by omega)).trans (hvc k hk).1, (hvc k hk).2⟩, (hs 115 (by omega)).trans h115, (hs 116 (by omega)).trans h116, hct⟩
    · by_cases e : x = c
      · subst e
        show upd vk x (nI k) x = nI (if x = x then k else K x)
        rw [if_pos rfl]; exact if_pos rfl
      · show upd vk c (nI k) x = nI (if x = c then k else K x)
        rw [if_neg e]; exact (if_neg e).trans (hV.1 x hx)
    · by_cases e : x = c
      · subst e
        show upd s x (nI k) x = nI (if x = x then k else K x)
        rw [if_pos rfl]; exact if_pos rfl
      · show upd s c (nI k) x = nI (if x = c then k else K x)
        rw [if_neg e]; exact (if_neg e).trans (hS.1 x hx).1
    · rw [hs (36 + x) (by omega)]; exact (hS.1 x hx).2
    · obtain ⟨hA, h0, h1, hne, hC0, hC1, hb0, hb1⟩ := hk
      have nb : ∀ x, tht t x = true → K x ≠ 1 → (if x = c then k else K x) ≠ 1 := fun x hx hkx => by
        by_cases e : x = c
        · rw [if_pos e]
          intro q
          rw [e, hfree q] at hx; cases hx
        · rw [if_neg e]; exact hkx
      refine ⟨fun x hx => ⟨?_, fun q => nb x (tht_iff.mpr (Or.inl q)) ((hA x hx).2 q)⟩, h0, h1, hne, hC0, hC1, nb _ (tht_iff.mpr (Or.inr (Or.inl rfl))) hb0, nb _ (tht_iff.mpr (Or.inr (Or.inr rfl))) hb1⟩
      show (if x = c then k else K x) < 7
      by_cases e : x = c
      · rw [if_pos e]; exact hk7
      · rw [if_neg e]; exact (hA x hx).1
    · show sL _ = sL _
      apply sL_cong
      intro x _
      show (if x = c then decide (3 ≤ k) else decide (3 ≤ K x)) = decide (3 ≤ if x = c then k else K x)
      by_cases e : x = c
      · rw [if_pos e, if_pos e]
      · rw [if_neg e, if_neg e]
    · show sL _ = sL _
      apply sL_cong
      intro x _
      show (if x = c then decide (k = 2) else decide (K x = 2)) = decide ((if x = c then k else K x) = 2)
      by_cases e : x = c
      · rw [if_pos e, if_pos e]
      · rw [if_neg e, if_neg e]
theorem v_hard {vk : Nat → Int32} {K : Nat → Nat} (hv : ∀ x, x < 36 → vk x = nI (K x)) (hK : ∀ x, x < 36 → K x < 7) {c : Nat} (hc : c < 36) : mX1_isBlockOrPit vk (nI c) = if K c = 1 ∨ K c = 2 then 1 else 0 := by
  have n12 : ∀ k, k < 7 → (nI k = (1 : Int32) ↔ k = 1) ∧ (nI k = (2 : Int32) ↔ k = 2) := by decide +kernel
  obtain ⟨n1, n2⟩ := n12 (K c) (hK c hc)
  unfold mX1_isBlockOrPit
  rw [v_kind hv hc]
  by_cases k1 : K c = 1
  · rw [if_pos (n1.mpr k1), if_pos (Or.inl k1)]
  · rw [if_neg (fun q => k1 (n1.mp q))]
    by_cases k2 : K c = 2
    · rw [if_pos (n2.mpr k2), if_pos (Or.inr k2)]
    · rw [if_neg (fun q => k2 (n2.mp q)), if_neg (fun q => by rcases q with q | q; exact k1 q; exact k2 q)]
theorem g_hard {s : Nat → Int32} {K : Nat → Nat} {C : Nat → Bool} {c0 c1 : Nat} (hS : RS s K C c0 c1) (hK : ∀ x, x < 36 → K x < 7) {c : Nat} (hc : c < 36) : mX9_isHard s (nI c) = some (if K c = 1 ∨ K c = 2 then 1 else 0) := by
  have n12 : ∀ k, k < 7 → (nI k = (1 : Int32) ↔ k = 1) ∧ (nI k = (2 : Int32) ↔ k = 2) := by decide +kernel
  obtain ⟨n1, n2⟩ := n12 (K c) (hK c hc)
  unfold mX9_isHard
  rw [if_pos (g_idx117 (by omega)), nI_clamp (by omega), (hS.1 c hc).1]
  by_cases k1 : K c = 1
  · rw [if_pos (n1.mpr k1), if_pos (Or.inl k1)]
  · rw [if_neg (fun q => k1 (n1.mp q))]
    by_cases k2 : K c = 2
    · rw [if_pos (n2.mpr k2), if_pos (Or.inr k2)]
    · rw [if_neg (fun q => k2 (n2.mp q)), if_neg (fun q => by rcases q with q | q; exact k1 q; exact k2 q)]
theorem add5 (a b c : Int32) : a + 1 - b - c = (a - b - c) + 1 := by grind
theorem add6 (a b c : Int32) : a - (b + 1) - c = (a - b - c) - 1 := by grind
theorem op_crate {vi : Nat → Int32} {vj : Nat → Int64} {vk vc va vpa vb vpb s : Nat → Int32} (hF : FL vi vj vk vc va vpa vb vpb s) {c : Nat} (hc : c < 36) :
    ∃ rf : Bool, mX1_refusesCrate vj vk va vb (nI c) = (if rf then 1 else 0) ∧ mX9_canCrate s (nI c) = some (if rf then 0 else 1) ∧ (rf = true → mX1_layCrate vi vj vk va vb (nI c) = (0, vi, vj)) ∧
      (rf = false → ∃ vi' vj' s' v, mX1_layCrate vi vj vk va vb (nI c) = (1, vi', vj') ∧ mX9_crateOn s (nI c) = some (v, s') ∧ mX1_crateCount vj' = v ∧ ¬ v ≤ 0 ∧ FL vi' vj' vk vc va vpa vb vpb s') := by
  obtain ⟨K, t, f0, f1, m, hV, hS, hk, hB0, hB1, ⟨h5, h6, hm, h7, h110, hvc, h115, h116, hct⟩⟩ := hF
  have hK : ∀ x, x < 36 → K x < 7 := fun x hx => (hk.1 x hx).1
  have hth := v_things hV hk.2.1 hk.2.2.1
  have hle := fb_ct_le t.1 36
  obtain ⟨rf, hrf⟩ : ∃ rf : Bool, rf = (decide (K c = 1 ∨ K c = 2) || tht t c || decide (8 ≤ fb_ct t.1 36)) := ⟨_, rfl⟩
  have eR : mX1_refusesCrate vj vk va vb (nI c) = (if rf then 1 else 0) := by
    unfold mX1_refusesCrate mX1_crateCount
    rw [v_hard hV.1 hK hc, hth, hV.2.1, sL_count]
    show (if _ = 0 then (if mX2_holds (sL (tht t)) (nI c) = 0 then _ else _) else _) = _
    by_cases q1 : K c = 1 ∨ K c = 2
    · rw [if_pos q1, if_neg ne10, hrf, decide_eq_true q1]; rfl
    · rw [if_neg q1, if_pos rfl, hrf, decide_eq_false q1, Bool.false_or]
      cases ht : tht t c with
      | true => rw [if_neg (fun q => by rw [sL_holds0 hc, ht] at q; cases q)]; rfl
      | false =>
        rw [if_pos ((sL_holds0 hc).mpr ht), Bool.false_or]
        by_cases q2 : 8 ≤ fb_ct t.1 36
        · rw [decide_eq_true q2, if_neg (show ¬ nI (fb_ct t.1 36) < (8 : Int32) from fun q => by have := (pu_lt (b := 8) (by omega) (by decide)).mp q; omega)]; rfl
        · rw [decide_eq_false q2, if_pos (show nI (fb_ct t.1 36) < (8 : Int32) from ltc (b := 8) (by omega) (by decide) (by omega))]; rfl
  have eC : mX9_canCrate s (nI c) = some (if rf then 0 else 1) := by
    unfold mX9_canCrate
    rw [g_hard hS hK hc, bo1_some, g_hasThing hS hk.2.1 hk.2.2.1 hc, g_cratesOn hS]
    show (if _ = 0 then bo1 (some (if tht t c = true then (1 : Int32) else 0)) _ else _) = _
    by_cases q1 : K c = 1 ∨ K c = 2
    · rw [if_pos q1, if_neg ne10, hrf, decide_eq_true q1]; rfl
    · rw [if_neg q1, if_pos rfl, bo1_some, hrf, decide_eq_false q1, Bool.false_or]
      cases ht : tht t c with
      | true => rfl
      | false =>
        rw [if_pos (show (if false = true then (1 : Int32) else 0) = 0 from rfl), bo1_some, Bool.false_or]
        by_cases q2 : 8 ≤ fb_ct t.1 36
        · rw [decide_eq_true q2, if_pos (show (8 : Int32) ≤ nI (fb_ct t.1 36) from (pu_le (a := 8) (by decide) (by omega)).mpr q2)]; rfl
        · rw [decide_eq_false q2, if_neg (show ¬ (8 : Int32) ≤ nI (fb_ct t.1 36) from fun q => q2 ((pu_le (a := 8) (by decide) (by omega)).mp q))]; rfl
  refine ⟨rf, eR, eC, fun h => ?_, fun h => ?_⟩
  · unfold mX1_layCrate
    rw [eR, h]; rfl
  · rw [h] at hrf
    have hrf := hrf.symm
    rw [Bool.or_eq_false_iff, Bool.or_eq_false_iff] at hrf
    obtain ⟨⟨q1, q2⟩, q3⟩ := hrf
    have q1 := of_decide_eq_false q1
    have q3 := of_decide_eq_false q3
    have hnt : ∀ x, t.1 x = true ∨ x = t.2.1 ∨ x = t.2.2 → x ≠ c := fun x hx e => by
      rw [e] at hx
      rw [tht_iff.mpr hx] at q2; cases q2
    have hCc : t.1 c = false := by rw [← Bool.not_eq_true]; exact fun q => hnt c (Or.inl q) rfl
    have hs : ∀ x, x ≠ 36 + c → upd s (36 + c) (1 : Int32) x = s x := fun x hx => if_neg hx
    have hct' : fb_ct (fun x => if x = c then true else t.1 x) 36 = fb_ct t.1 36 + 1 := by
      have := fb_ct_upd t.1 true hc
      rw [hCc] at this
      simpa using this
    have hS' : RS (upd s (36 + c) 1) K (fun x => if x = c then true else t.1 x) t.2.1 t.2.2 := by
      refine ⟨fun x hx => ⟨?_, ?_⟩, (hs 72 (by omega)).trans hS.2.1, (hs 81 (by omega)).trans hS.2.2⟩
      · rw [hs x (by omega)]; exact (hS.1 x hx).1
      · by_cases e : x = c
        · subst e
          rw [show ∀ v, upd s (36 + x) v (36 + x) = v from fun v => if_pos rfl]; simp
        · rw [hs (36 + x) (by omega), (hS.1 x hx).2]
          show (if t.1 x = true then (1 : Int32) else 0) = if (if x = c then true else t.1 x) = true then 1 else 0
          rw [if_neg e]
    have eL : mX1_layCrate vi vj vk va vb (nI c) = (1, upd vi 8 (vi 8 + 1), vp_updL vj 4 (sL (fun x => if x = c then true else t.1 x))) := by
      unfold mX1_layCrate
      rw [eR, h, if_pos (show (if false = true then (1 : Int32) else 0) = 0 from rfl), hV.2.1, sL_set hc, sL_or]
      congr 3
      apply sL_cong
      intro x _
      by_cases e : x = c
      · subst e; simp
      · simp [e]
    have eO : mX9_crateOn s (nI c) = some (nI (fb_ct t.1 36 + 1), upd s (36 + c) 1) := by
      unfold mX9_crateOn
      rw [g_crate hc, if_pos (g_idx117 (by omega)), nI_clamp (by omega), g_cratesOn hS', bo1_some, hct']
    refine ⟨_, _, _, _, eL, eO, ?_, ?_, K, (fun x => if x = c then true else t.1 x, t.2), f0, f1, m, ⟨hV.1, rfl, hV.2.2⟩, hS', ?_, RB_row hB0 (fun k hk => hs k (by omega)), RB_row hB1 (fun k hk => hs k (by omega)), h5, h6, hm, h7, (hs 110 (by omega)).trans h110, fun k hk => ⟨(hs (111 + k) (by omega)).trans (hvc k hk).1, (hvc k hk).2⟩, (hs 115 (by omega)).trans h115, (hs 116 (by omega)).trans h116, ?_⟩
    · unfold mX1_crateCount
      show mJ13_bitCount_95d88 (sL _) = _
      rw [sL_count, hct']
    · exact nI_nle (by omega) (by omega)
    · obtain ⟨hA, h0, h1, hne, hC0, hC1, hb0, hb1⟩ := hk
      refine ⟨fun x hx => ⟨(hA x hx).1, fun q => ?_⟩, h0, h1, hne, ?_, ?_, hb0, hb1⟩
      · have q : (if x = c then true else t.1 x) = true := q
        by_cases e : x = c
        · subst e; exact fun z => q1 (Or.inl z)
        · rw [if_neg e] at q; exact (hA x hx).2 q
      · show (if t.2.1 = c then true else t.1 t.2.1) = false
        rw [if_neg (hnt _ (Or.inr (Or.inl rfl)))]; exact hC0
      · show (if t.2.2 = c then true else t.1 t.2.2) = false
        rw [if_neg (hnt _ (Or.inr (Or.inr rfl)))]; exact hC1
    · show (vi 8 + 1) - vi 9 - vi 10 = nI (fb_ct _ 36)
      rw [add5, hct, nI_1, hct']
theorem op_lift {vi : Nat → Int32} {vj : Nat → Int64} {vk vc va vpa vb vpb s : Nat → Int32} (hF : FL vi vj vk vc va vpa vb vpb s) {c : Nat} (hc : c < 36) :
    ∃ b : Bool, mX2_holds (vj 4) (nI c) = (if b then 1 else 0) ∧ s (36 + c) = (if b then 1 else 0) ∧
      (b = true → ∃ vi' vj' v, mX1_liftCrate vi vj (nI c) = (vi', vj') ∧ mX9_cratesOn (upd s (36 + c) 0) = some v ∧ mX1_crateCount vj' = v ∧ FL vi' vj' vk vc va vpa vb vpb (upd s (36 + c) 0)) := by
  obtain ⟨K, t, f0, f1, m, hV, hS, hk, hB0, hB1, ⟨h5, h6, hm, h7, h110, hvc, h115, h116, hct⟩⟩ := hF
  refine ⟨t.1 c, by rw [hV.2.1, sL_holds hc], (hS.1 c hc).2, fun hCc => ?_⟩
  have hs : ∀ x, x ≠ 36 + c → upd s (36 + c) (0 : Int32) x = s x := fun x hx => if_neg hx
  have hct' : fb_ct t.1 36 = fb_ct (fun x => if x = c then false else t.1 x) 36 + 1 := by
    have := fb_ct_upd t.1 false hc
    rw [hCc, if_pos rfl, if_neg (by decide)] at this
    omega
  have hS' : RS (upd s (36 + c) 0) K (fun x => if x = c then false else t.1 x) t.2.1 t.2.2 := by
    refine ⟨fun x hx => ⟨?_, ?_⟩, (hs 72 (by omega)).trans hS.2.1, (hs 81 (by omega)).trans hS.2.2⟩
    · rw [hs x (by omega)]; exact (hS.1 x hx).1
    · by_cases e : x = c
      · subst e
        rw [show ∀ v, upd s (36 + x) v (36 + x) = v from fun v => if_pos rfl]; simp
      · rw [hs (36 + x) (by omega), (hS.1 x hx).2]
        show (if t.1 x = true then (1 : Int32) else 0) = if (if x = c then false else t.1 x) = true then 1 else 0
        rw [if_neg e]
  have eL : mX1_liftCrate vi vj (nI c) = (upd vi 9 (vi 9 + 1), vp_updL vj 4 (sL (fun x => if x = c then false else t.1 x))) := by
    unfold mX1_liftCrate
    rw [hV.2.1, sL_set hc, sL_diff]
    congr 2
    apply sL_cong
    intro x _
    by_cases e : x = c
    · subst e; simp
    · simp [e]
  have hs' := fb_ct_le t.1 36
  refine ⟨_, _, _, eL, g_cratesOn hS', ?_, K, (fun x => if x = c then false else t.1 x, t.2), f0, f1, m, ⟨hV.1, rfl, hV.2.2⟩, hS', ?_, RB_row hB0 (fun k hk => hs k (by omega)), RB_row hB1 (fun k hk => hs k (by omega)), h5, h6, hm, h7, (hs 110 (by omega)).trans h110, fun k hk => ⟨(hs (111 + k) (by omega)).trans (hvc k hk).1, (hvc k hk).2⟩, (hs 115 (by omega)).trans h115, (hs 116 (by omega)).trans h116, ?_⟩
  · unfold mX1_crateCount
    show mJ13_bitCount_95d88 (sL _) = _
    rw [sL_count]
  · obtain ⟨hA, h0, h1, hne, hC0, hC1, hb0, hb1⟩ := hk
    refine ⟨fun x hx => ⟨(hA x hx).1, fun q => ?_⟩, h0, h1, hne, ?_, ?_, hb0, hb1⟩
    · have q : (if x = c then false else t.1 x) = true := q
      by_cases e : x = c
      · rw [if_pos e] at q; cases q
      · rw [if_neg e] at q; exact (hA x hx).2 q
    · show (if t.2.1 = c then false else t.1 t.2.1) = false
      split
      · rfl
      · exact hC0
    · show (if t.2.2 = c then false else t.1 t.2.2) = false
      split
      · rfl
      · exact hC1
  · show vi 8 - (vi 9 + 1) - vi 10 = nI (fb_ct _ 36)
    rw [add6, hct, hct', nI_m1 (by omega)]; rfl
theorem op_point {vi : Nat → Int32} {vj : Nat → Int64} {vk vc va vpa vb vpb s : Nat → Int32} (hF : FL vi vj vk vc va vpa vb vpb s) {c : Nat} (hc : c < 36) :
    ∃ rf : Bool, mX1_refusesCheckpoint vi vk vc (nI c) = some (if rf then 1 else 0) ∧ mX9_canPoint s (nI c) = some (if rf then 0 else 1) ∧ (rf = true → mX1_markCheckpoint vi vk vc (nI c) = some (0, vi, vc)) ∧
      (rf = false → ∃ vi' vc' s', mX1_markCheckpoint vi vk vc (nI c) = some (1, vi', vc') ∧ mX9_pointOn s (nI c) = some (vi' 7, s') ∧ ¬ vi' 7 ≤ 0 ∧ FL vi' vj vk vc' va vpa vb vpb s') := by
  obtain ⟨K, t, f0, f1, m, hV, hS, hk, hB0, hB1, ⟨h5, h6, hm, h7, h110, hvc, h115, h116, hct⟩⟩ := hF
  have hK : ∀ x, x < 36 → K x < 7 := fun x hx => (hk.1 x hx).1
  obtain ⟨rf, hrf⟩ : ∃ rf : Bool, rf = (decide (K c = 1 ∨ K c = 2) || hp m vc c || decide (4 ≤ m)) := ⟨_, rfl⟩
  have eR : mX1_refusesCheckpoint vi vk vc (nI c) = some (if rf then 1 else 0) := by
    unfold mX1_refusesCheckpoint
    rw [v_hard hV.1 hK hc, v_isPoint hm h7, h7]
    by_cases q1 : K c = 1 ∨ K c = 2
    · rw [if_pos q1, if_neg ne10, hrf, decide_eq_true q1]; rfl
    · rw [if_neg q1, if_pos rfl, hrf, decide_eq_false q1, Bool.false_or, bo1_some]
      cases hpp : hp m vc c with
      | true => rfl
      | false =>
        rw [if_pos (show (if false = true then (1 : Int32) else 0) = 0 from rfl), Bool.false_or]
        by_cases q2 : 4 ≤ m
        · rw [decide_eq_true q2, if_neg (show ¬ nI m < (4 : Int32) from fun q => by have := (pu_lt (b := 4) (by omega) (by decide)).mp q; omega)]; rfl
        · rw [decide_eq_false q2, if_pos (show nI m < (4 : Int32) from ltc (b := 4) (by omega) (by decide) (by omega))]; rfl
  have eC : mX9_canPoint s (nI c) = some (if rf then 0 else 1) := by
    unfold mX9_canPoint
    rw [g_hard hS hK hc, bo1_some, g_hasPoint hm h110 (fun k hk => (hvc k hk).1), show s (110 : Int32).toNatClampNeg = nI m from h110]
    by_cases q1 : K c = 1 ∨ K c = 2
    · rw [if_pos q1, if_neg ne10, hrf, decide_eq_true q1]; rfl
    · rw [if_neg q1, if_pos rfl, hrf, decide_eq_false q1, Bool.false_or, bo1_some]
      cases hpp : hp m vc c with
      | true => rfl
      | false =>
        rw [if_pos (show (if false = true then (1 : Int32) else 0) = 0 from rfl), Bool.false_or]
        by_cases q2 : 4 ≤ m
        · rw [decide_eq_true q2, if_pos (show (4 : Int32) ≤ nI m from (pu_le (a := 4) (by decide) (by omega)).mpr q2)]; rfl
        · rw [decide_eq_false q2, if_neg (show ¬ (4 : Int32) ≤ nI m from fun q => q2 ((pu_le (a := 4) (by decide) (by omega)).mp q))]; rfl
  refine ⟨rf, eR, eC, fun h => ?_, fun h => ?_⟩
  · unfold mX1_markCheckpoint
    rw [eR, bo1_some, h]; rfl
  · rw [h] at hrf
    have hrf := hrf.symm
    rw [Bool.or_eq_false_iff] at hrf
    have q3 := of_decide_eq_false hrf.2
    have eM : mX1_markCheckpoint vi vk vc (nI c) = some (1, upd vi 7 (nI (m + 1)), upd vc m (nI c)) := by
      unfold mX1_markCheckpoint
      rw [eR, bo1_some, h, if_pos (show (if false = true then (1 : Int32) else 0) = 0 from rfl), h7, if_neg (lt0_nI (by omega)), if_pos (show nI m < (4 : Int32) from ltc (b := 4) (by omega) (by decide) (by omega)), nI_clamp (by omega), nI_1]
    have eO : mX9_pointOn s (nI c) = some (nI (m + 1), upd (upd s 110 (nI (m + 1))) (111 + m) (nI c)) := by
      unfold mX9_pointOn
      have e1 : upd s (110 : Int32).toNatClampNeg (s (110 : Int32).toNatClampNeg + (1 : Int32)) = upd s 110 (nI (m + 1)) := by
        show upd s 110 (s 110 + 1) = _
        rw [h110, nI_1]
      have e2 : upd s 110 (nI (m + 1)) (110 : Int32).toNatClampNeg = nI (m + 1) := rfl
      have e3 : ((110 : Int32) + nI (m + 1)) = nI (110 + (m + 1)) := nI_add 110 (m + 1)
      rw [e1, e2, e3, if_pos (g_idx117 (by omega)), nI_clamp (by omega), show 110 + (m + 1) = 111 + m by omega]
      have e4 : upd (upd s 110 (nI (m + 1))) (111 + m) (nI c) (110 : Int32).toNatClampNeg = nI (m + 1) := (if_neg (show ¬ 110 = 111 + m by omega)).trans rfl
      rw [e4]
    have hs : ∀ x, x ≠ 110 → x ≠ 111 + m → upd (upd s 110 (nI (m + 1))) (111 + m) (nI c) x = s x := fun x h1 h2 => (if_neg h2).trans (if_neg h1)
    refine ⟨_, _, _, eM, eO, nI_nle (by omega) (by omega), K, t, f0, f1, m + 1, hV, ⟨fun x hx => ⟨?_, ?_⟩, (hs 72 (by omega) (by omega)).trans hS.2.1, (hs 81 (by omega) (by omega)).trans hS.2.2⟩, hk, RB_row hB0 (fun k hk => hs k (by omega) (by omega)), RB_row hB1 (fun k hk => hs k (by omega) (by omega)), h5, h6, by omega, rfl, ?_, fun k hk => ?_, (hs 115 (by omega) (by omega)).trans h115, (hs 116 (by omega) (by omega)).trans h116, hct⟩
    · rw [hs x (by omega) (by omega)]; exact (hS.1 x hx).1
    · rw [hs (36 + x) (by omega) (by omega)]; exact (hS.1 x hx).2
    · exact (if_neg (show ¬ 110 = 111 + m by omega)).trans rfl
    · by_cases e : k = m
      · subst e
        exact ⟨(if_pos rfl).trans (if_pos rfl).symm, c, hc, if_pos rfl⟩
      · obtain ⟨a1, d, a2, a3⟩ := hvc k (by omega)
        exact ⟨(hs (111 + k) (by omega) (by omega)).trans (a1.trans (if_neg e).symm), d, a2, (if_neg e).trans a3⟩
