/-! The text: one item -/
def KP (mi mi' : Nat → Int32) : Prop := mi' 0 = mi 0 ∧ mi' 2 = mi 2 ∧ mi' 7 = mi 7
def d5 (vtt : Nat → Int32) (n q : Nat) : Bool := match dg vtt n q with
  | none => false
  | some d => decide (d ≤ 5)
theorem d5_iff {vtt : Nat → Int32} {n q : Nat} : d5 vtt n q = true ↔ ∃ d, dg vtt n q = some d ∧ d ≤ 5 := by
  unfold d5
  cases h : dg vtt n q with
  | none => exact ⟨fun z => (by cases z), fun ⟨d, h1, _⟩ => (by cases h1)⟩
  | some d =>
    refine ⟨fun z => ⟨d, rfl, of_decide_eq_true z⟩, fun ⟨d', h1, h2⟩ => ?_⟩
    cases h1; exact decide_eq_true h2
/-- how many instructions stand from a place, at most j -/
def ic (vtt : Nat → Int32) (n : Nat) : Nat → Nat → Nat
  | 0, _ => 0
  | j + 1, q => if d5 vtt n q then 1 + ic vtt n j (q + 1) else 0
theorem ic_succ (vtt : Nat → Int32) (n j q : Nat) : ic vtt n (j + 1) q = if d5 vtt n q then 1 + ic vtt n j (q + 1) else 0 := rfl
theorem ic_le {vtt : Nat → Int32} {n : Nat} : ∀ (j q : Nat), q ≤ n → q + ic vtt n j q ≤ n ∧ ic vtt n j q ≤ j
  | 0, q, h => ⟨h, Nat.le_refl 0⟩
  | j + 1, q, h => by
    rw [ic_succ]
    by_cases e : d5 vtt n q = true
    · rw [if_pos e]
      obtain ⟨d, d1, d2⟩ := d5_iff.mp e
      have := (dg_lt d1).2.1
      have := ic_le (vtt := vtt) (n := n) j (q + 1) (by omega)
      omega
    · rw [if_neg e]; omega
theorem v_instrFrom_L {ti sg vtt : Nat → Int32} {n q : Nat} (h : TX ti sg vtt n) (hq : q < 900) : ∀ (j N i : Nat), j < N → i + j = 10 → mX7_instructionsFrom_L2 N ti sg (nI q) (nI i) = some (nI (i + ic vtt n j (q + i))) := by
  intro j
  induction j with
  | zero =>
    intro N i hN hi
    obtain ⟨N, rfl⟩ : ∃ m, N = m + 1 := ⟨N - 1, by omega⟩
    obtain rfl : i = 10 := by omega
    unfold mX7_instructionsFrom_L2
    rw [if_pos (by decide)]; rfl
  | succ j ih =>
    intro N i hN hi
    obtain ⟨N, rfl⟩ : ∃ m, N = m + 1 := ⟨N - 1, by omega⟩
    have hd := v_isDigit h (p := q + i) (m := 5) (by omega) (by decide)
    unfold mX7_instructionsFrom_L2
    rw [if_neg (show ¬ ((10 : Int32) ≤ nI i) from nI_leF (b := 10) (by omega) (by decide) (by omega)), nI_add, ic_succ]
    by_cases e : d5 vtt n (q + i) = true
    · rw [if_neg (show ¬ mX7_isDigit ti sg (nI (q + i)) (5 : Int32) = 0 from fun z => hd.mp z (d5_iff.mp e)), if_pos e, nI_1, ih N (i + 1) (by omega) (by omega)]
      rw [show i + 1 + ic vtt n j (q + (i + 1)) = i + (1 + ic vtt n j (q + i + 1)) by rw [Nat.add_assoc, Nat.add_assoc]]
    · rw [if_pos (show mX7_isDigit ti sg (nI (q + i)) (5 : Int32) = 0 from hd.mpr (fun z => e (d5_iff.mpr z))), if_neg e, Nat.add_zero]
theorem v_instrFrom {ti sg vtt : Nat → Int32} {n q : Nat} (h : TX ti sg vtt n) (hq : q < 900) : mX7_instructionsFrom ti sg (nI q) = some (nI (ic vtt n 10 q)) := by
  unfold mX7_instructionsFrom
  have := v_instrFrom_L h hq 10 4096 0 (by decide) (by decide)
  rw [Nat.zero_add, Nat.add_zero] at this
  exact this
theorem teach_0 {ti sg vtt : Nat → Int32} {n q : Nat} (h : TX ti sg vtt n) (hq : q < 900) {vi : Nat → Int32} {vj : Nat → Int64} {vk vc : Nat → Int32} (vb vpb : Nat → Int32) : ∀ (j n1 n2 i : Nat) (mi s va vpa : Nat → Int32) (x y : Int32), j < n1 → j < n2 → i + j = 10 → mi 2 = nI n → mi 16 = nI (q + i) → mi 17 = y + x → FL vi vj vk vc va vpa vb vpb s →
      ∃ mi' s' va' vpa' x', mX9_readProgram_L18 n1 mi vtt s (nI 0) (nI i) = mX9_readProgram_J77 mi' vtt s' (nI (i + ic vtt n j (q + i))) ∧ mX7_teach_L12 n2 ti sg va vpa (nI q) (nI (i + ic vtt n j (q + i))) x (nI i) = some (x', va', vpa') ∧ mi' 16 = nI (q + (i + ic vtt n j (q + i))) ∧ mi' 17 = y + x' ∧ KP mi mi' ∧ FL vi vj vk vc va' vpa' vb vpb s' := by
  have hcc : ∀ k, k < n → vtt k = nI (txc vtt k) ∧ txc vtt k < 256 := fun k hk => (h.2.2 k hk).2
  intro j
  induction j with
  | zero =>
    intro n1 n2 i mi s va vpa x y hn1 hn2 hi h2 h16 h17 hF
    obtain ⟨n1, rfl⟩ : ∃ m, n1 = m + 1 := ⟨n1 - 1, by omega⟩
    obtain ⟨n2, rfl⟩ : ∃ m, n2 = m + 1 := ⟨n2 - 1, by omega⟩
    obtain rfl : i = 10 := by omega
    refine ⟨mi, s, va, vpa, x, ?_, ?_, h16, h17, ⟨rfl, rfl, rfl⟩, hF⟩
    · unfold mX9_readProgram_L18
      rw [if_pos (by decide)]; rfl
    · unfold mX7_teach_L12
      rw [if_pos ((pu_le (by have := (ic_le (vtt := vtt) (n := n) 0 (q + 10)); show 10 + 0 < 2 ^ 31; decide) (by decide)).mpr (by show 10 + 0 ≤ 10; decide))]
  | succ j ih =>
    intro n1 n2 i mi s va vpa x y hn1 hn2 hi h2 h16 h17 hF
    obtain ⟨n1, rfl⟩ : ∃ m, n1 = m + 1 := ⟨n1 - 1, by omega⟩
    obtain ⟨n2, rfl⟩ : ∃ m, n2 = m + 1 := ⟨n2 - 1, by omega⟩
    have hi10 : ¬ ((10 : Int32) ≤ nI i) := nI_leF (b := 10) (by omega) (by decide) (by omega)
    rw [ic_succ]
    unfold mX9_readProgram_L18 mX7_teach_L12
    rw [if_neg hi10]
    rcases g_dig1 (vtt := vtt) (mi := mi) (n := n) (p := q + i) (h := 5) h.1 hcc h2 h16 (by decide) (by omega) with ⟨d, d1, d2, d3⟩ | ⟨d1, d3⟩
    · have e5 : d5 vtt n (q + i) = true := d5_iff.mpr ⟨d, d1, d2⟩
      rw [show mX9_digits mi vtt (1 : Int32) (5 : Int32) = _ from d3, bo2_some, if_neg ne10, if_pos e5]
      have hcnt : ic vtt n j (q + i + 1) ≤ 10 := by
        have : ∀ k p, ic vtt n k p ≤ k := by
          intro k
          induction k with
          | zero => intro p; exact Nat.le_refl 0
          | succ k ihk =>
            intro p
            rw [ic_succ]
            split
            · have := ihk (p + 1); omega
            · omega
        have := this j (q + i + 1)
        omega
      rw [if_neg (show ¬ nI (i + (1 + ic vtt n j (q + i + 1))) ≤ nI i from nI_leF (by omega) (by omega) (by omega)), nI_add, v_digitAt h (by omega) d1]
      have hsh : i + (1 + ic vtt n j (q + i + 1)) = (i + 1) + ic vtt n j (q + (i + 1)) := by rw [Nat.add_assoc, Nat.add_assoc]
      rw [hsh, nI_1]
      obtain ⟨l, l1, l2, l3, l4, l5⟩ := op_write0 hF (w := d) (by omega)
      rw [l3, bo1_some]
      by_cases hl : l = 10
      · rw [if_pos (show (10 : Int32) ≤ nI l by rw [hl]; decide), l4 hl, bt3_mk, if_pos rfl]
        unfold mX9_readProgram_J69 mX9_readProgram_J70 mX7_teach_J40
        rw [nI_1]
        obtain ⟨mi', s', va', vpa', x', a1, a2, a3, a4, a5, a6⟩ := ih n1 n2 (i + 1) (upd (upd (upd (upd mi 18 0) 18 (nI d)) 16 (nI (q + i + 1))) 17 (upd (upd (upd mi 18 0) 18 (nI d)) 16 (nI (q + i + 1)) 17 + 1)) s va vpa (x + 1) y (by omega) (by omega) (by omega) h2 rfl (by
          show mi 17 + 1 = y + (x + 1)
          rw [h17, Int32.add_assoc]) hF
        exact ⟨mi', s', va', vpa', x', a1, a2, a3, a4, a5, a6⟩
      · obtain ⟨va1, vpa1, s1, q1, q2, q3, q4⟩ := l5 (by omega)
        have e18 : upd (upd (upd mi 18 0) 18 (nI d)) 16 (nI (q + i + 1)) 18 = nI d := rfl
        rw [if_neg (show ¬ (10 : Int32) ≤ nI l from nI_leF (b := 10) (by omega) (by decide) (by omega)), e18, q3, bo2_some, if_neg (nI_nle (by omega) (by omega)), q1, bt3_mk, if_neg ne10]
        unfold mX9_readProgram_J70 mX7_teach_J40
        rw [nI_1]
        obtain ⟨mi', s', va', vpa', x', a1, a2, a3, a4, a5, a6⟩ := ih n1 n2 (i + 1) (upd (upd (upd (upd mi 18 0) 18 (nI d)) 16 (nI (q + i + 1))) 17 (upd (upd (upd mi 18 0) 18 (nI d)) 16 (nI (q + i + 1)) 17 + 0)) s1 va1 vpa1 (x + 0) y (by omega) (by omega) (by omega) h2 rfl (by
          show mi 17 + 0 = y + (x + 0)
          rw [h17, Int32.add_zero, Int32.add_zero]) q4
        exact ⟨mi', s', va', vpa', x', a1, a2, a3, a4, a5, a6⟩
    · have e5 : ¬ d5 vtt n (q + i) = true := fun z => d1 (d5_iff.mp z)
      rw [show mX9_digits mi vtt (1 : Int32) (5 : Int32) = _ from d3, bo2_some, if_pos rfl, if_neg e5, Nat.add_zero, if_pos ((pu_le (by omega) (by omega)).mpr (Nat.le_refl i))]
      exact ⟨_, s, va, vpa, x, rfl, rfl, h16, h17, ⟨rfl, rfl, rfl⟩, hF⟩
theorem teach_1 {ti sg vtt : Nat → Int32} {n q : Nat} (h : TX ti sg vtt n) (hq : q < 900) {vi : Nat → Int32} {vj : Nat → Int64} {vk vc : Nat → Int32} (va vpa : Nat → Int32) : ∀ (j n1 n2 i : Nat) (mi s vb vpb : Nat → Int32) (x y : Int32), j < n1 → j < n2 → i + j = 10 → mi 2 = nI n → mi 16 = nI (q + i) → mi 17 = y + x → FL vi vj vk vc va vpa vb vpb s →
      ∃ mi' s' va' vpa' x', mX9_readProgram_L18 n1 mi vtt s (nI 1) (nI i) = mX9_readProgram_J77 mi' vtt s' (nI (i + ic vtt n j (q + i))) ∧ mX7_teach_L12 n2 ti sg vb vpb (nI q) (nI (i + ic vtt n j (q + i))) x (nI i) = some (x', va', vpa') ∧ mi' 16 = nI (q + (i + ic vtt n j (q + i))) ∧ mi' 17 = y + x' ∧ KP mi mi' ∧ FL vi vj vk vc va vpa va' vpa' s' := by
  have hcc : ∀ k, k < n → vtt k = nI (txc vtt k) ∧ txc vtt k < 256 := fun k hk => (h.2.2 k hk).2
  intro j
  induction j with
  | zero =>
    intro n1 n2 i mi s vb vpb x y hn1 hn2 hi h2 h16 h17 hF
    obtain ⟨n1, rfl⟩ : ∃ m, n1 = m + 1 := ⟨n1 - 1, by omega⟩
    obtain ⟨n2, rfl⟩ : ∃ m, n2 = m + 1 := ⟨n2 - 1, by omega⟩
    obtain rfl : i = 10 := by omega
    refine ⟨mi, s, vb, vpb, x, ?_, ?_, h16, h17, ⟨rfl, rfl, rfl⟩, hF⟩
    · unfold mX9_readProgram_L18
      rw [if_pos (by decide)]; rfl
    · unfold mX7_teach_L12
      rw [if_pos ((pu_le (by have := (ic_le (vtt := vtt) (n := n) 0 (q + 10)); show 10 + 0 < 2 ^ 31; decide) (by decide)).mpr (by show 10 + 0 ≤ 10; decide))]
  | succ j ih =>
    intro n1 n2 i mi s vb vpb x y hn1 hn2 hi h2 h16 h17 hF
    obtain ⟨n1, rfl⟩ : ∃ m, n1 = m + 1 := ⟨n1 - 1, by omega⟩
    obtain ⟨n2, rfl⟩ : ∃ m, n2 = m + 1 := ⟨n2 - 1, by omega⟩
    have hi10 : ¬ ((10 : Int32) ≤ nI i) := nI_leF (b := 10) (by omega) (by decide) (by omega)
    rw [ic_succ]
    unfold mX9_readProgram_L18 mX7_teach_L12
    rw [if_neg hi10]
    rcases g_dig1 (vtt := vtt) (mi := mi) (n := n) (p := q + i) (h := 5) h.1 hcc h2 h16 (by decide) (by omega) with ⟨d, d1, d2, d3⟩ | ⟨d1, d3⟩
    · have e5 : d5 vtt n (q + i) = true := d5_iff.mpr ⟨d, d1, d2⟩
      rw [show mX9_digits mi vtt (1 : Int32) (5 : Int32) = _ from d3, bo2_some, if_neg ne10, if_pos e5]
      have hcnt : ic vtt n j (q + i + 1) ≤ 10 := by
        have : ∀ k p, ic vtt n k p ≤ k := by
          intro k
          induction k with
          | zero => intro p; exact Nat.le_refl 0
          | succ k ihk =>
            intro p
            rw [ic_succ]
            split
            · have := ihk (p + 1); omega
            · omega
        have := this j (q + i + 1)
        omega
      rw [if_neg (show ¬ nI (i + (1 + ic vtt n j (q + i + 1))) ≤ nI i from nI_leF (by omega) (by omega) (by omega)), nI_add, v_digitAt h (by omega) d1]
      have hsh : i + (1 + ic vtt n j (q + i + 1)) = (i + 1) + ic vtt n j (q + (i + 1)) := by rw [Nat.add_assoc, Nat.add_assoc]
      rw [hsh, nI_1]
      obtain ⟨l, l1, l2, l3, l4, l5⟩ := op_write1 hF (w := d) (by omega)
      rw [l3, bo1_some]
      by_cases hl : l = 10
      · rw [if_pos (show (10 : Int32) ≤ nI l by rw [hl]; decide), l4 hl, bt3_mk, if_pos rfl]
        unfold mX9_readProgram_J69 mX9_readProgram_J70 mX7_teach_J40
        rw [nI_1]
        obtain ⟨mi', s', va', vpa', x', a1, a2, a3, a4, a5, a6⟩ := ih n1 n2 (i + 1) (upd (upd (upd (upd mi 18 0) 18 (nI d)) 16 (nI (q + i + 1))) 17 (upd (upd (upd mi 18 0) 18 (nI d)) 16 (nI (q + i + 1)) 17 + 1)) s vb vpb (x + 1) y (by omega) (by omega) (by omega) h2 rfl (by
          show mi 17 + 1 = y + (x + 1)
          rw [h17, Int32.add_assoc]) hF
        exact ⟨mi', s', va', vpa', x', a1, a2, a3, a4, a5, a6⟩
      · obtain ⟨va1, vpa1, s1, q1, q2, q3, q4⟩ := l5 (by omega)
        have e18 : upd (upd (upd mi 18 0) 18 (nI d)) 16 (nI (q + i + 1)) 18 = nI d := rfl
        rw [if_neg (show ¬ (10 : Int32) ≤ nI l from nI_leF (b := 10) (by omega) (by decide) (by omega)), e18, q3, bo2_some, if_neg (nI_nle (by omega) (by omega)), q1, bt3_mk, if_neg ne10]
        unfold mX9_readProgram_J70 mX7_teach_J40
        rw [nI_1]
        obtain ⟨mi', s', va', vpa', x', a1, a2, a3, a4, a5, a6⟩ := ih n1 n2 (i + 1) (upd (upd (upd (upd mi 18 0) 18 (nI d)) 16 (nI (q + i + 1))) 17 (upd (upd (upd mi 18 0) 18 (nI d)) 16 (nI (q + i + 1)) 17 + 0)) s1 va1 vpa1 (x + 0) y (by omega) (by omega) (by omega) h2 rfl (by
          show mi 17 + 0 = y + (x + 0)
          rw [h17, Int32.add_zero, Int32.add_zero]) q4
        exact ⟨mi', s', va', vpa', x', a1, a2, a3, a4, a5, a6⟩
    · have e5 : ¬ d5 vtt n (q + i) = true := fun z => d1 (d5_iff.mp z)
      rw [show mX9_digits mi vtt (1 : Int32) (5 : Int32) = _ from d3, bo2_some, if_pos rfl, if_neg e5, Nat.add_zero, if_pos ((pu_le (by omega) (by omega)).mpr (Nat.le_refl i))]
      exact ⟨_, s, vb, vpb, x, rfl, rfl, h16, h17, ⟨rfl, rfl, rfl⟩, hF⟩
theorem item_c {ti sg vtt : Nat → Int32} {n : Nat} (hT : TX ti sg vtt n) {p : Nat} (hp : p < n) {vi : Nat → Int32} {vj : Nat → Int64} {vk vc va vpa vb vpb s : Nat → Int32} (hF : FL vi vj vk vc va vpa vb vpb s) {mi : Nat → Int32} (h2 : mi 2 = nI n) (h16 : mi 16 = nI p) (hc : txc vtt p = 99) :
    (∃ e mi' s', e < 200 ∧ mX7_errorInItem ti sg (nI p) = some (nI e) ∧ mX9_readPart mi vtt s = some (0, mi', s') ∧ mi' 16 = nI e ∧ KP mi mi') ∨
    (∃ len r mi' s' vi' vj' vc' va' vpa' vb' vpb', 3 ≤ len ∧ p + len ≤ n ∧ mX7_errorInItem ti sg (nI p) = some (-1) ∧ mX7_lengthOfItem ti sg (nI p) = some (nI len) ∧ mX9_readPart mi vtt s = some (1, mi', s') ∧ mi' 16 = nI (p + len) ∧ mi' 17 = mi 17 + r ∧ KP mi mi' ∧ mX7_giveItem ti sg vi vj vk vc va vpa vb vpb (nI p) = some (r, vi', vj', vc', va', vpa', vb', vpb') ∧ FL vi' vj' vk vc' va' vpa' vb' vpb' s') := by
  have hn := hT.1
  have hcc : ∀ k, k < n → vtt k = nI (txc vtt k) ∧ txc vtt k < 256 := fun k hk => (hT.2.2 k hk).2
  have hs : mX7_signAt ti sg (nI p) = nI 99 := by rw [v_sign hT (by omega), if_pos hp, hc]
  have hr : vtt (mi 16).toNatClampNeg = nI 99 := by rw [h16, nI_clamp (by omega), (hcc p hp).1, hc]
  have hix : ¬ ((mi 16) < 0 ∨ 120 ≤ (mi 16).toNatClampNeg) := by rw [h16]; exact g_idx (by omega) 120 (by omega)
  have h161 : mi 16 + (1 : Int32) = nI (p + 1) := by rw [h16, nI_1]
  have hlen : mX7_lengthOfItem ti sg (nI p) = some (nI 3) := by
    unfold mX7_lengthOfItem
    rw [hs, if_neg (show ¬ nI 99 = (105 : Int32) by decide), if_neg (show ¬ nI 99 = (114 : Int32) by decide)]; rfl
  have herr : mX7_errorInItem ti sg (nI p) = some (mX7_errorInCell ti sg (nI (p + 1))) := by
    unfold mX7_errorInItem
    rw [hs, if_pos (show nI 99 = (99 : Int32) from rfl), nI_1]
  obtain ⟨c1, c2, c3⟩ := v_errCell hT (p := p + 1) (by omega)
  rcases g_dig2 (vtt := vtt) (mi := upd mi 16 (mi 16 + 1)) (n := n) (p := p + 1) hn hcc h2 h161 (by omega) with ⟨a, b, a1, b1, a3, ab, g⟩ | ⟨hno, g⟩ | ⟨a, a1, a3, hno, g⟩
  · obtain ⟨e1, e2⟩ := c1 a b a1 b1 a3 ab
    have hb := (dg_lt b1).2.1
    right
    obtain ⟨rf, o1, o2, o3, o4⟩ := op_crate hF (c := 10 * a + b) ab
    have e18 : (upd (upd (upd (upd (upd (upd mi 16 (mi 16 + 1)) 18 0) 18 (nI (10 * a))) 16 (nI (p + 1 + 1))) 18 (nI (10 * a + b))) 16 (nI (p + 1 + 2))) 18 = nI (10 * a + b) := rfl
    have e17 : (upd (upd (upd (upd (upd (upd mi 16 (mi 16 + 1)) 18 0) 18 (nI (10 * a))) 16 (nI (p + 1 + 1))) 18 (nI (10 * a + b))) 16 (nI (p + 1 + 2))) 17 = mi 17 := rfl
    cases rf with
    | true =>
      refine ⟨3, 1, upd (upd (upd (upd (upd (upd (upd mi 16 (mi 16 + 1)) 18 0) 18 (nI (10 * a))) 16 (nI (p + 1 + 1))) 18 (nI (10 * a + b))) 16 (nI (p + 1 + 2))) 17 (mi 17 + 1), s, vi, vj, vc, va, vpa, vb, vpb, by decide, by omega, by rw [herr, e1], hlen, ?_, rfl, rfl, ⟨rfl, rfl, rfl⟩, ?_, hF⟩
      · unfold mX9_readPart
        rw [if_pos hix, hr, if_pos (show nI 99 = (99 : Int32) from rfl), g, bo2_some, if_neg ne10, e18, o2, bo1_some, if_pos itf_t0, e17]
      · unfold mX7_giveItem
        rw [hs, if_pos (show nI 99 = (99 : Int32) from rfl), nI_1, e2, o3 rfl, bt3_mk, if_pos rfl]
    | false =>
      obtain ⟨vi1, vj1, s1, v, q1, q2, q3, q4, q5⟩ := o4 rfl
      refine ⟨3, 0, upd (upd (upd (upd (upd (upd (upd mi 16 (mi 16 + 1)) 18 0) 18 (nI (10 * a))) 16 (nI (p + 1 + 1))) 18 (nI (10 * a + b))) 16 (nI (p + 1 + 2))) 17 (mi 17 + 0), s1, vi1, vj1, vc, va, vpa, vb, vpb, by decide, by omega, by rw [herr, e1], hlen, ?_, rfl, rfl, ⟨rfl, rfl, rfl⟩, ?_, q5⟩
      · unfold mX9_readPart
        rw [if_pos hix, hr, if_pos (show nI 99 = (99 : Int32) from rfl), g, bo2_some, if_neg ne10, e18, o2, bo1_some, if_neg itf_f0, q2, bo2_some, if_neg q4, e17]
      · unfold mX7_giveItem
        rw [hs, if_pos (show nI 99 = (99 : Int32) from rfl), nI_1, e2, q1, bt3_mk, if_neg ne10]
  · refine Or.inl ⟨p + 1, upd (upd mi 16 (mi 16 + 1)) 18 0, s, by omega, by rw [herr, c2 hno], ?_, h161, ⟨rfl, rfl, rfl⟩⟩
    unfold mX9_readPart
    rw [if_pos hix, hr, if_pos (show nI 99 = (99 : Int32) from rfl), g, bo2_some, if_pos rfl]
  · refine Or.inl ⟨p + 1 + 1, upd (upd (upd (upd mi 16 (mi 16 + 1)) 18 0) 18 (nI (10 * a))) 16 (nI (p + 1 + 1)), s, by omega, by rw [herr, c3 a a1 a3 hno], ?_, rfl, ⟨rfl, rfl, rfl⟩⟩
    unfold mX9_readPart
    rw [if_pos hix, hr, if_pos (show nI 99 = (99 : Int32) from rfl), g, bo2_some, if_pos rfl]
theorem item_p {ti sg vtt : Nat → Int32} {n : Nat} (hT : TX ti sg vtt n) {p : Nat} (hp : p < n) {vi : Nat → Int32} {vj : Nat → Int64} {vk vc va vpa vb vpb s : Nat → Int32} (hF : FL vi vj vk vc va vpa vb vpb s) {mi : Nat → Int32} (h2 : mi 2 = nI n) (h16 : mi 16 = nI p) (hc : txc vtt p = 112) :
    (∃ e mi' s', e < 200 ∧ mX7_errorInItem ti sg (nI p) = some (nI e) ∧ mX9_readPart mi vtt s = some (0, mi', s') ∧ mi' 16 = nI e ∧ KP mi mi') ∨
    (∃ len r mi' s' vi' vj' vc' va' vpa' vb' vpb', 3 ≤ len ∧ p + len ≤ n ∧ mX7_errorInItem ti sg (nI p) = some (-1) ∧ mX7_lengthOfItem ti sg (nI p) = some (nI len) ∧ mX9_readPart mi vtt s = some (1, mi', s') ∧ mi' 16 = nI (p + len) ∧ mi' 17 = mi 17 + r ∧ KP mi mi' ∧ mX7_giveItem ti sg vi vj vk vc va vpa vb vpb (nI p) = some (r, vi', vj', vc', va', vpa', vb', vpb') ∧ FL vi' vj' vk vc' va' vpa' vb' vpb' s') := by
  have hn := hT.1
  have hcc : ∀ k, k < n → vtt k = nI (txc vtt k) ∧ txc vtt k < 256 := fun k hk => (hT.2.2 k hk).2
  have hs : mX7_signAt ti sg (nI p) = nI 112 := by rw [v_sign hT (by omega), if_pos hp, hc]
  have hr : vtt (mi 16).toNatClampNeg = nI 112 := by rw [h16, nI_clamp (by omega), (hcc p hp).1, hc]
  have hix : ¬ ((mi 16) < 0 ∨ 120 ≤ (mi 16).toNatClampNeg) := by rw [h16]; exact g_idx (by omega) 120 (by omega)
  have h161 : mi 16 + (1 : Int32) = nI (p + 1) := by rw [h16, nI_1]
  have hlen : mX7_lengthOfItem ti sg (nI p) = some (nI 3) := by
    unfold mX7_lengthOfItem
    rw [hs, if_neg (show ¬ nI 112 = (105 : Int32) by decide), if_neg (show ¬ nI 112 = (114 : Int32) by decide)]; rfl
  have herr : mX7_errorInItem ti sg (nI p) = some (mX7_errorInCell ti sg (nI (p + 1))) := by
    unfold mX7_errorInItem
    rw [hs, if_neg (show ¬ nI 112 = (99 : Int32) by decide), if_neg (show ¬ nI 112 = (105 : Int32) by decide), if_pos (show nI 112 = (112 : Int32) from rfl), nI_1]
  obtain ⟨c1, c2, c3⟩ := v_errCell hT (p := p + 1) (by omega)
  rcases g_dig2 (vtt := vtt) (mi := upd mi 16 (mi 16 + 1)) (n := n) (p := p + 1) hn hcc h2 h161 (by omega) with ⟨a, b, a1, b1, a3, ab, g⟩ | ⟨hno, g⟩ | ⟨a, a1, a3, hno, g⟩
  · obtain ⟨e1, e2⟩ := c1 a b a1 b1 a3 ab
    have hb := (dg_lt b1).2.1
    right
    obtain ⟨rf, o1, o2, o3, o4⟩ := op_point hF (c := 10 * a + b) ab
    have e18 : (upd (upd (upd (upd (upd (upd mi 16 (mi 16 + 1)) 18 0) 18 (nI (10 * a))) 16 (nI (p + 1 + 1))) 18 (nI (10 * a + b))) 16 (nI (p + 1 + 2))) 18 = nI (10 * a + b) := rfl
    have e17 : (upd (upd (upd (upd (upd (upd mi 16 (mi 16 + 1)) 18 0) 18 (nI (10 * a))) 16 (nI (p + 1 + 1))) 18 (nI (10 * a + b))) 16 (nI (p + 1 + 2))) 17 = mi 17 := rfl
    cases rf with
    | true =>
      refine ⟨3, 1, upd (upd (upd (upd (upd (upd (upd mi 16 (mi 16 + 1)) 18 0) 18 (nI (10 * a))) 16 (nI (p + 1 + 1))) 18 (nI (10 * a + b))) 16 (nI (p + 1 + 2))) 17 (mi 17 + 1), s, vi, vj, vc, va, vpa, vb, vpb, by decide, by omega, by rw [herr, e1], hlen, ?_, rfl, rfl, ⟨rfl, rfl, rfl⟩, ?_, hF⟩
      · unfold mX9_readPart
        rw [if_pos hix, hr, if_neg (show ¬ nI 112 = (99 : Int32) by decide), if_neg (show ¬ nI 112 = (105 : Int32) by decide), if_pos (show nI 112 = (112 : Int32) from rfl), g, bo2_some, if_neg ne10, e18, o2, bo1_some, if_pos itf_t0, e17]
      · unfold mX7_giveItem
        rw [hs, if_neg (show ¬ nI 112 = (99 : Int32) by decide), if_pos (show nI 112 = (112 : Int32) from rfl), nI_1, e2, o3 rfl, bo3_some, if_pos rfl]
    | false =>
      obtain ⟨vi1, vc1, s1, q1, q2, q4, q5⟩ := o4 rfl
      refine ⟨3, 0, upd (upd (upd (upd (upd (upd (upd mi 16 (mi 16 + 1)) 18 0) 18 (nI (10 * a))) 16 (nI (p + 1 + 1))) 18 (nI (10 * a + b))) 16 (nI (p + 1 + 2))) 17 (mi 17 + 0), s1, vi1, vj, vc1, va, vpa, vb, vpb, by decide, by omega, by rw [herr, e1], hlen, ?_, rfl, rfl, ⟨rfl, rfl, rfl⟩, ?_, q5⟩
      · unfold mX9_readPart
        rw [if_pos hix, hr, if_neg (show ¬ nI 112 = (99 : Int32) by decide), if_neg (show ¬ nI 112 = (105 : Int32) by decide), if_pos (show nI 112 = (112 : Int32) from rfl), g, bo2_some, if_neg ne10, e18, o2, bo1_some, if_neg itf_f0, q2, bo2_some, if_neg q4, e17]
      · unfold mX7_giveItem
        rw [hs, if_neg (show ¬ nI 112 = (99 : Int32) by decide), if_pos (show nI 112 = (112 : Int32) from rfl), nI_1, e2, q1, bo3_some, if_neg ne10]
  · refine Or.inl ⟨p + 1, upd (upd mi 16 (mi 16 + 1)) 18 0, s, by omega, by rw [herr, c2 hno], ?_, h161, ⟨rfl, rfl, rfl⟩⟩
    unfold mX9_readPart
    rw [if_pos hix, hr, if_neg (show ¬ nI 112 = (99 : Int32) by decide), if_neg (show ¬ nI 112 = (105 : Int32) by decide), if_pos (show nI 112 = (112 : Int32) from rfl), g, bo2_some, if_pos rfl]
  · refine Or.inl ⟨p + 1 + 1, upd (upd (upd (upd mi 16 (mi 16 + 1)) 18 0) 18 (nI (10 * a))) 16 (nI (p + 1 + 1)), s, by omega, by rw [herr, c3 a a1 a3 hno], ?_, rfl, ⟨rfl, rfl, rfl⟩⟩
    unfold mX9_readPart
    rw [if_pos hix, hr, if_neg (show ¬ nI 112 = (99 : Int32) by decide), if_neg (show ¬ nI 112 = (105 : Int32) by decide), if_pos (show nI 112 = (112 : Int32) from rfl), g, bo2_some, if_pos rfl]
theorem item_r {ti sg vtt : Nat → Int32} {n : Nat} (hT : TX ti sg vtt n) {p : Nat} (hp : p < n) {vi : Nat → Int32} {vj : Nat → Int64} {vk vc va vpa vb vpb s : Nat → Int32} (hF : FL vi vj vk vc va vpa vb vpb s) {mi : Nat → Int32} (h2 : mi 2 = nI n) (h16 : mi 16 = nI p) (hc : txc vtt p = 114) :
    (∃ e mi' s', e < 200 ∧ mX7_errorInItem ti sg (nI p) = some (nI e) ∧ mX9_readPart mi vtt s = some (0, mi', s') ∧ mi' 16 = nI e ∧ KP mi mi') ∨
    (∃ len r mi' s' vi' vj' vc' va' vpa' vb' vpb', 3 ≤ len ∧ p + len ≤ n ∧ mX7_errorInItem ti sg (nI p) = some (-1) ∧ mX7_lengthOfItem ti sg (nI p) = some (nI len) ∧ mX9_readPart mi vtt s = some (1, mi', s') ∧ mi' 16 = nI (p + len) ∧ mi' 17 = mi 17 + r ∧ KP mi mi' ∧ mX7_giveItem ti sg vi vj vk vc va vpa vb vpb (nI p) = some (r, vi', vj', vc', va', vpa', vb', vpb') ∧ FL vi' vj' vk vc' va' vpa' vb' vpb' s') := by
  have hn := hT.1
  have hcc : ∀ k, k < n → vtt k = nI (txc vtt k) ∧ txc vtt k < 256 := fun k hk => (hT.2.2 k hk).2
  have hs : mX7_signAt ti sg (nI p) = nI 114 := by rw [v_sign hT (by omega), if_pos hp, hc]
  have hr : vtt (mi 16).toNatClampNeg = nI 114 := by rw [h16, nI_clamp (by omega), (hcc p hp).1, hc]
  have hix : ¬ ((mi 16) < 0 ∨ 120 ≤ (mi 16).toNatClampNeg) := by rw [h16]; exact g_idx (by omega) 120 (by omega)
  have h161 : mi 16 + (1 : Int32) = nI (p + 1) := by rw [h16, nI_1]
  have hlen : mX7_lengthOfItem ti sg (nI p) = some (nI 5) := by
    unfold mX7_lengthOfItem
    rw [hs, if_neg (show ¬ nI 114 = (105 : Int32) by decide), if_pos (show nI 114 = (114 : Int32) from rfl)]; rfl
  have e1 : nI p + (1 : Int32) = nI (p + 1) := nI_add p 1
  have e2 : nI p + (2 : Int32) = nI (p + 2) := nI_add p 2
  have e4 : nI p + (4 : Int32) = nI (p + 4) := nI_add p 4
  have herr : mX7_errorInItem ti sg (nI p) = some (mX7_errorInRobot ti sg (nI p)) := by
    unfold mX7_errorInItem
    rw [hs, if_neg (show ¬ nI 114 = (99 : Int32) by decide), if_neg (show ¬ nI 114 = (105 : Int32) by decide), if_neg (show ¬ nI 114 = (112 : Int32) by decide), if_pos (show nI 114 = (114 : Int32) from rfl)]
  have hrp : mX9_readPart mi vtt s = bo3 (mX9_readRobot (upd mi 16 (mi 16 + 1)) vtt s) (fun r_40 mi_41 vs_42 => (if r_40 = 0 ∨ r_40 = 1 then (some (r_40, mi_41, vs_42)) else none)) := by
    unfold mX9_readPart
    rw [if_pos hix, hr, if_neg (show ¬ nI 114 = (99 : Int32) by decide), if_neg (show ¬ nI 114 = (105 : Int32) by decide), if_neg (show ¬ nI 114 = (112 : Int32) by decide), if_pos (show nI 114 = (114 : Int32) from rfl)]
  have d1i := v_isDigit hT (p := p + 1) (m := 1) (by omega) (by decide)
  have d3i := v_isDigit hT (p := p + 4) (m := 3) (by omega) (by decide)
  obtain ⟨c1, c2, c3⟩ := v_errCell hT (p := p + 2) (by omega)
  rcases g_dig1 (vtt := vtt) (mi := upd mi 16 (mi 16 + 1)) (n := n) (p := p + 1) (h := 1) hn hcc h2 h161 (by decide) (by omega) with ⟨r, r1, r2, gr⟩ | ⟨r1, gr⟩
  · have gr : mX9_digits (upd mi 16 (mi 16 + 1)) vtt (1 : Int32) (1 : Int32) = _ := gr
    have hi1 : ¬ mX7_isDigit ti sg (nI (p + 1)) (1 : Int32) = 0 := fun z => d1i.mp z ⟨r, r1, r2⟩
    rcases g_dig2 (vtt := vtt) (mi := upd (upd (upd (upd mi 16 (mi 16 + 1)) 18 0) 18 (nI r)) 16 (nI (p + 1 + 1))) (n := n) (p := p + 2) hn hcc h2 rfl (by omega) with ⟨a, b, a1, b1, a3, ab, g⟩ | ⟨hno, g⟩ | ⟨a, a1, a3, hno, g⟩
    · obtain ⟨ce, cv⟩ := c1 a b a1 b1 a3 ab
      rcases g_dig1 (vtt := vtt) (mi := upd (upd (upd (upd (upd (upd (upd (upd (upd mi 16 (mi 16 + 1)) 18 0) 18 (nI r)) 16 (nI (p + 1 + 1))) 18 0) 18 (nI (10 * a))) 16 (nI (p + 2 + 1))) 18 (nI (10 * a + b))) 16 (nI (p + 2 + 2))) (n := n) (p := p + 4) (h := 3) hn hcc h2 rfl (by decide) (by omega) with ⟨f, f1, f2, gf⟩ | ⟨f1, gf⟩
      · have gf : mX9_digits _ vtt (1 : Int32) (3 : Int32) = _ := gf
        have hi3 : ¬ mX7_isDigit ti sg (nI (p + 4)) (3 : Int32) = 0 := fun z => d3i.mp z ⟨f, f1, f2⟩
        have hf5 := (dg_lt f1).2.1
        have he : mX7_errorInItem ti sg (nI p) = some (-1) := by
          rw [herr]
          unfold mX7_errorInRobot
          rw [e1, e2, e4, if_neg hi1, if_pos ce, if_neg hi3]
        right
        obtain ⟨rf, o1, o2, o3, o4⟩ := op_put hF (r := r) (c := 10 * a + b) (f := f) (by omega) ab (by omega)
        generalize hM : upd (upd (upd (upd (upd (upd (upd (upd (upd mi 16 (mi 16 + 1)) 18 0) 18 (nI r)) 16 (nI (p + 1 + 1))) 18 0) 18 (nI (10 * a))) 16 (nI (p + 2 + 1))) 18 (nI (10 * a + b))) 16 (nI (p + 2 + 2)) = M at *
        have m18 : M 18 = nI (10 * a + b) := by rw [← hM]; rfl
        have m17 : M 17 = mi 17 := by rw [← hM]; rfl
        have m0 : M 0 = mi 0 ∧ M 2 = mi 2 ∧ M 7 = mi 7 := by rw [← hM]; exact ⟨rfl, rfl, rfl⟩
        have n17 : upd (upd (upd M 18 0) 18 (nI f)) 16 (nI (p + 4 + 1)) 17 = mi 17 := m17
        have n18 : upd (upd (upd M 18 0) 18 (nI f)) 16 (nI (p + 4 + 1)) 18 = nI f := rfl
        have l18 : upd (upd (upd (upd mi 16 (mi 16 + 1)) 18 0) 18 (nI r)) 16 (nI (p + 1 + 1)) 18 = nI r := rfl
        cases rf with
        | true =>
          refine ⟨5, 1, upd (upd (upd (upd M 18 0) 18 (nI f)) 16 (nI (p + 4 + 1))) 17 (mi 17 + 1), s, vi, vj, vc, va, vpa, vb, vpb, by decide, by omega, he, hlen, ?_, rfl, rfl, m0, ?_, hF⟩
          · rw [hrp]
            unfold mX9_readRobot
            rw [gr, bo2_some, if_neg ne10, g, bo2_some, if_neg ne10, gf, bo2_some, if_neg ne10, l18, m18, o2, bo1_some, if_pos itf_t0, n17, bo3_some, if_pos (Or.inr rfl)]
          · unfold mX7_giveItem
            rw [hs, if_neg (show ¬ nI 114 = (99 : Int32) by decide), if_neg (show ¬ nI 114 = (112 : Int32) by decide), if_pos (show nI 114 = (114 : Int32) from rfl), e1, e2, e4, v_digitAt hT (by omega) r1, cv, v_digitAt hT (by omega) f1, o3 rfl, bt3_mk, if_pos rfl]
        | false =>
          obtain ⟨va1, vb1, s1, o, q1, q2, q3, q4, q5⟩ := o4 rfl
          refine ⟨5, 0, upd (upd (upd (upd M 18 0) 18 (nI f)) 16 (nI (p + 4 + 1))) 17 (mi 17 + 0), s1, vi, vj, vc, va1, vpa, vb1, vpb, by decide, by omega, he, hlen, ?_, rfl, rfl, m0, ?_, q5⟩
          · rw [hrp]
            unfold mX9_readRobot
            rw [gr, bo2_some, if_neg ne10, g, bo2_some, if_neg ne10, gf, bo2_some, if_neg ne10, l18, m18, o2, bo1_some, if_neg itf_f0, n18, q2, bo2_some, if_neg (Int32.not_lt.mpr q4), n17, bo3_some, if_pos (Or.inr rfl)]
          · unfold mX7_giveItem
            rw [hs, if_neg (show ¬ nI 114 = (99 : Int32) by decide), if_neg (show ¬ nI 114 = (112 : Int32) by decide), if_pos (show nI 114 = (114 : Int32) from rfl), e1, e2, e4, v_digitAt hT (by omega) r1, cv, v_digitAt hT (by omega) f1, q1, bt3_mk, if_neg ne10]
      · have gf : mX9_digits _ vtt (1 : Int32) (3 : Int32) = _ := gf
        have hi3 : mX7_isDigit ti sg (nI (p + 4)) (3 : Int32) = 0 := d3i.mpr f1
        refine Or.inl ⟨p + 4, upd (upd (upd (upd (upd (upd (upd (upd (upd (upd mi 16 (mi 16 + 1)) 18 0) 18 (nI r)) 16 (nI (p + 1 + 1))) 18 0) 18 (nI (10 * a))) 16 (nI (p + 2 + 1))) 18 (nI (10 * a + b))) 16 (nI (p + 2 + 2))) 18 0, s, by omega, ?_, ?_, rfl, ⟨rfl, rfl, rfl⟩⟩
        · rw [herr]
          unfold mX7_errorInRobot
          rw [e1, e2, e4, if_neg hi1, if_pos ce, if_pos hi3]
        · rw [hrp]
          unfold mX9_readRobot
          rw [gr, bo2_some, if_neg ne10, g, bo2_some, if_neg ne10, gf, bo2_some, if_pos rfl, bo3_some, if_pos (Or.inl rfl)]
    · have ce := c2 hno
      refine Or.inl ⟨p + 2, upd (upd (upd (upd (upd mi 16 (mi 16 + 1)) 18 0) 18 (nI r)) 16 (nI (p + 1 + 1))) 18 0, s, by omega, ?_, ?_, rfl, ⟨rfl, rfl, rfl⟩⟩
      · rw [herr]
        unfold mX7_errorInRobot
        rw [e1, e2, e4, if_neg hi1, ce, if_neg (ne_neg144 (p + 2) (by omega))]
      · rw [hrp]
        unfold mX9_readRobot
        rw [gr, bo2_some, if_neg ne10, g, bo2_some, if_pos rfl, bo3_some, if_pos (Or.inl rfl)]
    · have ce := c3 a a1 a3 hno
      refine Or.inl ⟨p + 2 + 1, upd (upd (upd (upd (upd (upd (upd mi 16 (mi 16 + 1)) 18 0) 18 (nI r)) 16 (nI (p + 1 + 1))) 18 0) 18 (nI (10 * a))) 16 (nI (p + 2 + 1)), s, by omega, ?_, ?_, rfl, ⟨rfl, rfl, rfl⟩⟩
      · rw [herr]
        unfold mX7_errorInRobot
        rw [e1, e2, e4, if_neg hi1, ce, if_neg (ne_neg144 (p + 2 + 1) (by omega))]
      · rw [hrp]
        unfold mX9_readRobot
        rw [gr, bo2_some, if_neg ne10, g, bo2_some, if_pos rfl, bo3_some, if_pos (Or.inl rfl)]
  · have gr : mX9_digits (upd mi 16 (mi 16 + 1)) vtt (1 : Int32) (1 : Int32) = _ := gr
    have hi1 : mX7_isDigit ti sg (nI (p + 1)) (1 : Int32) = 0 := d1i.mpr r1
    refine Or.inl ⟨p + 1, upd (upd mi 16 (mi 16 + 1)) 18 0, s, by omega, ?_, ?_, h161, ⟨rfl, rfl, rfl⟩⟩
    · rw [herr]
      unfold mX7_errorInRobot
      rw [e1, if_pos hi1]
    · rw [hrp]
      unfold mX9_readRobot
      rw [gr, bo2_some, if_pos rfl, bo3_some, if_pos (Or.inl rfl)]
theorem item_i {ti sg vtt : Nat → Int32} {n : Nat} (hT : TX ti sg vtt n) {p : Nat} (hp : p < n) {vi : Nat → Int32} {vj : Nat → Int64} {vk vc va vpa vb vpb s : Nat → Int32} (hF : FL vi vj vk vc va vpa vb vpb s) {mi : Nat → Int32} (h2 : mi 2 = nI n) (h16 : mi 16 = nI p) (hc : txc vtt p = 105) :
    (∃ e mi' s', e < 200 ∧ mX7_errorInItem ti sg (nI p) = some (nI e) ∧ mX9_readPart mi vtt s = some (0, mi', s') ∧ mi' 16 = nI e ∧ KP mi mi') ∨
    (∃ len r mi' s' vi' vj' vc' va' vpa' vb' vpb', 3 ≤ len ∧ p + len ≤ n ∧ mX7_errorInItem ti sg (nI p) = some (-1) ∧ mX7_lengthOfItem ti sg (nI p) = some (nI len) ∧ mX9_readPart mi vtt s = some (1, mi', s') ∧ mi' 16 = nI (p + len) ∧ mi' 17 = mi 17 + r ∧ KP mi mi' ∧ mX7_giveItem ti sg vi vj vk vc va vpa vb vpb (nI p) = some (r, vi', vj', vc', va', vpa', vb', vpb') ∧ FL vi' vj' vk vc' va' vpa' vb' vpb' s') := by
  have hn := hT.1
  have hcc : ∀ k, k < n → vtt k = nI (txc vtt k) ∧ txc vtt k < 256 := fun k hk => (hT.2.2 k hk).2
  have hs : mX7_signAt ti sg (nI p) = nI 105 := by rw [v_sign hT (by omega), if_pos hp, hc]
  have hr : vtt (mi 16).toNatClampNeg = nI 105 := by rw [h16, nI_clamp (by omega), (hcc p hp).1, hc]
  have hix : ¬ ((mi 16) < 0 ∨ 120 ≤ (mi 16).toNatClampNeg) := by rw [h16]; exact g_idx (by omega) 120 (by omega)
  have h161 : mi 16 + (1 : Int32) = nI (p + 1) := by rw [h16, nI_1]
  have e1 : nI p + (1 : Int32) = nI (p + 1) := nI_add p 1
  have e2 : nI p + (2 : Int32) = nI (p + 2) := nI_add p 2
  obtain ⟨cnt, hcnt⟩ : ∃ cnt, cnt = ic vtt n 10 (p + 2) := ⟨_, rfl⟩
  have hif : mX7_instructionsFrom ti sg (nI (p + 2)) = some (nI cnt) := by rw [hcnt]; exact v_instrFrom hT (by omega)
  have herr : mX7_errorInItem ti sg (nI p) = mX7_errorInProgram ti sg (nI p) := by
    unfold mX7_errorInItem
    rw [hs, if_neg (show ¬ nI 105 = (99 : Int32) by decide), if_pos (show nI 105 = (105 : Int32) from rfl)]
    cases mX7_errorInProgram ti sg (nI p) <;> rfl
  have hrp : mX9_readPart mi vtt s = bo3 (mX9_readProgram (upd mi 16 (mi 16 + 1)) vtt s) (fun r_40 mi_41 vs_42 => (if r_40 = 0 ∨ r_40 = 1 then (some (r_40, mi_41, vs_42)) else none)) := by
    unfold mX9_readPart
    rw [if_pos hix, hr, if_neg (show ¬ nI 105 = (99 : Int32) by decide), if_pos (show nI 105 = (105 : Int32) from rfl)]
  have d1i := v_isDigit hT (p := p + 1) (m := 1) (by omega) (by decide)
  rcases g_dig1 (vtt := vtt) (mi := upd mi 16 (mi 16 + 1)) (n := n) (p := p + 1) (h := 1) hn hcc h2 h161 (by decide) (by omega) with ⟨r, r1, r2, gr⟩ | ⟨r1, gr⟩
  · have gr : mX9_digits (upd mi 16 (mi 16 + 1)) vtt (1 : Int32) (1 : Int32) = _ := gr
    have hi1 : ¬ mX7_isDigit ti sg (nI (p + 1)) (1 : Int32) = 0 := fun z => d1i.mp z ⟨r, r1, r2⟩
    have hp1 := (dg_lt r1).2.1
    obtain ⟨ib1, ib2⟩ := ic_le (vtt := vtt) (n := n) 10 (p + 2) (by omega)
    rw [← hcnt] at ib1 ib2
    generalize hM : upd (upd (upd (upd mi 16 (mi 16 + 1)) 18 0) 18 (nI r)) 16 (nI (p + 1 + 1)) = M at *
    have m18 : M 18 = nI r := by rw [← hM]; rfl
    have m17 : M 17 = mi 17 := by rw [← hM]; rfl
    have m16 : M 16 = nI (p + 2 + 0) := by rw [← hM]; rfl
    have m2 : M 2 = nI n := by rw [← hM]; exact h2
    have m0 : M 0 = mi 0 ∧ M 2 = mi 2 ∧ M 7 = mi 7 := by rw [← hM]; exact ⟨rfl, rfl, rfl⟩
    -- teaching, either robot
    have key : ∃ mi' s' x' va' vpa' vb' vpb', mX9_readProgram_L18 4096 M vtt s (nI r) (0 : Int32) = mX9_readProgram_J77 mi' vtt s' (nI cnt) ∧ mi' 16 = nI (p + 2 + cnt) ∧ mi' 17 = mi 17 + x' ∧ KP M mi' ∧ (mX7_giveItem ti sg vi vj vk vc va vpa vb vpb (nI p) = some (x', vi, vj, vc, va', vpa', vb', vpb')) ∧ FL vi vj vk vc va' vpa' vb' vpb' s' := by
      rcases (show r = 0 ∨ r = 1 by omega) with rfl | rfl
      · obtain ⟨mi', s', va', vpa', x', a1, a2, a3, a4, a5, a6⟩ := teach_0 hT (q := p + 2) (by omega) vb vpb 10 4096 4096 0 M s va vpa 0 (mi 17) (by decide) (by decide) (by decide) m2 m16 (by rw [m17, Int32.add_zero]) hF
        rw [Nat.zero_add, Nat.add_zero, ← hcnt] at a1 a2 a3
        refine ⟨mi', s', x', va', vpa', vb, vpb, a1, a3, a4, a5, ?_, a6⟩
        unfold mX7_giveItem mX7_teach
        rw [hs, if_neg (show ¬ nI 105 = (99 : Int32) by decide), if_neg (show ¬ nI 105 = (112 : Int32) by decide), if_neg (show ¬ nI 105 = (114 : Int32) by decide), e1, e2, v_digitAt hT (by omega) r1, if_pos (show nI 0 = 0 from rfl), hif, bo1_some, show mX7_teach_L12 4096 ti sg va vpa (nI (p + 2)) (nI cnt) 0 (0 : Int32) = _ from a2, bo3_some]
      · obtain ⟨mi', s', va', vpa', x', a1, a2, a3, a4, a5, a6⟩ := teach_1 hT (q := p + 2) (by omega) va vpa 10 4096 4096 0 M s vb vpb 0 (mi 17) (by decide) (by decide) (by decide) m2 m16 (by rw [m17, Int32.add_zero]) hF
        rw [Nat.zero_add, Nat.add_zero, ← hcnt] at a1 a2 a3
        refine ⟨mi', s', x', va, vpa, va', vpa', a1, a3, a4, a5, ?_, a6⟩
        unfold mX7_giveItem mX7_teach
        rw [hs, if_neg (show ¬ nI 105 = (99 : Int32) by decide), if_neg (show ¬ nI 105 = (112 : Int32) by decide), if_neg (show ¬ nI 105 = (114 : Int32) by decide), e1, e2, v_digitAt hT (by omega) r1, if_neg (show ¬ nI 1 = 0 by decide), hif, bo1_some, show mX7_teach_L12 4096 ti sg vb vpb (nI (p + 2)) (nI cnt) 0 (0 : Int32) = _ from a2, bo3_some]
    obtain ⟨mi', s', x', va', vpa', vb', vpb', k1, k2, k3, k4, k5, k6⟩ := key
    have hKP : KP mi mi' := ⟨k4.1.trans m0.1, k4.2.1.trans m0.2.1, k4.2.2.trans m0.2.2⟩
    have k2n : mi' 2 = nI n := k4.2.1.trans m2
    have hrd : mX9_readProgram (upd mi 16 (mi 16 + 1)) vtt s = mX9_readProgram_J77 mi' vtt s' (nI cnt) := by
      unfold mX9_readProgram
      rw [gr, bo2_some, if_neg ne10, m18, k1]
    have hep : mX7_errorInProgram ti sg (nI p) = if nI cnt ≤ 0 then some (nI (p + 2 + cnt)) else if mX7_signAt ti sg (nI (p + 2 + cnt)) = (46 : Int32) then some (-1) else some (nI (p + 2 + cnt)) := by
      unfold mX7_errorInProgram
      rw [e1, e2, if_neg hi1, hif, bo1_some, nI_add]
    have bad : ∀ (hJ : mX9_readProgram_J77 mi' vtt s' (nI cnt) = some (0, mi', s')) (hE : mX7_errorInProgram ti sg (nI p) = some (nI (p + 2 + cnt))), ∃ e mi' s', e < 200 ∧ mX7_errorInItem ti sg (nI p) = some (nI e) ∧ mX9_readPart mi vtt s = some (0, mi', s') ∧ mi' 16 = nI e ∧ KP mi mi' := fun hJ hE => ⟨p + 2 + cnt, mi', s', by omega, herr.trans hE, by rw [hrp, hrd, hJ, bo3_some, if_pos (Or.inl rfl)], k2, hKP⟩
    by_cases hc0 : cnt = 0
    · refine Or.inl (bad ?_ ?_)
      · unfold mX9_readProgram_J77
        rw [if_pos (show nI cnt = 0 by rw [hc0]; rfl)]
      · rw [hep, if_pos (show nI cnt ≤ 0 by rw [hc0]; decide)]
    · have hcn : ¬ nI cnt = 0 := nI_ne0 (by omega) (by omega)
      have hcl : ¬ nI cnt ≤ 0 := nI_nle (by omega) (by omega)
      rw [if_neg hcl, v_sign hT (by omega)] at hep
      by_cases hend : p + 2 + cnt < n
      · rw [if_pos hend] at hep
        have hJ : mX9_readProgram_J77 mi' vtt s' (nI cnt) = if nI (txc vtt (p + 2 + cnt)) = (46 : Int32) then some (1, upd mi' 16 (nI (p + 2 + cnt + 1)), s') else some (0, mi', s') := by
          unfold mX9_readProgram_J77
          rw [if_neg hcn, k2, k2n, if_neg (fun z => by have := (nI_inj (by omega) (by omega)).mp z; omega), if_pos (g_idx (by omega) 120 (by omega)), nI_clamp (by omega), (hcc _ hend).1, nI_1]
        by_cases hdot : nI (txc vtt (p + 2 + cnt)) = (46 : Int32)
        · rw [if_pos hdot] at hep hJ
          refine Or.inr ⟨3 + cnt, x', upd mi' 16 (nI (p + 2 + cnt + 1)), s', vi, vj, vc, va', vpa', vb', vpb', by omega, by omega, herr.trans hep, ?_, ?_, ?_, k3, hKP, k5, k6⟩
          · unfold mX7_lengthOfItem
            rw [hs, if_pos (show nI 105 = (105 : Int32) from rfl), e2, hif, bo1_some]
            show some (nI 3 + nI cnt) = _
            rw [nI_add]
          · rw [hrp, hrd, hJ, bo3_some, if_pos (Or.inr rfl)]
          · show nI (p + 2 + cnt + 1) = nI (p + (3 + cnt))
            rw [show p + 2 + cnt + 1 = p + (3 + cnt) by omega]
        · rw [if_neg hdot] at hep hJ
          exact Or.inl (bad hJ hep)
      · rw [if_neg hend, if_neg (by decide)] at hep
        refine Or.inl (bad ?_ hep)
        unfold mX9_readProgram_J77
        rw [if_neg hcn, k2, k2n, if_pos (by rw [show p + 2 + cnt = n by omega])]
  · have gr : mX9_digits (upd mi 16 (mi 16 + 1)) vtt (1 : Int32) (1 : Int32) = _ := gr
    have hi1 : mX7_isDigit ti sg (nI (p + 1)) (1 : Int32) = 0 := d1i.mpr r1
    refine Or.inl ⟨p + 1, upd (upd mi 16 (mi 16 + 1)) 18 0, s, by omega, ?_, ?_, h161, ⟨rfl, rfl, rfl⟩⟩
    · rw [herr]
      unfold mX7_errorInProgram
      rw [e1, if_pos hi1]
    · rw [hrp]
      unfold mX9_readProgram
      rw [gr, bo2_some, if_pos rfl, bo3_some, if_pos (Or.inl rfl)]
theorem item_x {ti sg vtt : Nat → Int32} {n : Nat} (hT : TX ti sg vtt n) {p : Nat} (hp : p < n) {vi : Nat → Int32} {vj : Nat → Int64} {vk vc va vpa vb vpb s : Nat → Int32} (hF : FL vi vj vk vc va vpa vb vpb s) {mi : Nat → Int32} (h2 : mi 2 = nI n) (h16 : mi 16 = nI p) :
    (∃ e mi' s', e < 200 ∧ mX7_errorInItem ti sg (nI p) = some (nI e) ∧ mX9_readPart mi vtt s = some (0, mi', s') ∧ mi' 16 = nI e ∧ KP mi mi') ∨
    (∃ len r mi' s' vi' vj' vc' va' vpa' vb' vpb', 3 ≤ len ∧ p + len ≤ n ∧ mX7_errorInItem ti sg (nI p) = some (-1) ∧ mX7_lengthOfItem ti sg (nI p) = some (nI len) ∧ mX9_readPart mi vtt s = some (1, mi', s') ∧ mi' 16 = nI (p + len) ∧ mi' 17 = mi 17 + r ∧ KP mi mi' ∧ mX7_giveItem ti sg vi vj vk vc va vpa vb vpb (nI p) = some (r, vi', vj', vc', va', vpa', vb', vpb') ∧ FL vi' vj' vk vc' va' vpa' vb' vpb' s') := by
  by_cases h99 : txc vtt p = 99
  · exact item_c hT hp hF h2 h16 h99
  by_cases h105 : txc vtt p = 105
  · exact item_i hT hp hF h2 h16 h105
  by_cases h112 : txc vtt p = 112
  · exact item_p hT hp hF h2 h16 h112
  by_cases h114 : txc vtt p = 114
  · exact item_r hT hp hF h2 h16 h114
  have hn := hT.1
  have hcc : ∀ k, k < n → vtt k = nI (txc vtt k) ∧ txc vtt k < 256 := fun k hk => (hT.2.2 k hk).2
  have hc := (hcc p hp).2
  have hs : mX7_signAt ti sg (nI p) = nI (txc vtt p) := by rw [v_sign hT (by omega), if_pos hp]
  have hr : vtt (mi 16).toNatClampNeg = nI (txc vtt p) := by rw [h16, nI_clamp (by omega), (hcc p hp).1]
  have hix : ¬ ((mi 16) < 0 ∨ 120 ≤ (mi 16).toNatClampNeg) := by rw [h16]; exact g_idx (by omega) 120 (by omega)
  have ne : ∀ o, o < 256 → txc vtt p ≠ o → ¬ nI (txc vtt p) = nI o := fun o ho h z => h ((nI_inj (by omega) (by omega)).mp z)
  have ne1 : ¬ nI (txc vtt p) = (99 : Int32) := ne 99 (by decide) h99
  have ne2 : ¬ nI (txc vtt p) = (105 : Int32) := ne 105 (by decide) h105
  have ne3 : ¬ nI (txc vtt p) = (112 : Int32) := ne 112 (by decide) h112
  have ne4 : ¬ nI (txc vtt p) = (114 : Int32) := ne 114 (by decide) h114
  refine Or.inl ⟨p, upd (upd mi 16 (mi 16 + 1)) 16 (mi 16 + 1 - 1), s, by omega, ?_, ?_, ?_, ⟨rfl, rfl, rfl⟩⟩
  · unfold mX7_errorInItem
    rw [hs, if_neg ne1, if_neg ne2, if_neg ne3, if_neg ne4]
  · unfold mX9_readPart
    rw [if_pos hix, hr, if_neg ne1, if_neg ne2, if_neg ne3, if_neg ne4]
  · show mi 16 + 1 - 1 = nI p
    rw [h16, Int32.add_sub_cancel]
