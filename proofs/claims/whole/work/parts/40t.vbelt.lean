/-! Belts: where a belt leads, and which things are carried -/
def blt (K : Nat → Nat) (c : Nat) : Option Nat := if K c < 3 then none else match bs c (K c - 3) with
  | none => none
  | some y => if K y = 1 then none else some y
theorem blt_lt {K : Nat → Nat} (hK : ∀ x, x < 36 → K x < 7) {c : Nat} (hc : c < 36) : ∀ y, blt K c = some y → y < 36 := by
  intro y h
  unfold blt at h
  split at h
  · cases h
  · have hk := hK c hc
    cases hb : bs c (K c - 3) with
    | none => rw [hb] at h; cases h
    | some z =>
      rw [hb] at h
      have h : (if K z = 1 then none else some z) = some y := h
      split at h
      · cases h
      · cases h; exact bs_lt c hc (K c - 3) (by omega) _ hb
theorem blt_K1 {K : Nat → Nat} {c y : Nat} (h : blt K c = some y) : K y ≠ 1 ∧ 3 ≤ K c := by
  unfold blt at h
  split at h
  · cases h
  · cases hb : bs c (K c - 3) with
    | none => rw [hb] at h; cases h
    | some z =>
      rw [hb] at h
      have h : (if K z = 1 then none else some z) = some y := h
      split at h
      · cases h
      · cases h; exact ⟨by assumption, by omega⟩
theorem v_belt_k : ∀ k, k < 7 → (if k < 3 then ¬ (0 ≤ nI k - (3 : Int32)) else (0 ≤ nI k - (3 : Int32) ∧ nI k - (3 : Int32) = nI (k - 3))) := by decide +kernel
theorem v_beltTarget {vk : Nat → Int32} {K : Nat → Nat} (hv : ∀ x, x < 36 → vk x = nI (K x)) (hK : ∀ x, x < 36 → K x < 7) {c : Nat} (hc : c < 36) : mX6_beltTarget vk (nI c) = opI (blt K c) := by
  have hk := hK c hc
  have q := v_belt_k (K c) hk
  unfold mX6_beltTarget blt
  rw [v_kind hv hc]
  by_cases h3 : K c < 3
  · rw [if_pos h3] at q
    rw [if_neg q, if_pos h3]; rfl
  · rw [if_neg h3] at q
    rw [if_pos q.1, if_neg h3, q.2, pu_beside c hc (K c - 3) (by omega)]
    cases hb : bs c (K c - 3) with
    | none => rw [show opI none = (-1 : Int32) from rfl, v_kindN, if_pos rfl]
    | some y =>
      have hy := bs_lt c hc (K c - 3) (by omega) y hb
      have hKy := hK y hy
      have e1 : nI (K y) = (1 : Int32) ↔ K y = 1 := nI_inj (a := K y) (b := 1) (by omega) (by decide)
      rw [opI_some, v_kind hv hy]
      show _ = opI (if K y = 1 then none else some y)
      by_cases e : K y = 1
      · rw [if_pos (e1.mpr e), if_pos e]; rfl
      · rw [if_neg (fun q => e (e1.mp q)), if_neg e]; rfl
theorem v_beltN (vk : Nat → Int32) : mX6_beltTarget vk (-1) = -1 := by
  unfold mX6_beltTarget
  rw [v_kindN, if_neg (by decide)]
theorem le36 {c : Nat} (hc : c < 36) : ¬ ((36 : Int32) ≤ nI c) := fun q => by
  have q1 : nI 36 ≤ nI c := q
  rw [pu_le (by omega) (by omega)] at q1
  omega
theorem le36' : (36 : Int32) ≤ nI 36 := by decide
theorem any_succ (p : Nat → Bool) (c : Nat) : (List.range (c + 1)).any p = ((List.range c).any p || p c) := by rw [List.range_succ, List.any_append]; simp
theorem any_rng {p : Nat → Bool} {c : Nat} : (List.range c).any p = true ↔ ∃ x, x < c ∧ p x = true := by
  rw [List.any_eq_true]
  exact ⟨fun ⟨x, h1, h2⟩ => ⟨x, List.mem_range.mp h1, h2⟩, fun ⟨x, h1, h2⟩ => ⟨x, List.mem_range.mpr h1, h2⟩⟩
theorem any_rngF {p : Nat → Bool} {c : Nat} (h : ∀ x, x < c → p x = false) : (List.range c).any p = false := by
  rw [← Bool.not_eq_true, any_rng]
  rintro ⟨x, h1, h2⟩
  rw [h x h1] at h2; cases h2
/-- the thing of x wants to come to y -/
def wn (K : Nat → Nat) (B : Nat → Bool) (x y : Nat) : Bool := B x && decide (blt K x = some y)
def wW (K : Nat → Nat) (B : Nat → Bool) (c y : Nat) : Bool := (List.range c).any (fun x => wn K B x y)
def wD (K : Nat → Nat) (B : Nat → Bool) (c y : Nat) : Bool := (List.range c).any (fun x => wn K B x y && wW K B x y)
theorem wn_iff {K : Nat → Nat} {B : Nat → Bool} {x y : Nat} : wn K B x y = true ↔ B x = true ∧ blt K x = some y := by
  unfold wn; rw [Bool.and_eq_true, decide_eq_true_eq]
theorem sL_blt {K : Nat → Nat} (hK : ∀ x, x < 36 → K x < 7) {c : Nat} (hc : c < 36) : mX2_setOf (opI (blt K c)) = sL (fun x => decide (blt K c = some x)) := sL_opt _ (fun y hy => blt_lt hK hc y hy)
theorem v_twice_L {vk : Nat → Int32} {K : Nat → Nat} {B : Nat → Bool} (hv : ∀ x, x < 36 → vk x = nI (K x)) (hK : ∀ x, x < 36 → K x < 7) :
    ∀ (j n c : Nat), j < n → c + j = 36 → mX6_wantedTwice_L8 n vk (sL B) (sL (wW K B c)) (sL (wD K B c)) (nI c) = some (sL (wD K B 36)) := by
  intro j
  induction j with
  | zero =>
    intro n c hn hc
    obtain ⟨n, rfl⟩ : ∃ m, n = m + 1 := ⟨n - 1, by omega⟩
    obtain rfl : c = 36 := by omega
    unfold mX6_wantedTwice_L8
    rw [if_pos le36', ite_self]
  | succ j ih =>
    intro n c hn hc
    obtain ⟨n, rfl⟩ : ∃ m, n = m + 1 := ⟨n - 1, by omega⟩
    unfold mX6_wantedTwice_L8
    have hc36 : c < 36 := by omega
    by_cases hz : lg_cmp (sL B) (0 : Int64) = 0
    · rw [if_pos hz]
      congr 1
      apply sL_cong
      intro y hy
      rw [sL_zero] at hz
      have hd : ∀ e, e ≤ 36 → wD K B e y = false := fun e he => any_rngF (fun x hx => by
        show (wn K B x y && wW K B x y) = false
        unfold wn
        rw [hz x (by omega)]; rfl)
      rw [hd c (by omega), hd 36 (by omega)]
    · rw [if_neg hz, if_neg (le36 hc36)]
      have i1 := ih n (c + 1) (by omega) (by omega)
      by_cases hB : B c = true
      · rw [if_neg (fun q => by rw [sL_holds0 hc36, hB] at q; cases q)]
        unfold mX6_wantedTwice_J55
        show mX6_wantedTwice_L8 n vk (sL B) _ _ (nI c + (1 : Int32)) = _
        rw [v_beltTarget hv hK hc36, sL_blt hK hc36, sL_or, sL_and, sL_or, nI_1]
        rw [← i1]
        congr 1
        · apply sL_cong
          intro y _
          show (wW K B c y || decide (blt K c = some y)) = wW K B (c + 1) y
          unfold wW
          rw [any_succ]
          unfold wn
          rw [hB, Bool.true_and]
        · apply sL_cong
          intro y _
          show (wD K B c y || (wW K B c y && decide (blt K c = some y))) = wD K B (c + 1) y
          unfold wD
          rw [any_succ]
          show _ = ((List.range c).any (fun x => wn K B x y && wW K B x y) || (wn K B c y && wW K B c y))
          unfold wn
          rw [hB, Bool.true_and, Bool.and_comm (wW K B c y)]
      · rw [if_pos ((sL_holds0 hc36).mpr (by simpa using hB))]
        unfold mX6_wantedTwice_J55
        show mX6_wantedTwice_L8 n vk (sL B) _ _ (nI c + (1 : Int32)) = _
        rw [nI_1, ← i1]
        have hn' : ∀ y, wn K B c y = false := fun y => by unfold wn; rw [show B c = false by simpa using hB]; rfl
        congr 1
        · apply sL_cong
          intro y _
          unfold wW
          rw [any_succ, hn', Bool.or_false]
        · apply sL_cong
          intro y _
          unfold wD
          rw [any_succ]
          show _ = ((List.range c).any (fun x => wn K B x y && wW K B x y) || (wn K B c y && wW K B c y))
          rw [hn', Bool.false_and, Bool.or_false]
theorem v_twice {vk : Nat → Int32} {K : Nat → Nat} {B : Nat → Bool} (hv : ∀ x, x < 36 → vk x = nI (K x)) (hK : ∀ x, x < 36 → K x < 7) : mX6_wantedTwice vk (sL B) = some (sL (wD K B 36)) := by
  unfold mX6_wantedTwice
  have := v_twice_L (B := B) hv hK 36 4096 0 (by decide) (by decide)
  have e : sL (wW K B 0) = 0 := sL_none
  have e2 : sL (wD K B 0) = 0 := sL_none
  rw [e, e2] at this
  exact this
/-- a thing on a belt that nothing hinders but a thing that is not carried -/
def unh (K : Nat → Nat) (T : Nat → Bool) (c : Nat) : Bool := match blt K c with
  | none => false
  | some y => T c && !((List.range 36).any (fun o => !(o == c) && wn K T o y)) && !wn K T y c
theorem unh_iff {K : Nat → Nat} {T : Nat → Bool} {c : Nat} : unh K T c = true ↔ ∃ y, blt K c = some y ∧ T c = true ∧ (∀ o, o < 36 → o ≠ c → wn K T o y = false) ∧ wn K T y c = false := by
  unfold unh
  cases hb : blt K c with
  | none => exact ⟨fun q => (by cases q), fun ⟨y, h, _⟩ => (by cases h)⟩
  | some y =>
    show (T c && !((List.range 36).any (fun o => !(o == c) && wn K T o y)) && !wn K T y c) = true ↔ _
    rw [Bool.and_eq_true, Bool.and_eq_true, Bool.not_eq_true', Bool.not_eq_true']
    constructor
    · rintro ⟨⟨h1, h2⟩, h3⟩
      refine ⟨y, rfl, h1, fun o ho hoc => ?_, h3⟩
      rw [← Bool.not_eq_true] at h2 ⊢
      exact fun q => h2 (any_rng.mpr ⟨o, ho, by rw [q]; simpa using hoc⟩)
    · rintro ⟨z, hz, h1, h2, h3⟩
      cases hz
      refine ⟨⟨h1, any_rngF (fun o ho => ?_)⟩, h3⟩
      by_cases q : o = c
      · subst q; simp
      · rw [h2 o ho q, Bool.and_false]
theorem wD_iff {K : Nat → Nat} {B : Nat → Bool} {y c : Nat} (hc : c < 36) (hw : wn K B c y = true) : wD K B 36 y = true ↔ ∃ o, o < 36 ∧ o ≠ c ∧ wn K B o y = true := by
  unfold wD wW
  rw [any_rng]
  constructor
  · rintro ⟨x, hx, h⟩
    rw [Bool.and_eq_true, any_rng] at h
    obtain ⟨h1, x', hx', h2⟩ := h
    by_cases e : x = c
    · exact ⟨x', by omega, by omega, h2⟩
    · exact ⟨x, hx, e, h1⟩
  · rintro ⟨o, ho, hne, h⟩
    rcases Nat.lt_or_ge o c with q | q
    · exact ⟨c, hc, by rw [hw, Bool.true_and]; exact any_rng.mpr ⟨o, q, h⟩⟩
    · exact ⟨o, ho, by rw [h, Bool.true_and]; exact any_rng.mpr ⟨c, by omega, hw⟩⟩
def unc (K : Nat → Nat) (T : Nat → Bool) (c y : Nat) : Bool := unh K T y && decide (y < c)
theorem v_unh_L {vk : Nat → Int32} {K : Nat → Nat} {T B : Nat → Bool} (hv : ∀ x, x < 36 → vk x = nI (K x)) (hK : ∀ x, x < 36 → K x < 7) (hB : ∀ x, x < 36 → B x = (T x && decide (3 ≤ K x))) :
    ∀ (j n c : Nat), j < n → c + j = 36 → mX6_carriedIfUnhindered_L6 n vk (sL B) (sL (wD K B 36)) (sL (unc K T c)) (nI c) = some (sL (unh K T)) := by
  have hend : sL (unc K T 36) = sL (unh K T) := sL_cong (fun y hy => by unfold unc; rw [decide_eq_true hy, Bool.and_true])
  have hwn : ∀ x y, x < 36 → wn K B x y = wn K T x y := fun x y hx => by
    rw [Bool.eq_iff_iff, wn_iff, wn_iff, hB x hx, Bool.and_eq_true, decide_eq_true_eq]
    exact ⟨fun q => ⟨q.1.1, q.2⟩, fun q => ⟨⟨q.1, (blt_K1 q.2).2⟩, q.2⟩⟩
  intro j
  induction j with
  | zero =>
    intro n c hn hc
    obtain ⟨n, rfl⟩ : ∃ m, n = m + 1 := ⟨n - 1, by omega⟩
    obtain rfl : c = 36 := by omega
    unfold mX6_carriedIfUnhindered_L6
    rw [if_pos le36', ite_self, hend]
  | succ j ih =>
    intro n c hn hc
    obtain ⟨n, rfl⟩ : ∃ m, n = m + 1 := ⟨n - 1, by omega⟩
    unfold mX6_carriedIfUnhindered_L6
    have hc36 : c < 36 := by omega
    by_cases hz : lg_cmp (sL B) (0 : Int64) = 0
    · rw [if_pos hz]
      congr 1
      apply sL_cong
      intro y hy
      rw [sL_zero] at hz
      have hu : unh K T y = false := by
        rw [← Bool.not_eq_true, unh_iff]
        rintro ⟨z, h1, h2, -⟩
        have := hz y hy
        rw [hB y hy, h2, decide_eq_true (blt_K1 h1).2] at this
        cases this
      unfold unc
      rw [hu, Bool.false_and]
    · rw [if_neg hz, if_neg (le36 hc36)]
      have i1 := ih n (c + 1) (by omega) (by omega)
      have step : ∀ X : Nat → Bool, (∀ y, y < 36 → X y = unc K T (c + 1) y) → mX6_carriedIfUnhindered_L6 n vk (sL B) (sL (wD K B 36)) (sL X) (nI c + (1 : Int32)) = some (sL (unh K T)) := fun X hX => by
        rw [sL_cong hX, nI_1]; exact i1
      have e0 : unh K T c = false → ∀ y, y < 36 → unc K T c y = unc K T (c + 1) y := fun q y _ => by
        unfold unc
        by_cases e : y = c
        · subst e; rw [q, Bool.false_and, Bool.false_and]
        · congr 1
          by_cases l : y < c
          · rw [decide_eq_true l, decide_eq_true (by omega)]
          · rw [decide_eq_false l, decide_eq_false (by omega)]
      have e1 : unh K T c = true → ∀ y, y < 36 → (unc K T c y || y == c) = unc K T (c + 1) y := fun q y _ => by
        unfold unc
        by_cases e : y = c
        · subst e; rw [q, decide_eq_true (show y < y + 1 by omega)]; simp
        · rw [show (y == c) = false by simpa using e, Bool.or_false]
          congr 1
          by_cases l : y < c
          · rw [decide_eq_true l, decide_eq_true (by omega)]
          · rw [decide_eq_false l, decide_eq_false (by omega)]
      by_cases hBc : B c = true
      · rw [if_neg (fun q => by rw [sL_holds0 hc36, hBc] at q; cases q), v_beltTarget hv hK hc36]
        have hTc : T c = true := by rw [hB c hc36, Bool.and_eq_true] at hBc; exact hBc.1
        unfold mX6_carriedIfUnhindered_J60
        cases hb : blt K c with
        | none =>
          have hu : unh K T c = false := by unfold unh; rw [hb]
          rw [show opI none = (-1 : Int32) from rfl, if_pos (pu_holdsN _)]
          unfold mX6_carriedIfUnhindered_J61 mX6_carriedIfUnhindered_J93
          rw [if_pos rfl]
          exact step _ (e0 hu)
        | some y =>
          have hy := blt_lt hK hc36 y hb
          have hne : ∀ d, d < 36 → ¬ nI d = (-1 : Int32) := by decide +kernel
          have hwc : wn K T c y = true := wn_iff.mpr ⟨hTc, hb⟩
          have hDy : wD K B 36 y = true ↔ ∃ o, o < 36 ∧ o ≠ c ∧ wn K T o y = true := by
            rw [wD_iff hc36 (by rw [hwn c y hc36]; exact hwc)]
            exact ⟨fun ⟨o, h1, h2, h3⟩ => ⟨o, h1, h2, by rw [← hwn o y h1]; exact h3⟩, fun ⟨o, h1, h2, h3⟩ => ⟨o, h1, h2, by rw [hwn o y h1]; exact h3⟩⟩
          rw [opI_some, v_beltTarget hv hK hy]
          have hs1 : mX6_carriedIfUnhindered_J61 (fun vk l1 l3 l5 l7 => mX6_carriedIfUnhindered_L6 n vk l1 l3 l5 l7) vk (sL B) (sL (wD K B 36)) (sL (unc K T c)) (nI c) (nI y) (if wn K T y c then 1 else 0) = some (sL (unh K T)) := by
            unfold mX6_carriedIfUnhindered_J61 mX6_carriedIfUnhindered_J93
            rw [if_neg (hne y hy)]
            by_cases hd : wD K B 36 y = true
            · rw [if_neg (fun q => by rw [sL_holds0 hy, hd] at q; cases q)]
              refine step _ (e0 ?_)
              obtain ⟨o, o1, o2, o3⟩ := hDy.mp hd
              rw [← Bool.not_eq_true, unh_iff]
              rintro ⟨z, z1, z2, z3, z4⟩
              rw [hb] at z1; cases z1
              rw [z3 o o1 o2] at o3; cases o3
            · rw [if_pos ((sL_holds0 hy).mpr (by simpa using hd))]
              by_cases hs : wn K T y c = true
              · rw [if_pos hs, if_neg (by decide)]
                refine step _ (e0 ?_)
                rw [← Bool.not_eq_true, unh_iff]
                rintro ⟨z, z1, z2, z3, z4⟩
                rw [hb] at z1; cases z1
                rw [z4] at hs; cases hs
              · rw [if_neg hs, if_pos rfl, sL_set hc36, sL_or]
                refine step _ (e1 (unh_iff.mpr ⟨y, hb, hTc, fun o o1 o2 => ?_, by simpa using hs⟩))
                rw [← Bool.not_eq_true]
                exact fun q => hd (hDy.mpr ⟨o, o1, o2, q⟩)
          by_cases hBy : B y = true
          · rw [if_neg (fun q => by rw [sL_holds0 hy, hBy] at q; cases q)]
            have hTy : T y = true := by rw [hB y hy, Bool.and_eq_true] at hBy; exact hBy.1
            by_cases hbb : blt K y = some c
            · rw [hbb, opI_some, if_pos rfl]
              rw [if_pos (wn_iff.mpr ⟨hTy, hbb⟩)] at hs1
              exact hs1
            · rw [if_neg (fun q => hbb (by
                cases hz : blt K y with
                | none => rw [hz] at q; exact absurd q.symm (hne c hc36)
                | some z =>
                  rw [hz] at q
                  have := (nI_inj (show z < 2 ^ 31 by have := blt_lt hK hy z hz; omega) (show c < 2 ^ 31 by omega)).mp q
                  rw [this]))]
              rw [if_neg (fun q => hbb (wn_iff.mp q).2)] at hs1
              exact hs1
          · rw [if_pos ((sL_holds0 hy).mpr (by simpa using hBy))]
            have hwf : ¬ wn K T y c = true := fun q => hBy (by
              obtain ⟨q1, q2⟩ := wn_iff.mp q
              rw [hB y hy, q1, decide_eq_true (blt_K1 q2).2]; rfl)
            rw [if_neg hwf] at hs1
            exact hs1
      · rw [if_pos ((sL_holds0 hc36).mpr (by simpa using hBc))]
        unfold mX6_carriedIfUnhindered_J93
        refine step _ (e0 ?_)
        rw [← Bool.not_eq_true, unh_iff]
        rintro ⟨z, h1, h2, -⟩
        exact hBc (by rw [hB c hc36, h2, decide_eq_true (blt_K1 h1).2]; rfl)
theorem v_unh {vk : Nat → Int32} {K : Nat → Nat} {T B : Nat → Bool} (hv : ∀ x, x < 36 → vk x = nI (K x)) (hK : ∀ x, x < 36 → K x < 7) (hB : ∀ x, x < 36 → B x = (T x && decide (3 ≤ K x))) : mX6_carriedIfUnhindered vk (sL B) (sL (wD K B 36)) = some (sL (unh K T)) := by
  unfold mX6_carriedIfUnhindered
  have := v_unh_L hv hK hB 36 4096 0 (by decide) (by decide)
  have e : sL (unc K T 0) = 0 := (sL_cong (fun y _ => by unfold unc; simp)).trans sL_none
  rw [e] at this
  exact this
/-- what a round takes out -/
def hld (K : Nat → Nat) (P R : Nat → Bool) (c : Nat) : Bool := P c && match blt K c with
  | none => false
  | some y => R y
theorem hld_iff {K : Nat → Nat} {P R : Nat → Bool} {c : Nat} : hld K P R c = true ↔ P c = true ∧ ∃ y, blt K c = some y ∧ R y = true := by
  unfold hld
  rw [Bool.and_eq_true]
  cases hb : blt K c with
  | none => exact ⟨fun q => (by cases q.2), fun ⟨_, y, h, _⟩ => (by cases h)⟩
  | some y => exact ⟨fun q => ⟨q.1, y, rfl, q.2⟩, fun ⟨q, z, h1, h2⟩ => by cases h1; exact ⟨q, h2⟩⟩
def hlc (K : Nat → Nat) (P R : Nat → Bool) (c y : Nat) : Bool := hld K P R y && decide (y < c)
theorem v_held_L {vk : Nat → Int32} {K : Nat → Nat} {P R : Nat → Bool} (hv : ∀ x, x < 36 → vk x = nI (K x)) (hK : ∀ x, x < 36 → K x < 7) :
    ∀ (j n c : Nat), j < n → c + j = 36 → mX6_heldUp_L6 n vk (sL P) (sL R) (sL (hlc K P R c)) (nI c) = some (sL (hld K P R)) := by
  have hend : sL (hlc K P R 36) = sL (hld K P R) := sL_cong (fun y hy => by unfold hlc; rw [decide_eq_true hy, Bool.and_true])
  intro j
  induction j with
  | zero =>
    intro n c hn hc
    obtain ⟨n, rfl⟩ : ∃ m, n = m + 1 := ⟨n - 1, by omega⟩
    obtain rfl : c = 36 := by omega
    unfold mX6_heldUp_L6
    rw [if_pos le36', ite_self, hend]
  | succ j ih =>
    intro n c hn hc
    obtain ⟨n, rfl⟩ : ∃ m, n = m + 1 := ⟨n - 1, by omega⟩
    unfold mX6_heldUp_L6
    have hc36 : c < 36 := by omega
    by_cases hz : lg_cmp (sL P) (0 : Int64) = 0
    · rw [if_pos hz]
      congr 1
      apply sL_cong
      intro y hy
      rw [sL_zero] at hz
      unfold hlc hld
      rw [hz y hy]; rfl
    · rw [if_neg hz, if_neg (le36 hc36)]
      have i1 := ih n (c + 1) (by omega) (by omega)
      have step : ∀ X : Nat → Bool, (∀ y, y < 36 → X y = hlc K P R (c + 1) y) → mX6_heldUp_L6 n vk (sL P) (sL R) (sL X) (nI c + (1 : Int32)) = some (sL (hld K P R)) := fun X hX => by
        rw [sL_cong hX, nI_1]; exact i1
      have e0 : hld K P R c = false → ∀ y, y < 36 → hlc K P R c y = hlc K P R (c + 1) y := fun q y _ => by
        unfold hlc
        by_cases e : y = c
        · subst e; rw [q, Bool.false_and, Bool.false_and]
        · congr 1
          by_cases l : y < c
          · rw [decide_eq_true l, decide_eq_true (by omega)]
          · rw [decide_eq_false l, decide_eq_false (by omega)]
      have e1 : hld K P R c = true → ∀ y, y < 36 → (hlc K P R c y || y == c) = hlc K P R (c + 1) y := fun q y _ => by
        unfold hlc
        by_cases e : y = c
        · subst e; rw [q, decide_eq_true (show y < y + 1 by omega)]; simp
        · rw [show (y == c) = false by simpa using e, Bool.or_false]
          congr 1
          by_cases l : y < c
          · rw [decide_eq_true l, decide_eq_true (by omega)]
          · rw [decide_eq_false l, decide_eq_false (by omega)]
      unfold mX6_heldUp_J51
      by_cases hPc : P c = true
      · rw [if_neg (fun q => by rw [sL_holds0 hc36, hPc] at q; cases q), v_beltTarget hv hK hc36]
        cases hb : blt K c with
        | none =>
          rw [show opI none = (-1 : Int32) from rfl, if_pos (pu_holdsN _)]
          refine step _ (e0 ?_)
          rw [← Bool.not_eq_true, hld_iff]
          rintro ⟨_, y, h, _⟩
          rw [hb] at h; cases h
        | some y =>
          have hy := blt_lt hK hc36 y hb
          rw [opI_some]
          by_cases hR : R y = true
          · rw [if_neg (fun q => by rw [sL_holds0 hy, hR] at q; cases q), sL_set hc36, sL_or]
            exact step _ (e1 (hld_iff.mpr ⟨hPc, y, hb, hR⟩))
          · rw [if_pos ((sL_holds0 hy).mpr (by simpa using hR))]
            refine step _ (e0 ?_)
            rw [← Bool.not_eq_true, hld_iff]
            rintro ⟨_, z, h, h2⟩
            rw [hb] at h; cases h
            exact hR h2
      · rw [if_pos ((sL_holds0 hc36).mpr (by simpa using hPc))]
        refine step _ (e0 ?_)
        rw [← Bool.not_eq_true, hld_iff]
        exact fun q => hPc q.1
theorem v_held {vk : Nat → Int32} {K : Nat → Nat} {P R : Nat → Bool} (hv : ∀ x, x < 36 → vk x = nI (K x)) (hK : ∀ x, x < 36 → K x < 7) : mX6_heldUp vk (sL P) (sL R) = some (sL (hld K P R)) := by
  unfold mX6_heldUp
  have := v_held_L (P := P) (R := R) hv hK 36 4096 0 (by decide) (by decide)
  have e : sL (hlc K P R 0) = 0 := (sL_cong (fun y _ => by unfold hlc; simp)).trans sL_none
  rw [e] at this
  exact this
/-- a set of things on belts that can go together -/
def stb (K : Nat → Nat) (T S : Nat → Bool) : Prop := ∀ c, c < 36 → S c = true → unh K T c = true ∧ ∀ y, blt K c = some y → T y = true → S y = true
/-- the greatest of them -/
noncomputable def carP (K : Nat → Nat) (T : Nat → Bool) (c : Nat) : Bool := @decide (∃ S, stb K T S ∧ S c = true) (Classical.propDecidable _)
theorem carP_iff {K : Nat → Nat} {T : Nat → Bool} {c : Nat} : carP K T c = true ↔ ∃ S, stb K T S ∧ S c = true := by
  unfold carP
  exact ⟨fun h => @of_decide_eq_true _ (Classical.propDecidable _) h, fun h => @decide_eq_true _ (Classical.propDecidable _) h⟩
theorem carP_one {K : Nat → Nat} {T P : Nat → Bool} (h1 : stb K T P) (h2 : ∀ S, stb K T S → ∀ c, c < 36 → S c = true → P c = true) : ∀ c, c < 36 → P c = carP K T c := by
  intro c hc
  rw [Bool.eq_iff_iff, carP_iff]
  exact ⟨fun q => ⟨P, h1, q⟩, fun ⟨S, q1, q2⟩ => h2 S q1 c hc q2⟩
theorem carP_stb (K : Nat → Nat) (T : Nat → Bool) : stb K T (carP K T) := fun c hc h => by
  obtain ⟨S, h1, h2⟩ := carP_iff.mp h
  exact ⟨(h1 c hc h2).1, fun y hy ht => carP_iff.mpr ⟨S, h1, (h1 c hc h2).2 y hy ht⟩⟩
theorem fb_ct_lt {p q : Nat → Bool} {n : Nat} (h : ∀ k, k < n → p k = true → q k = true) {i : Nat} (hi : i < n) (hq : q i = true) (hp : p i = false) : fb_ct p n < fb_ct q n := by
  have h1 := fb_ct_upd p true hi
  rw [if_neg (by rw [hp]; decide), if_pos rfl] at h1
  have h2 : fb_ct (fun k => if k = i then true else p k) n ≤ fb_ct q n := fb_ct_sub (fun k hk hpk => by
    by_cases e : k = i
    · subst e; exact hq
    · rw [if_neg e] at hpk; exact h k hk hpk)
  omega
theorem v_carried_L {vj : Nat → Int64} {vk va vb : Nat → Int32} {K : Nat → Nat} {T : Nat → Bool} (hv : ∀ x, x < 36 → vk x = nI (K x)) (hK : ∀ x, x < 36 → K x < 7) :
    ∀ (j n c : Nat) (P : Nat → Bool), j < n → c + j = 36 → fb_ct P 36 ≤ j → (∀ x, x < 36 → P x = true → unh K T x = true) → (∀ S, stb K T S → ∀ x, x < 36 → S x = true → P x = true) →
      mX6_carriedThings_L27 n vj vk va vb (sL T) (sL P) (nI c) = some (sL (carP K T)) := by
  intro j
  induction j with
  | zero =>
    intro n c P hn hc hct hu hS
    obtain ⟨n, rfl⟩ : ∃ m, n = m + 1 := ⟨n - 1, by omega⟩
    obtain rfl : c = 36 := by omega
    unfold mX6_carriedThings_L27
    rw [if_pos le36']
    congr 1
    have hz := fb_ct_zero.mp (by omega : fb_ct P 36 = 0)
    exact sL_cong (carP_one (fun x hx q => by rw [hz x hx] at q; cases q) hS)
  | succ j ih =>
    intro n c P hn hc hct hu hS
    obtain ⟨n, rfl⟩ : ∃ m, n = m + 1 := ⟨n - 1, by omega⟩
    unfold mX6_carriedThings_L27
    rw [if_neg (le36 (by omega)), sL_diff, v_held hv hK, bo1_some]
    by_cases hz : lg_cmp (sL (hld K P (fun x => T x && !P x))) (0 : Int64) = 0
    · rw [if_pos hz]
      congr 1
      rw [sL_zero] at hz
      refine sL_cong (carP_one (fun x hx q => ⟨hu x hx q, fun y hy ht => ?_⟩) hS)
      cases hp : P y with
      | true => rfl
      | false =>
        have := (hld_iff (K := K) (P := P) (R := fun x => T x && !P x)).mpr ⟨q, y, hy, show (T y && !P y) = true by rw [ht, hp]; rfl⟩
        rw [hz x hx] at this; cases this
    · rw [if_neg hz, sL_diff, nI_1]
      have hex : ∃ x, x < 36 ∧ hld K P (fun x => T x && !P x) x = true := Classical.byContradiction fun q => hz (sL_zero.mpr (fun x hx => by
        rw [← Bool.not_eq_true]
        exact fun q1 => q ⟨x, hx, q1⟩))
      obtain ⟨i, hi, hh⟩ := hex
      have hlt := fb_ct_lt (p := fun x => P x && !hld K P (fun x => T x && !P x) x) (q := P) (n := 36) (fun k _ q => by rw [Bool.and_eq_true] at q; exact q.1) hi (hld_iff.mp hh).1 (by show (P i && !hld K P (fun x => T x && !P x) i) = false; rw [hh]; simp)
      refine ih n (c + 1) _ (by omega) (by omega) (by omega) (fun x hx q => ?_) (fun S hs x hx q => ?_)
      · rw [Bool.and_eq_true] at q; exact hu x hx q.1
      · rw [Bool.and_eq_true, Bool.not_eq_true', ← Bool.not_eq_true]
        refine ⟨hS S hs x hx q, fun qh => ?_⟩
        obtain ⟨_, y, hy, hr⟩ := hld_iff.mp qh
        rw [Bool.and_eq_true, Bool.not_eq_true'] at hr
        have hy36 := blt_lt hK hx y hy
        have := hS S hs y hy36 ((hs x hx q).2 y hy hr.1)
        rw [hr.2] at this; cases this
theorem v_carried {vj : Nat → Int64} {vk va vb : Nat → Int32} {K : Nat → Nat} {T : Nat → Bool} (hv : ∀ x, x < 36 → vk x = nI (K x)) (hK : ∀ x, x < 36 → K x < 7) (ht : mX1_things vj va vb = sL T) (h5 : vj 5 = sL (fun x => decide (3 ≤ K x))) :
    mX6_carriedThings vj vk va vb = some (sL (carP K T)) := by
  unfold mX6_carriedThings
  rw [ht, h5, sL_and, v_twice hv hK, bo1_some, v_unh (T := T) hv hK (fun x _ => rfl), bo1_some]
  exact v_carried_L hv hK 36 4096 0 _ (by decide) (by decide) (fb_ct_le _ _) (fun x _ q => q) (fun S hs x hx q => (hs x hx q).1)
