/-! The text: signs and digits -/
def txc (vtt : Nat → Int32) (k : Nat) : Nat := (vtt k).toNatClampNeg
/-- a text of n signs on both sides -/
def TX (ti sg vtt : Nat → Int32) (n : Nat) : Prop := n ≤ 120 ∧ ti 1 = nI n ∧ ∀ k, k < n → sg k = nI (txc vtt k) ∧ vtt k = nI (txc vtt k) ∧ txc vtt k < 256
theorem TX_of {ti sg vtt : Nat → Int32} {size : Int32} (h : TXT ti sg size vtt) : ∃ n, TX ti sg vtt n ∧ size = nI n := by
  obtain ⟨n, hn, h1, h2, h3⟩ := h
  refine ⟨n, ⟨hn, h1, fun k hk => ?_⟩, h2⟩
  obtain ⟨e1, c, c1, c2⟩ := h3 k hk
  have : txc vtt k = c := by unfold txc; rw [c2, nI_clamp (by omega)]
  rw [e1, this, c2]
  exact ⟨rfl, rfl, c1⟩
theorem v_sign {ti sg vtt : Nat → Int32} {n : Nat} (h : TX ti sg vtt n) {p : Nat} (hp : p < 2 ^ 31) : mX7_signAt ti sg (nI p) = if p < n then nI (txc vtt p) else -1 := by
  unfold mX7_signAt
  rw [if_neg (lt0_nI hp), h.2.1]
  have := h.1
  by_cases q : p < n
  · rw [if_pos q, if_neg (nI_leF (by omega) (by omega) q), if_neg (show ¬ ((120 : Int32) ≤ nI p) from nI_leF (b := 120) (by omega) (by decide) (by omega)), nI_clamp hp, (h.2.2 p q).1]
  · rw [if_neg q, if_pos ((pu_le (by omega) hp).mpr (by omega))]
/-- the digit at a place -/
def dg (vtt : Nat → Int32) (n p : Nat) : Option Nat := if p < n ∧ 48 ≤ txc vtt p ∧ txc vtt p ≤ 57 then some (txc vtt p - 48) else none
theorem dg_lt {vtt : Nat → Int32} {n p d : Nat} (h : dg vtt n p = some d) : d ≤ 9 ∧ p < n ∧ txc vtt p = 48 + d := by
  unfold dg at h
  split at h
  · rename_i q
    cases h
    omega
  · cases h
theorem v_isDigit {ti sg vtt : Nat → Int32} {n : Nat} (h : TX ti sg vtt n) {p m : Nat} (hp : p < 2 ^ 31) (hm : m ≤ 9) : mX7_isDigit ti sg (nI p) (nI m) = 0 ↔ ¬ ∃ d, dg vtt n p = some d ∧ d ≤ m := by
  unfold mX7_isDigit
  rw [v_sign h hp]
  have e48 : ((48 : Int32) + nI m) = nI (48 + m) := nI_add 48 m
  rw [e48]
  by_cases q : p < n
  · rw [if_pos q]
    have hc := (h.2.2 p q).2.2
    by_cases q1 : txc vtt p < 48
    · rw [if_pos (show nI (txc vtt p) < (48 : Int32) from ltc (b := 48) (by omega) (by decide) q1)]
      refine ⟨fun _ ⟨d, hd, _⟩ => ?_, fun _ => rfl⟩
      have := (dg_lt hd).2.2
      omega
    · rw [if_neg (show ¬ nI (txc vtt p) < (48 : Int32) from fun z => by have := (pu_lt (b := 48) (by omega) (by decide)).mp z; omega)]
      by_cases q2 : 48 + m < txc vtt p
      · rw [if_pos (ltc (by omega) (by omega) q2)]
        refine ⟨fun _ ⟨d, hd, hdm⟩ => ?_, fun _ => rfl⟩
        have := (dg_lt hd).2.2
        omega
      · rw [if_neg (fun z => q2 ((pu_lt (by omega) (by omega)).mp z))]
        refine ⟨fun z => absurd z (by decide), fun z => absurd ⟨txc vtt p - 48, ?_, by omega⟩ z⟩
        unfold dg
        rw [if_pos ⟨q, by omega, by omega⟩]
  · rw [if_neg q, if_pos (by decide)]
    refine ⟨fun _ ⟨d, hd, _⟩ => q (dg_lt hd).2.1, fun _ => rfl⟩
theorem v_digitAt {ti sg vtt : Nat → Int32} {n : Nat} (h : TX ti sg vtt n) {p d : Nat} (hp : p < 2 ^ 31) (hd : dg vtt n p = some d) : mX7_digitAt ti sg (nI p) = nI d := by
  obtain ⟨d1, d2, d3⟩ := dg_lt hd
  unfold mX7_digitAt
  rw [v_sign h hp, if_pos d2, d3]
  show nI (48 + d) - nI 48 = nI d
  rw [nI_sub2 (by omega), Nat.add_sub_cancel_left]
/-- what the reference's reading keeps -/
def MIs (mi mi' : Nat → Int32) (n p : Nat) : Prop := mi' 2 = nI n ∧ mi' 16 = nI p ∧ mi' 0 = mi 0 ∧ mi' 7 = mi 7
theorem in09 : ∀ c, c < 256 → mX9_in ((nI c - (48 : Int32)).toInt64) (0 : Int64) (9 : Int64) = if 48 ≤ c ∧ c ≤ 57 then 1 else 0 := by decide +kernel
theorem dig_step {vtt mi : Nat → Int32} {n p v l h : Nat} (hn : n ≤ 120) (hc : ∀ k, k < n → vtt k = nI (txc vtt k) ∧ txc vtt k < 256) (h2 : mi 2 = nI n) (h16 : mi 16 = nI p) (h18 : mi 18 = nI v) (hl : 1 ≤ l) (hl2 : l ≤ 10) (hv : v ≤ 100) (hh : h ≤ 100) (hp : p < 1000) (N : Nat) :
    mX9_digits_L7 (N + 1) mi vtt (nI h) (nI l) = (match dg vtt n p with
      | none => some (0, mi)
      | some d => if v + l * d ≤ h then mX9_digits_L7 N (upd (upd mi 18 (nI (v + l * d))) 16 (nI (p + 1))) vtt (nI h) (nI (l / 10)) else some (0, mi)) := by
  have el : nI l / (10 : Int32) = nI (l / 10) := nI_div (b := 10) (by omega) (by decide)
  have e : mX9_digits_L7 (N + 1) mi vtt (nI h) (nI l) = (if nI l ≤ 0 then (some ((1 : Int32), mi)) else (if (mi 2) ≤ (mi 16) then (mX9_digits_J38 (fun mi vtt l2 l3 => mX9_digits_L7 N mi vtt l2 l3) mi vtt (nI h) (nI l) (-1 : Int32)) else (if ¬ ((mi 16) < 0 ∨ 120 ≤ (mi 16).toNatClampNeg) then (mX9_digits_J38 (fun mi vtt l2 l3 => mX9_digits_L7 N mi vtt l2 l3) mi vtt (nI h) (nI l) ((vtt (mi 16).toNatClampNeg) - (48 : Int32))) else none))) := rfl
  rw [e, if_neg (nI_nle (by omega) (by omega)), h2, h16]
  unfold mX9_digits_J38
  by_cases q : p < n
  · obtain ⟨c1, c2⟩ := hc p q
    rw [if_neg (nI_leF (by omega) (by omega) q), if_pos (g_idx (by omega) 120 (by omega)), nI_clamp (by omega), c1, in09 _ c2]
    by_cases q1 : 48 ≤ txc vtt p ∧ txc vtt p ≤ 57
    · have hdg : dg vtt n p = some (txc vtt p - 48) := by unfold dg; rw [if_pos ⟨q, q1⟩]
      have es : nI (txc vtt p) - (48 : Int32) = nI (txc vtt p - 48) := by
        show nI (txc vtt p) - nI 48 = _
        rw [nI_sub2 q1.1]
      rw [if_pos q1, if_neg ne10, hdg, es, h18, nI_mul, nI_add, el, h16, nI_1]
      have hle : nI (v + l * (txc vtt p - 48)) ≤ nI h ↔ v + l * (txc vtt p - 48) ≤ h := by
        have : l * (txc vtt p - 48) ≤ 10 * 9 := Nat.mul_le_mul hl2 (by omega)
        exact pu_le (by omega) (by omega)
      show _ = if v + l * (txc vtt p - 48) ≤ h then _ else _
      by_cases q2 : v + l * (txc vtt p - 48) ≤ h
      · rw [if_pos (hle.mpr q2), if_pos q2]
      · rw [if_neg (fun z => q2 (hle.mp z)), if_neg q2]
    · have hdg : dg vtt n p = none := by unfold dg; rw [if_neg (fun z => q1 z.2)]
      rw [if_neg q1, if_pos rfl, hdg]
  · have hdg : dg vtt n p = none := by unfold dg; rw [if_neg (fun z => q z.1)]
    rw [if_pos ((pu_le (by omega) (by omega)).mpr (by omega)), if_pos (by decide), hdg]
theorem dig_end (mi vtt : Nat → Int32) (h : Int32) (N : Nat) : mX9_digits_L7 (N + 1) mi vtt h (nI 0) = some (1, mi) := by
  unfold mX9_digits_L7
  rw [if_pos (by decide)]
/-- one digit -/
theorem g_dig1 {vtt mi : Nat → Int32} {n p h : Nat} (hn : n ≤ 120) (hc : ∀ k, k < n → vtt k = nI (txc vtt k) ∧ txc vtt k < 256) (h2 : mi 2 = nI n) (h16 : mi 16 = nI p) (hh : h ≤ 9) (hp : p < 1000) :
    (∃ d, dg vtt n p = some d ∧ d ≤ h ∧ mX9_digits mi vtt (1 : Int32) (nI h) = some (1, upd (upd (upd mi 18 0) 18 (nI d)) 16 (nI (p + 1)))) ∨ ((¬ ∃ d, dg vtt n p = some d ∧ d ≤ h) ∧ mX9_digits mi vtt (1 : Int32) (nI h) = some (0, upd mi 18 0)) := by
  have st := dig_step (vtt := vtt) (mi := upd mi 18 0) (n := n) (p := p) (v := 0) (l := 1) (h := h) hn hc h2 h16 rfl (by decide) (by decide) (by decide) (by omega) hp 4095
  have st : mX9_digits mi vtt (1 : Int32) (nI h) = _ := st
  cases hd : dg vtt n p with
  | none =>
    rw [hd] at st
    exact Or.inr ⟨fun ⟨d, h1, _⟩ => (by cases h1), st⟩
  | some d =>
    rw [hd] at st
    have st : mX9_digits mi vtt (1 : Int32) (nI h) = if 0 + 1 * d ≤ h then _ else _ := st
    rw [Nat.zero_add, Nat.one_mul] at st
    by_cases q : d ≤ h
    · rw [if_pos q, show 1 / 10 = 0 from rfl, show 4095 = 4094 + 1 from rfl, dig_end] at st
      exact Or.inl ⟨d, rfl, q, st⟩
    · rw [if_neg q] at st
      exact Or.inr ⟨fun ⟨d', h1, h3⟩ => (by cases h1; exact q h3), st⟩
/-- two digits of a cell -/
theorem g_dig2 {vtt mi : Nat → Int32} {n p : Nat} (hn : n ≤ 120) (hc : ∀ k, k < n → vtt k = nI (txc vtt k) ∧ txc vtt k < 256) (h2 : mi 2 = nI n) (h16 : mi 16 = nI p) (hp : p < 900) :
    (∃ a b, dg vtt n p = some a ∧ dg vtt n (p + 1) = some b ∧ a ≤ 3 ∧ 10 * a + b < 36 ∧ mX9_digits mi vtt (10 : Int32) (35 : Int32) = some (1, upd (upd (upd (upd (upd mi 18 0) 18 (nI (10 * a))) 16 (nI (p + 1))) 18 (nI (10 * a + b))) 16 (nI (p + 2)))) ∨
    ((¬ ∃ a, dg vtt n p = some a ∧ a ≤ 3) ∧ mX9_digits mi vtt (10 : Int32) (35 : Int32) = some (0, upd mi 18 0)) ∨
    (∃ a, dg vtt n p = some a ∧ a ≤ 3 ∧ (¬ ∃ b, dg vtt n (p + 1) = some b ∧ 10 * a + b < 36) ∧ mX9_digits mi vtt (10 : Int32) (35 : Int32) = some (0, upd (upd (upd mi 18 0) 18 (nI (10 * a))) 16 (nI (p + 1)))) := by
  have st := dig_step (vtt := vtt) (mi := upd mi 18 0) (n := n) (p := p) (v := 0) (l := 10) (h := 35) hn hc h2 h16 rfl (by decide) (by decide) (by decide) (by decide) (by omega) 4095
  have st : mX9_digits mi vtt (10 : Int32) (35 : Int32) = _ := st
  cases hd : dg vtt n p with
  | none =>
    rw [hd] at st
    exact Or.inr (Or.inl ⟨fun ⟨d, h1, _⟩ => (by cases h1), st⟩)
  | some a =>
    have ha9 := (dg_lt hd).1
    rw [hd] at st
    have st : mX9_digits mi vtt (10 : Int32) (35 : Int32) = if 0 + 10 * a ≤ 35 then _ else _ := st
    rw [Nat.zero_add] at st
    by_cases q : 10 * a ≤ 35
    · rw [if_pos q, show 10 / 10 = 1 from rfl, show 4095 = 4094 + 1 from rfl] at st
      have st2 := dig_step (vtt := vtt) (mi := upd (upd (upd mi 18 0) 18 (nI (10 * a))) 16 (nI (p + 1))) (n := n) (p := p + 1) (v := 10 * a) (l := 1) (h := 35) hn hc h2 rfl rfl (by decide) (by decide) (by omega) (by decide) (by omega) 4094
      cases hd2 : dg vtt n (p + 1) with
      | none =>
        rw [hd2] at st2
        exact Or.inr (Or.inr ⟨a, rfl, by omega, fun ⟨b, h1, _⟩ => (by cases h1), st.trans st2⟩)
      | some b =>
        rw [hd2] at st2
        have st2 : mX9_digits_L7 (4094 + 1) (upd (upd (upd mi 18 0) 18 (nI (10 * a))) 16 (nI (p + 1))) vtt (nI 35) (nI 1) = if 10 * a + 1 * b ≤ 35 then _ else _ := st2
        rw [Nat.one_mul] at st2
        by_cases q2 : 10 * a + b ≤ 35
        · rw [if_pos q2, show 1 / 10 = 0 from rfl] at st2
          have st3 := dig_end (upd (upd (upd (upd (upd mi 18 0) 18 (nI (10 * a))) 16 (nI (p + 1))) 18 (nI (10 * a + b))) 16 (nI (p + 1 + 1))) vtt (nI 35) 4093
          exact Or.inl ⟨a, b, rfl, rfl, by omega, by omega, st.trans (st2.trans st3)⟩
        · rw [if_neg q2] at st2
          exact Or.inr (Or.inr ⟨a, rfl, by omega, fun ⟨b', h1, h3⟩ => (by cases h1; omega), st.trans st2⟩)
    · rw [if_neg q] at st
      exact Or.inr (Or.inl ⟨fun ⟨a', h1, h3⟩ => (by cases h1; omega), st⟩)
/-- the class's check of a cell -/
theorem v_errCell {ti sg vtt : Nat → Int32} {n : Nat} (h : TX ti sg vtt n) {p : Nat} (hp : p < 900) :
    (∀ a b, dg vtt n p = some a → dg vtt n (p + 1) = some b → a ≤ 3 → 10 * a + b < 36 → mX7_errorInCell ti sg (nI p) = -1 ∧ mX7_cellAt ti sg (nI p) = nI (10 * a + b)) ∧
    ((¬ ∃ a, dg vtt n p = some a ∧ a ≤ 3) → mX7_errorInCell ti sg (nI p) = nI p) ∧
    (∀ a, dg vtt n p = some a → a ≤ 3 → (¬ ∃ b, dg vtt n (p + 1) = some b ∧ 10 * a + b < 36) → mX7_errorInCell ti sg (nI p) = nI (p + 1)) := by
  have d3 := v_isDigit h (p := p) (m := 3) (by omega) (by decide)
  have second : ∀ a, dg vtt n p = some a → a ≤ 3 → mX7_errorInCell ti sg (nI p) = if mX7_isDigit ti sg (nI (p + 1)) (nI (if a = 3 then 5 else 9)) = 0 then nI (p + 1) else -1 := fun a ha h3 => by
    have hda := v_digitAt h (by omega) ha
    unfold mX7_errorInCell mX7_errorInCell_J26
    rw [if_neg (show ¬ mX7_isDigit ti sg (nI p) (3 : Int32) = 0 from fun z => d3.mp z ⟨a, ha, h3⟩), hda, nI_1]
    by_cases e : a = 3
    · rw [if_pos (show nI a = (3 : Int32) by rw [e]; rfl), if_pos e]; rfl
    · rw [if_neg (show ¬ nI a = (3 : Int32) from fun z => e ((nI_inj (b := 3) (by omega) (by decide)).mp z)), if_neg e]; rfl
  have dm : ∀ a, a ≤ 3 → (mX7_isDigit ti sg (nI (p + 1)) (nI (if a = 3 then 5 else 9)) = 0 ↔ ¬ ∃ b, dg vtt n (p + 1) = some b ∧ 10 * a + b < 36) := fun a h3 => by
    rw [v_isDigit h (by omega) (by split <;> decide)]
    constructor
    · rintro z ⟨b, b1, b2⟩
      have := (dg_lt b1).1
      exact z ⟨b, b1, by split <;> omega⟩
    · rintro z ⟨b, b1, b2⟩
      refine z ⟨b, b1, ?_⟩
      split at b2 <;> omega
  refine ⟨fun a b ha hb h3 hab => ⟨?_, ?_⟩, fun hno => ?_, fun a ha h3 hno => ?_⟩
  · rw [second a ha h3, if_neg (fun z => (dm a h3).mp z ⟨b, hb, hab⟩)]
  · unfold mX7_cellAt
    rw [v_digitAt h (by omega) ha, nI_1, v_digitAt h (by omega) hb]
    show nI 10 * nI a + nI b = _
    rw [nI_mul, nI_add]
  · unfold mX7_errorInCell
    rw [if_pos (show mX7_isDigit ti sg (nI p) (3 : Int32) = 0 from d3.mpr hno)]
  · rw [second a ha h3, if_pos ((dm a h3).mpr hno)]
