/-! The class's push: sets of cells moved at once -/
def rowP (d c r : Nat) : Nat → Bool := fun y => (List.range r).any (fun i => y == pi d c (i + 1))
theorem rowP_iff {d c r y : Nat} : rowP d c r y = true ↔ ∃ i, i < r ∧ y = pi d c (i + 1) := by
  unfold rowP
  rw [List.any_eq_true]
  constructor
  · rintro ⟨i, hi, h⟩; exact ⟨i, List.mem_range.mp hi, eq_of_beq h⟩
  · rintro ⟨i, hi, h⟩; exact ⟨i, List.mem_range.mpr hi, beq_iff_eq.mpr h⟩
theorem fb_one : ∀ a, a < 36 → fb_ct (fun k => k == a) 36 = 1 := by decide +kernel
theorem rowP_count {d c n : Nat} (hd : d < 4) (hc : c < 36) (hp : pin d c n) : ∀ r, r ≤ n → fb_ct (rowP d c r) 36 = r
  | 0, _ => fb_ct_zero.mpr (fun k _ => rfl)
  | r + 1, h => by
    have ih := rowP_count hd hc hp r (by omega)
    have e : fb_ct (rowP d c (r + 1)) 36 = fb_ct (fun k => rowP d c r k || k == pi d c (r + 1)) 36 := fb_ct_cong (fun k _ => by
      unfold rowP
      rw [List.range_succ, List.any_append]
      simp)
    rw [e, fb_ct_or (fun k _ ⟨h1, h2⟩ => by
      obtain ⟨i, hi, q⟩ := rowP_iff.mp h1
      have := eq_of_beq h2
      rw [this] at q
      have := pi_inj hd hc hp (by omega) (by omega) q
      omega), ih, fb_one _ (pi_lt hd hc hp (r + 1) h)]
theorem way_row {d c r : Nat} {T : Nat → Bool} (hd : d < 4) (hc : c < 36) (hl : (pth d (r + 1) (bs c d)).length = r + 1) (hT : ∀ i, 1 ≤ i → i ≤ r → T (pi d c i) = true) (hF : T (pi d c (r + 1)) = false) (y : Nat) :
    ((decide (y ∈ c :: pth d (r + 1) (bs c d)) && T y) && !(y == c)) = rowP d c r y := by
  obtain ⟨hp, hq⟩ := pin_pth (r + 1) c hl
  rw [Bool.eq_iff_iff]
  rw [rowP_iff, Bool.and_eq_true, Bool.and_eq_true, decide_eq_true_eq, Bool.not_eq_true', hq]
  constructor
  · rintro ⟨⟨h1, h2⟩, h3⟩
    rcases List.mem_cons.mp h1 with h1 | h1
    · exact absurd h1 (by simpa using h3)
    · obtain ⟨i, hi, rfl⟩ := List.mem_map.mp h1
      have hi := List.mem_range.mp hi
      by_cases e : i = r
      · subst e; rw [hF] at h2; cases h2
      · exact ⟨i, by omega, rfl⟩
  · rintro ⟨i, hi, rfl⟩
    refine ⟨⟨List.mem_cons_of_mem _ (List.mem_map.mpr ⟨i, List.mem_range.mpr (by omega), rfl⟩), hT (i + 1) (by omega) (by omega)⟩, ?_⟩
    have : pi d c (i + 1) ≠ c := fun q => by
      have := pi_inj hd hc hp (i := i + 1) (j := 0) (by omega) (by omega) q
      omega
    simpa using this
/-- the crates behind a push, as the class makes them -/
def crP (d c r : Nat) (C : Nat → Bool) : Nat → Bool := fun y => (C y && !rowP d c r y) || (match bs y ((d + 2) % 4) with | some x => C x && rowP d c r x | none => false)
theorem crP_img {d c r : Nat} {C : Nat → Bool} (hd : d < 4) (hc : c < 36) (hp : pin d c (r + 1)) (hC : C c = false) : Img (sh d c r) C (crP d c r C) := by
  intro y hy
  unfold crP
  rw [Bool.or_eq_true, Bool.and_eq_true, Bool.not_eq_true']
  constructor
  · rintro (⟨h1, h2⟩ | h)
    · refine ⟨y, hy, h1, sh_off r y (fun j hj q => ?_)⟩
      cases j with
      | zero => rw [q] at h1; exact absurd h1 (by rw [show pi d c 0 = c from rfl, hC]; decide)
      | succ j => rw [rowP_iff.mpr ⟨j, by omega, q⟩] at h2; cases h2
    · cases hb : bs y ((d + 2) % 4) with
      | none => rw [hb] at h; cases h
      | some x =>
        rw [hb] at h
        have h : (C x && rowP d c r x) = true := h
        rw [Bool.and_eq_true] at h
        obtain ⟨i, hi, rfl⟩ := rowP_iff.mp h.2
        have hx := pi_lt hd hc hp (i + 1) (by omega)
        refine ⟨_, hx, h.1, ?_⟩
        rw [sh_at hd hc hp r (Nat.le_refl _) (i + 1) (by omega)]
        have h2 := (bs_back _ hx d hd y hy).mpr hb
        have h3 := hp (i + 1) (by omega)
        rw [h2] at h3
        exact (Option.some.inj h3).symm
  · rintro ⟨z, hz, h1, h2⟩
    by_cases hr : rowP d c r z = true
    · right
      obtain ⟨i, hi, rfl⟩ := rowP_iff.mp hr
      rw [sh_at hd hc hp r (Nat.le_refl _) (i + 1) (by omega)] at h2
      have h3 := bs_back1 _ hz d hd _ (hp (i + 1) (by omega))
      rw [show i + 1 + 1 = i + 2 from rfl] at h3 h2
      rw [← h2, h3]
      show (C (pi d c (i + 1)) && rowP d c r (pi d c (i + 1))) = true
      rw [h1, hr]; rfl
    · left
      have e : sh d c r z = z := sh_off r z (fun j hj q => by
        cases j with
        | zero => rw [q, show pi d c 0 = c from rfl, hC] at h1; cases h1
        | succ j => exact hr (rowP_iff.mpr ⟨j, by omega, q⟩))
      rw [e] at h2
      subst h2
      exact ⟨h1, by simpa using hr⟩
theorem sL_all {P : Nat → Bool} {d : Nat} (hd : d < 4) (h : ∀ x, x < 36 → P x = true → ∃ y, bs x d = some y) : mX2_allBeside (sL P) (nI d) = sL (fun y => match bs y ((d + 2) % 4) with | some x => P x | none => false) := by
  have hlt := nb_lt64 P
  have h4 : d = 0 ∨ d = 1 ∨ d = 2 ∨ d = 3 := by omega
  have key : ∀ (Q : Nat → Bool) (k : Nat), k < 2 ^ 36 → (∀ i, i < 36 → k.testBit i = Q i) → lN k = sL Q := fun Q k hk hq => by
    unfold sL; rw [← nb_of hk hq]
  have hsh : ∀ s, s ≤ 6 → (∀ x, x < 36 → P x = true → x + s < 36) → nb P 36 * 2 ^ s < 2 ^ 36 := by
    intro s hs hx
    apply Nat.lt_pow_two_of_testBit
    intro i hi
    rw [Nat.testBit_mul_two_pow, nb_tb]
    by_cases hp : P (i - s) = true
    · by_cases h36 : i - s < 36
      · have := hx _ h36 hp; simp; omega
      · simp [h36]
    · simp [hp]
  unfold mX2_allBeside
  rcases h4 with rfl | rfl | rfl | rfl
  · rw [if_pos (by decide +kernel)]
    show jushrl (sL P) (6 : Int32) = _
    have : jushrl (sL P) (nI 6) = lN (nb P 36 / 2 ^ 6) := wb_shr hlt (by decide)
    refine (show jushrl (sL P) (6 : Int32) = jushrl (sL P) (nI 6) from rfl).trans (this.trans (key _ _ (Nat.lt_of_le_of_lt (Nat.div_le_self _ _) (nb_lt P 36)) (fun i hi => ?_)))
    rw [Nat.testBit_div_two_pow, nb_tb]
    have hb : bs i ((0 + 2) % 4) = if i < 30 then some (i + 6) else none := rfl
    rw [hb]
    by_cases q : i < 30
    · rw [if_pos q]; simp; omega
    · rw [if_neg q]; simp; omega
  · rw [if_neg (by decide +kernel), if_pos (by decide +kernel)]
    have hx : ∀ x, x < 36 → P x = true → x + 1 < 36 ∧ x % 6 < 5 := by
      intro x hx hp
      obtain ⟨y, hy⟩ := h x hx hp
      have hb : bs x 1 = if x % 6 < 5 then some (x + 1) else none := rfl
      rw [hb] at hy
      split at hy
      · omega
      · cases hy
    have : jshll (sL P) (nI 1) = lN (nb P 36 * 2 ^ 1) := wb_shl _ (by decide)
    refine (show jshll (sL P) (1 : Int32) = jshll (sL P) (nI 1) from rfl).trans (this.trans (key _ _ (hsh 1 (by decide) (fun x h1 h2 => (hx x h1 h2).1)) (fun i hi => ?_)))
    rw [Nat.testBit_mul_two_pow, nb_tb]
    have hb : bs i ((1 + 2) % 4) = if 0 < i % 6 then some (i - 1) else none := rfl
    rw [hb]
    by_cases q : 0 < i % 6
    · rw [if_pos q]
      have h1 : i ≥ 1 := by omega
      have h2 : i - 1 < 36 := by omega
      simp [h1, h2]
    · rw [if_neg q]
      by_cases hp : P (i - 1) = true
      · by_cases h1 : i ≥ 1
        · have := (hx (i - 1) (by omega) hp).2; omega
        · simp; omega
      · simp [hp]
  · rw [if_neg (by decide +kernel), if_neg (by decide +kernel), if_pos (by decide +kernel)]
    have hx : ∀ x, x < 36 → P x = true → x + 6 < 36 := by
      intro x hx hp
      obtain ⟨y, hy⟩ := h x hx hp
      have hb : bs x 2 = if x < 30 then some (x + 6) else none := rfl
      rw [hb] at hy
      split at hy
      · omega
      · cases hy
    have : jshll (sL P) (nI 6) = lN (nb P 36 * 2 ^ 6) := wb_shl _ (by decide)
    refine (show jshll (sL P) (6 : Int32) = jshll (sL P) (nI 6) from rfl).trans (this.trans (key _ _ (hsh 6 (by decide) hx) (fun i hi => ?_)))
    rw [Nat.testBit_mul_two_pow, nb_tb]
    have hb : bs i ((2 + 2) % 4) = if i < 6 then none else some (i - 6) := rfl
    rw [hb]
    by_cases q : i < 6
    · rw [if_pos q]; simp; omega
    · rw [if_neg q]
      have h1 : i ≥ 6 := by omega
      have h2 : i - 6 < 36 := by omega
      simp [h1, h2]
  · rw [if_neg (by decide +kernel), if_neg (by decide +kernel), if_neg (by decide +kernel)]
    have : jushrl (sL P) (nI 1) = lN (nb P 36 / 2 ^ 1) := wb_shr hlt (by decide)
    refine (show jushrl (sL P) (1 : Int32) = jushrl (sL P) (nI 1) from rfl).trans (this.trans (key _ _ (Nat.lt_of_le_of_lt (Nat.div_le_self _ _) (nb_lt P 36)) (fun i hi => ?_)))
    rw [Nat.testBit_div_two_pow, nb_tb]
    have hb : bs i ((3 + 2) % 4) = if i % 6 < 5 then some (i + 1) else none := rfl
    rw [hb]
    by_cases q : i % 6 < 5
    · rw [if_pos q]
      have h2 : i + 1 < 36 := by omega
      simp [h2, Nat.add_comm 1 i]
    · rw [if_neg q]
      by_cases hp : P (1 + i) = true
      · by_cases h1 : 1 + i < 36
        · obtain ⟨y, hy⟩ := h (1 + i) h1 hp
          have hb : bs (1 + i) 3 = if 0 < (1 + i) % 6 then some (1 + i - 1) else none := rfl
          rw [hb, if_neg (by omega)] at hy
          cases hy
        · simp [Nat.add_comm i 1, h1]
      · simp [Nat.add_comm i 1, hp]
