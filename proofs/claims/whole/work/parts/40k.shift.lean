/-! A push as a map of cells -/
/-- where the thing of a cell comes to, the cells 0 .. i of a way going one further -/
def sh (d c : Nat) : Nat → Nat → Nat
  | 0, y => if y = pi d c 0 then pi d c 1 else y
  | i + 1, y => if y = pi d c (i + 1) then pi d c (i + 2) else sh d c i y
theorem sh_at {d c n : Nat} (hd : d < 4) (hc : c < 36) (hp : pin d c n) : ∀ i, i + 1 ≤ n → ∀ j, j ≤ i → sh d c i (pi d c j) = pi d c (j + 1)
  | 0, h, j, hj => by
    obtain rfl : j = 0 := by omega
    exact if_pos rfl
  | i + 1, h, j, hj => by
    by_cases e : j = i + 1
    · subst e; exact if_pos rfl
    · have hne : ¬ pi d c j = pi d c (i + 1) := fun q => e (pi_inj hd hc hp (by omega) (by omega) q)
      show (if pi d c j = pi d c (i + 1) then pi d c (i + 2) else sh d c i (pi d c j)) = _
      rw [if_neg hne]
      exact sh_at hd hc hp i (by omega) j (by omega)
theorem sh_off {d c : Nat} : ∀ i y, (∀ j, j ≤ i → y ≠ pi d c j) → sh d c i y = y
  | 0, y, h => if_neg (h 0 (Nat.le_refl 0))
  | i + 1, y, h => by
    show (if y = pi d c (i + 1) then pi d c (i + 2) else sh d c i y) = y
    rw [if_neg (h (i + 1) (Nat.le_refl _))]
    exact sh_off i y (fun j hj => h j (by omega))
def Img (f : Nat → Nat) (C C' : Nat → Bool) : Prop := ∀ y, y < 36 → (C' y = true ↔ ∃ z, z < 36 ∧ C z = true ∧ f z = y)
theorem Img.one {f : Nat → Nat} {C A B : Nat → Bool} (h1 : Img f C A) (h2 : Img f C B) : ∀ y, y < 36 → A y = B y := fun y hy => by
  have := (h1 y hy).trans (h2 y hy).symm
  cases ha : A y <;> cases hb : B y <;> simp_all
/-- one thing at most on a cell -/
def TS (t : Th) : Prop := t.2.1 < 36 ∧ t.2.2 < 36 ∧ t.2.1 ≠ t.2.2 ∧ t.1 t.2.1 = false ∧ t.1 t.2.2 = false
def tht (t : Th) (x : Nat) : Bool := th t.1 t.2.1 t.2.2 x
theorem tht_iff {t : Th} {x : Nat} : tht t x = true ↔ t.1 x = true ∨ x = t.2.1 ∨ x = t.2.2 := by
  unfold tht th
  simp [Bool.or_eq_true, or_assoc]
theorem mv_TS {x y : Nat} {t : Th} (h : TS t) (hx : tht t x = true) (hy : tht t y = false) (hy36 : y < 36) (hxy : x ≠ y) :
    TS (mv x y t) ∧ (∀ z, z ≠ x → z ≠ y → (tht (mv x y t) z = tht t z)) ∧ tht (mv x y t) x = false := by
  obtain ⟨h0, h1, h2, h3, h4⟩ := h
  have hny : ¬ (t.1 y = true ∨ y = t.2.1 ∨ y = t.2.2) := fun q => by rw [tht_iff.mpr q] at hy; cases hy
  have hy1 : t.1 y = false := by rw [← Bool.not_eq_true]; exact fun q => hny (Or.inl q)
  have hy2 : y ≠ t.2.1 := fun q => hny (Or.inr (Or.inl q))
  have hy3 : y ≠ t.2.2 := fun q => hny (Or.inr (Or.inr q))
  have eqb : ∀ (t : Th) z, tht t z = (t.1 z || z == t.2.1 || z == t.2.2) := fun _ _ => rfl
  unfold mv
  by_cases e0 : t.2.1 = x
  · rw [if_pos e0]
    refine ⟨⟨hy36, h1, hy3, hy1, h4⟩, fun z hzx hzy => ?_, ?_⟩
    · rw [eqb, eqb]
      have a1 : (z == y) = false := by simpa using hzy
      have a2 : (z == t.2.1) = false := by rw [e0]; simpa using hzx
      simp [a1, a2]
    · rw [eqb]
      have b1 : t.1 x = false := by rw [← e0]; exact h3
      have b2 : (x == y) = false := by simpa using hxy
      have b3 : (x == t.2.2) = false := by rw [← e0]; simpa using h2
      simp [b1, b2, b3]
  · rw [if_neg e0]
    by_cases e1 : t.2.2 = x
    · rw [if_pos e1]
      refine ⟨⟨h0, hy36, fun q => hy2 q.symm, h3, hy1⟩, fun z hzx hzy => ?_, ?_⟩
      · rw [eqb, eqb]
        have a1 : (z == y) = false := by simpa using hzy
        have a2 : (z == t.2.2) = false := by rw [e1]; simpa using hzx
        simp [a1, a2]
      · rw [eqb]
        have b1 : t.1 x = false := by rw [← e1]; exact h4
        have b2 : (x == y) = false := by simpa using hxy
        have b3 : (x == t.2.1) = false := by simpa using fun q : x = t.2.1 => e0 q.symm
        simp [b1, b2, b3]
    · rw [if_neg e1]
      have e0' : t.2.1 ≠ y := fun q => hy2 q.symm
      have e1' : t.2.2 ≠ y := fun q => hy3 q.symm
      refine ⟨⟨h0, h1, h2, ?_, ?_⟩, fun z hzx hzy => ?_, ?_⟩
      · show (if t.2.1 = y then true else if t.2.1 = x then false else t.1 t.2.1) = false
        rw [if_neg e0', if_neg e0]; exact h3
      · show (if t.2.2 = y then true else if t.2.2 = x then false else t.1 t.2.2) = false
        rw [if_neg e1', if_neg e1]; exact h4
      · rw [eqb, eqb]
        simp [hzx, hzy]
      · rw [eqb]
        have b3 : (x == t.2.1) = false := by simpa using fun q : x = t.2.1 => e0 q.symm
        have b4 : (x == t.2.2) = false := by simpa using fun q : x = t.2.2 => e1 q.symm
        simp [hxy, b3, b4]
theorem psh_char {d c n : Nat} (hd : d < 4) (hc : c < 36) (hp : pin d c n) : ∀ (i : Nat) (t : Th), i + 1 ≤ n → TS t → (∀ j, j ≤ i → tht t (pi d c j) = true) → tht t (pi d c (i + 1)) = false →
    Img (sh d c i) t.1 (psh d c i t).1 ∧ (psh d c i t).2.1 = sh d c i t.2.1 ∧ (psh d c i t).2.2 = sh d c i t.2.2 ∧ TS (psh d c i t) := by
  intro i
  induction i with
  | zero =>
    intro t hi hT ha hf
    have hx := pi_lt hd hc hp 0 (by omega)
    have hy := pi_lt hd hc hp 1 (by omega)
    have hxy : pi d c 0 ≠ pi d c 1 := fun q => by have := pi_inj hd hc hp (i := 0) (j := 1) (by omega) (by omega) q; omega
    have hm := mv_TS hT (ha 0 (Nat.le_refl 0)) hf hy hxy
    refine ⟨?_, ?_, ?_, hm.1⟩
    · intro z hz
      have hfz : t.1 (pi d c 1) = false := by rw [← Bool.not_eq_true]; exact fun q => by rw [tht_iff.mpr (Or.inl q)] at hf; cases hf
      show (mv (pi d c 0) (pi d c 1) t).1 z = true ↔ ∃ w, w < 36 ∧ t.1 w = true ∧ (if w = pi d c 0 then pi d c 1 else w) = z
      unfold mv
      by_cases e0 : t.2.1 = pi d c 0
      · rw [if_pos e0]
        have hn : t.1 (pi d c 0) = false := by rw [← e0]; exact hT.2.2.2.1
        refine ⟨fun h => ⟨z, hz, h, if_neg (fun q => by rw [q, hn] at h; cases h)⟩, fun ⟨w, hw, h1, h2⟩ => ?_⟩
        rw [if_neg (fun q => by rw [q, hn] at h1; cases h1)] at h2
        rw [← h2]; exact h1
      · rw [if_neg e0]
        by_cases e1 : t.2.2 = pi d c 0
        · rw [if_pos e1]
          have hn : t.1 (pi d c 0) = false := by rw [← e1]; exact hT.2.2.2.2
          refine ⟨fun h => ⟨z, hz, h, if_neg (fun q => by rw [q, hn] at h; cases h)⟩, fun ⟨w, hw, h1, h2⟩ => ?_⟩
          rw [if_neg (fun q => by rw [q, hn] at h1; cases h1)] at h2
          rw [← h2]; exact h1
        · rw [if_neg e1]
          have hC0 : t.1 (pi d c 0) = true := by
            rcases tht_iff.mp (ha 0 (Nat.le_refl 0)) with q | q | q
            · exact q
            · exact absurd q.symm e0
            · exact absurd q.symm e1
          show (if z = pi d c 1 then true else if z = pi d c 0 then false else t.1 z) = true ↔ _
          constructor
          · intro h
            by_cases ez : z = pi d c 1
            · exact ⟨pi d c 0, hx, hC0, by rw [if_pos rfl]; exact ez.symm⟩
            · rw [if_neg ez] at h
              by_cases ex : z = pi d c 0
              · rw [if_pos ex] at h; cases h
              · rw [if_neg ex] at h
                exact ⟨z, hz, h, if_neg ex⟩
          · rintro ⟨w, hw, h1, h2⟩
            by_cases ew : w = pi d c 0
            · rw [if_pos ew] at h2; rw [if_pos h2.symm]
            · rw [if_neg ew] at h2
              subst h2
              by_cases ez : w = pi d c 1
              · rw [if_pos ez]
              · rw [if_neg ez, if_neg ew]; exact h1
    · show (mv (pi d c 0) (pi d c 1) t).2.1 = if t.2.1 = pi d c 0 then pi d c 1 else t.2.1
      unfold mv
      by_cases e0 : t.2.1 = pi d c 0
      · rw [if_pos e0, if_pos e0]
      · rw [if_neg e0, if_neg e0]; split <;> rfl
    · show (mv (pi d c 0) (pi d c 1) t).2.2 = if t.2.2 = pi d c 0 then pi d c 1 else t.2.2
      unfold mv
      by_cases e0 : t.2.1 = pi d c 0
      · rw [if_pos e0, if_neg (fun q => hT.2.2.1 (by rw [e0, q]))]
      · rw [if_neg e0]
        by_cases e1 : t.2.2 = pi d c 0
        · rw [if_pos e1, if_pos e1]
        · rw [if_neg e1, if_neg e1]
  | succ i ih =>
    intro t hi hT ha hf
    have hx := pi_lt hd hc hp (i + 1) (by omega)
    have hy := pi_lt hd hc hp (i + 2) (by omega)
    have hne : ∀ j k, j ≤ i + 2 → k ≤ i + 2 → j ≠ k → pi d c j ≠ pi d c k := fun j k hj hk h q => h (pi_inj hd hc hp (by omega) (by omega) q)
    have hm := mv_TS hT (ha (i + 1) (Nat.le_refl _)) hf hy (hne (i + 1) (i + 2) (by omega) (by omega) (by omega))
    obtain ⟨g1, g2, g3, g4⟩ := ih (mv (pi d c (i + 1)) (pi d c (i + 2)) t) (by omega) hm.1 (fun j hj => by
      rw [hm.2.1 _ (hne j (i + 1) (by omega) (by omega) (by omega)) (hne j (i + 2) (by omega) (by omega) (by omega))]
      exact ha j (by omega)) hm.2.2
    have hC2 : t.1 (pi d c (i + 2)) = false := by rw [← Bool.not_eq_true]; exact fun q => by rw [tht_iff.mpr (Or.inl q)] at hf; cases hf
    have hoff : sh d c i (pi d c (i + 2)) = pi d c (i + 2) := sh_off i _ (fun j hj => hne (i + 2) j (by omega) (by omega) (by omega))
    have hoff1 : sh d c i (pi d c (i + 1)) = pi d c (i + 1) := sh_off i _ (fun j hj => hne (i + 1) j (by omega) (by omega) (by omega))
    have s1 : ∀ y, sh d c (i + 1) y = if y = pi d c (i + 1) then pi d c (i + 2) else sh d c i y := fun _ => rfl
    refine ⟨?_, ?_, ?_, g4⟩
    · intro z hz
      refine (g1 z hz).trans ?_
      unfold mv
      by_cases e0 : t.2.1 = pi d c (i + 1)
      · rw [if_pos e0]
        have hn : t.1 (pi d c (i + 1)) = false := by rw [← e0]; exact hT.2.2.2.1
        constructor
        · rintro ⟨w, hw, h1, h2⟩
          exact ⟨w, hw, h1, by rw [s1, if_neg (fun q => by rw [q, hn] at h1; cases h1)]; exact h2⟩
        · rintro ⟨w, hw, h1, h2⟩
          rw [s1, if_neg (fun q => by rw [q, hn] at h1; cases h1)] at h2
          exact ⟨w, hw, h1, h2⟩
      · rw [if_neg e0]
        by_cases e1 : t.2.2 = pi d c (i + 1)
        · rw [if_pos e1]
          have hn : t.1 (pi d c (i + 1)) = false := by rw [← e1]; exact hT.2.2.2.2
          constructor
          · rintro ⟨w, hw, h1, h2⟩
            exact ⟨w, hw, h1, by rw [s1, if_neg (fun q => by rw [q, hn] at h1; cases h1)]; exact h2⟩
          · rintro ⟨w, hw, h1, h2⟩
            rw [s1, if_neg (fun q => by rw [q, hn] at h1; cases h1)] at h2
            exact ⟨w, hw, h1, h2⟩
        · rw [if_neg e1]
          have hC1 : t.1 (pi d c (i + 1)) = true := by
            rcases tht_iff.mp (ha (i + 1) (Nat.le_refl _)) with q | q | q
            · exact q
            · exact absurd q.symm e0
            · exact absurd q.symm e1
          constructor
          · rintro ⟨w, hw, h1, h2⟩
            have h1 : (if w = pi d c (i + 2) then true else if w = pi d c (i + 1) then false else t.1 w) = true := h1
            by_cases ew : w = pi d c (i + 2)
            · refine ⟨pi d c (i + 1), hx, hC1, ?_⟩
              rw [s1, if_pos rfl, ← h2, ew, hoff]
            · rw [if_neg ew] at h1
              by_cases ew1 : w = pi d c (i + 1)
              · rw [if_pos ew1] at h1; cases h1
              · rw [if_neg ew1] at h1
                exact ⟨w, hw, h1, by rw [s1, if_neg ew1]; exact h2⟩
          · rintro ⟨w, hw, h1, h2⟩
            by_cases ew1 : w = pi d c (i + 1)
            · rw [s1, if_pos ew1] at h2
              exact ⟨pi d c (i + 2), hy, if_pos rfl, by rw [hoff]; exact h2⟩
            · rw [s1, if_neg ew1] at h2
              refine ⟨w, hw, ?_, h2⟩
              show (if w = pi d c (i + 2) then true else if w = pi d c (i + 1) then false else t.1 w) = true
              rw [if_neg (fun q => by rw [q, hC2] at h1; cases h1), if_neg ew1]; exact h1
    · show (psh d c i _).2.1 = _
      rw [g2, s1]
      unfold mv
      by_cases e0 : t.2.1 = pi d c (i + 1)
      · rw [if_pos e0, if_pos e0]; exact hoff
      · rw [if_neg e0, if_neg e0]; split <;> rfl
    · show (psh d c i _).2.2 = _
      rw [g3, s1]
      unfold mv
      by_cases e0 : t.2.1 = pi d c (i + 1)
      · rw [if_pos e0, if_neg (fun q => hT.2.2.1 (by rw [e0, q]))]
      · rw [if_neg e0]
        by_cases e1 : t.2.2 = pi d c (i + 1)
        · rw [if_pos e1, if_pos e1]; exact hoff
        · rw [if_neg e1, if_neg e1]
