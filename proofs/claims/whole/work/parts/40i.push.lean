/-! Cells of a way in their order, and what a push makes of the things -/
def pi (d c : Nat) : Nat → Nat
  | 0 => c
  | i + 1 => (bs (pi d c i) d).getD 0
/-- the way has n cells after its first -/
def pin (d c n : Nat) : Prop := ∀ i, i < n → bs (pi d c i) d = some (pi d c (i + 1))
def bs_dirb (c d : Nat) : Bool := match bs c d with
  | none => true
  | some y => if d = 1 ∨ d = 2 then decide (c < y) else decide (y < c)
theorem bs_dir0 : ∀ c, c < 36 → ∀ d, d < 4 → bs_dirb c d = true := by decide +kernel
theorem bs_dir (c : Nat) (hc : c < 36) (d : Nat) (hd : d < 4) (y : Nat) (hy : y < 36) (h : bs c d = some y) : ((d = 1 ∨ d = 2) ∧ c < y) ∨ ((d = 0 ∨ d = 3) ∧ y < c) := by
  have h1 := bs_dir0 c hc d hd
  unfold bs_dirb at h1
  rw [h] at h1
  by_cases q : d = 1 ∨ d = 2
  · left; exact ⟨q, by simpa [q] using h1⟩
  · right
    refine ⟨by omega, ?_⟩
    simpa [q] using h1
def bs_backb (c d : Nat) : Bool := match bs c d with
  | none => true
  | some y => decide (bs y ((d + 2) % 4) = some c)
theorem bs_back0 : ∀ c, c < 36 → ∀ d, d < 4 → bs_backb c d = true := by decide +kernel
theorem bs_back1 (c : Nat) (hc : c < 36) (d : Nat) (hd : d < 4) (y : Nat) (h : bs c d = some y) : bs y ((d + 2) % 4) = some c := by
  have h1 := bs_back0 c hc d hd
  unfold bs_backb at h1
  rw [h] at h1
  exact of_decide_eq_true h1
theorem bs_back (c : Nat) (hc : c < 36) (d : Nat) (hd : d < 4) (y : Nat) (hy : y < 36) : bs c d = some y ↔ bs y ((d + 2) % 4) = some c :=
  ⟨bs_back1 c hc d hd y, fun h => by
    have := bs_back1 y hy ((d + 2) % 4) (Nat.mod_lt _ (by decide)) c h
    rw [show ((d + 2) % 4 + 2) % 4 = d by omega] at this
    exact this⟩
theorem pi_shift (d c : Nat) {y : Nat} (h : bs c d = some y) : ∀ i, pi d c (i + 1) = pi d y i
  | 0 => by show (bs c d).getD 0 = y; rw [h]; rfl
  | i + 1 => by
    show (bs (pi d c (i + 1)) d).getD 0 = (bs (pi d y i) d).getD 0
    rw [pi_shift d c h i]
theorem pin_pth {d : Nat} : ∀ (n c : Nat), (pth d n (bs c d)).length = n → pin d c n ∧ pth d n (bs c d) = (List.range n).map (fun i => pi d c (i + 1))
  | 0, c, _ => ⟨fun i hi => absurd hi (Nat.not_lt_zero i), rfl⟩
  | n + 1, c, h => by
    obtain ⟨y, hy, hp, hl⟩ := pth_step h
    obtain ⟨h1, h2⟩ := pin_pth n y hl
    refine ⟨fun i hi => ?_, ?_⟩
    · cases i with
      | zero => show bs c d = some ((bs c d).getD 0); rw [hy]; rfl
      | succ i =>
        rw [pi_shift d c hy i, pi_shift d c hy (i + 1)]
        exact h1 i (by omega)
    · rw [hp, h2, List.range_succ_eq_map, List.map_cons, List.map_map]
      have e0 : pi d c (0 + 1) = y := by rw [pi_shift d c hy 0]; rfl
      rw [e0]
      congr 1
      apply List.map_congr_left
      intro i _
      show pi d y (i + 1) = pi d c (i + 1 + 1)
      rw [pi_shift d c hy (i + 1)]
theorem pi_lt {d c : Nat} (hd : d < 4) (hc : c < 36) {n : Nat} (h : pin d c n) : ∀ i, i ≤ n → pi d c i < 36
  | 0, _ => hc
  | i + 1, hi => bs_lt _ (pi_lt hd hc h i (by omega)) d hd _ (h i (by omega))
theorem pi_mono {d c : Nat} (hd : d < 4) (hc : c < 36) {n : Nat} (h : pin d c n) (i : Nat) : ∀ k, i + k + 1 ≤ n → ((d = 1 ∨ d = 2) ∧ pi d c i < pi d c (i + k + 1)) ∨ ((d = 0 ∨ d = 3) ∧ pi d c (i + k + 1) < pi d c i)
  | 0, hi => bs_dir _ (pi_lt hd hc h i (by omega)) d hd _ (pi_lt hd hc h (i + 1) (by omega)) (h i (by omega))
  | k + 1, hi => by
    have h1 := pi_mono hd hc h i k (by omega)
    have h2 := bs_dir _ (pi_lt hd hc h (i + k + 1) (by omega)) d hd _ (pi_lt hd hc h (i + k + 1 + 1) (by omega)) (h (i + k + 1) (by omega))
    rw [show i + (k + 1) + 1 = i + k + 1 + 1 by omega]
    omega
theorem pi_inj {d c : Nat} (hd : d < 4) (hc : c < 36) {n : Nat} (h : pin d c n) {i j : Nat} (hi : i ≤ n) (hj : j ≤ n) (e : pi d c i = pi d c j) : i = j := by
  rcases Nat.lt_trichotomy i j with q | q | q
  · have := pi_mono hd hc h i (j - i - 1) (by omega)
    rw [show i + (j - i - 1) + 1 = j by omega] at this
    omega
  · exact q
  · have := pi_mono hd hc h j (i - j - 1) (by omega)
    rw [show j + (i - j - 1) + 1 = i by omega] at this
    omega
/-- what a row's count says of its cells -/
theorem rl_row {K : Nat → Nat} {T : Nat → Bool} {d : Nat} : ∀ (f c r : Nat), rl K T d f (bs c d) = some r → (∀ i, 1 ≤ i → i ≤ r → T (pi d c i) = true) ∧ T (pi d c (r + 1)) = false ∧ K (pi d c (r + 1)) ≠ 1
  | 0, c, r, h => by simp [rl] at h
  | f + 1, c, r, h => by
    cases ho : bs c d with
    | none => rw [ho] at h; simp [rl] at h
    | some x =>
      rw [ho] at h
      have h : (if T x then (rl K T d f (bs x d)).map (· + 1) else if K x = 1 then none else some 0) = some r := h
      have e1 : pi d c 1 = x := by rw [pi_shift d c ho 0]; rfl
      by_cases ht : T x = true
      · rw [if_pos ht] at h
        obtain ⟨r', h1, rfl⟩ := Option.map_eq_some_iff.mp h
        obtain ⟨g1, g2, g3⟩ := rl_row f x r' h1
        refine ⟨fun i hi1 hi2 => ?_, ?_, ?_⟩
        · obtain ⟨k, rfl⟩ : ∃ k, i = k + 1 := ⟨i - 1, by omega⟩
          rw [pi_shift d c ho k]
          cases k with
          | zero => exact ht
          | succ k => exact g1 (k + 1) (by omega) (by omega)
        · rw [pi_shift d c ho (r' + 1)]; exact g2
        · rw [pi_shift d c ho (r' + 1)]; exact g3
      · rw [if_neg ht] at h
        split at h
        · cases h
        · cases h
          exact ⟨fun i h1 h2 => by omega, by rw [e1]; simpa using ht, by rw [e1]; assumption⟩
/-- the thing of a cell goes to another cell: crates, the two robots' cells -/
abbrev Th : Type := (Nat → Bool) × Nat × Nat
def mv (x y : Nat) (t : Th) : Th := if t.2.1 = x then (t.1, y, t.2.2) else if t.2.2 = x then (t.1, t.2.1, y) else (fun z => if z = y then true else if z = x then false else t.1 z, t.2.1, t.2.2)
/-- the things of the cells j .. r of a way go one further, the last first -/
def psh (d c : Nat) : Nat → Th → Th
  | 0, t => mv (pi d c 0) (pi d c 1) t
  | i + 1, t => psh d c i (mv (pi d c (i + 1)) (pi d c (i + 2)) t)
