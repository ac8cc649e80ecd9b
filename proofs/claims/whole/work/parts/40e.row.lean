/-! Rows of things: the reference's count and the class's way are one list of cells -/
def th (C : Nat → Bool) (c0 c1 x : Nat) : Bool := C x || x == c0 || x == c1
/-- a row of the reference: kinds, crates, the robots' cells -/
def RS (s : Nat → Int32) (K : Nat → Nat) (C : Nat → Bool) (c0 c1 : Nat) : Prop :=
  (∀ x, x < 36 → s x = nI (K x) ∧ s (36 + x) = (if C x then (1 : Int32) else 0)) ∧ s 72 = nI c0 ∧ s 81 = nI c1
/-- things lie apart, and on no block -/
def RK (K : Nat → Nat) (C : Nat → Bool) (c0 c1 : Nat) : Prop :=
  (∀ x, x < 36 → K x < 7 ∧ (C x = true → K x ≠ 1)) ∧ c0 < 36 ∧ c1 < 36 ∧ c0 ≠ c1 ∧ C c0 = false ∧ C c1 = false ∧ K c0 ≠ 1 ∧ K c1 ≠ 1
theorem nI_inj {a b : Nat} (ha : a < 2 ^ 31) (hb : b < 2 ^ 31) : nI a = nI b ↔ a = b := nI_eq ha hb
theorem opI_some {x : Nat} : opI (some x) = nI x := rfl
theorem opI_neg {o : Option Nat} (h : ∀ x, o = some x → x < 36) : opI o = -1 ↔ o = none := opI_none h
theorem g_idx {a : Nat} (h : a < 2 ^ 31) (N : Nat) (hN : a < N) : ¬ (nI a < 0 ∨ N ≤ (nI a).toNatClampNeg) := by
  rw [nI_clamp h]
  exact fun q => q.elim (pu_neg h) (fun q => by omega)
theorem g_of (s : Nat → Int32) {r k : Nat} (hr : r < 2) (hk : k < 9) : mX9_of s (nI r) (nI k) = some (s (72 + 9 * r + k)) := by
  have e : (((72 : Int32) + ((9 : Int32) * nI r)) + nI k) = nI (72 + 9 * r + k) := by
    have h9 : ∀ r, r < 2 → ∀ k, k < 9 → (((72 : Int32) + ((9 : Int32) * nI r)) + nI k) = nI (72 + 9 * r + k) := by decide +kernel
    exact h9 r hr k hk
  unfold mX9_of
  rw [e, if_pos (g_idx (by omega) 117 (by omega)), nI_clamp (by omega)]
theorem g_puts (s : Nat → Int32) {r k : Nat} (hr : r < 2) (hk : k < 9) (v : Int32) : mX9_puts s (nI r) (nI k) v = some (upd s (72 + 9 * r + k) v) := by
  have e : (((72 : Int32) + ((9 : Int32) * nI r)) + nI k) = nI (72 + 9 * r + k) := by
    have h9 : ∀ r, r < 2 → ∀ k, k < 9 → (((72 : Int32) + ((9 : Int32) * nI r)) + nI k) = nI (72 + 9 * r + k) := by decide +kernel
    exact h9 r hr k hk
  unfold mX9_puts
  rw [e, if_pos (g_idx (by omega) 117 (by omega)), nI_clamp (by omega)]
theorem g_adds (s : Nat → Int32) {r k : Nat} (hr : r < 2) (hk : k < 9) (v : Int32) : mX9_adds s (nI r) (nI k) v = some (upd s (72 + 9 * r + k) (s (72 + 9 * r + k) + v)) := by
  have e : (((72 : Int32) + ((9 : Int32) * nI r)) + nI k) = nI (72 + 9 * r + k) := by
    have h9 : ∀ r, r < 2 → ∀ k, k < 9 → (((72 : Int32) + ((9 : Int32) * nI r)) + nI k) = nI (72 + 9 * r + k) := by decide +kernel
    exact h9 r hr k hk
  unfold mX9_adds
  rw [e, if_pos (g_idx (by omega) 117 (by omega)), nI_clamp (by omega)]
theorem bo1_some {α β : Type} (a : α) (f : α → Option β) : bo1 (some a) f = f a := rfl
theorem g_robotAt {s : Nat → Int32} {K : Nat → Nat} {C : Nat → Bool} {c0 c1 x : Nat} (h : RS s K C c0 c1) (h0 : c0 < 36) (h1 : c1 < 36) (hx : x < 36) : mX9_robotAt s (nI x) = some (if c0 = x then 0 else if c1 = x then 1 else -1) := by
  have e0 : mX9_of s (0 : Int32) (0 : Int32) = some (nI c0) := (g_of s (r := 0) (k := 0) (by decide) (by decide)).trans (by rw [h.2.1])
  have e1 : mX9_of s (1 : Int32) (0 : Int32) = some (nI c1) := (g_of s (r := 1) (k := 0) (by decide) (by decide)).trans (by rw [h.2.2])
  unfold mX9_robotAt
  rw [e0, bo1_some, e1, bo1_some]
  simp only [nI_inj (show c0 < 2 ^ 31 by omega) (show x < 2 ^ 31 by omega), nI_inj (show c1 < 2 ^ 31 by omega) (show x < 2 ^ 31 by omega)]
  split
  · rfl
  · split <;> rfl
theorem g_crate {x : Nat} (hx : x < 36) : ((36 : Int32) + nI x) = nI (36 + x) := by
  have h : ∀ x, x < 36 → ((36 : Int32) + nI x) = nI (36 + x) := by decide +kernel
  exact h x hx
theorem g_hasThing {s : Nat → Int32} {K : Nat → Nat} {C : Nat → Bool} {c0 c1 x : Nat} (h : RS s K C c0 c1) (h0 : c0 < 36) (h1 : c1 < 36) (hx : x < 36) : mX9_hasThing s (nI x) = some (if th C c0 c1 x then 1 else 0) := by
  unfold mX9_hasThing
  rw [g_crate hx, if_pos (g_idx (by omega) 117 (by omega)), nI_clamp (by omega), (h.1 x hx).2, g_robotAt h h0 h1 hx, bo1_some]
  unfold th
  by_cases hc : C x = true
  · simp [hc]
  · have hc' : C x = false := by simpa using hc
    simp only [hc', Bool.false_or, if_neg (show ¬ (false = true) by decide), if_neg (show ¬ ((0 : Int32) = 1) by decide)]
    by_cases e0 : c0 = x
    · subst e0; simp
    · by_cases e1 : c1 = x
      · subst e1
        have : ¬ (c1 = c0) := fun q => e0 q.symm
        simp [e0]
      · have e0' : ¬ x = c0 := fun q => e0 q.symm
        have e1' : ¬ x = c1 := fun q => e1 q.symm
        simp [e0, e1, e0', e1']
/-- how many things are ahead, the next cell being o; none where it is blocked -/
def rl (K : Nat → Nat) (T : Nat → Bool) (d : Nat) : Nat → Option Nat → Option Nat
  | 0, _ => none
  | _ + 1, none => none
  | f + 1, some x => if T x then (rl K T d f (bs x d)).map (· + 1) else if K x = 1 then none else some 0
/-- the edge is reached in at most f cells -/
def pe (d : Nat) : Nat → Option Nat → Bool
  | _, none => true
  | 0, some _ => false
  | f + 1, some x => pe d f (bs x d)
theorem pe_5 : ∀ c, c < 36 → ∀ d, d < 4 → pe d 5 (bs c d) = true := by decide +kernel
theorem g_rowFrom_L {s : Nat → Int32} {K : Nat → Nat} {C : Nat → Bool} {c0 c1 d : Nat} (h : RS s K C c0 c1) (hk : RK K C c0 c1) (hd : d < 4) :
    ∀ (f n k : Nat) (o : Option Nat), f < n → f + k < 100 → pe d f o = true → (∀ x, o = some x → x < 36) →
      mX9_rowFrom_L9 n s (nI d) (nI k) (opI o) = some (match rl K (th C c0 c1) d (f + 1) o with | none => -1 | some r => nI (k + r)) := by
  intro f
  induction f with
  | zero =>
    intro n k o hn hfk hp ho
    obtain ⟨n, rfl⟩ : ∃ m, n = m + 1 := ⟨n - 1, by omega⟩
    cases o with
    | none =>
      unfold mX9_rowFrom_L9
      rw [if_pos (show opI none = -1 from rfl)]
      unfold mX9_rowFrom_J38
      rw [if_pos (show opI none = -1 from rfl)]
      rfl
    | some x => simp [pe] at hp
  | succ f ih =>
    intro n k o hn hfk hp ho
    obtain ⟨n, rfl⟩ : ∃ m, n = m + 1 := ⟨n - 1, by omega⟩
    cases o with
    | none =>
      unfold mX9_rowFrom_L9
      rw [if_pos (show opI none = -1 from rfl)]
      unfold mX9_rowFrom_J38
      rw [if_pos (show opI none = -1 from rfl)]
      rfl
    | some x =>
      have hx : x < 36 := ho x rfl
      have hne : ¬ opI (some x) = -1 := fun q => by
        have := (opI_neg ho).mp q
        cases this
      unfold mX9_rowFrom_L9
      rw [if_neg hne, opI_some, g_hasThing h hk.2.1 hk.2.2.1 hx, bo1_some]
      by_cases ht : th C c0 c1 x = true
      · rw [if_pos ht, if_neg (by decide), pu_next x hx d hd, show nI k + (1 : Int32) = nI (k + 1) from nI_1 k, ih n (k + 1) (bs x d) (by omega) (by omega) (by simpa [pe] using hp) (fun y hy => bs_lt x hx d hd y hy)]
        congr 1
        show _ = match (if th C c0 c1 x then (rl K (th C c0 c1) d (f + 1) (bs x d)).map (· + 1) else if K x = 1 then none else some 0) with | none => -1 | some r => nI (k + r)
        rw [if_pos ht]
        cases rl K (th C c0 c1) d (f + 1) (bs x d) with
        | none => rfl
        | some r => show nI (k + 1 + r) = nI (k + (r + 1)); congr 1; omega
      · rw [if_neg ht, if_pos rfl]
        unfold mX9_rowFrom_J38
        rw [opI_some] at hne
        rw [if_neg hne, if_pos (g_idx (by omega) 117 (by omega)), nI_clamp (by omega), (h.1 x hx).1]
        show _ = some (match (if th C c0 c1 x then (rl K (th C c0 c1) d (f + 1) (bs x d)).map (· + 1) else if K x = 1 then none else some 0) with | none => -1 | some r => nI (k + r))
        rw [if_neg ht]
        have hK := (hk.1 x hx).1
        have e1 : nI (K x) = (1 : Int32) ↔ K x = 1 := nI_inj (a := K x) (b := 1) (by omega) (by decide)
        by_cases hb : K x = 1
        · rw [if_pos (e1.mpr hb), if_pos hb]
        · rw [if_neg (fun q => hb (e1.mp q)), if_neg hb]; rfl
theorem g_rowFrom {s : Nat → Int32} {K : Nat → Nat} {C : Nat → Bool} {c0 c1 d c : Nat} (h : RS s K C c0 c1) (hk : RK K C c0 c1) (hd : d < 4) (hc : c < 36) :
    mX9_rowFrom s (nI c) (nI d) = some (match rl K (th C c0 c1) d 6 (bs c d) with | none => -1 | some r => nI r) := by
  unfold mX9_rowFrom
  rw [pu_next c hc d hd]
  have := g_rowFrom_L h hk hd 5 4096 0 (bs c d) (by decide) (by decide) (pe_5 c hc d hd) (fun y hy => bs_lt c hc d hd y hy)
  rw [show (0 : Int32) = nI 0 from by decide +kernel, this]
  congr 1
  cases rl K (th C c0 c1) d 6 (bs c d) with
  | none => rfl
  | some r => show nI (0 + r) = nI r; rw [Nat.zero_add]
