/-! The reference's moves: the things of a way go one further, the last first -/
/-- a row of the reference, all but crates and the robots' cells as in another row -/
def RSE (s s0 : Nat → Int32) : Prop := ∀ k, (k < 36 ∨ 72 ≤ k) → k ≠ 72 → k ≠ 81 → s k = s0 k
theorem RS_cong {s s0 : Nat → Int32} {K : Nat → Nat} {C : Nat → Bool} {c0 c1 : Nat} (h : RS s0 K C c0 c1) (t : Th) (hE : RSE s s0) (hC : ∀ x, x < 36 → s (36 + x) = (if t.1 x then (1 : Int32) else 0)) (h0 : s 72 = nI t.2.1) (h1 : s 81 = nI t.2.2) : RS s K t.1 t.2.1 t.2.2 :=
  ⟨fun x hx => ⟨by rw [hE x (Or.inl hx) (by omega) (by omega)]; exact (h.1 x hx).1, hC x hx⟩, h0, h1⟩
theorem g_carry {s : Nat → Int32} {K : Nat → Nat} {t : Th} {x y : Nat} (h : RS s K t.1 t.2.1 t.2.2) (h0 : t.2.1 < 36) (h1 : t.2.2 < 36) (hx : x < 36) (hy : y < 36) :
    ∃ s1, mX9_carry s (nI x) (nI y) = some s1 ∧ RS s1 K (mv x y t).1 (mv x y t).2.1 (mv x y t).2.2 ∧ RSE s1 s := by
  unfold mX9_carry
  rw [g_robotAt h h0 h1 hx, bo1_some]
  unfold mv
  by_cases e0 : t.2.1 = x
  · rw [if_pos e0, if_neg (by decide)]
    refine ⟨upd s 72 (nI y), ?_, ?_, ?_⟩
    · have := g_puts s (r := 0) (k := 0) (by decide) (by decide) (nI y)
      show bo1 (mX9_puts s (0 : Int32) (0 : Int32) (nI y)) _ = _
      rw [show mX9_puts s (0 : Int32) (0 : Int32) (nI y) = some (upd s 72 (nI y)) from this]; rfl
    · rw [if_pos e0]
      refine ⟨fun z hz => ⟨?_, ?_⟩, ?_, ?_⟩
      · rw [show upd s 72 (nI y) z = s z from if_neg (by omega)]; exact (h.1 z hz).1
      · rw [show upd s 72 (nI y) (36 + z) = s (36 + z) from if_neg (by omega)]; exact (h.1 z hz).2
      · rfl
      · exact h.2.2
    · intro k _ hk _
      exact if_neg hk
  · rw [if_neg e0]
    by_cases e1 : t.2.2 = x
    · rw [if_pos e1, if_neg (by decide)]
      refine ⟨upd s 81 (nI y), ?_, ?_, ?_⟩
      · have := g_puts s (r := 1) (k := 0) (by decide) (by decide) (nI y)
        show bo1 (mX9_puts s (1 : Int32) (0 : Int32) (nI y)) _ = _
        rw [show mX9_puts s (1 : Int32) (0 : Int32) (nI y) = some (upd s 81 (nI y)) from this]; rfl
      · rw [if_neg e0, if_pos e1]
        refine ⟨fun z hz => ⟨?_, ?_⟩, ?_, ?_⟩
        · rw [show upd s 81 (nI y) z = s z from if_neg (by omega)]; exact (h.1 z hz).1
        · rw [show upd s 81 (nI y) (36 + z) = s (36 + z) from if_neg (by omega)]; exact (h.1 z hz).2
        · exact h.2.1
        · rfl
      · intro k _ _ hk
        exact if_neg hk
    · rw [if_neg e1, if_pos rfl, g_crate hx, g_crate hy, if_pos (g_idx (by omega) 117 (by omega)), if_pos (g_idx (by omega) 117 (by omega)), nI_clamp (by omega), nI_clamp (by omega)]
      refine ⟨_, rfl, ?_, ?_⟩
      · rw [if_neg e0, if_neg e1]
        refine ⟨fun z hz => ⟨?_, ?_⟩, ?_, ?_⟩
        · show upd (upd s (36 + x) 0) (36 + y) 1 z = _
          rw [show upd (upd s (36 + x) (0 : Int32)) (36 + y) 1 z = upd s (36 + x) 0 z from if_neg (by omega), show upd s (36 + x) (0 : Int32) z = s z from if_neg (by omega)]
          exact (h.1 z hz).1
        · show upd (upd s (36 + x) 0) (36 + y) 1 (36 + z) = if (if z = y then true else if z = x then false else t.1 z) = true then (1 : Int32) else 0
          by_cases ey : z = y
          · rw [if_pos ey]; subst ey; exact if_pos rfl
          · rw [if_neg ey, show upd (upd s (36 + x) (0 : Int32)) (36 + y) 1 (36 + z) = upd s (36 + x) 0 (36 + z) from if_neg (by omega)]
            by_cases ex : z = x
            · rw [if_pos ex]; subst ex; exact if_pos rfl
            · rw [if_neg ex, show upd s (36 + x) (0 : Int32) (36 + z) = s (36 + z) from if_neg (by omega)]
              exact (h.1 z hz).2
        · show upd (upd s (36 + x) 0) (36 + y) 1 72 = _
          rw [show upd (upd s (36 + x) (0 : Int32)) (36 + y) 1 72 = upd s (36 + x) 0 72 from if_neg (by omega), show upd s (36 + x) (0 : Int32) 72 = s 72 from if_neg (by omega)]
          exact h.2.1
        · show upd (upd s (36 + x) 0) (36 + y) 1 81 = _
          rw [show upd (upd s (36 + x) (0 : Int32)) (36 + y) 1 81 = upd s (36 + x) 0 81 from if_neg (by omega), show upd s (36 + x) (0 : Int32) 81 = s 81 from if_neg (by omega)]
          exact h.2.2
      · intro k hk _ _
        show upd (upd s (36 + x) 0) (36 + y) 1 k = s k
        rw [show upd (upd s (36 + x) (0 : Int32)) (36 + y) 1 k = upd s (36 + x) 0 k from if_neg (by omega), show upd s (36 + x) (0 : Int32) k = s k from if_neg (by omega)]
theorem mv_lt {x y : Nat} {t : Th} (h0 : t.2.1 < 36) (h1 : t.2.2 < 36) (hy : y < 36) : (mv x y t).2.1 < 36 ∧ (mv x y t).2.2 < 36 := by
  unfold mv
  split
  · exact ⟨hy, h1⟩
  · split
    · exact ⟨h0, hy⟩
    · exact ⟨h0, h1⟩
theorem psh_lt {d c n : Nat} (hd : d < 4) (hc : c < 36) (hp : pin d c n) : ∀ (i : Nat) (t : Th), i < n → t.2.1 < 36 → t.2.2 < 36 → (psh d c i t).2.1 < 36 ∧ (psh d c i t).2.2 < 36
  | 0, t, hi, h0, h1 => mv_lt h0 h1 (pi_lt hd hc hp 1 (by omega))
  | i + 1, t, hi, h0, h1 => by
    have := mv_lt (x := pi d c (i + 1)) (t := t) h0 h1 (pi_lt hd hc hp (i + 2) (by omega))
    exact psh_lt hd hc hp i _ (by omega) this.1 this.2
theorem g_moves_L58 {vwy vah : Nat → Int32} {K : Nat → Nat} {d c r a : Nat} (hd : d < 4) (hc : c < 36) (ha : a < 2) (hr : r < 10) (hp : pin d c (r + 1)) (hw : vwy a = nI d) (hh : vah a = nI r) :
    ∀ (i n k : Nat) (s : Nat → Int32) (t : Th), i < n → k + i = r + 1 → (i = 0 ∨ True) → RS s K t.1 t.2.1 t.2.2 → t.2.1 < 36 → t.2.2 < 36 → ∀ last : Int32, (∀ j, i = j + 1 → last = nI (pi d c j)) →
      ∃ s1, mX9_moves_L58 n vwy vah s (nI a) last (nI ((d + 2) % 4)) (nI k) = some (upd (upd s1 (72 + 9 * a + 3) (s1 (72 + 9 * a + 3) + 1)) (72 + 9 * a + 5) (upd s1 (72 + 9 * a + 3) (s1 (72 + 9 * a + 3) + 1) (72 + 9 * a + 5) + nI r)) ∧
        RS s1 K (match i with | 0 => t | j + 1 => psh d c j t).1 (match i with | 0 => t | j + 1 => psh d c j t).2.1 (match i with | 0 => t | j + 1 => psh d c j t).2.2 ∧ RSE s1 s := by
  intro i
  induction i with
  | zero =>
    intro n k s t hn hk _ h h0 h1 last hl
    obtain ⟨n, rfl⟩ : ∃ m, n = m + 1 := ⟨n - 1, by omega⟩
    refine ⟨s, ?_, h, fun k _ _ _ => rfl⟩
    unfold mX9_moves_L58
    rw [if_pos (g_idx (by omega) 2 (by omega)), nI_clamp (by omega), hh, if_pos (by rw [pu_lt (by omega) (by omega)]; omega)]
    have e3 := g_adds s (r := a) (k := 3) ha (by decide) 1
    have e5 := g_adds (upd s (72 + 9 * a + 3) (s (72 + 9 * a + 3) + 1)) (r := a) (k := 5) ha (by decide) (nI r)
    rw [show mX9_adds s (nI a) (3 : Int32) (1 : Int32) = _ from e3, bo1_some, show mX9_adds (upd s (72 + 9 * a + 3) (s (72 + 9 * a + 3) + 1)) (nI a) (5 : Int32) (nI r) = _ from e5, bo1_some]
  | succ i ih =>
    intro n k s t hn hk _ h h0 h1 last hl
    obtain ⟨n, rfl⟩ : ∃ m, n = m + 1 := ⟨n - 1, by omega⟩
    have hlast := hl i rfl
    subst hlast
    have hx := pi_lt hd hc hp i (by omega)
    have hy := pi_lt hd hc hp (i + 1) (by omega)
    obtain ⟨s1, g1, g2, g3⟩ := g_carry (x := pi d c i) (y := pi d c (i + 1)) h h0 h1 hx hy
    have hm := mv_lt (x := pi d c i) (t := t) h0 h1 hy
    obtain ⟨s2, k1, k2, k3⟩ := ih n (k + 1) s1 (mv (pi d c i) (pi d c (i + 1)) t) (by omega) (by omega) (Or.inr trivial) g2 hm.1 hm.2 (mX9_next (nI (pi d c i)) (nI ((d + 2) % 4))) (fun j hj => by
      subst hj
      have hb := bs_back1 (pi d c j) (pi_lt hd hc hp j (by omega)) d hd (pi d c (j + 1)) (hp j (by omega))
      rw [pu_next (pi d c (j + 1)) hx ((d + 2) % 4) (Nat.mod_lt _ (by decide)), hb]; rfl)
    refine ⟨s2, ?_, ?_, fun k h1 h2 h3 => (k3 k h1 h2 h3).trans (g3 k h1 h2 h3)⟩
    · unfold mX9_moves_L58
      rw [if_pos (g_idx (by omega) 2 (by omega)), nI_clamp (by omega), hh, hw, if_neg (by rw [pu_lt (by omega) (by omega)]; omega), pu_next (pi d c i) hx d hd, hp i (by omega), opI_some, g1, bo1_some, nI_1]
      exact k1
    · cases i with
      | zero => exact k2
      | succ j => exact k2
theorem g_moves_L13 {vwy vah : Nat → Int32} {s : Nat → Int32} {d c r a : Nat} (hd : d < 4) (hc : c < 36) (ha : a < 2) (hr : r < 10) (hp : pin d c (r + 1)) (hw : vwy a = nI d) (hh : vah a = nI r) :
    ∀ (j n k : Nat), j < n → k + j = r → mX9_moves_L13 n vwy vah s (nI a) (nI (pi d c k)) (nI k) = mX9_moves_L58 4096 vwy vah s (nI a) (nI (pi d c r)) (nI ((d + 2) % 4)) (0 : Int32) := by
  intro j
  induction j with
  | zero =>
    intro n k hn hk
    obtain ⟨n, rfl⟩ : ∃ m, n = m + 1 := ⟨n - 1, by omega⟩
    unfold mX9_moves_L13
    rw [if_pos (g_idx (by omega) 2 (by omega)), nI_clamp (by omega), hh, hw, if_pos (by rw [pu_le (by omega) (by omega)]; omega), show nI d + (2 : Int32) = nI (d + 2) from nI_add d 2, jrem4 (by omega), show k = r by omega]
  | succ j ih =>
    intro n k hn hk
    obtain ⟨n, rfl⟩ : ∃ m, n = m + 1 := ⟨n - 1, by omega⟩
    unfold mX9_moves_L13
    rw [if_pos (g_idx (by omega) 2 (by omega)), nI_clamp (by omega), hh, hw, if_neg (by rw [pu_le (by omega) (by omega)]; omega), pu_next (pi d c k) (pi_lt hd hc hp k (by omega)) d hd, hp k (by omega), opI_some, nI_1]
    exact ih n (k + 1) (by omega) (by omega)
