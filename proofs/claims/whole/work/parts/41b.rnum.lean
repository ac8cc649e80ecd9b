/-! The class's number of both robots; what the reference compares -/
theorem lg_eq {a b : Int64} : lg_cmp a b = 0 ↔ a = b := by
  unfold lg_cmp
  constructor
  · intro h
    apply Classical.byContradiction
    intro q
    simp only [q, if_false] at h
    revert h
    split <;> decide
  · intro h; subst h
    simp
theorem nI_orI {a b : Nat} (ha : a < 2 ^ 32) (hb : b < 2 ^ 32) : nI a ||| nI b = nI (a ||| b) := by
  apply Int32.toBitVec_inj.mp
  rw [Int32.toBitVec_or]
  show BitVec.ofNat 32 a ||| BitVec.ofNat 32 b = BitVec.ofNat 32 (a ||| b)
  apply BitVec.eq_of_toNat_eq
  rw [BitVec.toNat_or, BitVec.toNat_ofNat, BitVec.toNat_ofNat, BitVec.toNat_ofNat, Nat.mod_eq_of_lt ha, Nat.mod_eq_of_lt hb, Nat.mod_eq_of_lt (Nat.or_lt_two_pow ha hb)]
theorem or_add {a b k : Nat} (ha : a < 2 ^ k) : a ||| b * 2 ^ k = a + b * 2 ^ k := by
  rw [Nat.or_comm, Nat.mul_comm, ← Nat.two_pow_add_eq_or_of_lt ha, Nat.add_comm]
theorem rn_6 : ∀ f, f < 4 → jshli (nI f) (6 : Int32) = nI (f * 2 ^ 6) := by decide +kernel
theorem rn_8 : ∀ x, x < 6 → jshli (nI x) (8 : Int32) = nI (x * 2 ^ 8) := by decide +kernel
theorem rn_11 : ∀ p, p < 11 → jshli (nI p) (11 : Int32) = nI (p * 2 ^ 11) := by decide +kernel
def rnm (c f x p : Nat) : Nat := c + f * 2 ^ 6 + x * 2 ^ 8 + p * 2 ^ 11
theorem nI_toI {a : Nat} (h : a < 2 ^ 31) : (nI a).toInt64 = lN a := by
  apply Int64.toBitVec_inj.mp
  rw [Int32.toBitVec_toInt64]
  show (BitVec.ofNat 32 a).signExtend 64 = BitVec.ofNat 64 a
  rw [BitVec.signExtend_eq_setWidth_of_msb_false]
  · apply BitVec.eq_of_toNat_eq
    rw [BitVec.toNat_setWidth, BitVec.toNat_ofNat, BitVec.toNat_ofNat, Nat.mod_eq_of_lt (a := a) (b := 2 ^ 32) (by omega)]
  · rw [BitVec.msb_eq_decide, BitVec.toNat_ofNat, Nat.mod_eq_of_lt (a := a) (b := 2 ^ 32) (by omega)]
    simp; omega
theorem v_num {vf : Nat → Int32} {c f x p : Nat} (h0 : vf 0 = nI c) (h1 : vf 1 = nI f) (h2 : vf 2 = nI x) (h7 : vf 7 = nI p) (hc : c < 36) (hf : f < 4) (hx : x < 6) (hp : p < 11) : mX1_asNumber vf = lN (rnm c f x p) := by
  unfold mX1_asNumber
  rw [h0, h1, h2, h7, rn_6 f hf, rn_8 x hx, rn_11 p hp, nI_orI (by omega) (by omega), or_add (show c < 2 ^ 6 by omega), nI_orI (by omega) (by omega), or_add (show c + f * 2 ^ 6 < 2 ^ 8 by omega), nI_orI (by omega) (by omega), or_add (show c + f * 2 ^ 6 + x * 2 ^ 8 < 2 ^ 11 by omega), nI_toI (by omega)]
  rfl
theorem rnm_lt {c f x p : Nat} (hc : c < 36) (hf : f < 4) (hx : x < 6) (hp : p < 11) : rnm c f x p < 2 ^ 15 := by unfold rnm; omega
theorem rnm_inj {c f x p c' f' x' p' : Nat} (hc : c < 36) (hf : f < 4) (hx : x < 6) (hc' : c' < 36) (hf' : f' < 4) (hx' : x' < 6) (h : rnm c f x p = rnm c' f' x' p') : c = c' ∧ f = f' ∧ x = x' ∧ p = p' := by
  unfold rnm at h
  omega
theorem v_nums {a b : Nat} (ha : a < 2 ^ 15) (hb : b < 2 ^ 15) : (jshll (lN a) (32 : Int32)) ||| lN b = lN (b + a * 2 ^ 32) := by
  have : jshll (lN a) (32 : Int32) = lN (a * 2 ^ 32) := wb_shl a (k := 32) (by decide)
  rw [this, wb_or (by omega) (by omega), Nat.or_comm, or_add (by omega)]
/-- alike, as the reference has it -/
def LK (s t : Nat → Int32) : Prop := (∀ x, x < 36 → s (36 + x) = t (36 + x)) ∧ ∀ r, r < 2 → s (72 + 9 * r) = t (72 + 9 * r) ∧ s (72 + 9 * r + 1) = t (72 + 9 * r + 1) ∧ s (72 + 9 * r + 2) = t (72 + 9 * r + 2) ∧ s (72 + 9 * r + 7) = t (72 + 9 * r + 7)
theorem g_like2 {s t : Nat → Int32} (l : Bool) : ∀ (j n r : Nat) (b : Bool), j < n → r + j = 2 → (b = true ↔ ∀ q, q < r → s (72 + 9 * q) = t (72 + 9 * q) ∧ s (72 + 9 * q + 1) = t (72 + 9 * q + 1) ∧ s (72 + 9 * q + 2) = t (72 + 9 * q + 2) ∧ s (72 + 9 * q + 7) = t (72 + 9 * q + 7)) →
      ∃ b' : Bool, mX9_areLike_L35 n s t (if b then 1 else 0) (nI r) = some (if b' then 1 else 0) ∧ (b' = true ↔ ∀ q, q < 2 → s (72 + 9 * q) = t (72 + 9 * q) ∧ s (72 + 9 * q + 1) = t (72 + 9 * q + 1) ∧ s (72 + 9 * q + 2) = t (72 + 9 * q + 2) ∧ s (72 + 9 * q + 7) = t (72 + 9 * q + 7)) := by
  intro j
  induction j with
  | zero =>
    intro n r b hn hr hb
    obtain ⟨n, rfl⟩ : ∃ m, n = m + 1 := ⟨n - 1, by omega⟩
    obtain rfl : r = 2 := by omega
    refine ⟨b, ?_, hb⟩
    unfold mX9_areLike_L35
    rw [if_pos (by decide), if_pos (by cases b <;> simp)]
  | succ j ih =>
    intro n r b hn hr hb
    obtain ⟨n, rfl⟩ : ∃ m, n = m + 1 := ⟨n - 1, by omega⟩
    have hr2 : ¬ ((2 : Int32) ≤ nI r) := nI_leF (b := 2) (by omega) (by decide) (by omega)
    have step : ∀ b' : Bool, (b' = true ↔ ∀ q, q < r + 1 → s (72 + 9 * q) = t (72 + 9 * q) ∧ s (72 + 9 * q + 1) = t (72 + 9 * q + 1) ∧ s (72 + 9 * q + 2) = t (72 + 9 * q + 2) ∧ s (72 + 9 * q + 7) = t (72 + 9 * q + 7)) →
        ∃ b'' : Bool, mX9_areLike_J111 (fun vs vt l2 l3 => mX9_areLike_L35 n vs vt l2 l3) s t (nI r) (if b' then 1 else 0) = some (if b'' then 1 else 0) ∧ (b'' = true ↔ ∀ q, q < 2 → s (72 + 9 * q) = t (72 + 9 * q) ∧ s (72 + 9 * q + 1) = t (72 + 9 * q + 1) ∧ s (72 + 9 * q + 2) = t (72 + 9 * q + 2) ∧ s (72 + 9 * q + 7) = t (72 + 9 * q + 7)) := fun b' hb' => by
      unfold mX9_areLike_J111
      rw [nI_1]
      exact ih n (r + 1) b' (by omega) (by omega) hb'
    have no : ¬ (s (72 + 9 * r) = t (72 + 9 * r) ∧ s (72 + 9 * r + 1) = t (72 + 9 * r + 1) ∧ s (72 + 9 * r + 2) = t (72 + 9 * r + 2) ∧ s (72 + 9 * r + 7) = t (72 + 9 * r + 7)) ∨ b = false →
        ∃ b'' : Bool, mX9_areLike_J110 (fun vs vt l2 l3 => mX9_areLike_L35 n vs vt l2 l3) s t (nI r) = some (if b'' then 1 else 0) ∧ (b'' = true ↔ ∀ q, q < 2 → s (72 + 9 * q) = t (72 + 9 * q) ∧ s (72 + 9 * q + 1) = t (72 + 9 * q + 1) ∧ s (72 + 9 * q + 2) = t (72 + 9 * q + 2) ∧ s (72 + 9 * q + 7) = t (72 + 9 * q + 7)) := fun q => by
      unfold mX9_areLike_J110
      refine step false ⟨fun z => (by cases z), fun z => ?_⟩
      rcases q with q | q
      · exact absurd (z r (by omega)) q
      · rw [← q]; exact hb.mpr (fun k hk => z k (by omega))
    have o0 : ∀ u : Nat → Int32, mX9_of u (nI r) (0 : Int32) = some (u (72 + 9 * r)) := fun u => g_of u (k := 0) (by omega) (by decide)
    have o1 : ∀ u : Nat → Int32, mX9_of u (nI r) (1 : Int32) = some (u (72 + 9 * r + 1)) := fun u => g_of u (k := 1) (by omega) (by decide)
    have o2 : ∀ u : Nat → Int32, mX9_of u (nI r) (2 : Int32) = some (u (72 + 9 * r + 2)) := fun u => g_of u (k := 2) (by omega) (by decide)
    have o7 : ∀ u : Nat → Int32, mX9_of u (nI r) (7 : Int32) = some (u (72 + 9 * r + 7)) := fun u => g_of u (k := 7) (by omega) (by decide)
    unfold mX9_areLike_L35
    rw [if_neg hr2]
    cases b with
    | false =>
      rw [if_pos (show (if false = true then (1 : Int32) else 0) = 0 from rfl)]
      exact no (Or.inr rfl)
    | true =>
      rw [if_neg (show ¬ (if true = true then (1 : Int32) else 0) = 0 by decide), o0, bo1_some, o0, bo1_some]
      by_cases e0 : s (72 + 9 * r) = t (72 + 9 * r)
      · rw [if_pos e0, o1, bo1_some, o1, bo1_some]
        by_cases e1 : s (72 + 9 * r + 1) = t (72 + 9 * r + 1)
        · rw [if_pos e1, o2, bo1_some, o2, bo1_some]
          by_cases e2 : s (72 + 9 * r + 2) = t (72 + 9 * r + 2)
          · rw [if_pos e2, o7, bo1_some, o7, bo1_some]
            by_cases e7 : s (72 + 9 * r + 7) = t (72 + 9 * r + 7)
            · rw [if_pos e7]
              refine step true ⟨fun _ k hk => ?_, fun _ => rfl⟩
              by_cases ek : k = r
              · subst ek; exact ⟨e0, e1, e2, e7⟩
              · exact hb.mp rfl k (by omega)
            · rw [if_neg e7]; exact no (Or.inl (fun z => e7 z.2.2.2))
          · rw [if_neg e2]; exact no (Or.inl (fun z => e2 z.2.2.1))
        · rw [if_neg e1]; exact no (Or.inl (fun z => e1 z.2.1))
      · rw [if_neg e0]; exact no (Or.inl (fun z => e0 z.1))
theorem g_like1 {s t : Nat → Int32} : ∀ (j n c : Nat), j < n → c + j = 36 → (∀ x, x < c → s (36 + x) = t (36 + x)) →
      ∃ b : Bool, mX9_areLike_L2 n s t (nI c) = some (if b then 1 else 0) ∧ (b = true ↔ LK s t) := by
  intro j
  induction j with
  | zero =>
    intro n c hn hc hx
    obtain ⟨n, rfl⟩ : ∃ m, n = m + 1 := ⟨n - 1, by omega⟩
    obtain rfl : c = 36 := by omega
    unfold mX9_areLike_L2
    rw [if_pos le36']
    obtain ⟨b, b1, b2⟩ := g_like2 (s := s) (t := t) true 2 4096 0 true (by decide) (by decide) ⟨fun _ q hq => absurd hq (Nat.not_lt_zero q), fun _ => rfl⟩
    exact ⟨b, b1, b2.trans ⟨fun z => ⟨hx, z⟩, fun z => z.2⟩⟩
  | succ j ih =>
    intro n c hn hc hx
    obtain ⟨n, rfl⟩ : ∃ m, n = m + 1 := ⟨n - 1, by omega⟩
    have hc36 : c < 36 := by omega
    unfold mX9_areLike_L2
    rw [if_neg (le36 hc36), g_crate hc36, if_pos (g_idx117 (by omega)), nI_clamp (by omega), nI_1]
    by_cases e : s (36 + c) = t (36 + c)
    · rw [if_pos e]
      refine ih n (c + 1) (by omega) (by omega) (fun x hxc => ?_)
      by_cases q : x = c
      · subst q; exact e
      · exact hx x (by omega)
    · rw [if_neg e]
      exact ⟨false, rfl, fun z => (by cases z), fun z => absurd (z.1 c hc36) e⟩
theorem g_like (s t : Nat → Int32) : ∃ b : Bool, mX9_areLike s t = some (if b then 1 else 0) ∧ (b = true ↔ LK s t) := by
  unfold mX9_areLike
  exact g_like1 36 4096 0 (by decide) (by decide) (fun x hx => absurd hx (Nat.not_lt_zero x))
theorem RB_num {va vpa s : Nat → Int32} {r f c : Nat} (h : RB va vpa s r f) (h0 : va 0 = nI c) (hc : c < 36) (hs : s (72 + 9 * r) = nI c) : ∃ x p, x < 6 ∧ p < 11 ∧ f < 4 ∧ mX1_asNumber va = lN (rnm c f x p) ∧ s (72 + 9 * r) = nI c ∧ s (72 + 9 * r + 1) = nI f ∧ s (72 + 9 * r + 2) = nI x ∧ s (72 + 9 * r + 7) = nI p := by
  obtain ⟨h1, hR, ⟨hf, p, l, e7, e8, hl, hp, hi⟩, x, x1, x5, hx⟩ := h
  exact ⟨x, p, by omega, by omega, hf, v_num h0 h1 hx e7 hc hf (by omega) (by omega), hs, hR.1, (hR.2.1 2 (by decide) (by decide)).trans hx, (hR.2.1 7 (by decide) (by decide)).trans e7⟩
theorem lN_lt_inj {a b : Nat} (ha : a < 2 ^ 63) (hb : b < 2 ^ 63) : lN a = lN b ↔ a = b := ⟨fun h => lN_inj (by omega) (by omega) h, fun h => by rw [h]⟩
theorem like_iff {vi : Nat → Int32} {vj : Nat → Int64} {vk vc va vpa vb vpb s vi' : Nat → Int32} {vj' : Nat → Int64} {vk' vc' va' vpa' vb' vpb' s' : Nat → Int32} (h : FL vi vj vk vc va vpa vb vpb s) (h' : FL vi' vj' vk' vc' va' vpa' vb' vpb' s') :
    (vj 4 = vj' 4 ∧ mX1_robotsAsNumber va vb = mX1_robotsAsNumber va' vb') ↔ LK s s' := by
  obtain ⟨K, t, f0, f1, m, hV, hS, hk, hB0, hB1, -⟩ := h
  obtain ⟨K', t', f0', f1', m', hV', hS', hk', hB0', hB1', -⟩ := h'
  obtain ⟨x0, p0, a1, a2, a3, a4, a5, a6, a7, a8⟩ := RB_num hB0 hV.2.2.1 hk.2.1 hS.2.1
  obtain ⟨x1, p1, b1, b2, b3, b4, b5, b6, b7, b8⟩ := RB_num hB1 hV.2.2.2 hk.2.2.1 hS.2.2
  obtain ⟨x0', p0', a1', a2', a3', a4', a5', a6', a7', a8'⟩ := RB_num hB0' hV'.2.2.1 hk'.2.1 hS'.2.1
  obtain ⟨x1', p1', b1', b2', b3', b4', b5', b6', b7', b8'⟩ := RB_num hB1' hV'.2.2.2 hk'.2.2.1 hS'.2.2
  have l0 := rnm_lt (p := p0) hk.2.1 a3 a1 a2
  have l1 := rnm_lt (p := p1) hk.2.2.1 b3 b1 b2
  have l0' := rnm_lt (p := p0') hk'.2.1 a3' a1' a2'
  have l1' := rnm_lt (p := p1') hk'.2.2.1 b3' b1' b2'
  have e1 : vj 4 = vj' 4 ↔ ∀ x, x < 36 → s (36 + x) = s' (36 + x) := by
    rw [hV.2.1, hV'.2.1]
    constructor
    · intro q x hx
      rw [(hS.1 x hx).2, (hS'.1 x hx).2, sL_inj q x hx]
    · intro q
      apply sL_cong
      intro x hx
      have := q x hx
      rw [(hS.1 x hx).2, (hS'.1 x hx).2] at this
      cases h1 : t.1 x <;> cases h2 : t'.1 x <;> rw [h1, h2] at this <;> first | rfl | (revert this; decide)
  have nn : ∀ a b, a < 2 ^ 31 → b < 2 ^ 31 → (nI a = nI b ↔ a = b) := fun a b ha hb => nI_inj ha hb
  have e2 : mX1_robotsAsNumber va vb = mX1_robotsAsNumber va' vb' ↔ ∀ r, r < 2 → s (72 + 9 * r) = s' (72 + 9 * r) ∧ s (72 + 9 * r + 1) = s' (72 + 9 * r + 1) ∧ s (72 + 9 * r + 2) = s' (72 + 9 * r + 2) ∧ s (72 + 9 * r + 7) = s' (72 + 9 * r + 7) := by
    have k0 := hk.2.1
    have k1 := hk.2.2.1
    have k0' := hk'.2.1
    have k1' := hk'.2.2.1
    unfold mX1_robotsAsNumber
    rw [a4, b4, a4', b4', v_nums l0 l1, v_nums l0' l1', lN_lt_inj (by omega) (by omega)]
    constructor
    · intro q
      have q0 : rnm t.2.1 f0 x0 p0 = rnm t'.2.1 f0' x0' p0' := by omega
      have q1 : rnm t.2.2 f1 x1 p1 = rnm t'.2.2 f1' x1' p1' := by omega
      obtain ⟨u1, u2, u3, u4⟩ := rnm_inj hk.2.1 a3 a1 hk'.2.1 a3' a1' q0
      obtain ⟨w1, w2, w3, w4⟩ := rnm_inj hk.2.2.1 b3 b1 hk'.2.2.1 b3' b1' q1
      intro r hr
      rcases (show r = 0 ∨ r = 1 by omega) with rfl | rfl
      · rw [a5, a6, a7, a8, a5', a6', a7', a8', u1, u2, u3, u4]; exact ⟨rfl, rfl, rfl, rfl⟩
      · rw [b5, b6, b7, b8, b5', b6', b7', b8', w1, w2, w3, w4]; exact ⟨rfl, rfl, rfl, rfl⟩
    · intro q
      have q0 := q 0 (by decide)
      have q1 := q 1 (by decide)
      rw [a5, a6, a7, a8, a5', a6', a7', a8', nn _ _ (by omega) (by omega), nn _ _ (by omega) (by omega), nn _ _ (by omega) (by omega), nn _ _ (by omega) (by omega)] at q0
      rw [b5, b6, b7, b8, b5', b6', b7', b8', nn _ _ (by omega) (by omega), nn _ _ (by omega) (by omega), nn _ _ (by omega) (by omega), nn _ _ (by omega) (by omega)] at q1
      obtain ⟨u1, u2, u3, u4⟩ := q0
      obtain ⟨w1, w2, w3, w4⟩ := q1
      rw [u1, u2, u3, u4, w1, w2, w3, w4]
  rw [e1, e2]
  exact Iff.rfl
