/-! Both robots: what is off the first one's way stays -/
theorem sh_or {d c n : Nat} (hd : d < 4) (hc : c < 36) (hp : pin d c n) (r : Nat) (hr : r + 1 ≤ n) (z : Nat) : (∃ j, j ≤ r ∧ z = pi d c j ∧ sh d c r z = pi d c (j + 1)) ∨ ((∀ j, j ≤ r → z ≠ pi d c j) ∧ sh d c r z = z) := by
  by_cases h : ∃ j, j ≤ r ∧ z = pi d c j
  · obtain ⟨j, hj, rfl⟩ := h
    exact Or.inl ⟨j, hj, rfl, sh_at hd hc hp r hr j hj⟩
  · right
    have h' : ∀ j, j ≤ r → z ≠ pi d c j := fun j hj q => h ⟨j, hj, q⟩
    exact ⟨h', sh_off r z h'⟩
theorem goR_off {t t' : Th} {d c r : Nat} (hd : d < 4) (hc : c < 36) (hp : pin d c (r + 1)) (h1 : Img (sh d c r) t.1 t'.1) (h2 : t'.2.1 = sh d c r t.2.1) (h3 : t'.2.2 = sh d c r t.2.2) {y : Nat} (hy : y < 36) (ho : ∀ j, j ≤ r + 1 → y ≠ pi d c j) :
    tht t' y = tht t y ∧ (t.2.1 = y → t'.2.1 = y) ∧ (t.2.2 = y → t'.2.2 = y) := by
  have hs : ∀ z, sh d c r z = y ↔ z = y := fun z => by
    rcases sh_or hd hc hp r (Nat.le_refl _) z with ⟨j, hj, e1, e2⟩ | ⟨e1, e2⟩
    · constructor
      · intro q; rw [e2] at q; exact absurd q.symm (ho (j + 1) (by omega))
      · intro q; rw [q] at e1; exact absurd e1 (ho j (by omega))
    · rw [e2]
  refine ⟨?_, fun q => by rw [h2, (hs _).mpr q], fun q => by rw [h3, (hs _).mpr q]⟩
  rw [Bool.eq_iff_iff, tht_iff, tht_iff, h2, h3]
  have e1 : t'.1 y = true ↔ t.1 y = true := (h1 y hy).trans ⟨fun ⟨z, _, q1, q2⟩ => by rw [(hs z).mp q2] at q1; exact q1, fun q => ⟨y, hy, q, (hs y).mpr rfl⟩⟩
  rw [e1]
  constructor
  · rintro (q | q | q)
    · exact Or.inl q
    · exact Or.inr (Or.inl ((hs _).mp q.symm).symm)
    · exact Or.inr (Or.inr ((hs _).mp q.symm).symm)
  · rintro (q | q | q)
    · exact Or.inl q
    · exact Or.inr (Or.inl ((hs _).mpr q.symm).symm)
    · exact Or.inr (Or.inr ((hs _).mpr q.symm).symm)
/-- the row of a robot that wants w -/
def roA (K : Nat → Nat) (t : Th) (c : Nat) (w : Option Nat) : Option Nat := match w with
  | none => none
  | some d => rl K (tht t) d 6 (bs c d)
theorem roA_some {K : Nat → Nat} {t : Th} {c r : Nat} {w : Option Nat} (h : roA K t c w = some r) : ∃ d, w = some d ∧ (pth d (r + 1) (bs c d)).length = r + 1 ∧ r < 6 ∧ (∀ i, 1 ≤ i → i ≤ r → tht t (pi d c i) = true) ∧ tht t (pi d c (r + 1)) = false := by
  cases w with
  | none => cases h
  | some d =>
    have h : rl K (tht t) d 6 (bs c d) = some r := h
    have h1 := rl_len 6 _ r h
    have h2 := rl_row 6 c r h
    exact ⟨d, rfl, h1.1, h1.2, h2.1, h2.2.1⟩
def clB (K : Nat → Nat) (t : Th) (w0 w1 : Option Nat) : Bool := match w0, w1, roA K t t.2.1 w0, roA K t t.2.2 w1 with
  | some d0, some d1, some r0, some r1 => clA t.2.1 d0 r0 t.2.2 d1 r1
  | _, _, _, _ => false
/-- the row that is pushed: none where both ways clash -/
def goA (K : Nat → Nat) (t : Th) (w0 w1 : Option Nat) (c : Nat) (w : Option Nat) : Option Nat := if clB K t w0 w1 then none else roA K t c w
/-- a row as the reference keeps it -/
def ahI (o : Option Nat) : Int32 := match o with
  | none => -1
  | some r => nI r
theorem g_way_one {s : Nat → Int32} {K : Nat → Nat} {t : Th} {a f : Nat} {h I : Nat → Int32} (ha : a < 2) (hS : RS s K t.1 t.2.1 t.2.2) (hk : RK K t.1 t.2.1 t.2.2) (hR : RR s a f h I) (hO : OKr f h I) (n : Nat) (vwy vah : Nat → Int32) :
    mX9_findsWays_L2 (n + 1) vwy vah s (nI a) = mX9_findsWays_L2 n (upd vwy a (opI (wdA f h I))) (upd vah a (ahI (roA K t (cl2 t a) (wdA f h I)))) s (nI (a + 1)) := by
  have hne : ∀ r, r < 10 → ¬ nI r = (-1 : Int32) := by decide +kernel
  have hc : cl2 t a < 36 := by
    unfold cl2
    split
    · exact hk.2.1
    · exact hk.2.2.1
  have st : ∀ n vwy vah vs l2, mX9_findsWays_L2 (n + 1) vwy vah vs l2 = (if (2 : Int32) ≤ l2 then (some (vwy, vah)) else (bo1 (mX9_wants vs l2) (fun r_2 => (if ¬ (l2 < 0 ∨ 2 ≤ l2.toNatClampNeg) then (if ((upd vwy l2.toNatClampNeg r_2) l2.toNatClampNeg) = (-1 : Int32) then (mX9_findsWays_J53 (fun vwy vah vs l2 => mX9_findsWays_L2 n vwy vah vs l2) (upd vwy l2.toNatClampNeg r_2) vah vs l2 l2 (-1 : Int32)) else (bo1 (mX9_of vs l2 (0 : Int32)) (fun r_6 => (bo1 (mX9_rowFrom vs r_6 ((upd vwy l2.toNatClampNeg r_2) l2.toNatClampNeg)) (fun r_8 => (mX9_findsWays_J53 (fun vwy vah vs l2 => mX9_findsWays_L2 n vwy vah vs l2) (upd vwy l2.toNatClampNeg r_2) vah vs l2 l2 r_8)))))) else none)))) := fun _ _ _ _ _ => rfl
  rw [st, if_neg (by
    have : ∀ a, a < 2 → ¬ (2 : Int32) ≤ nI a := by decide +kernel
    exact this a ha), g_wants ha hR hO, bo1_some, if_pos (g_idx (by omega) 2 (by omega)), nI_clamp (by omega), show ∀ v, upd vwy a v a = v from fun v => if_pos rfl]
  cases hw : wdA f h I with
  | none =>
    rw [if_pos (show opI none = (-1 : Int32) from rfl)]
    unfold mX9_findsWays_J53
    rw [if_pos (g_idx (by omega) 2 (by omega)), nI_clamp (by omega), nI_1]
    rfl
  | some d =>
    have hd := wd_lt hO.1 d hw
    have eo : mX9_of s (nI a) (0 : Int32) = some (nI (cl2 t a)) := (g_of s (k := 0) ha (by decide)).trans (by rw [Nat.add_zero, RS_cell ha hS])
    rw [if_neg (show ¬ opI (some d) = (-1 : Int32) from hne d (by omega)), eo, bo1_some, opI_some, g_rowFrom hS hk hd hc, bo1_some]
    unfold mX9_findsWays_J53
    rw [if_pos (g_idx (by omega) 2 (by omega)), nI_clamp (by omega), nI_1]
    rfl
theorem g_findsWays {s : Nat → Int32} {K : Nat → Nat} {t : Th} {f0 f1 : Nat} {h0 I0 h1 I1 : Nat → Int32} (hS : RS s K t.1 t.2.1 t.2.2) (hk : RK K t.1 t.2.1 t.2.2) (hR0 : RR s 0 f0 h0 I0) (hO0 : OKr f0 h0 I0) (hR1 : RR s 1 f1 h1 I1) (hO1 : OKr f1 h1 I1) (vwy vah : Nat → Int32) :
    ∃ vwy' vah', mX9_findsWays vwy vah s = some (vwy', vah') ∧ vwy' 0 = opI (wdA f0 h0 I0) ∧ vwy' 1 = opI (wdA f1 h1 I1) ∧ vah' 0 = ahI (roA K t t.2.1 (wdA f0 h0 I0)) ∧ vah' 1 = ahI (roA K t t.2.2 (wdA f1 h1 I1)) := by
  unfold mX9_findsWays
  have e0 := g_way_one (by decide : 0 < 2) hS hk hR0 hO0 4095 vwy vah
  have e1 := g_way_one (by decide : 1 < 2) hS hk hR1 hO1 4094 (upd vwy 0 (opI (wdA f0 h0 I0))) (upd vah 0 (ahI (roA K t (cl2 t 0) (wdA f0 h0 I0))))
  refine ⟨_, _, (e0.trans (e1.trans (show mX9_findsWays_L2 (4093 + 1) _ _ s (nI (1 + 1)) = _ from if_pos (by decide +kernel)))), rfl, rfl, rfl, rfl⟩
