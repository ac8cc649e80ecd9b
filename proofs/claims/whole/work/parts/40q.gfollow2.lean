/-! The reference: both robots follow -/
theorem clA_off {c0 d0 r0 c1 d1 r1 : Nat} (hl0 : (pth d0 (r0 + 1) (bs c0 d0)).length = r0 + 1) (hl1 : (pth d1 (r1 + 1) (bs c1 d1)).length = r1 + 1) (h : clA c0 d0 r0 c1 d1 r1 = false) : ∀ i, i ≤ r1 + 1 → ∀ j, j ≤ r0 + 1 → pi d1 c1 i ≠ pi d0 c0 j := by
  obtain ⟨-, hq0⟩ := pin_pth (r0 + 1) c0 hl0
  obtain ⟨-, hq1⟩ := pin_pth (r1 + 1) c1 hl1
  have mem : ∀ (d c n k : Nat), k ≤ n → pi d c k ∈ c :: (List.range n).map (fun i => pi d c (i + 1)) := by
    intro d c n k hk
    cases k with
    | zero => exact List.mem_cons_self
    | succ k => exact List.mem_cons_of_mem _ (List.mem_map.mpr ⟨k, List.mem_range.mpr (by omega), rfl⟩)
  intro i hi j hj e
  have : clA c0 d0 r0 c1 d1 r1 = true := by
    unfold clA
    rw [List.any_eq_true]
    refine ⟨pi d0 c0 j, ?_, decide_eq_true ?_⟩
    · rw [hq0]; exact mem d0 c0 (r0 + 1) j hj
    · rw [← e, hq1]; exact mem d1 c1 (r1 + 1) i hi
  rw [h] at this
  cases this
theorem goA_none {K : Nat → Nat} {t : Th} {w0 w1 w : Option Nat} {c : Nat} (h : goA K t w0 w1 c w = none) : clB K t w0 w1 = true ∨ roA K t c w = none := by
  unfold goA at h
  by_cases q : clB K t w0 w1 = true
  · exact Or.inl q
  · rw [if_neg q] at h; exact Or.inr h
theorem goA_some {K : Nat → Nat} {t : Th} {w0 w1 w : Option Nat} {c r : Nat} (h : goA K t w0 w1 c w = some r) : clB K t w0 w1 = false ∧ roA K t c w = some r := by
  unfold goA at h
  by_cases q : clB K t w0 w1 = true
  · rw [if_pos q] at h; cases h
  · rw [if_neg q] at h; exact ⟨by simpa using q, h⟩
theorem g_clB {vwy vah s : Nat → Int32} {K : Nat → Nat} {t : Th} {w0 w1 : Option Nat} (hS : RS s K t.1 t.2.1 t.2.2) (hk : RK K t.1 t.2.1 t.2.2) (hw0 : ∀ d, w0 = some d → d < 4) (hw1 : ∀ d, w1 = some d → d < 4)
    (e0 : vwy 0 = opI w0) (e1 : vwy 1 = opI w1) (a0 : vah 0 = ahI (roA K t t.2.1 w0)) (a1 : vah 1 = ahI (roA K t t.2.2 w1)) : mX9_clash vwy vah s = some (if clB K t w0 w1 then 1 else 0) := by
  cases hr0 : roA K t t.2.1 w0 with
  | none =>
    have : clB K t w0 w1 = false := by unfold clB; rw [hr0]; cases w0 <;> cases w1 <;> rfl
    rw [this]
    unfold mX9_clash
    rw [show vah (0 : Int32).toNatClampNeg = vah 0 from rfl, a0, hr0, if_pos (show ahI none = (-1 : Int32) from rfl)]
    rfl
  | some r0 =>
    obtain ⟨d0, rfl, hl0, h60, hT0, hF0⟩ := roA_some hr0
    have hne : ∀ r, r < 10 → ¬ nI r = (-1 : Int32) := by decide +kernel
    cases hr1 : roA K t t.2.2 w1 with
    | none =>
      have : clB K t (some d0) w1 = false := by unfold clB; rw [hr1]; cases w1 <;> cases roA K t t.2.1 (some d0) <;> rfl
      rw [this]
      unfold mX9_clash
      rw [show vah (0 : Int32).toNatClampNeg = vah 0 from rfl, show vah (1 : Int32).toNatClampNeg = vah 1 from rfl, a0, hr0, if_neg (show ¬ ahI (some r0) = (-1 : Int32) from hne r0 (by omega)), a1, hr1, if_pos (show ahI none = (-1 : Int32) from rfl)]
      rfl
    | some r1 =>
      obtain ⟨d1, rfl, hl1, h61, hT1, hF1⟩ := roA_some hr1
      have hc := g_clash (vwy := vwy) (vah := vah) hS hk.2.1 hk.2.2.1 (hw0 d0 rfl) (hw1 d1 rfl) (show r0 < 10 by omega) (show r1 < 10 by omega) e0 e1 (by rw [a0, hr0]; rfl) (by rw [a1, hr1]; rfl) hl0 hl1
      rw [hc]
      unfold clB
      rw [hr0, hr1]
theorem clB_some {K : Nat → Nat} {t : Th} {d0 d1 r0 r1 : Nat} (h0 : roA K t t.2.1 (some d0) = some r0) (h1 : roA K t t.2.2 (some d1) = some r1) : clB K t (some d0) (some d1) = clA t.2.1 d0 r0 t.2.2 d1 r1 := by
  unfold clB
  rw [h0, h1]
theorem TS_of {K : Nat → Nat} {t : Th} (hk : RK K t.1 t.2.1 t.2.2) : TS t := ⟨hk.2.1, hk.2.2.1, hk.2.2.2.1, hk.2.2.2.2.1, hk.2.2.2.2.2.1⟩
/-- behind the first robot's move the second's way stands -/
theorem second_way {K : Nat → Nat} {t t1 : Th} {w0 w1 : Option Nat} (hk : RK K t.1 t.2.1 t.2.2) (hw0 : ∀ d, w0 = some d → d < 4) (hw1 : ∀ d, w1 = some d → d < 4) (hg : goR t.2.1 w0 (goA K t w0 w1 t.2.1 w0) t t1) {r1 : Nat} (h1 : goA K t w0 w1 t.2.2 w1 = some r1) :
    t1.2.2 = t.2.2 ∧ ∃ d, w1 = some d ∧ (pth d (r1 + 1) (bs t.2.2 d)).length = r1 + 1 ∧ (∀ i, 1 ≤ i → i ≤ r1 → tht t1 (pi d t.2.2 i) = true) ∧ tht t1 (pi d t.2.2 (r1 + 1)) = false := by
  obtain ⟨hcl, hr1⟩ := goA_some h1
  obtain ⟨d1, e1, hl1, h61, hT1, hF1⟩ := roA_some hr1
  have hd1 := hw1 d1 e1
  obtain ⟨hp1, -⟩ := pin_pth (r1 + 1) t.2.2 hl1
  cases hg0 : goA K t w0 w1 t.2.1 w0 with
  | none =>
    rw [hg0] at hg
    have hg : t1 = t := hg
    subst hg
    exact ⟨rfl, d1, e1, hl1, hT1, hF1⟩
  | some r0 =>
    rw [hg0] at hg
    obtain ⟨d0, e0, g1, g2, g3⟩ := hg
    obtain ⟨-, hr0⟩ := goA_some hg0
    obtain ⟨d0', e0', hl0, h60, hT0, hF0⟩ := roA_some hr0
    have : d0' = d0 := by rw [e0'] at e0; exact Option.some.inj e0
    subst this
    have hd0 := hw0 d0' e0'
    obtain ⟨hp0, -⟩ := pin_pth (r0 + 1) t.2.1 hl0
    subst e0'
    subst e1
    rw [clB_some hr0 hr1] at hcl
    have off := clA_off hl0 hl1 hcl
    have o := fun i (hi : i ≤ r1 + 1) => goR_off hd0 hk.2.1 hp0 g1 g2 g3 (pi_lt hd1 hk.2.2.1 hp1 i hi) (fun j hj => off i hi j hj)
    refine ⟨(o 0 (by omega)).2.2 rfl, d1, rfl, hl1, fun i h1 h2 => ?_, ?_⟩
    · rw [(o i (by omega)).1]; exact hT1 i h1 h2
    · rw [(o (r1 + 1) (by omega)).1]; exact hF1
theorem g_follow {s vwy vah : Nat → Int32} {K : Nat → Nat} {t : Th} {f0 f1 : Nat} {h0 I0 h1 I1 : Nat → Int32} (hS : RS s K t.1 t.2.1 t.2.2) (hk : RK K t.1 t.2.1 t.2.2) (hR0 : RR s 0 f0 h0 I0) (hO0 : OKr f0 h0 I0) (hR1 : RR s 1 f1 h1 I1) (hO1 : OKr f1 h1 I1) :
    ∃ vwy' vah' s' t1 t', mX9_follow vwy vah s = some (vwy', vah', s') ∧
      goR t.2.1 (wdA f0 h0 I0) (goA K t (wdA f0 h0 I0) (wdA f1 h1 I1) t.2.1 (wdA f0 h0 I0)) t t1 ∧
      goR t.2.2 (wdA f1 h1 I1) (goA K t (wdA f0 h0 I0) (wdA f1 h1 I1) t.2.2 (wdA f1 h1 I1)) t1 t' ∧ TS t1 ∧ TS t' ∧ RS s' K t'.1 t'.2.1 t'.2.2 ∧
      RR s' 0 (tfA f0 h0 I0) (hfA (wdA f0 h0 I0) (goA K t (wdA f0 h0 I0) (wdA f1 h1 I1) t.2.1 (wdA f0 h0 I0)) h0) I0 ∧
      RR s' 1 (tfA f1 h1 I1) (hfA (wdA f1 h1 I1) (goA K t (wdA f0 h0 I0) (wdA f1 h1 I1) t.2.2 (wdA f1 h1 I1)) h1) I1 ∧ (∀ k, 90 ≤ k → s' k = s k) := by
  have hw0 := wd_lt (f := f0) (h := h0) (I := I0) hO0.1
  have hw1 := wd_lt (f := f1) (h := h1) (I := I1) hO1.1
  obtain ⟨vwy', vah', ew, e0, e1, a0, a1⟩ := g_findsWays hS hk hR0 hO0 hR1 hO1 vwy vah
  have ec := g_clB hS hk hw0 hw1 e0 e1 a0 a1
  generalize hW0 : wdA f0 h0 I0 = w0 at *
  generalize hW1 : wdA f1 h1 I1 = w1 at *
  have l2n : ∀ b : Bool, b = true → ¬ (if b then (1 : Int32) else 0) = 0 := by decide
  have g0 : goG t 0 w0 (goA K t w0 w1 t.2.1 w0) (vah' 0) (if clB K t w0 w1 then 1 else 0) := by
    cases hg : goA K t w0 w1 t.2.1 w0 with
    | none =>
      rcases goA_none hg with q | q
      · exact Or.inr (l2n _ q)
      · exact Or.inl (by rw [a0, q]; rfl)
    | some r =>
      obtain ⟨q1, q2⟩ := goA_some hg
      obtain ⟨d, z1, z2, z3, z4, z5⟩ := roA_some q2
      exact ⟨by rw [q1]; rfl, by rw [a0, q2]; rfl, by omega, d, z1, z2, z4, z5⟩
  obtain ⟨s1, t1, k1, k2, k3, k4, k5, k6⟩ := g_fol_one (n := 4095) (vwy := vwy') (vah := vah') (l2 := if clB K t w0 w1 then 1 else 0) (a := 0) (by decide) hS (TS_of hk) hR0 hO0 (goA K t w0 w1 t.2.1 w0) (by rw [hW0]; exact e0) (by rw [hW0]; exact g0)
  rw [hW0] at k4 k5
  have hR1' : RR s1 1 f1 h1 I1 := by
    refine ⟨?_, fun j h2 h9 => ?_, fun j q1 q2 => ?_⟩
    · rw [k6 _ (by omega) (by omega) (by omega) (by omega)]; exact hR1.1
    · rw [k6 _ (by omega) (by omega) (by omega) (by omega)]; exact hR1.2.1 j h2 h9
    · rw [k6 _ (by omega) (by omega) (by omega) (by omega)]; exact hR1.2.2 j q1 q2
  have g1 : goG t1 1 w1 (goA K t w0 w1 t.2.2 w1) (vah' 1) (if clB K t w0 w1 then 1 else 0) := by
    cases hg : goA K t w0 w1 t.2.2 w1 with
    | none =>
      rcases goA_none hg with q | q
      · exact Or.inr (l2n _ q)
      · exact Or.inl (by rw [a1, q]; rfl)
    | some r =>
      obtain ⟨q1, q2⟩ := goA_some hg
      obtain ⟨d0', z1', z2', z3', z4', z5'⟩ := roA_some q2
      obtain ⟨y1, d, z1, z2, z4, z5⟩ := second_way hk hw0 hw1 k4 hg
      have ecl : cl2 t1 1 = t.2.2 := y1
      refine ⟨by rw [q1]; rfl, by rw [a1, q2]; rfl, by omega, d, z1, ?_⟩
      rw [ecl]
      exact ⟨z2, z4, z5⟩
  obtain ⟨s2, t2, m1, m2, m3, m4, m5, m6⟩ := g_fol_one (n := 4094) (vwy := vwy') (vah := vah') (l2 := if clB K t w0 w1 then 1 else 0) (a := 1) (by decide) k2 k3 hR1' hO1 (goA K t w0 w1 t.2.2 w1) (by rw [hW1]; exact e1) (by rw [hW1]; exact g1)
  rw [hW1] at m4 m5
  refine ⟨vwy', vah', s2, t1, t2, ?_, k4, ?_, k3, m3, m2, ?_, m5, fun k hk9 => ?_⟩
  · unfold mX9_follow
    rw [ew]
    show bo1 (mX9_clash vwy' vah' s) _ = _
    rw [ec, bo1_some]
    exact (k1.trans (m1.trans (by rw [show 4094 = 4093 + 1 from rfl, fol_succ]; exact if_pos (by decide +kernel))))
  · cases hg : goA K t w0 w1 t.2.2 w1 with
    | none => rw [hg] at m4; exact m4
    | some r =>
      rw [hg] at m4
      obtain ⟨y1, -⟩ := second_way hk hw0 hw1 k4 hg
      have ecl : cl2 t1 1 = t.2.2 := y1
      rw [ecl] at m4
      exact m4
  · refine ⟨?_, fun j h2 h9 => ?_, fun j q1 q2 => ?_⟩
    · rw [m6 _ (by omega) (by omega) (by omega) (by omega)]; exact k5.1
    · rw [m6 _ (by omega) (by omega) (by omega) (by omega)]; exact k5.2.1 j h2 h9
    · rw [m6 _ (by omega) (by omega) (by omega) (by omega)]; exact k5.2.2 j q1 q2
  · rw [m6 k (by omega) (by omega) (by omega) (by omega), k6 k (by omega) (by omega) (by omega) (by omega)]
