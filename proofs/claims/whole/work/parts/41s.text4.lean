/-! A new floor; errorPosition and load at the law -/
theorem v_new_L {va vb : Nat → Int32} : ∀ (j n c : Nat) (vi : Nat → Int32) (vj : Nat → Int64) (vk : Nat → Int32), j < n → c + j = 36 → (∀ x, x < c → vk x = 0) →
      ∃ vi' vj' vk', mX1_makeNew_L2 n vi vj vk va vb (nI c) = some (vi', vj', vk', mX4_makeNew va (30 : Int32), mX4_makeNew vb (35 : Int32)) ∧ (∀ x, x < 36 → vk' x = 0) ∧ (∀ k, 7 ≤ k → k < 12 → vi' k = 0) ∧ (∀ k, 4 ≤ k → k < 7 → vj' k = 0) := by
  intro j
  induction j with
  | zero =>
    intro n c vi vj vk hn hc hv
    obtain ⟨n, rfl⟩ : ∃ m, n = m + 1 := ⟨n - 1, by omega⟩
    obtain rfl : c = 36 := by omega
    unfold mX1_makeNew_L2
    rw [if_pos le36', bt1_mk, bt1_mk]
    refine ⟨_, _, vk, rfl, hv, fun k k7 k12 => ?_, fun k k4 k7 => ?_⟩
    · rcases (show k = 7 ∨ k = 8 ∨ k = 9 ∨ k = 10 ∨ k = 11 by omega) with rfl | rfl | rfl | rfl | rfl <;> rfl
    · rcases (show k = 4 ∨ k = 5 ∨ k = 6 by omega) with rfl | rfl | rfl <;> rfl
  | succ j ih =>
    intro n c vi vj vk hn hc hv
    obtain ⟨n, rfl⟩ : ∃ m, n = m + 1 := ⟨n - 1, by omega⟩
    have hc36 : c < 36 := by omega
    unfold mX1_makeNew_L2
    rw [if_neg (le36 hc36), if_pos (g_idx36 hc36), nI_clamp (by omega), nI_1]
    refine ih n (c + 1) vi vj _ (by omega) (by omega) (fun x hx => ?_)
    by_cases e : x = c
    · subst e; exact if_pos rfl
    · exact (if_neg e).trans (hv x (by omega))
theorem g_clear_L : ∀ (j n c : Nat) (s : Nat → Int32), j < n → c + j = 117 → (∀ x, x < c → s x = 0) →
      ∃ s', mX9_clear_L2 n s (nI c) = some s' ∧ ∀ x, x < 117 → s' x = if x = 72 then 30 else if x = 81 then 35 else if x = 74 ∨ x = 83 then 1 else 0 := by
  intro j
  induction j with
  | zero =>
    intro n c s hn hc hv
    obtain ⟨n, rfl⟩ : ∃ m, n = m + 1 := ⟨n - 1, by omega⟩
    obtain rfl : c = 117 := by omega
    unfold mX9_clear_L2
    rw [if_pos (by decide)]
    refine ⟨_, rfl, fun x hx => ?_⟩
    show (if x = 83 then 1 else if x = 74 then 1 else if x = 81 then 35 else if x = 72 then 30 else s x) = _
    by_cases e83 : x = 83
    · rw [if_pos e83, e83]; rfl
    · rw [if_neg e83]
      by_cases e74 : x = 74
      · rw [if_pos e74, e74]; rfl
      · rw [if_neg e74]
        by_cases e81 : x = 81
        · rw [if_pos e81, e81]; rfl
        · rw [if_neg e81]
          by_cases e72 : x = 72
          · rw [if_pos e72, if_pos e72]
          · rw [if_neg e72, if_neg e72, if_neg e81, if_neg (fun q => by rcases q with q | q; exact e74 q; exact e83 q)]
            exact hv x hx
  | succ j ih =>
    intro n c s hn hc hv
    obtain ⟨n, rfl⟩ : ∃ m, n = m + 1 := ⟨n - 1, by omega⟩
    unfold mX9_clear_L2
    rw [if_neg (show ¬ ((117 : Int32) ≤ nI c) from nI_leF (b := 117) (by omega) (by decide) (by omega)), if_pos (g_idx117 (by omega)), nI_clamp (by omega), nI_1]
    refine ih n (c + 1) _ (by omega) (by omega) (fun x hx => ?_)
    by_cases e : x = c
    · subst e; exact if_pos rfl
    · exact (if_neg e).trans (hv x (by omega))
theorem rb_new (va vpa s : Nat → Int32) (r : Nat) (hr : r < 2) (x : Int32) (hs : ∀ j, 1 ≤ j → j < 9 → s (72 + 9 * r + j) = if j = 2 then 1 else 0) : RB (mX4_makeNew va x) vpa s r 0 := by
  have hv : ∀ j, 1 ≤ j → j < 9 → mX4_makeNew va x j = if j = 2 then 1 else 0 := fun j j1 j9 => by
    rcases (show j = 1 ∨ j = 2 ∨ j = 3 ∨ j = 4 ∨ j = 5 ∨ j = 6 ∨ j = 7 ∨ j = 8 by omega) with rfl | rfl | rfl | rfl | rfl | rfl | rfl | rfl <;> rfl
  refine ⟨rfl, ⟨(hs 1 (by decide) (by decide)).trans rfl, fun j j2 j9 => (hs j (by omega) j9).trans (hv j (by omega) j9).symm, fun j q1 q2 => ?_⟩, ⟨by decide, 0, 0, rfl, rfl, by decide, Or.inr ⟨rfl, rfl⟩, fun j hj => absurd hj (Nat.not_lt_zero j)⟩, ⟨1, by decide, by decide, rfl⟩⟩
  have q1 : nI j < (0 : Int32) := q1
  exact absurd q1 (lt0_nI (by omega))
theorem new_FL (vi : Nat → Int32) (vj : Nat → Int64) (vk va vb s : Nat → Int32) : ∃ vi' vj' vk' va' vb' s', mX1_makeNew vi vj vk va vb = some (vi', vj', vk', va', vb') ∧ mX9_clear s = some s' ∧ ∀ vc vpa vpb, FL vi' vj' vk' vc va' vpa vb' vpb s' := by
  obtain ⟨vi', vj', vk', e1, e2, e3, e4⟩ := v_new_L (va := va) (vb := vb) 36 4096 0 vi vj vk (by decide) (by decide) (fun x hx => absurd hx (Nat.not_lt_zero x))
  obtain ⟨s', f1, f2⟩ := g_clear_L 117 4096 0 s (by decide) (by decide) (fun x hx => absurd hx (Nat.not_lt_zero x))
  have z : ∀ x, x < 117 → x ≠ 72 → x ≠ 81 → x ≠ 74 → x ≠ 83 → s' x = 0 := fun x hx h1 h2 h3 h4 => by
    rw [f2 x hx, if_neg h1, if_neg h2, if_neg (fun q => by rcases q with q | q; exact h3 q; exact h4 q)]
  have hr : ∀ r, r < 2 → ∀ j, 1 ≤ j → j < 9 → s' (72 + 9 * r + j) = if j = 2 then 1 else 0 := fun r hr j j1 j9 => by
    rw [f2 _ (by omega), if_neg (by omega), if_neg (by omega)]
    by_cases e : j = 2
    · rw [if_pos (by omega), if_pos e]
    · rw [if_neg (by omega), if_neg e]
  refine ⟨vi', vj', vk', _, _, s', e1, f1, fun vc vpa vpb => ⟨fun _ => 0, (fun _ => false, 30, 35), 0, 0, 0, ⟨fun x hx => e2 x hx, (e4 4 (by decide) (by decide)).trans sL_none.symm, rfl, rfl⟩, ⟨fun x hx => ⟨z x (by omega) (by omega) (by omega) (by omega) (by omega), z (36 + x) (by omega) (by omega) (by omega) (by omega) (by omega)⟩, (f2 72 (by decide)).trans rfl, (f2 81 (by decide)).trans rfl⟩, ⟨fun x _ => ⟨show (0 : Nat) < 7 by decide, fun q => (by cases q)⟩, by decide, by decide, by decide, rfl, rfl, by decide, by decide⟩, rb_new va vpa s' 0 (by decide) 30 (hr 0 (by decide)), rb_new vb vpb s' 1 (by decide) 35 (hr 1 (by decide)), ?_, ?_, by decide, e3 7 (by decide) (by decide), z 110 (by decide) (by decide) (by decide) (by decide) (by decide), fun k hk => absurd hk (Nat.not_lt_zero k), ?_, ?_, ?_⟩⟩
  · rw [e4 5 (by decide) (by decide), ← sL_none]
    exact sL_cong (fun x _ => rfl)
  · rw [e4 6 (by decide) (by decide), ← sL_none]
    exact sL_cong (fun x _ => rfl)
  · rw [z 115 (by decide) (by decide) (by decide) (by decide) (by decide), e3 10 (by decide) (by decide)]
  · rw [z 116 (by decide) (by decide) (by decide) (by decide) (by decide), e3 11 (by decide) (by decide)]
  · rw [e3 8 (by decide) (by decide), e3 9 (by decide) (by decide), e3 10 (by decide) (by decide)]
    have : fb_ct (fun _ => false) 36 = 0 := fb_ct_zero.mpr (fun _ _ => rfl)
    rw [this]; decide
theorem pq_errorPosition : pl_errorPosition PRx := by
  intro σ xs i hP
  obtain ⟨p1, p2, p3, p4, p5⟩ := hP
  obtain ⟨n, hT, hn⟩ := TX_of p2
  obtain ⟨vi, vj, vk, va, vb, s0, e1, e2, e3⟩ := new_FL (fun _ => 0) (fun _ => 0) (fun _ => 0) (fun _ => 0) (fun _ => 0) (σ.1 38)
  unfold mLaw_errorPosition mX8_errorPosition mX9_errorPosition
  rcases read_ok hT (mi := upd (σ.1 35) 0 0) hn e2 (e3 (fun _ => 0) (fun _ => 0) (fun _ => 0)) with ⟨e, mi', s', a1, a2, a3, a4⟩ | ⟨mi', s', vi', vj', vk', vc', va', vpa', vb', vpb', a2, a3, a4, -, -⟩
  · refine ⟨mi', s', ?_, p1, (show TXT (σ.1 0) (σ.1 1) (mi' 2) (σ.1 36) from (show mi' 2 = σ.1 35 2 from a4.2.1) ▸ p2), (show HST (σ.1 16) σ.2.2.1 (mi' 7) (σ.1 40) σ.2.2.2.1 σ.2.2.2.2.1 σ.2.2.2.2.2 from (show mi' 7 = σ.1 35 7 from a4.2.2) ▸ p3), p4, p5⟩
    rw [a2, bo1_some, bo1_some, a3, bo3_some, bo3_some, if_pos rfl]
  · refine ⟨mi', s', ?_, p1, (show TXT (σ.1 0) (σ.1 1) (mi' 2) (σ.1 36) from (show mi' 2 = σ.1 35 2 from a4.2.1) ▸ p2), (show HST (σ.1 16) σ.2.2.1 (mi' 7) (σ.1 40) σ.2.2.2.1 σ.2.2.2.2.1 σ.2.2.2.2.2 from (show mi' 7 = σ.1 35 7 from a4.2.2) ▸ p3), p4, p5⟩
    rw [a2, bo1_some, bo1_some, a3, bo3_some, bo3_some, if_pos rfl]
theorem pq_load : pl_load PRx := by
  intro σ xs i hP
  obtain ⟨p1, p2, p3, p4, p5⟩ := hP
  obtain ⟨n, hT, hn⟩ := TX_of p2
  obtain ⟨vi, vj, vk, va, vb, s0, e1, e2, e3⟩ := new_FL (σ.1 2) (σ.2.1 0) (σ.1 3) (σ.1 5) (σ.1 7) (σ.1 38)
  unfold mLaw_load
  rcases read_ok hT (mi := σ.1 35) hn e2 (e3 (σ.1 4) (σ.1 6) (σ.1 8)) with ⟨e, mi', s', a1, a2, a3, a4⟩ | ⟨mi', s', vi', vj', vk', vc', va', vpa', vb', vpb', a2, a3, a4, a5, a6⟩
  · have eV : mL_load (σ.1 0) (σ.1 1) (σ.1 2) (σ.2.1 0) (σ.1 3) (σ.1 4) (σ.1 5) (σ.1 6) (σ.1 7) (σ.1 8) (σ.1 16) (σ.1 17) (σ.1 25) (σ.2.1 6) = some (1, σ.1 2, σ.2.1 0, σ.1 3, σ.1 4, σ.1 5, σ.1 6, σ.1 7, σ.1 8, σ.1 16, σ.1 17, σ.1 25, σ.2.1 6) := by
      unfold mL_load mX8_load
      rw [a2, bo1_some, if_neg (ne_neg200 e a1), bo1_some, bh12_r, if_pos rfl]
    have eG : mX9_load (σ.1 35) (σ.1 36) (σ.1 37) (σ.1 38) (σ.1 42) = some (0, upd mi' 0 1, σ.1 37, s', σ.1 42) := by
      unfold mX9_load mX9_load_J18 mX9_refused
      rw [a3, bo3_some, if_neg (ne_neg200 e a1), if_neg nle1, bt2_mk, if_neg ne10]
    refine ⟨σ.1 2, σ.2.1 0, σ.1 3, σ.1 4, σ.1 5, σ.1 6, σ.1 7, σ.1 8, σ.1 16, σ.1 17, σ.1 25, σ.2.1 6, upd mi' 0 1, σ.1 37, s', σ.1 42, ?_, p1, (show TXT (σ.1 0) (σ.1 1) (mi' 2) (σ.1 36) from a4.2.1 ▸ p2), (show HST (σ.1 16) σ.2.2.1 (mi' 7) (σ.1 40) σ.2.2.2.1 σ.2.2.2.2.1 σ.2.2.2.2.2 from a4.2.2 ▸ p3), p4, p5⟩
    rw [eV, bo13_some, eG, bo5_some]
    show (if (1 : Int32) = 1 then (if (1 : Int32) = 0 then _ else _) else _) = _
    rw [if_pos rfl, if_neg ne10]
  · obtain ⟨vnw', f1, f2, -⟩ := g_copy117_117 s' (σ.1 37) (a := 0) (b := 0) (by decide) (by decide)
    have hF : FL vi' vj' vk' vc' va' vpa' vb' vpb' vnw' := FL_cong a6 (AGv_refl _ _ _ _ _ _ _ _) (fun k hk => by
      have := f2 k hk
      rw [Nat.zero_add] at this
      exact this)
    have hH : HST (upd (σ.1 16) 2 0) σ.2.2.1 0 (σ.1 40) σ.2.2.2.1 σ.2.2.2.2.1 σ.2.2.2.2.2 := by
      obtain ⟨nx, ct, hnx, hct, h1, h2, h3, hhs, hrow⟩ := p3
      exact ⟨nx, 0, hnx, by decide, h1, rfl, rfl, hhs, fun i hi => absurd hi (Nat.not_lt_zero i)⟩
    have eV : mL_load (σ.1 0) (σ.1 1) (σ.1 2) (σ.2.1 0) (σ.1 3) (σ.1 4) (σ.1 5) (σ.1 6) (σ.1 7) (σ.1 8) (σ.1 16) (σ.1 17) (σ.1 25) (σ.2.1 6) = some (0, vi', vj', vk', vc', va', vpa', vb', vpb', upd (σ.1 16) 2 0, upd (σ.1 17) 1 0, upd (σ.1 25) 1 0, vp_updL (σ.2.1 6) 0 (mi' 17).toInt64) := by
      unfold mL_load mX8_load
      rw [a2, bo1_some, if_pos rfl, e1, bo5_some, a5, bo9_some, bo1_some, bh12_l]
      rfl
    have eG : mX9_load (σ.1 35) (σ.1 36) (σ.1 37) (σ.1 38) (σ.1 42) = some (mi' 17, upd (upd mi' 0 0) 7 0, vnw', s', upd (upd (σ.1 42) 0 0) 1 0) := by
      unfold mX9_load mX9_load_J18 mX9_refused
      rw [a3, bo3_some, if_pos rfl, if_pos le00, bt2_mk, if_pos rfl, show mX9_copyState_117_117 s' (σ.1 37) (0 : Int32) (0 : Int32) = _ from f1, bo1_some]
      rfl
    refine ⟨vi', vj', vk', vc', va', vpa', vb', vpb', upd (σ.1 16) 2 0, upd (σ.1 17) 1 0, upd (σ.1 25) 1 0, vp_updL (σ.2.1 6) 0 (mi' 17).toInt64, upd (upd mi' 0 0) 7 0, vnw', s', upd (upd (σ.1 42) 0 0) 1 0, ?_, hF, (show TXT (σ.1 0) (σ.1 1) (mi' 2) (σ.1 36) from a4.2.1 ▸ p2), hH, ⟨rfl, Or.inl rfl, fun q => absurd (show (0 : Int32) = 1 from q) ne01⟩, ⟨rfl, Or.inl rfl, fun q => absurd (show (0 : Int32) = 1 from q) ne01⟩⟩
    rw [eV, bo13_some, eG, bo5_some]
    show (if (0 : Int32) = 0 then (if (0 : Int32) = 0 then (if lg_cmp (mi' 17).toInt64 (mi' 17).toInt64 = 0 then _ else _) else _) else _) = _
    rw [if_pos rfl, if_pos rfl, if_pos (lg_eq.mpr rfl)]
