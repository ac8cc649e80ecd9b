/-! Floors and rows are copied; several steps -/
def AGv (vi : Nat → Int32) (vj : Nat → Int64) (vk vc va vpa vb vpb vi' : Nat → Int32) (vj' : Nat → Int64) (vk' vc' va' vpa' vb' vpb' : Nat → Int32) : Prop :=
  (∀ j, 7 ≤ j → j < 12 → vi' j = vi j) ∧ (∀ j, 4 ≤ j → j < 7 → vj' j = vj j) ∧ (∀ x, x < 36 → vk' x = vk x) ∧ (∀ k, k < 4 → vc' k = vc k) ∧ (∀ j, j < 9 → va' j = va j) ∧ (∀ j, j < 10 → vpa' j = vpa j) ∧ (∀ j, j < 9 → vb' j = vb j) ∧ (∀ j, j < 10 → vpb' j = vpb j)
theorem RB_cong {va va' vpa vpa' s s' : Nat → Int32} {r f : Nat} (hr : r < 2) (h : RB va vpa s r f) (ea : ∀ j, j < 9 → va' j = va j) (ep : ∀ j, j < 10 → vpa' j = vpa j) (es : ∀ k, k < 117 → s' k = s k) : RB va' vpa' s' r f := by
  obtain ⟨h1, hR, hO, hN⟩ := h
  refine ⟨(ea 1 (by decide)).trans h1, ⟨(es _ (by omega)).trans hR.1, fun j j2 j9 => (es _ (by omega)).trans ((hR.2.1 j j2 j9).trans (ea j j9).symm), fun j q1 q2 => (es _ (by omega)).trans ((hR.2.2 j (by rw [← ea 8 (by decide)]; exact q1) q2).trans (ep j q2).symm)⟩, ?_, NX_of (ea 2 (by decide)) hN⟩
  obtain ⟨hf, p, l, e7, e8, hl, hp, hi⟩ := hO
  refine ⟨hf, p, l, (ea 7 (by decide)).trans e7, (ea 8 (by decide)).trans e8, hl, hp, fun j hj => ?_⟩
  obtain ⟨i, i1, i2⟩ := hi j hj
  exact ⟨i, i1, (ep j (by omega)).trans i2⟩
theorem FL_cong {vi : Nat → Int32} {vj : Nat → Int64} {vk vc va vpa vb vpb vi' : Nat → Int32} {vj' : Nat → Int64} {vk' vc' va' vpa' vb' vpb' s s' : Nat → Int32} (h : FL vi vj vk vc va vpa vb vpb s) (e : AGv vi vj vk vc va vpa vb vpb vi' vj' vk' vc' va' vpa' vb' vpb') (es : ∀ k, k < 117 → s' k = s k) : FL vi' vj' vk' vc' va' vpa' vb' vpb' s' := by
  obtain ⟨K, t, f0, f1, m, hV, hS, hk, hB0, hB1, ⟨h5, h6, hm, h7, h110, hvc, h115, h116, hct⟩⟩ := h
  obtain ⟨ei, ej, ek, ec, ea, epa, eb, epb⟩ := e
  refine ⟨K, t, f0, f1, m, ⟨fun x hx => (ek x hx).trans (hV.1 x hx), (ej 4 (by decide) (by decide)).trans hV.2.1, (ea 0 (by decide)).trans hV.2.2.1, (eb 0 (by decide)).trans hV.2.2.2⟩, ⟨fun x hx => ⟨(es x (by omega)).trans (hS.1 x hx).1, (es (36 + x) (by omega)).trans (hS.1 x hx).2⟩, (es 72 (by decide)).trans hS.2.1, (es 81 (by decide)).trans hS.2.2⟩, hk, RB_cong (by decide) hB0 ea epa es, RB_cong (by decide) hB1 eb epb es, (ej 5 (by decide) (by decide)).trans h5, (ej 6 (by decide) (by decide)).trans h6, hm, (ei 7 (by decide) (by decide)).trans h7, (es 110 (by decide)).trans h110, fun k hk => ⟨(es (111 + k) (by omega)).trans ((hvc k hk).1.trans (ec k (by omega)).symm), ?_⟩, (es 115 (by decide)).trans (h115.trans (ei 10 (by decide) (by decide)).symm), (es 116 (by decide)).trans (h116.trans (ei 11 (by decide) (by decide)).symm), ?_⟩
  · obtain ⟨c, c1, c2⟩ := (hvc k hk).2
    exact ⟨c, c1, (ec k (by omega)).trans c2⟩
  · rw [ei 8 (by decide) (by decide), ei 9 (by decide) (by decide), ei 10 (by decide) (by decide)]; exact hct
theorem AGv_refl (vi : Nat → Int32) (vj : Nat → Int64) (vk vc va vpa vb vpb : Nat → Int32) : AGv vi vj vk vc va vpa vb vpb vi vj vk vc va vpa vb vpb := ⟨fun _ _ _ => rfl, fun _ _ _ => rfl, fun _ _ => rfl, fun _ _ => rfl, fun _ _ => rfl, fun _ _ => rfl, fun _ _ => rfl, fun _ _ => rfl⟩
theorem nI_leF {a b : Nat} (ha : a < 2 ^ 31) (hb : b < 2 ^ 31) (h : a < b) : ¬ (nI b ≤ nI a) := by rw [pu_le hb ha]; omega
theorem v_rcopy_L {vf vf2 vp2 : Nat → Int32} : ∀ (j n c : Nat) (vp : Nat → Int32), j < n → c + j = 10 → (∀ x, x < c → vp x = vp2 x) → ∃ vp', mX4_copyFrom_L74 n vf vp vf2 vp2 (nI c) = some (vf, vp') ∧ ∀ x, x < 10 → vp' x = vp2 x := by
  intro j
  induction j with
  | zero =>
    intro n c vp hn hc hv
    obtain ⟨n, rfl⟩ : ∃ m, n = m + 1 := ⟨n - 1, by omega⟩
    obtain rfl : c = 10 := by omega
    refine ⟨vp, ?_, hv⟩
    unfold mX4_copyFrom_L74
    rw [if_pos (by decide)]
  | succ j ih =>
    intro n c vp hn hc hv
    obtain ⟨n, rfl⟩ : ∃ m, n = m + 1 := ⟨n - 1, by omega⟩
    unfold mX4_copyFrom_L74
    have hc10 : ¬ ((10 : Int32) ≤ nI c) := nI_leF (b := 10) (by omega) (by decide) (by omega)
    rw [if_neg hc10, if_neg hc10, if_pos (g_idx (by omega) 10 (by omega)), nI_clamp (by omega), nI_1]
    refine ih n (c + 1) _ (by omega) (by omega) (fun x hx => ?_)
    by_cases e : x = c
    · subst e; exact if_pos rfl
    · rw [show ∀ v, upd vp c v x = vp x from fun v => if_neg e]; exact hv x (by omega)
theorem v_rcopy (vf vp vf2 vp2 : Nat → Int32) : ∃ vf' vp', mX4_copyFrom vf vp vf2 vp2 = some (vf', vp') ∧ (∀ j, j < 9 → vf' j = vf2 j) ∧ ∀ j, j < 10 → vp' j = vp2 j := by
  unfold mX4_copyFrom
  obtain ⟨vp', e1, e2⟩ := v_rcopy_L (vf := upd (upd (upd (upd (upd (upd (upd (upd (upd vf 0 (vf2 0)) 1 (vf2 1)) 2 (vf2 2)) 3 (vf2 3)) 4 (vf2 4)) 5 (vf2 5)) 6 (vf2 6)) 7 (vf2 7)) 8 (vf2 8)) (vf2 := vf2) (vp2 := vp2) 10 4096 0 vp (by decide) (by decide) (fun x hx => absurd hx (Nat.not_lt_zero x))
  refine ⟨_, vp', e1, fun j hj => ?_, e2⟩
  have h : j = 0 ∨ j = 1 ∨ j = 2 ∨ j = 3 ∨ j = 4 ∨ j = 5 ∨ j = 6 ∨ j = 7 ∨ j = 8 := by omega
  rcases h with rfl | rfl | rfl | rfl | rfl | rfl | rfl | rfl | rfl <;> rfl
theorem v_copy_J76 {vi : Nat → Int32} {vj : Nat → Int64} {vk vc va vpa vb vpb vi2 : Nat → Int32} {vj2 : Nat → Int64} {vk2 vc2 va2 vpa2 vb2 vpb2 : Nat → Int32} (hk : ∀ x, x < 36 → vk x = vk2 x) (hc : ∀ k, k < 4 → vc k = vc2 k) :
    ∃ vi' vj' va' vpa' vb' vpb', mX1_copyFrom_J76 vi vj vk vc va vpa vb vpb vi2 vj2 vk2 vc2 va2 vpa2 vb2 vpb2 = some (vi', vj', vk, vc, va', vpa', vb', vpb') ∧ AGv vi2 vj2 vk2 vc2 va2 vpa2 vb2 vpb2 vi' vj' vk vc va' vpa' vb' vpb' := by
  obtain ⟨va', vpa', a1, a2, a3⟩ := v_rcopy va vpa va2 vpa2
  obtain ⟨vb', vpb', b1, b2, b3⟩ := v_rcopy vb vpb vb2 vpb2
  unfold mX1_copyFrom_J76
  rw [a1, bo2_some, b1, bo2_some]
  refine ⟨_, _, va', vpa', vb', vpb', rfl, fun j j7 j12 => ?_, fun j j4 j7 => ?_, hk, hc, a2, a3, b2, b3⟩
  · have h : j = 7 ∨ j = 8 ∨ j = 9 ∨ j = 10 ∨ j = 11 := by omega
    rcases h with rfl | rfl | rfl | rfl | rfl <;> rfl
  · have h : j = 4 ∨ j = 5 ∨ j = 6 := by omega
    rcases h with rfl | rfl | rfl <;> rfl
theorem v_copy_L40 {vi : Nat → Int32} {vj : Nat → Int64} {vk va vpa vb vpb vi2 : Nat → Int32} {vj2 : Nat → Int64} {vk2 vc2 va2 vpa2 vb2 vpb2 : Nat → Int32} (hk : ∀ x, x < 36 → vk x = vk2 x) : ∀ (j n c : Nat) (vc : Nat → Int32), j < n → c + j = 4 → (∀ x, x < c → vc x = vc2 x) →
    ∃ vi' vj' vk' vc' va' vpa' vb' vpb', mX1_copyFrom_L40 n vi vj vk vc va vpa vb vpb vi2 vj2 vk2 vc2 va2 vpa2 vb2 vpb2 (nI c) = some (vi', vj', vk', vc', va', vpa', vb', vpb') ∧ AGv vi2 vj2 vk2 vc2 va2 vpa2 vb2 vpb2 vi' vj' vk' vc' va' vpa' vb' vpb' := by
  intro j
  induction j with
  | zero =>
    intro n c vc hn hc hv
    obtain ⟨n, rfl⟩ : ∃ m, n = m + 1 := ⟨n - 1, by omega⟩
    obtain rfl : c = 4 := by omega
    unfold mX1_copyFrom_L40
    rw [if_pos (by decide)]
    obtain ⟨vi', vj', va', vpa', vb', vpb', e1, e2⟩ := v_copy_J76 (vi := vi) (vj := vj) (va := va) (vpa := vpa) (vb := vb) (vpb := vpb) (vi2 := vi2) (vj2 := vj2) (va2 := va2) (vpa2 := vpa2) (vb2 := vb2) (vpb2 := vpb2) hk hv
    exact ⟨_, _, _, _, _, _, _, _, e1, e2⟩
  | succ j ih =>
    intro n c vc hn hc hv
    obtain ⟨n, rfl⟩ : ∃ m, n = m + 1 := ⟨n - 1, by omega⟩
    unfold mX1_copyFrom_L40
    have hcN : ¬ ((4 : Int32) ≤ nI c) := nI_leF (b := 4) (by omega) (by decide) (by omega)
    rw [if_neg hcN, if_neg hcN, if_pos (g_idx (by omega) 4 (by omega)), nI_clamp (by omega), nI_1]
    refine ih n (c + 1) _ (by omega) (by omega) (fun x hx => ?_)
    by_cases e : x = c
    · subst e; exact if_pos rfl
    · rw [show ∀ v, upd vc c v x = vc x from fun v => if_neg e]; exact hv x (by omega)
theorem v_copy_L2 {vi : Nat → Int32} {vj : Nat → Int64} {vc va vpa vb vpb vi2 : Nat → Int32} {vj2 : Nat → Int64} {vk2 vc2 va2 vpa2 vb2 vpb2 : Nat → Int32} : ∀ (j n c : Nat) (vk : Nat → Int32), j < n → c + j = 36 → (∀ x, x < c → vk x = vk2 x) →
    ∃ vi' vj' vk' vc' va' vpa' vb' vpb', mX1_copyFrom_L2 n vi vj vk vc va vpa vb vpb vi2 vj2 vk2 vc2 va2 vpa2 vb2 vpb2 (nI c) = some (vi', vj', vk', vc', va', vpa', vb', vpb') ∧ AGv vi2 vj2 vk2 vc2 va2 vpa2 vb2 vpb2 vi' vj' vk' vc' va' vpa' vb' vpb' := by
  intro j
  induction j with
  | zero =>
    intro n c vk hn hc hv
    obtain ⟨n, rfl⟩ : ∃ m, n = m + 1 := ⟨n - 1, by omega⟩
    obtain rfl : c = 36 := by omega
    unfold mX1_copyFrom_L2
    rw [if_pos (by decide)]
    unfold mX1_copyFrom_J38
    exact v_copy_L40 hv 4 4096 0 vc (by decide) (by decide) (fun x hx => absurd hx (Nat.not_lt_zero x))
  | succ j ih =>
    intro n c vk hn hc hv
    obtain ⟨n, rfl⟩ : ∃ m, n = m + 1 := ⟨n - 1, by omega⟩
    unfold mX1_copyFrom_L2
    have hcN : ¬ ((36 : Int32) ≤ nI c) := nI_leF (b := 36) (by omega) (by decide) (by omega)
    rw [if_neg hcN, if_neg hcN, if_pos (g_idx (by omega) 36 (by omega)), nI_clamp (by omega), nI_1]
    refine ih n (c + 1) _ (by omega) (by omega) (fun x hx => ?_)
    by_cases e : x = c
    · subst e; exact if_pos rfl
    · rw [show ∀ v, upd vk c v x = vk x from fun v => if_neg e]; exact hv x (by omega)
theorem v_copy (vi : Nat → Int32) (vj : Nat → Int64) (vk vc va vpa vb vpb vi2 : Nat → Int32) (vj2 : Nat → Int64) (vk2 vc2 va2 vpa2 vb2 vpb2 : Nat → Int32) :
    ∃ vi' vj' vk' vc' va' vpa' vb' vpb', mX1_copyFrom vi vj vk vc va vpa vb vpb vi2 vj2 vk2 vc2 va2 vpa2 vb2 vpb2 = some (vi', vj', vk', vc', va', vpa', vb', vpb') ∧ AGv vi2 vj2 vk2 vc2 va2 vpa2 vb2 vpb2 vi' vj' vk' vc' va' vpa' vb' vpb' := by
  unfold mX1_copyFrom
  exact v_copy_L2 36 4096 0 vk (by decide) (by decide) (fun x hx => absurd hx (Nat.not_lt_zero x))
/-! Rows of the reference -/
theorem g_copy117_117_L {vs : Nat → Int32} {a b : Nat} (ha : a + 117 ≤ 117) (hb : b + 117 ≤ 117) : ∀ (j n c : Nat) (vt : Nat → Int32), j < n → c + j = 117 →
      ∃ vt', mX9_copyState_117_117_L3 n vs vt (nI a) (nI b) (nI c) = some vt' ∧ (∀ k, c ≤ k → k < 117 → vt' (b + k) = vs (a + k)) ∧ ∀ x, x < b + c ∨ b + 117 ≤ x → vt' x = vt x := by
  intro j
  induction j with
  | zero =>
    intro n c vt hn hc
    obtain ⟨n, rfl⟩ : ∃ m, n = m + 1 := ⟨n - 1, by omega⟩
    obtain rfl : c = 117 := by omega
    refine ⟨vt, ?_, fun k k1 k2 => by omega, fun _ _ => rfl⟩
    unfold mX9_copyState_117_117_L3
    rw [if_pos (by decide)]
  | succ j ih =>
    intro n c vt hn hc
    obtain ⟨n, rfl⟩ : ∃ m, n = m + 1 := ⟨n - 1, by omega⟩
    unfold mX9_copyState_117_117_L3
    have hc117 : ¬ ((117 : Int32) ≤ nI c) := nI_leF (b := 117) (by omega) (by decide) (by omega)
    rw [if_neg hc117, nI_add, nI_add, if_pos (g_idx (by omega) 117 (by omega)), if_pos (g_idx (by omega) 117 (by omega)), nI_clamp (by omega), nI_clamp (by omega), nI_1]
    obtain ⟨vt', e1, e2, e3⟩ := ih n (c + 1) (upd vt (b + c) (vs (a + c))) (by omega) (by omega)
    refine ⟨vt', e1, fun k k1 k2 => ?_, fun x hx => (e3 x (by omega)).trans (if_neg (by omega))⟩
    by_cases e : k = c
    · subst e
      exact (e3 (b + k) (by omega)).trans (if_pos rfl)
    · exact e2 k (by omega) k2
theorem g_copy117_117 (vs vt : Nat → Int32) {a b : Nat} (ha : a + 117 ≤ 117) (hb : b + 117 ≤ 117) : ∃ vt', mX9_copyState_117_117 vs vt (nI a) (nI b) = some vt' ∧ (∀ k, k < 117 → vt' (b + k) = vs (a + k)) ∧ ∀ x, x < b ∨ b + 117 ≤ x → vt' x = vt x := by
  unfold mX9_copyState_117_117
  obtain ⟨vt', e1, e2, e3⟩ := g_copy117_117_L (vs := vs) ha hb 117 4096 0 vt (by decide) (by decide)
  exact ⟨vt', e1, fun k hk => e2 k (Nat.zero_le k) hk, e3⟩
theorem g_copy117_1638_L {vs : Nat → Int32} {a b : Nat} (ha : a + 117 ≤ 117) (hb : b + 117 ≤ 1638) : ∀ (j n c : Nat) (vt : Nat → Int32), j < n → c + j = 117 →
      ∃ vt', mX9_copyState_117_1638_L3 n vs vt (nI a) (nI b) (nI c) = some vt' ∧ (∀ k, c ≤ k → k < 117 → vt' (b + k) = vs (a + k)) ∧ ∀ x, x < b + c ∨ b + 117 ≤ x → vt' x = vt x := by
  intro j
  induction j with
  | zero =>
    intro n c vt hn hc
    obtain ⟨n, rfl⟩ : ∃ m, n = m + 1 := ⟨n - 1, by omega⟩
    obtain rfl : c = 117 := by omega
    refine ⟨vt, ?_, fun k k1 k2 => by omega, fun _ _ => rfl⟩
    unfold mX9_copyState_117_1638_L3
    rw [if_pos (by decide)]
  | succ j ih =>
    intro n c vt hn hc
    obtain ⟨n, rfl⟩ : ∃ m, n = m + 1 := ⟨n - 1, by omega⟩
    unfold mX9_copyState_117_1638_L3
    have hc117 : ¬ ((117 : Int32) ≤ nI c) := nI_leF (b := 117) (by omega) (by decide) (by omega)
    rw [if_neg hc117, nI_add, nI_add, if_pos (g_idx (by omega) 117 (by omega)), if_pos (g_idx (by omega) 1638 (by omega)), nI_clamp (by omega), nI_clamp (by omega), nI_1]
    obtain ⟨vt', e1, e2, e3⟩ := ih n (c + 1) (upd vt (b + c) (vs (a + c))) (by omega) (by omega)
    refine ⟨vt', e1, fun k k1 k2 => ?_, fun x hx => (e3 x (by omega)).trans (if_neg (by omega))⟩
    by_cases e : k = c
    · subst e
      exact (e3 (b + k) (by omega)).trans (if_pos rfl)
    · exact e2 k (by omega) k2
theorem g_copy117_1638 (vs vt : Nat → Int32) {a b : Nat} (ha : a + 117 ≤ 117) (hb : b + 117 ≤ 1638) : ∃ vt', mX9_copyState_117_1638 vs vt (nI a) (nI b) = some vt' ∧ (∀ k, k < 117 → vt' (b + k) = vs (a + k)) ∧ ∀ x, x < b ∨ b + 117 ≤ x → vt' x = vt x := by
  unfold mX9_copyState_117_1638
  obtain ⟨vt', e1, e2, e3⟩ := g_copy117_1638_L (vs := vs) ha hb 117 4096 0 vt (by decide) (by decide)
  exact ⟨vt', e1, fun k hk => e2 k (Nat.zero_le k) hk, e3⟩
theorem g_copy1638_117_L {vs : Nat → Int32} {a b : Nat} (ha : a + 117 ≤ 1638) (hb : b + 117 ≤ 117) : ∀ (j n c : Nat) (vt : Nat → Int32), j < n → c + j = 117 →
      ∃ vt', mX9_copyState_1638_117_L3 n vs vt (nI a) (nI b) (nI c) = some vt' ∧ (∀ k, c ≤ k → k < 117 → vt' (b + k) = vs (a + k)) ∧ ∀ x, x < b + c ∨ b + 117 ≤ x → vt' x = vt x := by
  intro j
  induction j with
  | zero =>
    intro n c vt hn hc
    obtain ⟨n, rfl⟩ : ∃ m, n = m + 1 := ⟨n - 1, by omega⟩
    obtain rfl : c = 117 := by omega
    refine ⟨vt, ?_, fun k k1 k2 => by omega, fun _ _ => rfl⟩
    unfold mX9_copyState_1638_117_L3
    rw [if_pos (by decide)]
  | succ j ih =>
    intro n c vt hn hc
    obtain ⟨n, rfl⟩ : ∃ m, n = m + 1 := ⟨n - 1, by omega⟩
    unfold mX9_copyState_1638_117_L3
    have hc117 : ¬ ((117 : Int32) ≤ nI c) := nI_leF (b := 117) (by omega) (by decide) (by omega)
    rw [if_neg hc117, nI_add, nI_add, if_pos (g_idx (by omega) 1638 (by omega)), if_pos (g_idx (by omega) 117 (by omega)), nI_clamp (by omega), nI_clamp (by omega), nI_1]
    obtain ⟨vt', e1, e2, e3⟩ := ih n (c + 1) (upd vt (b + c) (vs (a + c))) (by omega) (by omega)
    refine ⟨vt', e1, fun k k1 k2 => ?_, fun x hx => (e3 x (by omega)).trans (if_neg (by omega))⟩
    by_cases e : k = c
    · subst e
      exact (e3 (b + k) (by omega)).trans (if_pos rfl)
    · exact e2 k (by omega) k2
theorem g_copy1638_117 (vs vt : Nat → Int32) {a b : Nat} (ha : a + 117 ≤ 1638) (hb : b + 117 ≤ 117) : ∃ vt', mX9_copyState_1638_117 vs vt (nI a) (nI b) = some vt' ∧ (∀ k, k < 117 → vt' (b + k) = vs (a + k)) ∧ ∀ x, x < b ∨ b + 117 ≤ x → vt' x = vt x := by
  unfold mX9_copyState_1638_117
  obtain ⟨vt', e1, e2, e3⟩ := g_copy1638_117_L (vs := vs) ha hb 117 4096 0 vt (by decide) (by decide)
  exact ⟨vt', e1, fun k hk => e2 k (Nat.zero_le k) hk, e3⟩
theorem g_copy117_234_L {vs : Nat → Int32} {a b : Nat} (ha : a + 117 ≤ 117) (hb : b + 117 ≤ 234) : ∀ (j n c : Nat) (vt : Nat → Int32), j < n → c + j = 117 →
      ∃ vt', mX9_copyState_117_234_L3 n vs vt (nI a) (nI b) (nI c) = some vt' ∧ (∀ k, c ≤ k → k < 117 → vt' (b + k) = vs (a + k)) ∧ ∀ x, x < b + c ∨ b + 117 ≤ x → vt' x = vt x := by
  intro j
  induction j with
  | zero =>
    intro n c vt hn hc
    obtain ⟨n, rfl⟩ : ∃ m, n = m + 1 := ⟨n - 1, by omega⟩
    obtain rfl : c = 117 := by omega
    refine ⟨vt, ?_, fun k k1 k2 => by omega, fun _ _ => rfl⟩
    unfold mX9_copyState_117_234_L3
    rw [if_pos (by decide)]
  | succ j ih =>
    intro n c vt hn hc
    obtain ⟨n, rfl⟩ : ∃ m, n = m + 1 := ⟨n - 1, by omega⟩
    unfold mX9_copyState_117_234_L3
    have hc117 : ¬ ((117 : Int32) ≤ nI c) := nI_leF (b := 117) (by omega) (by decide) (by omega)
    rw [if_neg hc117, nI_add, nI_add, if_pos (g_idx (by omega) 117 (by omega)), if_pos (g_idx (by omega) 234 (by omega)), nI_clamp (by omega), nI_clamp (by omega), nI_1]
    obtain ⟨vt', e1, e2, e3⟩ := ih n (c + 1) (upd vt (b + c) (vs (a + c))) (by omega) (by omega)
    refine ⟨vt', e1, fun k k1 k2 => ?_, fun x hx => (e3 x (by omega)).trans (if_neg (by omega))⟩
    by_cases e : k = c
    · subst e
      exact (e3 (b + k) (by omega)).trans (if_pos rfl)
    · exact e2 k (by omega) k2
theorem g_copy117_234 (vs vt : Nat → Int32) {a b : Nat} (ha : a + 117 ≤ 117) (hb : b + 117 ≤ 234) : ∃ vt', mX9_copyState_117_234 vs vt (nI a) (nI b) = some vt' ∧ (∀ k, k < 117 → vt' (b + k) = vs (a + k)) ∧ ∀ x, x < b ∨ b + 117 ≤ x → vt' x = vt x := by
  unfold mX9_copyState_117_234
  obtain ⟨vt', e1, e2, e3⟩ := g_copy117_234_L (vs := vs) ha hb 117 4096 0 vt (by decide) (by decide)
  exact ⟨vt', e1, fun k hk => e2 k (Nat.zero_le k) hk, e3⟩
theorem g_copy234_117_L {vs : Nat → Int32} {a b : Nat} (ha : a + 117 ≤ 234) (hb : b + 117 ≤ 117) : ∀ (j n c : Nat) (vt : Nat → Int32), j < n → c + j = 117 →
      ∃ vt', mX9_copyState_234_117_L3 n vs vt (nI a) (nI b) (nI c) = some vt' ∧ (∀ k, c ≤ k → k < 117 → vt' (b + k) = vs (a + k)) ∧ ∀ x, x < b + c ∨ b + 117 ≤ x → vt' x = vt x := by
  intro j
  induction j with
  | zero =>
    intro n c vt hn hc
    obtain ⟨n, rfl⟩ : ∃ m, n = m + 1 := ⟨n - 1, by omega⟩
    obtain rfl : c = 117 := by omega
    refine ⟨vt, ?_, fun k k1 k2 => by omega, fun _ _ => rfl⟩
    unfold mX9_copyState_234_117_L3
    rw [if_pos (by decide)]
  | succ j ih =>
    intro n c vt hn hc
    obtain ⟨n, rfl⟩ : ∃ m, n = m + 1 := ⟨n - 1, by omega⟩
    unfold mX9_copyState_234_117_L3
    have hc117 : ¬ ((117 : Int32) ≤ nI c) := nI_leF (b := 117) (by omega) (by decide) (by omega)
    rw [if_neg hc117, nI_add, nI_add, if_pos (g_idx (by omega) 234 (by omega)), if_pos (g_idx (by omega) 117 (by omega)), nI_clamp (by omega), nI_clamp (by omega), nI_1]
    obtain ⟨vt', e1, e2, e3⟩ := ih n (c + 1) (upd vt (b + c) (vs (a + c))) (by omega) (by omega)
    refine ⟨vt', e1, fun k k1 k2 => ?_, fun x hx => (e3 x (by omega)).trans (if_neg (by omega))⟩
    by_cases e : k = c
    · subst e
      exact (e3 (b + k) (by omega)).trans (if_pos rfl)
    · exact e2 k (by omega) k2
theorem g_copy234_117 (vs vt : Nat → Int32) {a b : Nat} (ha : a + 117 ≤ 234) (hb : b + 117 ≤ 117) : ∃ vt', mX9_copyState_234_117 vs vt (nI a) (nI b) = some vt' ∧ (∀ k, k < 117 → vt' (b + k) = vs (a + k)) ∧ ∀ x, x < b ∨ b + 117 ≤ x → vt' x = vt x := by
  unfold mX9_copyState_234_117
  obtain ⟨vt', e1, e2, e3⟩ := g_copy234_117_L (vs := vs) ha hb 117 4096 0 vt (by decide) (by decide)
  exact ⟨vt', e1, fun k hk => e2 k (Nat.zero_le k) hk, e3⟩
/-! Several steps -/
theorem bo5_some {α α2 α3 α4 α5 β : Type} (a : α) (b : α2) (c : α3) (d : α4) (e : α5) (f : α → α2 → α3 → α4 → α5 → Option β) : bo5 (some (a, b, c, d, e)) f = f a b c d e := rfl
theorem bo6_some {α α2 α3 α4 α5 α6 β : Type} (a : α) (b : α2) (c : α3) (d : α4) (e : α5) (g : α6) (f : α → α2 → α3 → α4 → α5 → α6 → Option β) : bo6 (some (a, b, c, d, e, g)) f = f a b c d e g := rfl
theorem NLe_refl {va vpa s : Nat → Int32} {r f : Nat} (h : RB va vpa s r f) : NLe va va := by
  obtain ⟨x, x1, x2, x3⟩ := h.2.2.2
  exact ⟨x, x, Nat.le_refl x, x2, x3, x3⟩
theorem NLe_trans {a b c : Nat → Int32} (h1 : NLe a b) (h2 : NLe b c) : NLe a c := by
  obtain ⟨x, y, q1, q2, q3, q4⟩ := h1
  obtain ⟨y', z, p1, p2, p3, p4⟩ := h2
  have : y = y' := (nI_inj (by omega) (by omega)).mp (q4.symm.trans p3)
  exact ⟨x, z, by omega, p2, q3, p4⟩
theorem some_L {N : Nat} (hN : N < 4096) {vk vc vpa vpb : Nat → Int32} : ∀ (j n i : Nat) (l : Int32) (vi : Nat → Int32) (vj : Nat → Int64) (va vb s vwy vah vtg vws : Nat → Int32), j < n → i + j = N → FL vi vj vk vc va vpa vb vpb s →
      ∃ r vi' vj' va' vb' vwy' vah' vtg' vws' s', mX6_makeSome_L4 n vi vj vk vc va vpa vb vpb (nI N) l (nI i) = some (r, vi', vj', va', vb') ∧ mX9_stepOn_L5 n vwy vah vtg vws s (nI N) l (nI i) = some (r, vwy', vah', vtg', vws', s') ∧ FL vi' vj' vk vc va' vpa vb' vpb s' := by
  intro j
  induction j with
  | zero =>
    intro n i l vi vj va vb s vwy vah vtg vws hn hi hF
    obtain ⟨n, rfl⟩ : ∃ m, n = m + 1 := ⟨n - 1, by omega⟩
    obtain rfl : i = N := by omega
    unfold mX6_makeSome_L4 mX9_stepOn_L5
    have hle : nI i ≤ nI i := (pu_le (by omega) (by omega)).mpr (Nat.le_refl i)
    rw [if_pos hle, if_pos hle]
    exact ⟨_, _, _, _, _, _, _, _, _, _, rfl, rfl, hF⟩
  | succ j ih =>
    intro n i l vi vj va vb s vwy vah vtg vws hn hi hF
    obtain ⟨n, rfl⟩ : ∃ m, n = m + 1 := ⟨n - 1, by omega⟩
    unfold mX6_makeSome_L4 mX9_stepOn_L5
    have hle : ¬ nI N ≤ nI i := nI_leF (by omega) (by omega) (by omega)
    obtain ⟨r, vi', vj', va', vb', vwy', vah', vtg', vws', s', e1, e2, e3, -, -⟩ := one_step hF vwy vah vtg vws
    rw [if_neg hle, if_neg hle, e1, bo5_some, e2, bo6_some, nI_1]
    exact ih n (i + 1) (l + r) vi' vj' va' vb' s' vwy' vah' vtg' vws' (by omega) (by omega) e3
theorem some_steps {N : Nat} (hN : N < 4096) {vi : Nat → Int32} {vj : Nat → Int64} {vk vc va vpa vb vpb s : Nat → Int32} (hF : FL vi vj vk vc va vpa vb vpb s) (vwy vah vtg vws : Nat → Int32) :
      ∃ r vi' vj' va' vb' vwy' vah' vtg' vws' s', mX6_makeSome vi vj vk vc va vpa vb vpb (nI N) = some (r, vi', vj', va', vb') ∧ mX9_stepOn vwy vah vtg vws s (nI N) = some (r, vwy', vah', vtg', vws', s') ∧ FL vi' vj' vk vc va' vpa vb' vpb s' := by
  unfold mX6_makeSome mX9_stepOn
  exact some_L hN N 4096 0 0 vi vj va vb s vwy vah vtg vws hN (by omega) hF
