/-! The remembered states -/
theorem nI_117 : ∀ a, a < 14 → (117 : Int32) * nI a = nI (117 * a) := by decide +kernel
theorem g_shift {mi vnw vdi : Nat → Int32} : ∀ (j n c : Nat) (v : Nat → Int32), j < n → c + j = 1521 → (∀ k, k < c → v k = vdi (k + 117)) → (∀ k, c ≤ k → v k = vdi k) →
      ∃ v', mX9_remember_L11 n mi vnw v (nI c) = mX9_remember_J49 (upd mi 7 ((mi 7) - (1 : Int32))) vnw v' ∧ ∀ k, k < 1521 → v' k = vdi (k + 117) := by
  intro j
  induction j with
  | zero =>
    intro n c v hn hc h1 h2
    obtain ⟨n, rfl⟩ : ∃ m, n = m + 1 := ⟨n - 1, by omega⟩
    obtain rfl : c = 1521 := by omega
    refine ⟨v, ?_, h1⟩
    unfold mX9_remember_L11
    rw [if_pos (by decide)]
  | succ j ih =>
    intro n c v hn hc h1 h2
    obtain ⟨n, rfl⟩ : ∃ m, n = m + 1 := ⟨n - 1, by omega⟩
    have hle : ¬ ((1521 : Int32) ≤ nI c) := nI_leF (b := 1521) (by omega) (by decide) (by omega)
    have e117 : nI c + (117 : Int32) = nI (c + 117) := nI_add c 117
    unfold mX9_remember_L11
    rw [if_neg hle, e117, if_pos (g_idx (by omega) 1638 (by omega)), if_pos (g_idx (by omega) 1638 (by omega)), nI_clamp (by omega), nI_clamp (by omega), nI_1]
    refine ih n (c + 1) _ (by omega) (by omega) (fun k hk => ?_) (fun k hk => ?_)
    · by_cases e : k = c
      · subst e
        exact (if_pos rfl).trans (h2 (k + 117) (by omega))
      · exact (if_neg e).trans (h1 k (by omega))
    · exact (if_neg (by omega)).trans (h2 k (by omega))
/-- the reference remembers: row a new, those before it moved or not -/
theorem g_remember (mi vnw vdi : Nat → Int32) {ct : Nat} (hct : ct ≤ 14) (h7 : mi 7 = nI ct) :
    ∃ mi' vdi', mX9_remember mi vnw vdi = some (mi', vdi') ∧ mi' 0 = mi 0 ∧ mi' 2 = mi 2 ∧ mi' 7 = nI (if ct = 14 then 14 else ct + 1) ∧
      (∀ k, k < 117 → vdi' (117 * (if ct = 14 then 13 else ct) + k) = vnw k) ∧ (∀ i k, i < (if ct = 14 then 13 else ct) → k < 117 → vdi' (117 * i + k) = vdi (117 * (if ct = 14 then i + 1 else i) + k)) := by
  unfold mX9_remember
  rw [h7]
  by_cases h : ct = 14
  · subst h
    rw [if_pos (show nI 14 = (14 : Int32) from rfl)]
    obtain ⟨v', e1, e2⟩ := g_shift (mi := mi) (vnw := vnw) (vdi := vdi) 1521 4096 0 vdi (by decide) (by decide) (fun k hk => absurd hk (Nat.not_lt_zero k)) (fun _ _ => rfl)
    have m7 : upd mi 7 ((mi 7) - (1 : Int32)) 7 = nI 13 := by
      show mi 7 - 1 = nI 13
      rw [h7]; decide
    obtain ⟨vdi', f1, f2, f3⟩ := g_copy117_1638 vnw v' (a := 0) (b := 1521) (by decide) (by decide)
    have e49 : mX9_remember_J49 (upd mi 7 ((mi 7) - (1 : Int32))) vnw v' = some (upd (upd mi 7 ((mi 7) - (1 : Int32))) 7 (nI 13 + 1), vdi') := by
      unfold mX9_remember_J49
      rw [m7, nI_117 13 (by decide), show (0 : Int32) = nI 0 from rfl, f1, bo1_some]
    refine ⟨upd (upd mi 7 ((mi 7) - (1 : Int32))) 7 (nI 13 + 1), vdi', (show mX9_remember_L11 4096 mi vnw vdi (0 : Int32) = _ from e1).trans e49, ?_⟩
    · refine ⟨rfl, rfl, ?_, fun k hk => ?_, fun i k hi hk => ?_⟩
      · show nI 13 + 1 = _
        rw [if_pos rfl]; decide
      · rw [if_pos rfl, f2 k hk, Nat.zero_add]
      · rw [if_pos rfl] at hi
        rw [if_pos rfl, f3 (117 * i + k) (by omega), e2 (117 * i + k) (by omega), show 117 * i + k + 117 = 117 * (i + 1) + k by omega]
  · rw [if_neg (show ¬ nI ct = (14 : Int32) from fun q => h ((nI_inj (b := 14) (by omega) (by decide)).mp q)), if_neg h, if_neg h]
    obtain ⟨vdi', f1, f2, f3⟩ := g_copy117_1638 vnw vdi (a := 0) (b := 117 * ct) (by decide) (by omega)
    have e49 : mX9_remember_J49 mi vnw vdi = some (upd mi 7 (nI ct + 1), vdi') := by
      unfold mX9_remember_J49
      rw [h7, nI_117 ct (by omega), show (0 : Int32) = nI 0 from rfl, f1, bo1_some]
    refine ⟨upd mi 7 (nI ct + 1), vdi', e49, ?_⟩
    · refine ⟨rfl, rfl, nI_1 ct, fun k hk => ?_, fun i k hi hk => ?_⟩
      · rw [f2 k hk, Nat.zero_add]
      · rw [if_neg h, f3 (117 * i + k) (by omega)]
theorem v_remember {vh : Nat → Int32} {vhs : Nat → Option Nat} {nx ct q : Nat} (hnx : nx < 14) (hct : ct ≤ 14) (h1 : vh 1 = nI nx) (h2 : vh 2 = nI ct) (hq : vhs nx = some q) (vi : Nat → Int32) (vj : Nat → Int64) (vk vc va vpa vb vpb vi2 : Nat → Int32) (vj2 : Nat → Int64) (vk2 vc2 va2 vpa2 vb2 vpb2 : Nat → Int32) :
    ∃ vh' vi' vj' vk' vc' va' vpa' vb' vpb', mX3_remember vh vhs vi vj vk vc va vpa vb vpb vi2 vj2 vk2 vc2 va2 vpa2 vb2 vpb2 q = some (vh', vi', vj', vk', vc', va', vpa', vb', vpb') ∧ vh' 1 = nI ((nx + 1) % 14) ∧ vh' 2 = nI (if ct = 14 then 14 else ct + 1) ∧ AGv vi vj vk vc va vpa vb vpb vi' vj' vk' vc' va' vpa' vb' vpb' := by
  obtain ⟨vi', vj', vk', vc', va', vpa', vb', vpb', e1, e2⟩ := v_copy vi2 vj2 vk2 vc2 va2 vpa2 vb2 vpb2 vi vj vk vc va vpa vb vpb
  have hst : mX3_stateAt vhs (vh 1) = some q := by
    unfold mX3_stateAt
    rw [h1, if_neg (lt0_nI (by omega)), if_neg (show ¬ ((14 : Int32) ≤ nI nx) from nI_leF (b := 14) (by omega) (by decide) hnx), nI_clamp (by omega), hq]
  have hmin : jmin (vh 2 + (1 : Int32)) (14 : Int32) = nI (if ct = 14 then 14 else ct + 1) := by
    unfold jmin
    rw [h2, nI_1]
    by_cases h : ct = 14
    · subst h; decide
    · rw [if_neg h, if_neg (fun z => by
        have z1 : nI 14 < nI (ct + 1) := z
        rw [pu_lt (by decide) (by omega)] at z1
        omega)]
  unfold mX3_remember mX3_remember_J44
  rw [if_pos hst, e1, bo8_some, h1, nI_1]
  by_cases h : nx = 13
  · subst h
    rw [if_pos (by decide)]
    exact ⟨_, _, _, _, _, _, _, _, _, rfl, rfl, hmin, e2⟩
  · rw [if_neg (show ¬ ((14 : Int32) ≤ nI (nx + 1)) from nI_leF (b := 14) (by omega) (by decide) (by omega))]
    refine ⟨_, _, _, _, _, _, _, _, _, rfl, ?_, hmin, e2⟩
    rw [Nat.mod_eq_of_lt (by omega)]; rfl
def putH (H : Nat → Nat → Nat → Int32) (n : Nat) (vi vk vc va vpa vb vpb : Nat → Int32) : Nat → Nat → Nat → Int32 := setH H n (setI (setI (setI (setI (setI (setI (setI (H n) 0 vi) 1 vk) 2 vc) 3 va) 4 vpa) 5 vb) 6 vpb)
theorem remember_ok {vh : Nat → Int32} {vhs : Nat → Option Nat} {acts : Int32} {vdi : Nat → Int32} {H : Nat → Nat → Nat → Int32} {J : Nat → Nat → Int64} {A : Nat → Nat → Nat} (hH : HST vh vhs acts vdi H J A) {vi : Nat → Int32} {vj : Nat → Int64} {vk vc va vpa vb vpb vnw : Nat → Int32} (hF : FL vi vj vk vc va vpa vb vpb vnw) {mi : Nat → Int32} (h7 : mi 7 = acts) :
    ∃ n, n < 14 ∧ ∃ vh' vi' vj' vk' vc' va' vpa' vb' vpb' mi' vdi', mX3_remember vh vhs vi vj vk vc va vpa vb vpb (H n 0) (J n) (H n 1) (H n 2) (H n 3) (H n 4) (H n 5) (H n 6) (A n 0) = some (vh', vi', vj', vk', vc', va', vpa', vb', vpb') ∧ mX9_remember mi vnw vdi = some (mi', vdi') ∧ mi' 0 = mi 0 ∧ mi' 2 = mi 2 ∧
      HST vh' vhs (mi' 7) vdi' (putH H n vi' vk' vc' va' vpa' vb' vpb') (setL J n vj') A := by
  obtain ⟨nx, ct, hnx, hct, h1, h2, h3, hhs, hrow⟩ := hH
  obtain ⟨vh', vi', vj', vk', vc', va', vpa', vb', vpb', e1, e2, e3, e4⟩ := v_remember hnx hct h1 h2 (hhs nx hnx) vi vj vk vc va vpa vb vpb (H nx 0) (J nx) (H nx 1) (H nx 2) (H nx 3) (H nx 4) (H nx 5) (H nx 6)
  obtain ⟨mi', vdi', f1, f2, f3, f4, f5, f6⟩ := g_remember mi vnw vdi hct (h7.trans h3)
  refine ⟨nx, hnx, vh', vi', vj', vk', vc', va', vpa', vb', vpb', mi', vdi', e1, f1, f2, f3, (nx + 1) % 14, if ct = 14 then 14 else ct + 1, Nat.mod_lt _ (by decide), ?_, e2, e3, f4, hhs, fun i hi => ?_⟩
  · split <;> omega
  · have same : ∀ idx, idx ≠ nx → putH H nx vi' vk' vc' va' vpa' vb' vpb' idx = H idx ∧ setL J nx vj' idx = J idx := fun idx h => ⟨setH_ne h, setL_ne h⟩
    have new : putH H nx vi' vk' vc' va' vpa' vb' vpb' nx = setI (setI (setI (setI (setI (setI (setI (H nx) 0 vi') 1 vk') 2 vc') 3 va') 4 vpa') 5 vb') 6 vpb' ∧ setL J nx vj' nx = vj' := ⟨setH_same _ _ _, setL_same _ _ _⟩
    have fresh : FL vi' vj' vk' vc' va' vpa' vb' vpb' (fun k => vdi' (117 * (if ct = 14 then 13 else ct) + k)) := FL_cong hF e4 (fun k hk => f5 k hk)
    by_cases h : ct = 14
    · subst h
      rw [if_pos rfl] at hi fresh
      have hidx : ((nx + 1) % 14 + 14 - (if 14 = 14 then 14 else 14 + 1) + i) % 14 = (nx + 1 + i) % 14 := by rw [if_pos rfl]; omega
      rw [hidx]
      by_cases h13 : i = 13
      · subst h13
        have : (nx + 1 + 13) % 14 = nx := by omega
        rw [this, new.1, new.2]
        exact fresh
      · have hne : (nx + 1 + i) % 14 ≠ nx := by omega
        rw [(same _ hne).1, (same _ hne).2]
        have old := hrow (i + 1) (by omega)
        rw [show (nx + 14 - 14 + (i + 1)) % 14 = (nx + 1 + i) % 14 by omega] at old
        refine FL_cong old (AGv_refl _ _ _ _ _ _ _ _) (fun k hk => ?_)
        have := f6 i k (by rw [if_pos rfl]; omega) hk
        rw [if_pos rfl] at this
        exact this
    · rw [if_neg h] at hi fresh
      have hidx : ((nx + 1) % 14 + 14 - (if ct = 14 then 14 else ct + 1) + i) % 14 = (nx + 14 - ct + i) % 14 := by rw [if_neg h]; omega
      rw [hidx]
      by_cases hl : i = ct
      · subst hl
        have : (nx + 14 - i + i) % 14 = nx := by omega
        rw [this, new.1, new.2]
        exact fresh
      · have hne : (nx + 14 - ct + i) % 14 ≠ nx := by omega
        rw [(same _ hne).1, (same _ hne).2]
        refine FL_cong (hrow i (by omega)) (AGv_refl _ _ _ _ _ _ _ _) (fun k hk => ?_)
        have := f6 i k (by rw [if_neg h]; omega) hk
        rw [if_neg h] at this
        exact this
/-- what is put back as it was changes nothing -/
theorem HST_same {vh : Nat → Int32} {vhs : Nat → Option Nat} {acts : Int32} {vdi : Nat → Int32} {H : Nat → Nat → Nat → Int32} {J : Nat → Nat → Int64} {A : Nat → Nat → Nat} (hH : HST vh vhs acts vdi H J A) (n : Nat) : HST vh vhs acts vdi (putH H n (H n 0) (H n 1) (H n 2) (H n 3) (H n 4) (H n 5) (H n 6)) (setL J n (J n)) A := by
  obtain ⟨nx, ct, hnx, hct, h1, h2, h3, hhs, hrow⟩ := hH
  refine ⟨nx, ct, hnx, hct, h1, h2, h3, hhs, fun i hi => ?_⟩
  have old := hrow i hi
  generalize (nx + 14 - ct + i) % 14 = idx at *
  by_cases e : idx = n
  · subst e
    have e1 : putH H idx (H idx 0) (H idx 1) (H idx 2) (H idx 3) (H idx 4) (H idx 5) (H idx 6) idx = _ := setH_same _ _ _
    rw [e1, setL_same]
    exact old
  · have e1 : putH H n (H n 0) (H n 1) (H n 2) (H n 3) (H n 4) (H n 5) (H n 6) idx = H idx := setH_ne e
    rw [e1, setL_ne e]
    exact old
theorem bh10_l {α α2 α3 α4 α5 α6 α7 α8 α9 α10 β : Type} (a : α) (b : α2) (c : α3) (d : α4) (e : α5) (g : α6) (h : α7) (i : α8) (j : α9) (l : α10) (f : α → α2 → α3 → α4 → α5 → α6 → α7 → α8 → α9 → α10 → Option β) (k : String → Option β) : bh10 (.inl (a, b, c, d, e, g, h, i, j, l)) f k = f a b c d e g h i j l := rfl
theorem bh10_r {α α2 α3 α4 α5 α6 α7 α8 α9 α10 β : Type} (E : String) (f : α → α2 → α3 → α4 → α5 → α6 → α7 → α8 → α9 → α10 → Option β) (k : String → Option β) : bh10 (.inr E) f k = k E := rfl
theorem pq_undo : pl_undo PRx := by
  intro σ xs i hP
  obtain ⟨p1, p2, p3, p4, p5⟩ := hP
  obtain ⟨nx, ct, hnx, hct, h1, h2, h3, hhs, hrow⟩ := p3
  unfold mLaw_undo
  by_cases h0 : ct = 0
  · subst h0
    refine ⟨0, by decide, σ.1 2, σ.2.1 0, σ.1 3, σ.1 4, σ.1 5, σ.1 6, σ.1 7, σ.1 8, σ.1 16, σ.2.1 6, upd (σ.1 35) 0 1, σ.1 37, ?_, p1, p2, ⟨nx, 0, hnx, hct, h1, h2, h3, hhs, hrow⟩, p4, p5⟩
    unfold mL_undo mX8_undo mX9_undo mX9_undo_J13 mX9_refused
    rw [h2, if_neg (by decide), bo1_some, bh10_r, if_pos rfl, bo11_some, h3, if_pos (show nI 0 = 0 from rfl), if_neg (show ¬ (1 : Int32) ≤ 0 by decide), bt2_mk, if_neg ne10, bo3_some]
    show (if (1 : Int32) = 1 then (if (1 : Int32) = 0 then _ else _) else _) = _
    rw [if_pos rfl, if_neg ne10]
  · obtain ⟨n, hn, hnn⟩ : ∃ n, n < 14 ∧ n = (nx + 13) % 14 := ⟨_, Nat.mod_lt _ (by decide), rfl⟩
    have hgt : (0 : Int32) < nI ct := ltc (a := 0) (by decide) (by omega) (by omega)
    obtain ⟨vi', vj', vk', vc', va', vpa', vb', vpb', e1, e2⟩ := v_copy (σ.1 2) (σ.2.1 0) (σ.1 3) (σ.1 4) (σ.1 5) (σ.1 6) (σ.1 7) (σ.1 8) (σ.2.2.2.1 n 0) (σ.2.2.2.2.1 n) (σ.2.2.2.1 n 1) (σ.2.2.2.1 n 2) (σ.2.2.2.1 n 3) (σ.2.2.2.1 n 4) (σ.2.2.2.1 n 5) (σ.2.2.2.1 n 6)
    obtain ⟨vnw', f1, f2, -⟩ := g_copy1638_117 (σ.1 40) (σ.1 37) (a := 117 * (ct - 1)) (b := 0) (by omega) (by decide)
    have hst : mX3_stateAt σ.2.2.1 (nI n) = some (σ.2.2.2.2.2 n 0) := by
      unfold mX3_stateAt
      rw [if_neg (lt0_nI (by omega)), if_neg (show ¬ ((14 : Int32) ≤ nI n) from nI_leF (b := 14) (by omega) (by decide) hn), nI_clamp (by omega), hhs n hn]
    have e23 : mX3_takeBack_J23 (σ.1 16) σ.2.2.1 (σ.1 2) (σ.2.1 0) (σ.1 3) (σ.1 4) (σ.1 5) (σ.1 6) (σ.1 7) (σ.1 8) (σ.2.2.2.1 n 0) (σ.2.2.2.2.1 n) (σ.2.2.2.1 n 1) (σ.2.2.2.1 n 2) (σ.2.2.2.1 n 3) (σ.2.2.2.1 n 4) (σ.2.2.2.1 n 5) (σ.2.2.2.1 n 6) (σ.2.2.2.2.2 n 0) (nI n) = some (upd (upd (σ.1 16) 1 (nI n)) 2 (nI (ct - 1)), vi', vj', vk', vc', va', vpa', vb', vpb') := by
      unfold mX3_takeBack_J23
      rw [if_pos hst, h2, if_pos hgt, e1, bo8_some, nI_m1 (by omega)]
    have eTB : mX3_takeBack (σ.1 16) σ.2.2.1 (σ.1 2) (σ.2.1 0) (σ.1 3) (σ.1 4) (σ.1 5) (σ.1 6) (σ.1 7) (σ.1 8) (σ.2.2.2.1 n 0) (σ.2.2.2.2.1 n) (σ.2.2.2.1 n 1) (σ.2.2.2.1 n 2) (σ.2.2.2.1 n 3) (σ.2.2.2.1 n 4) (σ.2.2.2.1 n 5) (σ.2.2.2.1 n 6) (σ.2.2.2.2.2 n 0) = some (upd (upd (σ.1 16) 1 (nI n)) 2 (nI (ct - 1)), vi', vj', vk', vc', va', vpa', vb', vpb') := by
      unfold mX3_takeBack
      rw [h1]
      by_cases hz : nx = 0
      · rw [if_pos (show nI nx ≤ 0 by rw [hz]; decide), show ((14 : Int32) - (1 : Int32)) = nI n by rw [hnn, hz]; decide]
        exact e23
      · rw [if_neg (show ¬ nI nx ≤ 0 from nI_leF (a := 0) (by decide) (by omega) (by omega)), nI_m1 (by omega), show nx - 1 = n by omega]
        exact e23
    have hidx := hrow (ct - 1) (by omega)
    rw [show (nx + 14 - ct + (ct - 1)) % 14 = n by omega] at hidx
    refine ⟨n, hn, vi', vj', vk', vc', va', vpa', vb', vpb', upd (upd (σ.1 16) 1 (nI n)) 2 (nI (ct - 1)), vp_updL (σ.2.1 6) 0 (nI (ct - 1)).toInt64, upd (upd (σ.1 35) 0 0) 7 (nI (ct - 1)), vnw', ?_, FL_cong hidx e2 (fun k hk => by
      have := f2 k hk
      rw [Nat.zero_add] at this
      exact this), p2, ⟨n, ct - 1, hn, by omega, rfl, rfl, rfl, hhs, fun i hi => ?_⟩, p4, p5⟩
    · have m7 : upd (σ.1 35) 0 (0 : Int32) 7 = nI ct := h3
      unfold mL_undo mX8_undo mX9_undo mX9_undo_J13 mX9_refused
      rw [h2, if_pos hgt, eTB, bo9_some, bo1_some, bh10_l, bo11_some, h3, if_neg (show ¬ nI ct = 0 from nI_ne0 (by omega) (by omega)), if_pos (show (0 : Int32) ≤ 0 by decide), bt2_mk, if_pos rfl, m7, nI_m1 (by omega), nI_117 (ct - 1) (by omega), show mX9_copyState_1638_117 (σ.1 40) (σ.1 37) (nI (117 * (ct - 1))) (0 : Int32) = _ from f1, bo1_some, bo3_some]
      show (if (0 : Int32) = 0 then (if (0 : Int32) = 0 then (if lg_cmp (nI (ct - 1)).toInt64 (nI (ct - 1)).toInt64 = 0 then _ else _) else _) else _) = _
      rw [if_pos rfl, if_pos rfl, if_pos (lg_eq.mpr rfl)]
      rfl
    · have old := hrow i (by omega)
      rw [show (n + 14 - (ct - 1) + i) % 14 = (nx + 14 - ct + i) % 14 by omega]
      exact old
