/-! More answers -/
theorem pq_kindOf : pl_kindOf PRx := by
  intro σ xs i hP
  refine qa_pl hP (show mLaw_kindOf _ _ _ _ xs i = _ from rfl) ?_
  obtain ⟨K, t, f0, f1, m, hV, hS, hk, -⟩ := hP.1
  generalize xs (i + (1 : Int32)).toNatClampNeg = x
  unfold mL_kindOf mX8_kindOf mX9_kindOf
  rcases rng_or 36 (by decide) (by decide) x with ⟨c, hc, rfl⟩ | hx
  · rw [v_cell_in hc, tx1_l, g_noCell_in hc, bo2_some, if_pos rfl, if_pos (g_idx117 (by omega)), nI_clamp (by omega), v_kind hV.1 hc, (hS.1 c hc).1]
    exact Or.inl ⟨nI (K c), rfl, rfl⟩
  · rw [v_cell_out hx, tx1_r, bh1_r, if_pos rfl, g_noCell_out hx, bo2_some, if_neg ne10]
    exact Or.inr ⟨1, 0, by decide, rfl, rfl⟩
/-- yes or no -/
def QB (a : Option (Int32 × (Nat → Int64))) (b : Option (Int32 × (Nat → Int32))) (vou : Nat → Int64) (mi : Nat → Int32) : Prop :=
  (∃ v : Bool, a = some (0, vp_updL vou 0 (if v then 1 else 0)) ∧ b = some (if v then 1 else 0, upd mi 0 0)) ∨ ∃ k w : Int32, k ≠ 0 ∧ a = some (k, vou) ∧ b = some (w, upd mi 0 k)
def qB (a : Option (Int32 × (Nat → Int64))) (b : Option (Int32 × (Nat → Int32))) : Option ((Nat → Int64) × (Nat → Int32)) := bo2 a (fun r_1 vou_2 => (bo2 b (fun r_4 mi_5 => (if (mX9_thrown mi_5) = r_1 then (if r_1 = 0 then (if r_4 = 0 then (if (lg_cmp (vou_2 (0 : Int32).toNatClampNeg) (0 : Int64)) = 0 then (some (vou_2, mi_5)) else none) else (if (lg_cmp (vou_2 (0 : Int32).toNatClampNeg) (1 : Int64)) = 0 then (some (vou_2, mi_5)) else none)) else (some (vou_2, mi_5))) else none))))
theorem qb_pl {σ : LSt} (hP : PRx σ) {L : Option ((Nat → Int64) × (Nat → Int32))} {a : Option (Int32 × (Nat → Int64))} {b : Option (Int32 × (Nat → Int32))} (e : L = qB a b) (h : QB a b (σ.2.1 6) (σ.1 35)) :
    ∃ vou_z mi_z, L = some (vou_z, mi_z) ∧ PRx ((setI σ.1 35 mi_z), (setL σ.2.1 6 vou_z), σ.2.2.1, σ.2.2.2.1, σ.2.2.2.2.1, σ.2.2.2.2.2) := by
  rcases h with ⟨v, e1, e2⟩ | ⟨k, w, hk, e1, e2⟩
  · refine ⟨vp_updL (σ.2.1 6) 0 (if v then 1 else 0), upd (σ.1 35) 0 0, ?_, PRx_mo hP rfl rfl⟩
    rw [e, e1, e2]
    unfold qB
    rw [bo2_some, bo2_some]
    show (if (0 : Int32) = 0 then (if (0 : Int32) = 0 then (if (if v = true then (1 : Int32) else 0) = 0 then (if lg_cmp (if v = true then (1 : Int64) else 0) 0 = 0 then _ else _) else (if lg_cmp (if v = true then (1 : Int64) else 0) 1 = 0 then _ else _)) else _) else _) = _
    rw [if_pos rfl, if_pos rfl]
    cases v with
    | true => rw [if_neg (show ¬ (if true = true then (1 : Int32) else 0) = 0 by decide), if_pos (show lg_cmp (if true = true then (1 : Int64) else 0) 1 = 0 from lg_eq.mpr rfl)]
    | false => rw [if_pos (show (if false = true then (1 : Int32) else 0) = 0 from rfl), if_pos (show lg_cmp (if false = true then (1 : Int64) else 0) 0 = 0 from lg_eq.mpr rfl)]
  · refine ⟨σ.2.1 6, upd (σ.1 35) 0 k, ?_, PRx_mo hP rfl rfl⟩
    rw [e, e1, e2]
    unfold qB
    rw [bo2_some, bo2_some]
    show (if k = k then (if k = 0 then _ else _) else _) = _
    rw [if_pos rfl, if_neg hk]
theorem pq_hasCrate : pl_hasCrate PRx := by
  intro σ xs i hP
  refine qb_pl hP (show mLaw_hasCrate _ _ _ _ xs i = _ from rfl) ?_
  obtain ⟨K, t, f0, f1, m, hV, hS, hk, -⟩ := hP.1
  generalize xs (i + (1 : Int32)).toNatClampNeg = x
  unfold mL_hasCrate mX8_hasCrate mX9_hasCrate
  rcases rng_or 36 (by decide) (by decide) x with ⟨c, hc, rfl⟩ | hx
  · rw [v_cell_in hc, tx1_l, bh1_l, g_noCell_in hc, bo2_some, if_pos rfl, g_crate hc, if_pos (g_idx117 (by omega)), nI_clamp (by omega), hV.2.1, sL_holds hc, (hS.1 c hc).2]
    refine Or.inl ⟨t.1 c, ?_⟩
    cases t.1 c with
    | true => exact ⟨rfl, rfl⟩
    | false => exact ⟨rfl, rfl⟩
  · rw [v_cell_out hx, tx1_r, bh1_r, if_pos rfl, g_noCell_out hx, bo2_some, if_neg ne10]
    exact Or.inr ⟨1, 0, by decide, rfl, rfl⟩
theorem g_cratesOn_L {s : Nat → Int32} {C : Nat → Bool} (hS : ∀ x, x < 36 → s (36 + x) = (if C x then (1 : Int32) else 0)) : ∀ (j n c : Nat), j < n → c + j = 36 → mX9_cratesOn_L4 n s (nI (fb_ct C c)) (nI c) = some (nI (fb_ct C 36)) := by
  intro j
  induction j with
  | zero =>
    intro n c hn hc
    obtain ⟨n, rfl⟩ : ∃ m, n = m + 1 := ⟨n - 1, by omega⟩
    obtain rfl : c = 36 := by omega
    unfold mX9_cratesOn_L4
    rw [if_pos le36']
  | succ j ih =>
    intro n c hn hc
    obtain ⟨n, rfl⟩ : ∃ m, n = m + 1 := ⟨n - 1, by omega⟩
    have hc36 : c < 36 := by omega
    unfold mX9_cratesOn_L4
    rw [if_neg (le36 hc36), g_crate hc36, if_pos (g_idx117 (by omega)), nI_clamp (by omega), hS c hc36, nI_1]
    have e : nI (fb_ct C c) + (if C c = true then (1 : Int32) else 0) = nI (fb_ct C (c + 1)) := by
      rw [fb_ct_succ]
      cases C c with
      | true => exact nI_1 _
      | false => exact Int32.add_zero _
    rw [e]
    exact ih n (c + 1) (by omega) (by omega)
theorem g_cratesOn {s : Nat → Int32} {K : Nat → Nat} {C : Nat → Bool} {c0 c1 : Nat} (hS : RS s K C c0 c1) : mX9_cratesOn s = some (nI (fb_ct C 36)) := by
  unfold mX9_cratesOn
  exact g_cratesOn_L (fun x hx => (hS.1 x hx).2) 36 4096 0 (by decide) (by decide)
theorem pq_cratesByCells : pl_cratesByCells PRx := by
  intro σ xs i hP
  obtain ⟨K, t, f0, f1, m, hV, hS, hk, -⟩ := hP.1
  refine ⟨upd (σ.1 35) 0 0, ?_, PRx_mi hP rfl rfl⟩
  unfold mLaw_cratesByCells mX9_cratesByCells mX8_cratesByCells mX1_crateCount mX9_told
  rw [g_cratesOn hS, bo1_some, bt2_mk, bo2_some, hV.2.1, sL_count, if_pos rfl]
theorem pq_cratesByAccounts : pl_cratesByAccounts PRx := by
  intro σ xs i hP
  obtain ⟨K, t, f0, f1, m, hV, hS, hk, -, -, ⟨h5, h6, hm, h7, h110, hvc, h115, h116, hct⟩⟩ := hP.1
  refine ⟨upd (σ.1 35) 0 0, ?_, PRx_mi hP rfl rfl⟩
  unfold mLaw_cratesByAccounts mX9_cratesByAccounts mX8_cratesByAccounts mX9_told
  rw [g_cratesOn hS, bo1_some, bt2_mk, bo2_some, hct, if_pos rfl]
theorem pq_lost : pl_lost PRx := by
  intro σ xs i hP
  obtain ⟨K, t, f0, f1, m, hV, hS, hk, -, -, ⟨h5, h6, hm, h7, h110, hvc, h115, h116, hct⟩⟩ := hP.1
  refine ⟨upd (σ.1 35) 0 0, ?_, PRx_mi hP rfl rfl⟩
  unfold mLaw_lost mX9_lost mX8_lost mX9_told
  show (if σ.1 2 10 = σ.1 37 115 then some (upd (σ.1 35) 0 0) else none) = _
  rw [if_pos h115.symm]
theorem pq_checkpoints : pl_checkpoints PRx := by
  intro σ xs i hP
  obtain ⟨K, t, f0, f1, m, hV, hS, hk, -, -, ⟨h5, h6, hm, h7, h110, hvc, h115, h116, hct⟩⟩ := hP.1
  refine ⟨upd (σ.1 35) 0 0, ?_, PRx_mi hP rfl rfl⟩
  unfold mLaw_checkpoints mX9_checkpoints mX8_checkpoints mX9_told
  show (if σ.1 2 7 = σ.1 37 110 then some (upd (σ.1 35) 0 0) else none) = _
  rw [if_pos (h7.trans h110.symm)]
theorem pq_steps : pl_steps PRx := by
  intro σ xs i hP
  obtain ⟨K, t, f0, f1, m, hV, hS, hk, -, -, ⟨h5, h6, hm, h7, h110, hvc, h115, h116, hct⟩⟩ := hP.1
  refine ⟨upd (σ.1 35) 0 0, ?_, PRx_mi hP rfl rfl⟩
  unfold mLaw_steps mX9_steps mX8_steps mX9_told
  show (if σ.1 2 11 = σ.1 37 116 then some (upd (σ.1 35) 0 0) else none) = _
  rw [if_pos h116.symm]
theorem pq_cellOfCheckpoint : pl_cellOfCheckpoint PRx := by
  intro σ xs i hP
  refine qa_pl hP (show mLaw_cellOfCheckpoint _ _ _ _ _ xs i = _ from rfl) ?_
  obtain ⟨K, t, f0, f1, m, hV, hS, hk, -, -, ⟨h5, h6, hm, h7, h110, hvc, h115, h116, hct⟩⟩ := hP.1
  generalize xs (i + (1 : Int32)).toNatClampNeg = x
  unfold mL_cellOfCheckpoint mX8_cellOfCheckpoint mX9_cellOfCheckpoint
  rw [show σ.1 37 (110 : Int32).toNatClampNeg = nI m from h110, show (1 : Int64) = (1 : Int32).toInt64 from by decide, g_in]
  have out : ∀ s1 : Int32, s1 = 1 → mX9_cellOfCheckpoint_J23 (σ.1 35) (σ.1 37) x s1 = some (0, upd (σ.1 35) 0 1) := fun s1 h => by
    subst h
    unfold mX9_cellOfCheckpoint_J23 mX9_refused
    rw [if_neg (by decide), bt2_mk, if_neg ne10]
  by_cases hx : x < (1 : Int32)
  · have ev : mX1_checkpointCell (σ.1 2) (σ.1 4) x = some (-1) := by unfold mX1_checkpointCell; rw [if_pos hx]
    have ein : (if (1 : Int32) ≤ x ∧ x ≤ nI m then (1 : Int32) else 0) = 0 := if_neg (fun q => Int32.not_le.mpr hx q.1)
    rw [ev, bo1_some, if_pos rfl, bo1_some, bh1_r, if_pos rfl, ein, if_pos rfl, out 1 rfl]
    exact Or.inr ⟨1, 0, by decide, rfl, rfl⟩
  · obtain ⟨k, hk31, rfl⟩ : ∃ j : Nat, j < 2 ^ 31 ∧ x = nI j := nI_of (fun q => hx (by
      have h1 : (0 : Int32) < 1 := by decide
      exact Int32.lt_trans q h1))
    have k1 : 1 ≤ k := Classical.byContradiction fun q => hx (show nI k < nI 1 from (pu_lt hk31 (by decide)).mpr (by omega))
    rw [v_point hm h7 k1 hk31, bo1_some]
    by_cases hkm : k ≤ m
    · obtain ⟨e1, c, hc, e2⟩ := hvc (k - 1) (by omega)
      have e110 : ((110 : Int32) + nI k) = nI (110 + k) := nI_add 110 k
      have ein : (if (1 : Int32) ≤ nI k ∧ nI k ≤ nI m then (1 : Int32) else 0) = 1 := if_pos ⟨(pu_le (a := 1) (by decide) hk31).mpr k1, (pu_le hk31 (by omega)).mpr hkm⟩
      rw [if_pos hkm, e2, if_neg (ne_neg1 c hc), bo1_some, bh1_l, ein, if_neg ne10]
      unfold mX9_cellOfCheckpoint_J23 mX9_refused
      rw [if_pos (by decide), bt2_mk, if_pos rfl, e110, if_pos (g_idx117 (by omega)), nI_clamp (by omega), show 110 + k = 111 + (k - 1) by omega, e1, e2]
      exact Or.inl ⟨nI c, rfl, rfl⟩
    · have ein : (if (1 : Int32) ≤ nI k ∧ nI k ≤ nI m then (1 : Int32) else 0) = 0 := if_neg (fun q => hkm ((pu_le hk31 (by omega)).mp q.2))
      rw [if_neg hkm, if_pos rfl, bo1_some, bh1_r, if_pos rfl, ein, if_pos rfl, out 1 rfl]
      exact Or.inr ⟨1, 0, by decide, rfl, rfl⟩
theorem pq_isHome : pl_isHome PRx := by
  intro σ xs i hP
  refine qb_pl hP (show mLaw_isHome _ _ _ _ _ _ xs i = _ from rfl) ?_
  have hN := FL_next hP.1
  obtain ⟨K, t, f0, f1, m, hV, hS, hk, -, -, ⟨h5, h6, hm, h7, h110, hvc, h115, h116, hct⟩⟩ := hP.1
  generalize xs (i + (1 : Int32)).toNatClampNeg = x
  unfold mL_isHome mX8_isHome mX9_isHome
  rw [show σ.1 37 (110 : Int32).toNatClampNeg = nI m from h110, h7]
  rcases rng_or 2 (by decide) (by decide) x with ⟨r, hr, rfl⟩ | hx
  · rw [v_rob_in hr, tx1_l, g_noRob_in hr, bo2_some, if_pos rfl]
    by_cases q0 : nI m ≤ 0
    · rw [if_pos q0, if_pos q0, bh1_l, if_pos rfl]
      exact Or.inl ⟨false, rfl, rfl⟩
    · rw [if_neg q0, if_neg q0]
      rcases (show r = 0 ∨ r = 1 by omega) with rfl | rfl
      · rw [if_pos (show nI 0 = 0 from rfl), show mX9_of (σ.1 37) (nI 0) (2 : Int32) = some (σ.1 5 2) from (g_of (σ.1 37) (r := 0) (k := 2) (by decide) (by decide)).trans (congrArg some hN.1), bo1_some]
        by_cases q1 : σ.1 5 2 ≤ nI m
        · rw [if_pos q1, if_pos q1, bh1_l, if_pos rfl]
          exact Or.inl ⟨false, rfl, rfl⟩
        · rw [if_neg q1, if_neg q1, bh1_l, if_neg ne10]
          exact Or.inl ⟨true, rfl, rfl⟩
      · rw [if_neg (show ¬ nI 1 = 0 by decide), show mX9_of (σ.1 37) (nI 1) (2 : Int32) = some (σ.1 7 2) from (g_of (σ.1 37) (r := 1) (k := 2) (by decide) (by decide)).trans (congrArg some hN.2), bo1_some]
        by_cases q1 : σ.1 7 2 ≤ nI m
        · rw [if_pos q1, if_pos q1, bh1_l, if_pos rfl]
          exact Or.inl ⟨false, rfl, rfl⟩
        · rw [if_neg q1, if_neg q1, bh1_l, if_neg ne10]
          exact Or.inl ⟨true, rfl, rfl⟩
  · rw [v_rob_out hx, tx1_r, bh1_r, if_pos rfl, g_noRob_out hx, bo2_some, if_neg ne10]
    exact Or.inr ⟨1, 0, by decide, rfl, rfl⟩
/-- instruction p of a robot -/
theorem v_instr {va vpa s : Nat → Int32} {r f : Nat} (h : RB va vpa s r f) (x : Int32) : (∃ p l w, p < l ∧ l ≤ 10 ∧ x = nI p ∧ va 8 = nI l ∧ w < 6 ∧ mX4_instruction va vpa x = nI w ∧ s (90 + 10 * r + p) = nI w) ∨ (mX4_instruction va vpa x = -1 ∧ ∃ l, l ≤ 10 ∧ va 8 = nI l ∧ ¬ ((0 : Int32) ≤ x ∧ x ≤ nI l - 1)) := by
  obtain ⟨h1, hR, ⟨hf, p, l, e7, e8, hl, hp, hi⟩, hN⟩ := h
  unfold mX4_instruction
  by_cases hx : x < 0
  · rw [if_pos hx]
    exact Or.inr ⟨rfl, l, hl, e8, fun q => Int32.not_le.mpr hx q.1⟩
  · obtain ⟨k, hk31, rfl⟩ := nI_of hx
    rw [if_neg hx, e8]
    by_cases hkl : k < l
    · obtain ⟨w, w1, w2⟩ := hi k hkl
      rw [if_neg (fun q => by rw [pu_le (by omega) (by omega)] at q; omega), if_neg (show ¬ ((10 : Int32) ≤ nI k) from nI_leF (b := 10) (by omega) (by decide) (by omega)), nI_clamp (by omega)]
      exact Or.inl ⟨k, l, w, hkl, hl, rfl, rfl, w1, w2, (hR.2.2 k (by rw [e8]; exact nI_lt hkl (by omega)) (by omega)).trans w2⟩
    · rw [if_pos ((pu_le (by omega) hk31).mpr (by omega))]
      refine Or.inr ⟨rfl, l, hl, rfl, fun q => ?_⟩
      rcases Nat.eq_zero_or_pos l with e | e
      · subst e
        have q1 : nI k ≤ (-1 : Int32) := q.2
        exact Int32.not_le.mpr (show (-1 : Int32) < 0 by decide) (Int32.le_trans (nI_pos' hk31) q1)
      · rw [nI_m1 e] at q
        have := (pu_le hk31 (by omega)).mp q.2
        omega
theorem pq_instructionAt : pl_instructionAt PRx := by
  intro σ xs i hP
  refine qa_pl hP (show mLaw_instructionAt _ _ _ _ _ _ _ xs i = _ from rfl) ?_
  obtain ⟨K, t, f0, f1, m, hV, hS, hk, hB0, hB1, -⟩ := hP.1
  generalize xs (i + (1 : Int32)).toNatClampNeg = x
  generalize xs (i + (2 : Int32)).toNatClampNeg = y
  have out : mX9_instructionAt_J34 (σ.1 35) (σ.1 37) x y = some (0, upd (σ.1 35) 0 1) := by
    unfold mX9_instructionAt_J34 mX9_instructionAt_J35 mX9_refused
    rw [if_neg (by decide), bt2_mk, if_neg ne10]
  unfold mL_instructionAt mX8_instructionAt mX9_instructionAt
  rcases rng_or 2 (by decide) (by decide) x with ⟨r, hr, rfl⟩ | hx
  · have key : ∀ va vpa : Nat → Int32, ∀ f, RB va vpa (σ.1 37) r f → ∀ F, F = (if mX4_instruction va vpa y = -1 then (Sum.inr "java/lang/IndexOutOfBoundsException" : Int32 ⊕ String) else Sum.inl (mX4_instruction va vpa y)) →
        QA (bh1 F (fun r_1 => some ((0 : Int32), vp_updL (σ.2.1 6) (0 : Int32).toNatClampNeg r_1.toInt64)) (fun E_ => if E_ = "java/lang/IndexOutOfBoundsException" then some ((1 : Int32), σ.2.1 6) else none)) (if mX9_isRobot (nI r) = 0 then mX9_instructionAt_J34 (σ.1 35) (σ.1 37) (nI r) y else bo1 (mX9_of (σ.1 37) (nI r) (8 : Int32)) (fun r_7 => if mX9_in y.toInt64 0 (r_7 - (1 : Int32)).toInt64 = 0 then mX9_instructionAt_J34 (σ.1 35) (σ.1 37) (nI r) y else mX9_instructionAt_J35 (σ.1 35) (σ.1 37) (nI r) y 0)) (σ.2.1 6) (σ.1 35) := by
      intro va vpa f hB F hF
      subst hF
      rw [g_rob_in hr, if_neg ne10, show mX9_of (σ.1 37) (nI r) (8 : Int32) = some (va 8) from (g_of (σ.1 37) (k := 8) hr (by decide)).trans (congrArg some (hB.2.1.2.1 8 (by decide) (by decide))), bo1_some, show (0 : Int64) = (0 : Int32).toInt64 from by decide, g_in]
      rcases v_instr hB y with ⟨p, l, w, p1, p2, p3, p4, p5, p6, p7⟩ | ⟨p1, l, p2, p3, p4⟩
      · have ein : (if (0 : Int32) ≤ nI p ∧ nI p ≤ nI (l - 1) then (1 : Int32) else 0) = 1 := if_pos ⟨nI_pos' (by omega), (pu_le (by omega) (by omega)).mpr (by omega)⟩
        rw [p6, if_neg (ne_neg1 w (by omega)), bh1_l, p4, nI_m1 (by omega), p3, ein, if_neg ne10]
        unfold mX9_instructionAt_J35 mX9_refused
        rw [if_pos (by decide), bt2_mk, if_pos rfl, g_prog hr (by omega), if_pos (g_idx117 (by omega)), nI_clamp (by omega), p7]
        exact Or.inl ⟨nI w, rfl, rfl⟩
      · have ein : (if (0 : Int32) ≤ y ∧ y ≤ nI l - 1 then (1 : Int32) else 0) = 0 := if_neg p4
        rw [p1, if_pos rfl, bh1_r, if_pos rfl, p3, ein, if_pos rfl, out]
        exact Or.inr ⟨1, 0, by decide, rfl, rfl⟩
    rw [v_rob_in hr, tx1_l]
    rcases (show r = 0 ∨ r = 1 by omega) with rfl | rfl
    · rw [if_pos (show nI 0 = 0 from rfl)]
      exact key _ _ f0 hB0 _ rfl
    · rw [if_neg (show ¬ nI 1 = 0 by decide)]
      exact key _ _ f1 hB1 _ rfl
  · rw [v_rob_out hx, tx1_r, bh1_r, if_pos rfl, g_rob_out hx, if_pos rfl, out]
    exact Or.inr ⟨1, 0, by decide, rfl, rfl⟩
/-! The row ahead; whether they would clash -/
theorem v_rowOf {vj : Nat → Int64} {vk va vb : Nat → Int32} {K : Nat → Nat} {C : Nat → Bool} {c0 c1 d r : Nat} (hV : RV vj vk va vb K C c0 c1) (h0 : c0 < 36) (h1 : c1 < 36) (hd : d < 4) (hl : (pth d (r + 1) (bs c0 d)).length = r + 1) (hT : ∀ i, 1 ≤ i → i ≤ r → th C c0 c1 (pi d c0 i) = true) (hF : th C c0 c1 (pi d c0 (r + 1)) = false) :
    mJ13_bitCount_95d88 (mX6_rowOf_a vj va vb (sL (fun y => decide (y ∈ c0 :: pth d (r + 1) (bs c0 d))))) = nI r := by
  obtain ⟨hp, -⟩ := pin_pth (r + 1) c0 hl
  have erow : mX6_rowOf_a vj va vb (sL (fun y => decide (y ∈ c0 :: pth d (r + 1) (bs c0 d)))) = sL (rowP d c0 r) := by
    unfold mX6_rowOf_a
    rw [v_things hV h0 h1, hV.2.2.1, sL_set h0, sL_and, sL_diff]
    exact sL_cong (fun y _ => way_row hd h0 hl hT hF y)
  rw [erow, sL_count, rowP_count hd h0 hp r (by omega)]
theorem v_ahead {vj : Nat → Int64} {vk va vb s : Nat → Int32} {K : Nat → Nat} {C : Nat → Bool} {c0 c1 f : Nat} (hV : RV vj vk va vb K C c0 c1) (hk : RK K C c0 c1) (hf : f < 4) (h1 : va 1 = nI f) :
    ∃ v, bo1 (mX6_wayFrom vj vk va vb (va 0) (va 1)) (fun r_3 => (if (lg_cmp r_3 (0 : Int64)) = 0 then (some (Sum.inl (-1 : Int32))) else (some (Sum.inl (mJ13_bitCount_95d88 (mX6_rowOf_a vj va vb r_3)))))) = (some (Sum.inl v) : Option (Int32 ⊕ String)) ∧ v = (match rl K (th C c0 c1) f 6 (bs c0 f) with | none => -1 | some r => nI r) := by
  rw [hV.2.2.1, h1, v_wayFrom hV hk hf hk.2.1, bo1_some]
  cases hr : rl K (th C c0 c1) f 6 (bs c0 f) with
  | none =>
    show ∃ v, (if lg_cmp 0 0 = 0 then _ else _) = _ ∧ v = -1
    rw [if_pos (lg_eq.mpr rfl)]
    exact ⟨_, rfl, rfl⟩
  | some r =>
    obtain ⟨g1, g2, -⟩ := rl_row 6 c0 r hr
    have hl := (rl_len 6 (bs c0 f) r hr).1
    show ∃ v, (if lg_cmp (sL (fun y => decide (y ∈ c0 :: pth f (r + 1) (bs c0 f)))) 0 = 0 then _ else _) = _ ∧ v = nI r
    rw [if_neg (fun q => by
      rw [sL_zero] at q
      have := q c0 hk.2.1
      simp at this), v_rowOf hV hk.2.1 hk.2.2.1 hf hl g1 g2]
    exact ⟨_, rfl, rfl⟩
theorem bx1_l {α β : Type} (q : α) (f : α → Option (β ⊕ String)) : bx1 (.inl q) f = f q := rfl
theorem bx1_r {α β : Type} (E : String) (f : α → Option (β ⊕ String)) : bx1 (.inr E) f = some (.inr E) := rfl
theorem pq_rowAhead : pl_rowAhead PRx := by
  intro σ xs i hP
  refine qa_pl hP (show mLaw_rowAhead _ _ _ _ _ _ _ xs i = _ from rfl) ?_
  obtain ⟨K, t, f0, f1, m, hV, hS, hk, hB0, hB1, -⟩ := hP.1
  generalize xs (i + (1 : Int32)).toNatClampNeg = x
  unfold mL_rowAhead mX8_rowAhead mX9_rowAhead
  rcases rng_or 2 (by decide) (by decide) x with ⟨r, hr, rfl⟩ | hx
  · rw [v_rob_in hr, g_noRob_in hr, bo2_some, if_pos rfl]
    refine Or.inl ?_
    rcases (show r = 0 ∨ r = 1 by omega) with rfl | rfl
    · obtain ⟨v, e1, e2⟩ := v_ahead (s := σ.1 37) hV hk hB0.2.2.1.1 hB0.1
      refine ⟨v, ?_, ?_⟩
      · rw [bx1_l, if_pos (show nI 0 = 0 from rfl), e1]; rfl
      · rw [show mX9_of (σ.1 37) (nI 0) (0 : Int32) = some (nI t.2.1) from (g_of (σ.1 37) (r := 0) (k := 0) (by decide) (by decide)).trans (congrArg some hS.2.1), bo1_some, show mX9_of (σ.1 37) (nI 0) (1 : Int32) = some (nI f0) from (g_of (σ.1 37) (r := 0) (k := 1) (by decide) (by decide)).trans (congrArg some hB0.2.1.1), bo1_some, g_rowFrom hS hk hB0.2.2.1.1 hk.2.1, bo1_some, e2]; rfl
    · obtain ⟨v, e1, e2⟩ := v_ahead (vj := σ.2.1 0) (vk := σ.1 3) (va := σ.1 7) (vb := σ.1 5) (s := σ.1 37) (C := t.1) (c0 := t.2.2) (c1 := t.2.1) ⟨hV.1, hV.2.1, hV.2.2.2, hV.2.2.1⟩ (RK_swp hk) hB1.2.2.1.1 hB1.1
      have eth : th t.1 t.2.2 t.2.1 = th t.1 t.2.1 t.2.2 := funext (fun x => tht_swp t x)
      rw [eth] at e2
      have ew : ∀ c d, mX6_wayFrom (σ.2.1 0) (σ.1 3) (σ.1 7) (σ.1 5) c d = mX6_wayFrom (σ.2.1 0) (σ.1 3) (σ.1 5) (σ.1 7) c d := fun c d => by
        have el : ∀ n x1 x2 x3 x4 x5, mX6_wayFrom_L17 n (σ.2.1 0) (σ.1 3) (σ.1 7) (σ.1 5) x1 x2 x3 x4 x5 = mX6_wayFrom_L17 n (σ.2.1 0) (σ.1 3) (σ.1 5) (σ.1 7) x1 x2 x3 x4 x5 := by
          intro n
          induction n with
          | zero => intros; rfl
          | succ n ih =>
            intro x1 x2 x3 x4 x5
            unfold mX6_wayFrom_L17
            simp only [ih]
        unfold mX6_wayFrom
        rw [v_things_comm, el]
      have er : ∀ y, mX6_rowOf_b (σ.2.1 0) (σ.1 5) (σ.1 7) y = mX6_rowOf_a (σ.2.1 0) (σ.1 7) (σ.1 5) y := fun y => by
        unfold mX6_rowOf_b mX6_rowOf_a
        rw [v_things_comm]
      refine ⟨v, ?_, ?_⟩
      · simp only [er]
        rw [bx1_l, if_neg (show ¬ nI 1 = 0 by decide), ← ew, e1]; rfl
      · rw [show mX9_of (σ.1 37) (nI 1) (0 : Int32) = some (nI t.2.2) from (g_of (σ.1 37) (r := 1) (k := 0) (by decide) (by decide)).trans (congrArg some hS.2.2), bo1_some, show mX9_of (σ.1 37) (nI 1) (1 : Int32) = some (nI f1) from (g_of (σ.1 37) (r := 1) (k := 1) (by decide) (by decide)).trans (congrArg some hB1.2.1.1), bo1_some, g_rowFrom hS hk hB1.2.2.1.1 hk.2.2.1, bo1_some, e2]; rfl
  · rw [v_rob_out hx, g_noRob_out hx, bo2_some, if_neg ne10]
    exact Or.inr ⟨1, 0, by decide, rfl, rfl⟩
theorem pq_wouldClash : pl_wouldClash PRx := by
  intro σ xs i hP
  obtain ⟨K, t, f0, f1, m, hV, hS, hk, ⟨ha1, hR0, hO0, hN0⟩, ⟨hb1, hR1, hO1, hN1⟩, -⟩ := hP.1
  have hw0 := wd_lt (f := f0) (h := σ.1 5) (I := σ.1 6) hO0.1
  have hw1 := wd_lt (f := f1) (h := σ.1 7) (I := σ.1 8) hO1.1
  obtain ⟨vwy', vah', e1, e2, e3, e4, e5⟩ := g_findsWays hS hk hR0 hO0 hR1 hO1 (σ.1 43) (σ.1 44)
  refine ⟨upd (σ.1 35) 0 0, vwy', vah', ?_, PRx_mi hP rfl rfl⟩
  unfold mLaw_wouldClash mX8_wouldClash mX9_wouldClash
  rw [v_wayOf_a hV hk (RA_self ha1) hO0, bo1_some, v_wayOf_b hV hk (RA_self hb1) hO1, bo1_some, bo1_some, v_clB hk hw0 hw1, e1, bo2_some, g_clB hS hk hw0 hw1 e2 e3 e4 e5, bo1_some]
  generalize clB K t (wdA f0 (σ.1 5) (σ.1 6)) (wdA f1 (σ.1 7) (σ.1 8)) = b
  rw [if_pos (show (if b = true then (1 : Int32) else 0) = 0 ∨ (if b = true then (1 : Int32) else 0) = 1 from by cases b <;> simp), bo4_some, if_pos rfl]
