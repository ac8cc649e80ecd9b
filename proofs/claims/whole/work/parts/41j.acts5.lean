/-! The actions at the law -/
theorem bo13_some {α0 α1 α2 α3 α4 α5 α6 α7 α8 α9 α10 α11 α12 β : Type} (a0 : α0) (a1 : α1) (a2 : α2) (a3 : α3) (a4 : α4) (a5 : α5) (a6 : α6) (a7 : α7) (a8 : α8) (a9 : α9) (a10 : α10) (a11 : α11) (a12 : α12) (f : α0 → α1 → α2 → α3 → α4 → α5 → α6 → α7 → α8 → α9 → α10 → α11 → α12 → Option β) : bo13 (some (a0, a1, a2, a3, a4, a5, a6, a7, a8, a9, a10, a11, a12)) f = f a0 a1 a2 a3 a4 a5 a6 a7 a8 a9 a10 a11 a12 := rfl
theorem bo15_some {α0 α1 α2 α3 α4 α5 α6 α7 α8 α9 α10 α11 α12 α13 α14 β : Type} (a0 : α0) (a1 : α1) (a2 : α2) (a3 : α3) (a4 : α4) (a5 : α5) (a6 : α6) (a7 : α7) (a8 : α8) (a9 : α9) (a10 : α10) (a11 : α11) (a12 : α12) (a13 : α13) (a14 : α14) (f : α0 → α1 → α2 → α3 → α4 → α5 → α6 → α7 → α8 → α9 → α10 → α11 → α12 → α13 → α14 → Option β) : bo15 (some (a0, a1, a2, a3, a4, a5, a6, a7, a8, a9, a10, a11, a12, a13, a14)) f = f a0 a1 a2 a3 a4 a5 a6 a7 a8 a9 a10 a11 a12 a13 a14 := rfl
theorem bh12_l {α0 α1 α2 α3 α4 α5 α6 α7 α8 α9 α10 α11 β : Type} (a0 : α0) (a1 : α1) (a2 : α2) (a3 : α3) (a4 : α4) (a5 : α5) (a6 : α6) (a7 : α7) (a8 : α8) (a9 : α9) (a10 : α10) (a11 : α11) (f : α0 → α1 → α2 → α3 → α4 → α5 → α6 → α7 → α8 → α9 → α10 → α11 → Option β) (k : String → Option β) : bh12 (.inl (a0, a1, a2, a3, a4, a5, a6, a7, a8, a9, a10, a11)) f k = f a0 a1 a2 a3 a4 a5 a6 a7 a8 a9 a10 a11 := rfl
theorem bh12_r {α0 α1 α2 α3 α4 α5 α6 α7 α8 α9 α10 α11 β : Type} (E : String) (f : α0 → α1 → α2 → α3 → α4 → α5 → α6 → α7 → α8 → α9 → α10 → α11 → Option β) (k : String → Option β) : bh12 (.inr E) f k = k E := rfl
theorem bh14_l {α0 α1 α2 α3 α4 α5 α6 α7 α8 α9 α10 α11 α12 α13 β : Type} (a0 : α0) (a1 : α1) (a2 : α2) (a3 : α3) (a4 : α4) (a5 : α5) (a6 : α6) (a7 : α7) (a8 : α8) (a9 : α9) (a10 : α10) (a11 : α11) (a12 : α12) (a13 : α13) (f : α0 → α1 → α2 → α3 → α4 → α5 → α6 → α7 → α8 → α9 → α10 → α11 → α12 → α13 → Option β) (k : String → Option β) : bh14 (.inl (a0, a1, a2, a3, a4, a5, a6, a7, a8, a9, a10, a11, a12, a13)) f k = f a0 a1 a2 a3 a4 a5 a6 a7 a8 a9 a10 a11 a12 a13 := rfl
theorem bh14_r {α0 α1 α2 α3 α4 α5 α6 α7 α8 α9 α10 α11 α12 α13 β : Type} (E : String) (f : α0 → α1 → α2 → α3 → α4 → α5 → α6 → α7 → α8 → α9 → α10 → α11 → α12 → α13 → Option β) (k : String → Option β) : bh14 (.inr E) f k = k E := rfl
theorem ite_f0 : (if false = true then (1 : Int32) else 0) = 0 := rfl
theorem ite_t0 : ¬ (if true = true then (1 : Int32) else 0) = 0 := by decide
theorem itf_f0 : ¬ (if false = true then (0 : Int32) else 1) = 0 := by decide
theorem itf_t0 : (if true = true then (0 : Int32) else 1) = 0 := rfl
theorem le00 : (0 : Int32) ≤ 0 := by decide
theorem nle1 : ¬ (1 : Int32) ≤ 0 := by decide
theorem nle2 : ¬ (2 : Int32) ≤ 0 := by decide
theorem nle3 : ¬ (3 : Int32) ≤ 0 := by decide
theorem step_or (x : Int32) : (∃ N, 1 ≤ N ∧ N ≤ 40 ∧ x = nI N) ∨ ¬ ((1 : Int32) ≤ x ∧ x ≤ (40 : Int32)) := by
  rcases rng_or 41 (by decide) (by decide) x with ⟨N, hN, rfl⟩ | hx
  · by_cases h : 1 ≤ N
    · exact Or.inl ⟨N, h, by omega, rfl⟩
    · right
      obtain rfl : N = 0 := by omega
      decide
  · exact Or.inr (fun q => hx ⟨Int32.le_trans (by decide) q.1, q.2⟩)
theorem pq_setKind : pl_setKind PRx := by
  intro σ xs i hP
  obtain ⟨p1, p2, p3, p4, p5⟩ := hP
  unfold mLaw_setKind
  generalize xs (i + (1 : Int32)).toNatClampNeg = x
  generalize xs (i + (2 : Int32)).toNatClampNeg = y
  refine Classical.byContradiction fun hgoal => ?_
  have no : ∀ k : Int32, k ≠ 0 → (∀ n, mL_setKind (σ.1 2) (σ.2.1 0) (σ.1 3) (σ.1 4) (σ.1 5) (σ.1 6) (σ.1 7) (σ.1 8) (σ.1 16) σ.2.2.1 (σ.2.2.2.1 n 0) (σ.2.2.2.2.1 n) (σ.2.2.2.1 n 1) (σ.2.2.2.1 n 2) (σ.2.2.2.1 n 3) (σ.2.2.2.1 n 4) (σ.2.2.2.1 n 5) (σ.2.2.2.1 n 6) (σ.2.1 6) (σ.2.2.2.2.2 n 0) x y = some (k, σ.2.1 0, σ.1 3, σ.1 16, σ.2.2.2.1 n 0, σ.2.2.2.2.1 n, σ.2.2.2.1 n 1, σ.2.2.2.1 n 2, σ.2.2.2.1 n 3, σ.2.2.2.1 n 4, σ.2.2.2.1 n 5, σ.2.2.2.1 n 6, σ.2.1 6)) → mX9_setKind (σ.1 35) (σ.1 37) (σ.1 40) x y = some (0, upd (σ.1 35) 0 k, σ.1 37, σ.1 40) → False := fun k hk e1 e2 => by
    refine hgoal ⟨0, by decide, σ.2.1 0, σ.1 3, σ.1 16, σ.2.2.2.1 0 0, σ.2.2.2.2.1 0, σ.2.2.2.1 0 1, σ.2.2.2.1 0 2, σ.2.2.2.1 0 3, σ.2.2.2.1 0 4, σ.2.2.2.1 0 5, σ.2.2.2.1 0 6, σ.2.1 6, upd (σ.1 35) 0 k, σ.1 37, σ.1 40, ?_, p1, p2, HST_same p3 0, p4, p5⟩
    rw [e1 0, bo13_some, e2, bo4_some]
    show (if k = k then (if k = 0 then _ else _) else _) = _
    rw [if_pos rfl, if_neg hk]
  obtain ⟨n, hn, vh', vi', vj', vk', vc', va', vpa', vb', vpb', mi', vdi', r1, r2, r3, r4, r5⟩ := remember_ok p3 p1 (mi := upd (σ.1 35) 0 0) rfl
  rcases rng_or 36 (by decide) (by decide) x with ⟨c, hc, rfl⟩ | hx
  · rcases rng_or 7 (by decide) (by decide) y with ⟨k, hk, rfl⟩ | hy
    · have ein : mX9_in (nI k).toInt64 (0 : Int64) (6 : Int64) = 1 := g_in0 (N := 7) (by decide) hk
      have hk7 : nI k < (7 : Int32) := ltc (b := 7) (by omega) (by decide) hk
      obtain ⟨rf, o1, o2, o3, o4⟩ := op_kind p1 hc hk
      cases rf with
      | true =>
        refine no 3 (by decide) (fun n => ?_) ?_
        · unfold mL_setKind mX8_setKind
          rw [v_cell_in hc, bx1_l, if_neg (lt0_nI (by omega)), if_pos hk7, o1, bo1_some, if_neg ite_t0, bo1_some, bh12_r, if_neg (by decide), if_neg (by decide), if_pos rfl]
        · unfold mX9_setKind mX9_setKind_J45 mX9_refused
          rw [g_cell_in hc, if_neg ne10, ein, if_neg ne10, o2, bo1_some, if_pos itf_t0, if_neg nle3, bt2_mk, if_neg ne10]
      | false =>
        obtain ⟨vj1, vk1, s1, q1, q2, q3⟩ := o4 rfl
        have eV : mL_setKind (σ.1 2) (σ.2.1 0) (σ.1 3) (σ.1 4) (σ.1 5) (σ.1 6) (σ.1 7) (σ.1 8) (σ.1 16) σ.2.2.1 (σ.2.2.2.1 n 0) (σ.2.2.2.2.1 n) (σ.2.2.2.1 n 1) (σ.2.2.2.1 n 2) (σ.2.2.2.1 n 3) (σ.2.2.2.1 n 4) (σ.2.2.2.1 n 5) (σ.2.2.2.1 n 6) (σ.2.1 6) (σ.2.2.2.2.2 n 0) (nI c) (nI k) = some (0, vj1, vk1, vh', vi', vj', vk', vc', va', vpa', vb', vpb', vp_updL (σ.2.1 6) 0 (mX1_kindAt (σ.1 3) (nI c)).toInt64) := by
          unfold mL_setKind mX8_setKind
          rw [v_cell_in hc, bx1_l, if_neg (lt0_nI (by omega)), if_pos hk7, o1, bo1_some, if_pos ite_f0, r1, bo9_some, q1, bo3_some, bo1_some, bh12_l]
          rfl
        have eG : mX9_setKind (σ.1 35) (σ.1 37) (σ.1 40) (nI c) (nI k) = some (mX1_kindAt (σ.1 3) (nI c), mi', s1, vdi') := by
          unfold mX9_setKind mX9_setKind_J45 mX9_refused
          rw [g_cell_in hc, if_neg ne10, ein, if_neg ne10, o2, bo1_some, if_neg itf_f0, if_pos le00, bt2_mk, if_pos rfl, r2, bo2_some, q2, bo2_some]
        refine hgoal ⟨n, hn, vj1, vk1, vh', vi', vj', vk', vc', va', vpa', vb', vpb', vp_updL (σ.2.1 6) 0 (mX1_kindAt (σ.1 3) (nI c)).toInt64, mi', s1, vdi', ?_, q3, (show TXT (σ.1 0) (σ.1 1) (mi' 2) (σ.1 36) from (show mi' 2 = σ.1 35 2 from r4) ▸ p2), r5, p4, p5⟩
        rw [eV, bo13_some, eG, bo4_some]
        show (if mi' 0 = 0 then (if (0 : Int32) = 0 then (if lg_cmp (mX1_kindAt (σ.1 3) (nI c)).toInt64 (mX1_kindAt (σ.1 3) (nI c)).toInt64 = 0 then _ else _) else _) else _) = _
        rw [if_pos (show mi' 0 = 0 from r3), if_pos rfl, if_pos (lg_eq.mpr rfl)]
    · have ein : mX9_in y.toInt64 (0 : Int64) (6 : Int64) = 0 := g_inN (N := 7) (by decide) hy
      refine no 2 (by decide) (fun n => ?_) ?_
      · unfold mL_setKind mX8_setKind
        rw [v_cell_in hc, bx1_l]
        rcases rng_out (N := 7) (by decide) (by decide) hy with q | ⟨q, q2⟩
        · rw [if_pos q, bo1_some, bh12_r, if_neg (by decide), if_pos rfl]
        · rw [if_neg q, if_neg (show ¬ y < (7 : Int32) from Int32.not_lt.mpr q2), bo1_some, bh12_r, if_neg (by decide), if_pos rfl]
      · unfold mX9_setKind mX9_setKind_J45 mX9_refused
        rw [g_cell_in hc, if_neg ne10, ein, if_pos rfl, if_neg nle2, bt2_mk, if_neg ne10]
  · skip
    refine no 1 (by decide) (fun n => ?_) ?_
    · unfold mL_setKind mX8_setKind
      rw [v_cell_out hx, bx1_r, bo1_some, bh12_r, if_pos rfl]
    · unfold mX9_setKind mX9_setKind_J45 mX9_refused
      rw [g_cell_out hx, if_pos rfl, if_neg nle1, bt2_mk, if_neg ne10]
theorem pq_addCrate : pl_addCrate PRx := by
  intro σ xs i hP
  obtain ⟨p1, p2, p3, p4, p5⟩ := hP
  unfold mLaw_addCrate
  generalize xs (i + (1 : Int32)).toNatClampNeg = x
  refine Classical.byContradiction fun hgoal => ?_
  have no : ∀ k : Int32, k ≠ 0 → (∀ n, mL_addCrate (σ.1 2) (σ.2.1 0) (σ.1 3) (σ.1 4) (σ.1 5) (σ.1 6) (σ.1 7) (σ.1 8) (σ.1 16) σ.2.2.1 (σ.2.2.2.1 n 0) (σ.2.2.2.2.1 n) (σ.2.2.2.1 n 1) (σ.2.2.2.1 n 2) (σ.2.2.2.1 n 3) (σ.2.2.2.1 n 4) (σ.2.2.2.1 n 5) (σ.2.2.2.1 n 6) (σ.2.1 6) (σ.2.2.2.2.2 n 0) x = some (k, σ.1 2, σ.2.1 0, σ.1 16, σ.2.2.2.1 n 0, σ.2.2.2.2.1 n, σ.2.2.2.1 n 1, σ.2.2.2.1 n 2, σ.2.2.2.1 n 3, σ.2.2.2.1 n 4, σ.2.2.2.1 n 5, σ.2.2.2.1 n 6, σ.2.1 6)) → mX9_addCrate (σ.1 35) (σ.1 37) (σ.1 40) x = some (0, upd (σ.1 35) 0 k, σ.1 37, σ.1 40) → False := fun k hk e1 e2 => by
    refine hgoal ⟨0, by decide, σ.1 2, σ.2.1 0, σ.1 16, σ.2.2.2.1 0 0, σ.2.2.2.2.1 0, σ.2.2.2.1 0 1, σ.2.2.2.1 0 2, σ.2.2.2.1 0 3, σ.2.2.2.1 0 4, σ.2.2.2.1 0 5, σ.2.2.2.1 0 6, σ.2.1 6, upd (σ.1 35) 0 k, σ.1 37, σ.1 40, ?_, p1, p2, HST_same p3 0, p4, p5⟩
    rw [e1 0, bo13_some, e2, bo4_some]
    show (if k = k then (if k = 0 then _ else _) else _) = _
    rw [if_pos rfl, if_neg hk]
  obtain ⟨n, hn, vh', vi', vj', vk', vc', va', vpa', vb', vpb', mi', vdi', r1, r2, r3, r4, r5⟩ := remember_ok p3 p1 (mi := upd (σ.1 35) 0 0) rfl
  rcases rng_or 36 (by decide) (by decide) x with ⟨c, hc, rfl⟩ | hx
  · obtain ⟨rf, o1, o2, o3, o4⟩ := op_crate p1 hc
    cases rf with
    | true =>
      refine no 2 (by decide) (fun n => ?_) ?_
      · unfold mL_addCrate mX8_addCrate
        rw [v_cell_in hc, bx1_l, o1, if_neg ite_t0, bo1_some, bh12_r, if_neg (by decide), if_pos rfl]
      · unfold mX9_addCrate mX9_addCrate_J28 mX9_refused
        rw [g_cell_in hc, if_neg ne10, o2, bo1_some, if_pos itf_t0, if_neg nle2, bt2_mk, if_neg ne10]
    | false =>
      obtain ⟨vi1, vj1, s1, v, q1, q2, q3, q4, q5⟩ := o4 rfl
      have eV : mL_addCrate (σ.1 2) (σ.2.1 0) (σ.1 3) (σ.1 4) (σ.1 5) (σ.1 6) (σ.1 7) (σ.1 8) (σ.1 16) σ.2.2.1 (σ.2.2.2.1 n 0) (σ.2.2.2.2.1 n) (σ.2.2.2.1 n 1) (σ.2.2.2.1 n 2) (σ.2.2.2.1 n 3) (σ.2.2.2.1 n 4) (σ.2.2.2.1 n 5) (σ.2.2.2.1 n 6) (σ.2.1 6) (σ.2.2.2.2.2 n 0) (nI c) = some (0, vi1, vj1, vh', vi', vj', vk', vc', va', vpa', vb', vpb', vp_updL (σ.2.1 6) 0 (v).toInt64) := by
        unfold mL_addCrate mX8_addCrate
        rw [v_cell_in hc, bx1_l, o1, if_pos ite_f0, r1, bo9_some, q1, bt3_mk, q3, bo1_some, bh12_l]
        rfl
      have eG : mX9_addCrate (σ.1 35) (σ.1 37) (σ.1 40) (nI c) = some (v, mi', s1, vdi') := by
        unfold mX9_addCrate mX9_addCrate_J28 mX9_refused
        rw [g_cell_in hc, if_neg ne10, o2, bo1_some, if_neg itf_f0, if_pos le00, bt2_mk, if_pos rfl, r2, bo2_some, q2, bo2_some]
      refine hgoal ⟨n, hn, vi1, vj1, vh', vi', vj', vk', vc', va', vpa', vb', vpb', vp_updL (σ.2.1 6) 0 (v).toInt64, mi', s1, vdi', ?_, q5, (show TXT (σ.1 0) (σ.1 1) (mi' 2) (σ.1 36) from (show mi' 2 = σ.1 35 2 from r4) ▸ p2), r5, p4, p5⟩
      rw [eV, bo13_some, eG, bo4_some]
      show (if mi' 0 = 0 then (if (0 : Int32) = 0 then (if lg_cmp (v).toInt64 (v).toInt64 = 0 then _ else _) else _) else _) = _
      rw [if_pos (show mi' 0 = 0 from r3), if_pos rfl, if_pos (lg_eq.mpr rfl)]
  · skip
    refine no 1 (by decide) (fun n => ?_) ?_
    · unfold mL_addCrate mX8_addCrate
      rw [v_cell_out hx, bx1_r, bo1_some, bh12_r, if_pos rfl]
    · unfold mX9_addCrate mX9_addCrate_J28 mX9_refused
      rw [g_cell_out hx, if_pos rfl, if_neg nle1, bt2_mk, if_neg ne10]
theorem pq_takeCrate : pl_takeCrate PRx := by
  intro σ xs i hP
  obtain ⟨p1, p2, p3, p4, p5⟩ := hP
  unfold mLaw_takeCrate
  generalize xs (i + (1 : Int32)).toNatClampNeg = x
  refine Classical.byContradiction fun hgoal => ?_
  have no : ∀ k : Int32, k ≠ 0 → (∀ n, mL_takeCrate (σ.1 2) (σ.2.1 0) (σ.1 3) (σ.1 4) (σ.1 5) (σ.1 6) (σ.1 7) (σ.1 8) (σ.1 16) σ.2.2.1 (σ.2.2.2.1 n 0) (σ.2.2.2.2.1 n) (σ.2.2.2.1 n 1) (σ.2.2.2.1 n 2) (σ.2.2.2.1 n 3) (σ.2.2.2.1 n 4) (σ.2.2.2.1 n 5) (σ.2.2.2.1 n 6) (σ.2.1 6) (σ.2.2.2.2.2 n 0) x = some (k, σ.1 2, σ.2.1 0, σ.1 16, σ.2.2.2.1 n 0, σ.2.2.2.2.1 n, σ.2.2.2.1 n 1, σ.2.2.2.1 n 2, σ.2.2.2.1 n 3, σ.2.2.2.1 n 4, σ.2.2.2.1 n 5, σ.2.2.2.1 n 6, σ.2.1 6)) → mX9_takeCrate (σ.1 35) (σ.1 37) (σ.1 40) x = some (0, upd (σ.1 35) 0 k, σ.1 37, σ.1 40) → False := fun k hk e1 e2 => by
    refine hgoal ⟨0, by decide, σ.1 2, σ.2.1 0, σ.1 16, σ.2.2.2.1 0 0, σ.2.2.2.2.1 0, σ.2.2.2.1 0 1, σ.2.2.2.1 0 2, σ.2.2.2.1 0 3, σ.2.2.2.1 0 4, σ.2.2.2.1 0 5, σ.2.2.2.1 0 6, σ.2.1 6, upd (σ.1 35) 0 k, σ.1 37, σ.1 40, ?_, p1, p2, HST_same p3 0, p4, p5⟩
    rw [e1 0, bo13_some, e2, bo4_some]
    show (if k = k then (if k = 0 then _ else _) else _) = _
    rw [if_pos rfl, if_neg hk]
  obtain ⟨n, hn, vh', vi', vj', vk', vc', va', vpa', vb', vpb', mi', vdi', r1, r2, r3, r4, r5⟩ := remember_ok p3 p1 (mi := upd (σ.1 35) 0 0) rfl
  rcases rng_or 36 (by decide) (by decide) x with ⟨c, hc, rfl⟩ | hx
  · obtain ⟨b, o1, o2, o3⟩ := op_lift p1 hc
    cases b with
    | false =>
      refine no 2 (by decide) (fun n => ?_) ?_
      · unfold mL_takeCrate mX8_takeCrate
        rw [v_cell_in hc, bx1_l, o1, if_pos ite_f0, bo1_some, bh12_r, if_neg (by decide), if_pos rfl]
      · unfold mX9_takeCrate mX9_takeCrate_J30 mX9_refused
        rw [g_cell_in hc, if_neg ne10, g_crate hc, if_pos (g_idx117 (by omega)), nI_clamp (by omega), o2, if_neg (show ¬ (if false = true then (1 : Int32) else 0) = 1 by decide), if_neg nle2, bt2_mk, if_neg ne10]
    | true =>
      obtain ⟨vi1, vj1, v, q1, q2, q3, q5⟩ := o3 rfl
      have eV : mL_takeCrate (σ.1 2) (σ.2.1 0) (σ.1 3) (σ.1 4) (σ.1 5) (σ.1 6) (σ.1 7) (σ.1 8) (σ.1 16) σ.2.2.1 (σ.2.2.2.1 n 0) (σ.2.2.2.2.1 n) (σ.2.2.2.1 n 1) (σ.2.2.2.1 n 2) (σ.2.2.2.1 n 3) (σ.2.2.2.1 n 4) (σ.2.2.2.1 n 5) (σ.2.2.2.1 n 6) (σ.2.1 6) (σ.2.2.2.2.2 n 0) (nI c) = some (0, vi1, vj1, vh', vi', vj', vk', vc', va', vpa', vb', vpb', vp_updL (σ.2.1 6) 0 (v).toInt64) := by
        unfold mL_takeCrate mX8_takeCrate
        rw [v_cell_in hc, bx1_l, o1, if_neg ite_t0, r1, bo9_some, q1, bt2_mk, q3, bo1_some, bh12_l]
        rfl
      have eG : mX9_takeCrate (σ.1 35) (σ.1 37) (σ.1 40) (nI c) = some (v, mi', upd (σ.1 37) (36 + c) 0, vdi') := by
        unfold mX9_takeCrate mX9_takeCrate_J30 mX9_refused
        rw [g_cell_in hc, if_neg ne10, g_crate hc, if_pos (g_idx117 (by omega)), nI_clamp (by omega), o2, if_pos (show (if true = true then (1 : Int32) else 0) = 1 from rfl), if_pos le00, bt2_mk, if_pos rfl, r2, bo2_some, if_pos (show ¬ (nI (36 + c) < 0 ∨ 117 ≤ 36 + c) from fun q => by rcases q with q | q; exact lt0_nI (by omega) q; omega), q2, bo1_some]
      refine hgoal ⟨n, hn, vi1, vj1, vh', vi', vj', vk', vc', va', vpa', vb', vpb', vp_updL (σ.2.1 6) 0 (v).toInt64, mi', upd (σ.1 37) (36 + c) 0, vdi', ?_, q5, (show TXT (σ.1 0) (σ.1 1) (mi' 2) (σ.1 36) from (show mi' 2 = σ.1 35 2 from r4) ▸ p2), r5, p4, p5⟩
      rw [eV, bo13_some, eG, bo4_some]
      show (if mi' 0 = 0 then (if (0 : Int32) = 0 then (if lg_cmp (v).toInt64 (v).toInt64 = 0 then _ else _) else _) else _) = _
      rw [if_pos (show mi' 0 = 0 from r3), if_pos rfl, if_pos (lg_eq.mpr rfl)]
  · skip
    refine no 1 (by decide) (fun n => ?_) ?_
    · unfold mL_takeCrate mX8_takeCrate
      rw [v_cell_out hx, bx1_r, bo1_some, bh12_r, if_pos rfl]
    · unfold mX9_takeCrate mX9_takeCrate_J30 mX9_refused
      rw [g_cell_out hx, if_pos rfl, if_neg nle1, bt2_mk, if_neg ne10]
theorem pq_addCheckpoint : pl_addCheckpoint PRx := by
  intro σ xs i hP
  obtain ⟨p1, p2, p3, p4, p5⟩ := hP
  unfold mLaw_addCheckpoint
  generalize xs (i + (1 : Int32)).toNatClampNeg = x
  refine Classical.byContradiction fun hgoal => ?_
  have no : ∀ k : Int32, k ≠ 0 → (∀ n, mL_addCheckpoint (σ.1 2) (σ.2.1 0) (σ.1 3) (σ.1 4) (σ.1 5) (σ.1 6) (σ.1 7) (σ.1 8) (σ.1 16) σ.2.2.1 (σ.2.2.2.1 n 0) (σ.2.2.2.2.1 n) (σ.2.2.2.1 n 1) (σ.2.2.2.1 n 2) (σ.2.2.2.1 n 3) (σ.2.2.2.1 n 4) (σ.2.2.2.1 n 5) (σ.2.2.2.1 n 6) (σ.2.1 6) (σ.2.2.2.2.2 n 0) x = some (k, σ.1 2, σ.1 4, σ.1 16, σ.2.2.2.1 n 0, σ.2.2.2.2.1 n, σ.2.2.2.1 n 1, σ.2.2.2.1 n 2, σ.2.2.2.1 n 3, σ.2.2.2.1 n 4, σ.2.2.2.1 n 5, σ.2.2.2.1 n 6, σ.2.1 6)) → mX9_addCheckpoint (σ.1 35) (σ.1 37) (σ.1 40) x = some (0, upd (σ.1 35) 0 k, σ.1 37, σ.1 40) → False := fun k hk e1 e2 => by
    refine hgoal ⟨0, by decide, σ.1 2, σ.1 4, σ.1 16, σ.2.2.2.1 0 0, σ.2.2.2.2.1 0, σ.2.2.2.1 0 1, σ.2.2.2.1 0 2, σ.2.2.2.1 0 3, σ.2.2.2.1 0 4, σ.2.2.2.1 0 5, σ.2.2.2.1 0 6, σ.2.1 6, upd (σ.1 35) 0 k, σ.1 37, σ.1 40, ?_, p1, p2, HST_same p3 0, p4, p5⟩
    rw [e1 0, bo13_some, e2, bo4_some]
    show (if k = k then (if k = 0 then _ else _) else _) = _
    rw [if_pos rfl, if_neg hk]
  obtain ⟨n, hn, vh', vi', vj', vk', vc', va', vpa', vb', vpb', mi', vdi', r1, r2, r3, r4, r5⟩ := remember_ok p3 p1 (mi := upd (σ.1 35) 0 0) rfl
  rcases rng_or 36 (by decide) (by decide) x with ⟨c, hc, rfl⟩ | hx
  · obtain ⟨rf, o1, o2, o3, o4⟩ := op_point p1 hc
    cases rf with
    | true =>
      refine no 2 (by decide) (fun n => ?_) ?_
      · unfold mL_addCheckpoint mX8_addCheckpoint
        rw [v_cell_in hc, bx1_l, o1, bo1_some, if_neg ite_t0, bo1_some, bh12_r, if_neg (by decide), if_pos rfl]
      · unfold mX9_addCheckpoint mX9_addCheckpoint_J28 mX9_refused
        rw [g_cell_in hc, if_neg ne10, o2, bo1_some, if_pos itf_t0, if_neg nle2, bt2_mk, if_neg ne10]
    | false =>
      obtain ⟨vi1, vc1, s1, q1, q2, q3, q5⟩ := o4 rfl
      have eV : mL_addCheckpoint (σ.1 2) (σ.2.1 0) (σ.1 3) (σ.1 4) (σ.1 5) (σ.1 6) (σ.1 7) (σ.1 8) (σ.1 16) σ.2.2.1 (σ.2.2.2.1 n 0) (σ.2.2.2.2.1 n) (σ.2.2.2.1 n 1) (σ.2.2.2.1 n 2) (σ.2.2.2.1 n 3) (σ.2.2.2.1 n 4) (σ.2.2.2.1 n 5) (σ.2.2.2.1 n 6) (σ.2.1 6) (σ.2.2.2.2.2 n 0) (nI c) = some (0, vi1, vc1, vh', vi', vj', vk', vc', va', vpa', vb', vpb', vp_updL (σ.2.1 6) 0 (vi1 7).toInt64) := by
        unfold mL_addCheckpoint mX8_addCheckpoint
        rw [v_cell_in hc, bx1_l, o1, bo1_some, if_pos ite_f0, r1, bo9_some, q1, bo3_some, bo1_some, bh12_l]
        rfl
      have eG : mX9_addCheckpoint (σ.1 35) (σ.1 37) (σ.1 40) (nI c) = some (vi1 7, mi', s1, vdi') := by
        unfold mX9_addCheckpoint mX9_addCheckpoint_J28 mX9_refused
        rw [g_cell_in hc, if_neg ne10, o2, bo1_some, if_neg itf_f0, if_pos le00, bt2_mk, if_pos rfl, r2, bo2_some, q2, bo2_some]
      refine hgoal ⟨n, hn, vi1, vc1, vh', vi', vj', vk', vc', va', vpa', vb', vpb', vp_updL (σ.2.1 6) 0 (vi1 7).toInt64, mi', s1, vdi', ?_, q5, (show TXT (σ.1 0) (σ.1 1) (mi' 2) (σ.1 36) from (show mi' 2 = σ.1 35 2 from r4) ▸ p2), r5, p4, p5⟩
      rw [eV, bo13_some, eG, bo4_some]
      show (if mi' 0 = 0 then (if (0 : Int32) = 0 then (if lg_cmp (vi1 7).toInt64 (vi1 7).toInt64 = 0 then _ else _) else _) else _) = _
      rw [if_pos (show mi' 0 = 0 from r3), if_pos rfl, if_pos (lg_eq.mpr rfl)]
  · skip
    refine no 1 (by decide) (fun n => ?_) ?_
    · unfold mL_addCheckpoint mX8_addCheckpoint
      rw [v_cell_out hx, bx1_r, bo1_some, bh12_r, if_pos rfl]
    · unfold mX9_addCheckpoint mX9_addCheckpoint_J28 mX9_refused
      rw [g_cell_out hx, if_pos rfl, if_neg nle1, bt2_mk, if_neg ne10]
theorem pq_putRobot : pl_putRobot PRx := by
  intro σ xs i hP
  obtain ⟨p1, p2, p3, p4, p5⟩ := hP
  unfold mLaw_putRobot
  generalize xs (i + (1 : Int32)).toNatClampNeg = x
  generalize xs (i + (2 : Int32)).toNatClampNeg = y
  generalize xs (i + (3 : Int32)).toNatClampNeg = z
  refine Classical.byContradiction fun hgoal => ?_
  have no : ∀ k : Int32, k ≠ 0 → (∀ n, mL_putRobot (σ.1 2) (σ.2.1 0) (σ.1 3) (σ.1 4) (σ.1 5) (σ.1 6) (σ.1 7) (σ.1 8) (σ.1 16) σ.2.2.1 (σ.2.2.2.1 n 0) (σ.2.2.2.2.1 n) (σ.2.2.2.1 n 1) (σ.2.2.2.1 n 2) (σ.2.2.2.1 n 3) (σ.2.2.2.1 n 4) (σ.2.2.2.1 n 5) (σ.2.2.2.1 n 6) (σ.2.1 6) (σ.2.2.2.2.2 n 0) x y z = some (k, σ.1 5, σ.1 7, σ.1 16, σ.2.2.2.1 n 0, σ.2.2.2.2.1 n, σ.2.2.2.1 n 1, σ.2.2.2.1 n 2, σ.2.2.2.1 n 3, σ.2.2.2.1 n 4, σ.2.2.2.1 n 5, σ.2.2.2.1 n 6, σ.2.1 6)) → mX9_putRobot (σ.1 35) (σ.1 37) (σ.1 40) x y z = some (0, upd (σ.1 35) 0 k, σ.1 37, σ.1 40) → False := fun k hk e1 e2 => by
    refine hgoal ⟨0, by decide, σ.1 5, σ.1 7, σ.1 16, σ.2.2.2.1 0 0, σ.2.2.2.2.1 0, σ.2.2.2.1 0 1, σ.2.2.2.1 0 2, σ.2.2.2.1 0 3, σ.2.2.2.1 0 4, σ.2.2.2.1 0 5, σ.2.2.2.1 0 6, σ.2.1 6, upd (σ.1 35) 0 k, σ.1 37, σ.1 40, ?_, p1, p2, HST_same p3 0, p4, p5⟩
    rw [e1 0, bo13_some, e2, bo4_some]
    show (if k = k then (if k = 0 then _ else _) else _) = _
    rw [if_pos rfl, if_neg hk]
  obtain ⟨n, hn, vh', vi', vj', vk', vc', va', vpa', vb', vpb', mi', vdi', r1, r2, r3, r4, r5⟩ := remember_ok p3 p1 (mi := upd (σ.1 35) 0 0) rfl
  rcases rng_or 2 (by decide) (by decide) x with ⟨r, hr, rfl⟩ | hx
  · rcases rng_or 36 (by decide) (by decide) y with ⟨c, hc, rfl⟩ | hy
    · rcases rng_or 4 (by decide) (by decide) z with ⟨f, hf, rfl⟩ | hz
      · have ein : mX9_in (nI f).toInt64 (0 : Int64) (3 : Int64) = 1 := g_in0 (N := 4) (by decide) hf
        have hf4 : nI f < (4 : Int32) := ltc (b := 4) (by omega) (by decide) hf
        obtain ⟨rf, o1, o2, o3, o4⟩ := op_put p1 hr hc hf
        cases rf with
        | true =>
          refine no 3 (by decide) (fun n => ?_) ?_
          · unfold mL_putRobot mX8_putRobot
            rw [v_rob_in hr, bx1_l, v_cell_in hc, bx1_l, if_neg (lt0_nI (by omega)), if_pos hf4, o1, if_neg ite_t0, bo1_some, bh12_r, if_neg (by decide), if_neg (by decide), if_pos rfl]
          · unfold mX9_putRobot mX9_putRobot_J15 mX9_putRobot_J52 mX9_refused
            rw [g_rob_in hr, if_neg ne10, g_cell_in hc, if_neg ne10, ein, if_neg ne10, o2, bo1_some, if_pos itf_t0, if_neg nle3, bt2_mk, if_neg ne10]
        | false =>
          obtain ⟨va1, vb1, s1, o, q1, q2, q3, q4, q5⟩ := o4 rfl
          rcases (show r = 0 ∨ r = 1 by omega) with rfl | rfl
          · rw [if_pos rfl] at q3
            subst q3
            have eV : mL_putRobot (σ.1 2) (σ.2.1 0) (σ.1 3) (σ.1 4) (σ.1 5) (σ.1 6) (σ.1 7) (σ.1 8) (σ.1 16) σ.2.2.1 (σ.2.2.2.1 n 0) (σ.2.2.2.2.1 n) (σ.2.2.2.1 n 1) (σ.2.2.2.1 n 2) (σ.2.2.2.1 n 3) (σ.2.2.2.1 n 4) (σ.2.2.2.1 n 5) (σ.2.2.2.1 n 6) (σ.2.1 6) (σ.2.2.2.2.2 n 0) (nI 0) (nI c) (nI f) = some (0, va1, vb1, vh', vi', vj', vk', vc', va', vpa', vb', vpb', vp_updL (σ.2.1 6) 0 (σ.1 5 0).toInt64) := by
              unfold mL_putRobot mX8_putRobot
              rw [v_rob_in hr, bx1_l, v_cell_in hc, bx1_l, if_neg (lt0_nI (by omega)), if_pos hf4, o1, if_pos ite_f0, r1, bo9_some, if_pos (show nI 0 = 0 from rfl), q1, bt3_mk, bo1_some, bh12_l]
              rfl
            have eG : mX9_putRobot (σ.1 35) (σ.1 37) (σ.1 40) (nI 0) (nI c) (nI f) = some (σ.1 5 0, mi', s1, vdi') := by
              unfold mX9_putRobot mX9_putRobot_J15 mX9_putRobot_J52 mX9_refused
              rw [g_rob_in hr, if_neg ne10, g_cell_in hc, if_neg ne10, ein, if_neg ne10, o2, bo1_some, if_neg itf_f0, if_pos le00, bt2_mk, if_pos rfl, r2, bo2_some, q2, bo2_some]
            refine hgoal ⟨n, hn, va1, vb1, vh', vi', vj', vk', vc', va', vpa', vb', vpb', vp_updL (σ.2.1 6) 0 (σ.1 5 0).toInt64, mi', s1, vdi', ?_, q5, (show TXT (σ.1 0) (σ.1 1) (mi' 2) (σ.1 36) from (show mi' 2 = σ.1 35 2 from r4) ▸ p2), r5, p4, p5⟩
            rw [eV, bo13_some, eG, bo4_some]
            show (if mi' 0 = 0 then (if (0 : Int32) = 0 then (if lg_cmp (σ.1 5 0).toInt64 (σ.1 5 0).toInt64 = 0 then _ else _) else _) else _) = _
            rw [if_pos (show mi' 0 = 0 from r3), if_pos rfl, if_pos (lg_eq.mpr rfl)]
          · rw [if_neg (by decide)] at q3
            subst q3
            have eV : mL_putRobot (σ.1 2) (σ.2.1 0) (σ.1 3) (σ.1 4) (σ.1 5) (σ.1 6) (σ.1 7) (σ.1 8) (σ.1 16) σ.2.2.1 (σ.2.2.2.1 n 0) (σ.2.2.2.2.1 n) (σ.2.2.2.1 n 1) (σ.2.2.2.1 n 2) (σ.2.2.2.1 n 3) (σ.2.2.2.1 n 4) (σ.2.2.2.1 n 5) (σ.2.2.2.1 n 6) (σ.2.1 6) (σ.2.2.2.2.2 n 0) (nI 1) (nI c) (nI f) = some (0, va1, vb1, vh', vi', vj', vk', vc', va', vpa', vb', vpb', vp_updL (σ.2.1 6) 0 (σ.1 7 0).toInt64) := by
              unfold mL_putRobot mX8_putRobot
              rw [v_rob_in hr, bx1_l, v_cell_in hc, bx1_l, if_neg (lt0_nI (by omega)), if_pos hf4, o1, if_pos ite_f0, r1, bo9_some, if_neg (show ¬ nI 1 = 0 by decide), q1, bt3_mk, bo1_some, bh12_l]
              rfl
            have eG : mX9_putRobot (σ.1 35) (σ.1 37) (σ.1 40) (nI 1) (nI c) (nI f) = some (σ.1 7 0, mi', s1, vdi') := by
              unfold mX9_putRobot mX9_putRobot_J15 mX9_putRobot_J52 mX9_refused
              rw [g_rob_in hr, if_neg ne10, g_cell_in hc, if_neg ne10, ein, if_neg ne10, o2, bo1_some, if_neg itf_f0, if_pos le00, bt2_mk, if_pos rfl, r2, bo2_some, q2, bo2_some]
            refine hgoal ⟨n, hn, va1, vb1, vh', vi', vj', vk', vc', va', vpa', vb', vpb', vp_updL (σ.2.1 6) 0 (σ.1 7 0).toInt64, mi', s1, vdi', ?_, q5, (show TXT (σ.1 0) (σ.1 1) (mi' 2) (σ.1 36) from (show mi' 2 = σ.1 35 2 from r4) ▸ p2), r5, p4, p5⟩
            rw [eV, bo13_some, eG, bo4_some]
            show (if mi' 0 = 0 then (if (0 : Int32) = 0 then (if lg_cmp (σ.1 7 0).toInt64 (σ.1 7 0).toInt64 = 0 then _ else _) else _) else _) = _
            rw [if_pos (show mi' 0 = 0 from r3), if_pos rfl, if_pos (lg_eq.mpr rfl)]
      · have ein : mX9_in z.toInt64 (0 : Int64) (3 : Int64) = 0 := g_inN (N := 4) (by decide) hz
        refine no 2 (by decide) (fun n => ?_) ?_
        · unfold mL_putRobot mX8_putRobot
          rw [v_rob_in hr, bx1_l, v_cell_in hc, bx1_l]
          rcases rng_out (N := 4) (by decide) (by decide) hz with q | ⟨q, q2⟩
          · rw [if_pos q, bo1_some, bh12_r, if_neg (by decide), if_pos rfl]
          · rw [if_neg q, if_neg (show ¬ z < (4 : Int32) from Int32.not_lt.mpr q2), bo1_some, bh12_r, if_neg (by decide), if_pos rfl]
        · unfold mX9_putRobot mX9_putRobot_J15 mX9_putRobot_J52 mX9_refused
          rw [g_rob_in hr, if_neg ne10, g_cell_in hc, if_neg ne10, ein, if_pos rfl, if_neg nle2, bt2_mk, if_neg ne10]
    · skip
      refine no 1 (by decide) (fun n => ?_) ?_
      · unfold mL_putRobot mX8_putRobot
        rw [v_rob_in hr, bx1_l, v_cell_out hy, bx1_r, bo1_some, bh12_r, if_pos rfl]
      · unfold mX9_putRobot mX9_putRobot_J15 mX9_putRobot_J52 mX9_refused
        rw [g_rob_in hr, if_neg ne10, g_cell_out hy, if_pos rfl, if_neg nle1, bt2_mk, if_neg ne10]
  · skip
    refine no 1 (by decide) (fun n => ?_) ?_
    · unfold mL_putRobot mX8_putRobot
      rw [v_rob_out hx, bx1_r, bo1_some, bh12_r, if_pos rfl]
    · unfold mX9_putRobot mX9_putRobot_J15 mX9_putRobot_J52 mX9_refused
      rw [g_rob_out hx, if_pos rfl, if_neg nle1, bt2_mk, if_neg ne10]
theorem pq_write : pl_write PRx := by
  intro σ xs i hP
  obtain ⟨p1, p2, p3, p4, p5⟩ := hP
  unfold mLaw_write
  generalize xs (i + (1 : Int32)).toNatClampNeg = x
  generalize xs (i + (2 : Int32)).toNatClampNeg = y
  refine Classical.byContradiction fun hgoal => ?_
  have no : ∀ k : Int32, k ≠ 0 → (∀ n, mL_write (σ.1 2) (σ.2.1 0) (σ.1 3) (σ.1 4) (σ.1 5) (σ.1 6) (σ.1 7) (σ.1 8) (σ.1 16) σ.2.2.1 (σ.2.2.2.1 n 0) (σ.2.2.2.2.1 n) (σ.2.2.2.1 n 1) (σ.2.2.2.1 n 2) (σ.2.2.2.1 n 3) (σ.2.2.2.1 n 4) (σ.2.2.2.1 n 5) (σ.2.2.2.1 n 6) (σ.2.1 6) (σ.2.2.2.2.2 n 0) x y = some (k, σ.1 5, σ.1 6, σ.1 7, σ.1 8, σ.1 16, σ.2.2.2.1 n 0, σ.2.2.2.2.1 n, σ.2.2.2.1 n 1, σ.2.2.2.1 n 2, σ.2.2.2.1 n 3, σ.2.2.2.1 n 4, σ.2.2.2.1 n 5, σ.2.2.2.1 n 6, σ.2.1 6)) → mX9_write (σ.1 35) (σ.1 37) (σ.1 40) x y = some (0, upd (σ.1 35) 0 k, σ.1 37, σ.1 40) → False := fun k hk e1 e2 => by
    refine hgoal ⟨0, by decide, σ.1 5, σ.1 6, σ.1 7, σ.1 8, σ.1 16, σ.2.2.2.1 0 0, σ.2.2.2.2.1 0, σ.2.2.2.1 0 1, σ.2.2.2.1 0 2, σ.2.2.2.1 0 3, σ.2.2.2.1 0 4, σ.2.2.2.1 0 5, σ.2.2.2.1 0 6, σ.2.1 6, upd (σ.1 35) 0 k, σ.1 37, σ.1 40, ?_, p1, p2, HST_same p3 0, p4, p5⟩
    rw [e1 0, bo15_some, e2, bo4_some]
    show (if k = k then (if k = 0 then _ else _) else _) = _
    rw [if_pos rfl, if_neg hk]
  obtain ⟨n, hn, vh', vi', vj', vk', vc', va', vpa', vb', vpb', mi', vdi', r1, r2, r3, r4, r5⟩ := remember_ok p3 p1 (mi := upd (σ.1 35) 0 0) rfl
  rcases rng_or 2 (by decide) (by decide) x with ⟨r, hr, rfl⟩ | hx
  · rcases rng_or 6 (by decide) (by decide) y with ⟨w, hw, rfl⟩ | hy
    · have ein : mX9_in (nI w).toInt64 (0 : Int64) (5 : Int64) = 1 := g_in0 (N := 6) (by decide) hw
      have hw6 : nI w < (6 : Int32) := ltc (b := 6) (by omega) (by decide) hw
      rcases (show r = 0 ∨ r = 1 by omega) with rfl | rfl
      · obtain ⟨l, l1, l2, l3, l4, l5⟩ := op_write0 p1 hw
        by_cases hl : l = 10
        · have h10 : ¬ nI l < (10 : Int32) := by rw [hl]; decide
          have h10g : (10 : Int32) ≤ nI l := by rw [hl]; decide
          refine no 3 (by decide) (fun n => ?_) ?_
          · unfold mL_write mX8_write
            rw [v_rob_in hr, bx1_l, if_neg (lt0_nI (by omega)), if_pos hw6, if_pos (show nI 0 = 0 from rfl), l2, if_neg h10, bo1_some, bh14_r, if_neg (by decide), if_neg (by decide), if_pos rfl]
          · unfold mX9_write mX9_write_J48 mX9_refused
            rw [g_rob_in hr, if_neg ne10, ein, if_neg ne10, l3, bo1_some, if_pos h10g, if_neg nle3, bt2_mk, if_neg ne10]
        · have h10 : nI l < (10 : Int32) := ltc (b := 10) (by omega) (by decide) (by omega)
          have h10g : ¬ (10 : Int32) ≤ nI l := Int32.not_le.mpr h10
          obtain ⟨va1, vpa1, s1, q1, q2, q3, q5⟩ := l5 (by omega)
          have eV : mL_write (σ.1 2) (σ.2.1 0) (σ.1 3) (σ.1 4) (σ.1 5) (σ.1 6) (σ.1 7) (σ.1 8) (σ.1 16) σ.2.2.1 (σ.2.2.2.1 n 0) (σ.2.2.2.2.1 n) (σ.2.2.2.1 n 1) (σ.2.2.2.1 n 2) (σ.2.2.2.1 n 3) (σ.2.2.2.1 n 4) (σ.2.2.2.1 n 5) (σ.2.2.2.1 n 6) (σ.2.1 6) (σ.2.2.2.2.2 n 0) (nI 0) (nI w) = some (0, va1, vpa1, σ.1 7, σ.1 8, vh', vi', vj', vk', vc', va', vpa', vb', vpb', vp_updL (σ.2.1 6) 0 (nI (l + 1)).toInt64) := by
            unfold mL_write mX8_write
            rw [v_rob_in hr, bx1_l, if_neg (lt0_nI (by omega)), if_pos hw6, if_pos (show nI 0 = 0 from rfl), l2, if_pos h10, r1, bo9_some, q1, bt3_mk, q2, bo1_some, bh14_l]
            rfl
          have eG : mX9_write (σ.1 35) (σ.1 37) (σ.1 40) (nI 0) (nI w) = some (nI (l + 1), mi', s1, vdi') := by
            unfold mX9_write mX9_write_J48 mX9_refused
            rw [g_rob_in hr, if_neg ne10, ein, if_neg ne10, l3, bo1_some, if_neg h10g, if_pos le00, bt2_mk, if_pos rfl, r2, bo2_some, q3, bo2_some]
          refine hgoal ⟨n, hn, va1, vpa1, σ.1 7, σ.1 8, vh', vi', vj', vk', vc', va', vpa', vb', vpb', vp_updL (σ.2.1 6) 0 (nI (l + 1)).toInt64, mi', s1, vdi', ?_, q5, (show TXT (σ.1 0) (σ.1 1) (mi' 2) (σ.1 36) from (show mi' 2 = σ.1 35 2 from r4) ▸ p2), r5, p4, p5⟩
          rw [eV, bo15_some, eG, bo4_some]
          show (if mi' 0 = 0 then (if (0 : Int32) = 0 then (if lg_cmp (nI (l + 1)).toInt64 (nI (l + 1)).toInt64 = 0 then _ else _) else _) else _) = _
          rw [if_pos (show mi' 0 = 0 from r3), if_pos rfl, if_pos (lg_eq.mpr rfl)]
      · obtain ⟨l, l1, l2, l3, l4, l5⟩ := op_write1 p1 hw
        by_cases hl : l = 10
        · have h10 : ¬ nI l < (10 : Int32) := by rw [hl]; decide
          have h10g : (10 : Int32) ≤ nI l := by rw [hl]; decide
          refine no 3 (by decide) (fun n => ?_) ?_
          · unfold mL_write mX8_write
            rw [v_rob_in hr, bx1_l, if_neg (lt0_nI (by omega)), if_pos hw6, if_neg (show ¬ nI 1 = 0 by decide), l2, if_neg h10, bo1_some, bh14_r, if_neg (by decide), if_neg (by decide), if_pos rfl]
          · unfold mX9_write mX9_write_J48 mX9_refused
            rw [g_rob_in hr, if_neg ne10, ein, if_neg ne10, l3, bo1_some, if_pos h10g, if_neg nle3, bt2_mk, if_neg ne10]
        · have h10 : nI l < (10 : Int32) := ltc (b := 10) (by omega) (by decide) (by omega)
          have h10g : ¬ (10 : Int32) ≤ nI l := Int32.not_le.mpr h10
          obtain ⟨va1, vpa1, s1, q1, q2, q3, q5⟩ := l5 (by omega)
          have eV : mL_write (σ.1 2) (σ.2.1 0) (σ.1 3) (σ.1 4) (σ.1 5) (σ.1 6) (σ.1 7) (σ.1 8) (σ.1 16) σ.2.2.1 (σ.2.2.2.1 n 0) (σ.2.2.2.2.1 n) (σ.2.2.2.1 n 1) (σ.2.2.2.1 n 2) (σ.2.2.2.1 n 3) (σ.2.2.2.1 n 4) (σ.2.2.2.1 n 5) (σ.2.2.2.1 n 6) (σ.2.1 6) (σ.2.2.2.2.2 n 0) (nI 1) (nI w) = some (0, σ.1 5, σ.1 6, va1, vpa1, vh', vi', vj', vk', vc', va', vpa', vb', vpb', vp_updL (σ.2.1 6) 0 (nI (l + 1)).toInt64) := by
            unfold mL_write mX8_write
            rw [v_rob_in hr, bx1_l, if_neg (lt0_nI (by omega)), if_pos hw6, if_neg (show ¬ nI 1 = 0 by decide), l2, if_pos h10, r1, bo9_some, q1, bt3_mk, q2, bo1_some, bh14_l]
            rfl
          have eG : mX9_write (σ.1 35) (σ.1 37) (σ.1 40) (nI 1) (nI w) = some (nI (l + 1), mi', s1, vdi') := by
            unfold mX9_write mX9_write_J48 mX9_refused
            rw [g_rob_in hr, if_neg ne10, ein, if_neg ne10, l3, bo1_some, if_neg h10g, if_pos le00, bt2_mk, if_pos rfl, r2, bo2_some, q3, bo2_some]
          refine hgoal ⟨n, hn, σ.1 5, σ.1 6, va1, vpa1, vh', vi', vj', vk', vc', va', vpa', vb', vpb', vp_updL (σ.2.1 6) 0 (nI (l + 1)).toInt64, mi', s1, vdi', ?_, q5, (show TXT (σ.1 0) (σ.1 1) (mi' 2) (σ.1 36) from (show mi' 2 = σ.1 35 2 from r4) ▸ p2), r5, p4, p5⟩
          rw [eV, bo15_some, eG, bo4_some]
          show (if mi' 0 = 0 then (if (0 : Int32) = 0 then (if lg_cmp (nI (l + 1)).toInt64 (nI (l + 1)).toInt64 = 0 then _ else _) else _) else _) = _
          rw [if_pos (show mi' 0 = 0 from r3), if_pos rfl, if_pos (lg_eq.mpr rfl)]
    · have ein : mX9_in y.toInt64 (0 : Int64) (5 : Int64) = 0 := g_inN (N := 6) (by decide) hy
      refine no 2 (by decide) (fun n => ?_) ?_
      · unfold mL_write mX8_write
        rw [v_rob_in hr, bx1_l]
        rcases rng_out (N := 6) (by decide) (by decide) hy with q | ⟨q, q2⟩
        · rw [if_pos q, bo1_some, bh14_r, if_neg (by decide), if_pos rfl]
        · rw [if_neg q, if_neg (show ¬ y < (6 : Int32) from Int32.not_lt.mpr q2), bo1_some, bh14_r, if_neg (by decide), if_pos rfl]
      · unfold mX9_write mX9_write_J48 mX9_refused
        rw [g_rob_in hr, if_neg ne10, ein, if_pos rfl, if_neg nle2, bt2_mk, if_neg ne10]
  · skip
    refine no 1 (by decide) (fun n => ?_) ?_
    · unfold mL_write mX8_write
      rw [v_rob_out hx, bx1_r, bo1_some, bh14_r, if_pos rfl]
    · unfold mX9_write mX9_write_J48 mX9_refused
      rw [g_rob_out hx, if_pos rfl, if_neg nle1, bt2_mk, if_neg ne10]
theorem pq_wipe : pl_wipe PRx := by
  intro σ xs i hP
  obtain ⟨p1, p2, p3, p4, p5⟩ := hP
  unfold mLaw_wipe
  generalize xs (i + (1 : Int32)).toNatClampNeg = x
  refine Classical.byContradiction fun hgoal => ?_
  have no : ∀ k : Int32, k ≠ 0 → (∀ n, mL_wipe (σ.1 2) (σ.2.1 0) (σ.1 3) (σ.1 4) (σ.1 5) (σ.1 6) (σ.1 7) (σ.1 8) (σ.1 16) σ.2.2.1 (σ.2.2.2.1 n 0) (σ.2.2.2.2.1 n) (σ.2.2.2.1 n 1) (σ.2.2.2.1 n 2) (σ.2.2.2.1 n 3) (σ.2.2.2.1 n 4) (σ.2.2.2.1 n 5) (σ.2.2.2.1 n 6) (σ.2.1 6) (σ.2.2.2.2.2 n 0) x = some (k, σ.1 5, σ.1 7, σ.1 16, σ.2.2.2.1 n 0, σ.2.2.2.2.1 n, σ.2.2.2.1 n 1, σ.2.2.2.1 n 2, σ.2.2.2.1 n 3, σ.2.2.2.1 n 4, σ.2.2.2.1 n 5, σ.2.2.2.1 n 6, σ.2.1 6)) → mX9_wipe (σ.1 35) (σ.1 37) (σ.1 40) x = some (0, upd (σ.1 35) 0 k, σ.1 37, σ.1 40) → False := fun k hk e1 e2 => by
    refine hgoal ⟨0, by decide, σ.1 5, σ.1 7, σ.1 16, σ.2.2.2.1 0 0, σ.2.2.2.2.1 0, σ.2.2.2.1 0 1, σ.2.2.2.1 0 2, σ.2.2.2.1 0 3, σ.2.2.2.1 0 4, σ.2.2.2.1 0 5, σ.2.2.2.1 0 6, σ.2.1 6, upd (σ.1 35) 0 k, σ.1 37, σ.1 40, ?_, p1, p2, HST_same p3 0, p4, p5⟩
    rw [e1 0, bo13_some, e2, bo4_some]
    show (if k = k then (if k = 0 then _ else _) else _) = _
    rw [if_pos rfl, if_neg hk]
  obtain ⟨n, hn, vh', vi', vj', vk', vc', va', vpa', vb', vpb', mi', vdi', r1, r2, r3, r4, r5⟩ := remember_ok p3 p1 (mi := upd (σ.1 35) 0 0) rfl
  rcases rng_or 2 (by decide) (by decide) x with ⟨r, hr, rfl⟩ | hx
  · rcases (show r = 0 ∨ r = 1 by omega) with rfl | rfl
    · obtain ⟨s1, q1, q5⟩ := op_wipe0 p1
      have eV : mL_wipe (σ.1 2) (σ.2.1 0) (σ.1 3) (σ.1 4) (σ.1 5) (σ.1 6) (σ.1 7) (σ.1 8) (σ.1 16) σ.2.2.1 (σ.2.2.2.1 n 0) (σ.2.2.2.2.1 n) (σ.2.2.2.1 n 1) (σ.2.2.2.1 n 2) (σ.2.2.2.1 n 3) (σ.2.2.2.1 n 4) (σ.2.2.2.1 n 5) (σ.2.2.2.1 n 6) (σ.2.1 6) (σ.2.2.2.2.2 n 0) (nI 0) = some (0, mX4_forgetProgram (σ.1 5), σ.1 7, vh', vi', vj', vk', vc', va', vpa', vb', vpb', vp_updL (σ.2.1 6) 0 (σ.1 5 8).toInt64) := by
        unfold mL_wipe mX8_wipe
        rw [v_rob_in hr, bx1_l, r1, bo9_some, if_pos (show nI 0 = 0 from rfl)]
        rfl
      have eG : mX9_wipe (σ.1 35) (σ.1 37) (σ.1 40) (nI 0) = some (σ.1 5 8, mi', s1, vdi') := by
        unfold mX9_wipe 
        rw [g_noRob_in hr, bo2_some, if_pos rfl, r2, bo2_some, q1, bo2_some]
      refine hgoal ⟨n, hn, mX4_forgetProgram (σ.1 5), σ.1 7, vh', vi', vj', vk', vc', va', vpa', vb', vpb', vp_updL (σ.2.1 6) 0 (σ.1 5 8).toInt64, mi', s1, vdi', ?_, q5, (show TXT (σ.1 0) (σ.1 1) (mi' 2) (σ.1 36) from (show mi' 2 = σ.1 35 2 from r4) ▸ p2), r5, p4, p5⟩
      rw [eV, bo13_some, eG, bo4_some]
      show (if mi' 0 = 0 then (if (0 : Int32) = 0 then (if lg_cmp (σ.1 5 8).toInt64 (σ.1 5 8).toInt64 = 0 then _ else _) else _) else _) = _
      rw [if_pos (show mi' 0 = 0 from r3), if_pos rfl, if_pos (lg_eq.mpr rfl)]
    · obtain ⟨s1, q1, q5⟩ := op_wipe1 p1
      have eV : mL_wipe (σ.1 2) (σ.2.1 0) (σ.1 3) (σ.1 4) (σ.1 5) (σ.1 6) (σ.1 7) (σ.1 8) (σ.1 16) σ.2.2.1 (σ.2.2.2.1 n 0) (σ.2.2.2.2.1 n) (σ.2.2.2.1 n 1) (σ.2.2.2.1 n 2) (σ.2.2.2.1 n 3) (σ.2.2.2.1 n 4) (σ.2.2.2.1 n 5) (σ.2.2.2.1 n 6) (σ.2.1 6) (σ.2.2.2.2.2 n 0) (nI 1) = some (0, σ.1 5, mX4_forgetProgram (σ.1 7), vh', vi', vj', vk', vc', va', vpa', vb', vpb', vp_updL (σ.2.1 6) 0 (σ.1 7 8).toInt64) := by
        unfold mL_wipe mX8_wipe
        rw [v_rob_in hr, bx1_l, r1, bo9_some, if_neg (show ¬ nI 1 = 0 by decide)]
        rfl
      have eG : mX9_wipe (σ.1 35) (σ.1 37) (σ.1 40) (nI 1) = some (σ.1 7 8, mi', s1, vdi') := by
        unfold mX9_wipe 
        rw [g_noRob_in hr, bo2_some, if_pos rfl, r2, bo2_some, q1, bo2_some]
      refine hgoal ⟨n, hn, σ.1 5, mX4_forgetProgram (σ.1 7), vh', vi', vj', vk', vc', va', vpa', vb', vpb', vp_updL (σ.2.1 6) 0 (σ.1 7 8).toInt64, mi', s1, vdi', ?_, q5, (show TXT (σ.1 0) (σ.1 1) (mi' 2) (σ.1 36) from (show mi' 2 = σ.1 35 2 from r4) ▸ p2), r5, p4, p5⟩
      rw [eV, bo13_some, eG, bo4_some]
      show (if mi' 0 = 0 then (if (0 : Int32) = 0 then (if lg_cmp (σ.1 7 8).toInt64 (σ.1 7 8).toInt64 = 0 then _ else _) else _) else _) = _
      rw [if_pos (show mi' 0 = 0 from r3), if_pos rfl, if_pos (lg_eq.mpr rfl)]
  · skip
    refine no 1 (by decide) (fun n => ?_) ?_
    · unfold mL_wipe mX8_wipe
      rw [v_rob_out hx, bx1_r, bo1_some, bh12_r, if_pos rfl]
    · unfold mX9_wipe 
      rw [g_noRob_out hx, bo2_some, if_neg ne10]
theorem pq_step : pl_step PRx := by
  intro σ xs i hP
  obtain ⟨p1, p2, p3, p4, p5⟩ := hP
  unfold mLaw_step
  generalize xs (i + (1 : Int32)).toNatClampNeg = x
  refine Classical.byContradiction fun hgoal => ?_
  have no : ∀ k : Int32, k ≠ 0 → (∀ n, mL_step (σ.1 2) (σ.2.1 0) (σ.1 3) (σ.1 4) (σ.1 5) (σ.1 6) (σ.1 7) (σ.1 8) (σ.1 16) σ.2.2.1 (σ.2.2.2.1 n 0) (σ.2.2.2.2.1 n) (σ.2.2.2.1 n 1) (σ.2.2.2.1 n 2) (σ.2.2.2.1 n 3) (σ.2.2.2.1 n 4) (σ.2.2.2.1 n 5) (σ.2.2.2.1 n 6) (σ.2.1 6) (σ.2.2.2.2.2 n 0) x = some (k, σ.1 2, σ.2.1 0, σ.1 5, σ.1 7, σ.1 16, σ.2.2.2.1 n 0, σ.2.2.2.2.1 n, σ.2.2.2.1 n 1, σ.2.2.2.1 n 2, σ.2.2.2.1 n 3, σ.2.2.2.1 n 4, σ.2.2.2.1 n 5, σ.2.2.2.1 n 6, σ.2.1 6)) → mX9_step (σ.1 35) (σ.1 37) (σ.1 40) (σ.1 43) (σ.1 44) (σ.1 45) (σ.1 46) x = some (0, upd (σ.1 35) 0 k, σ.1 37, σ.1 40, σ.1 43, σ.1 44, σ.1 45, σ.1 46) → False := fun k hk e1 e2 => by
    refine hgoal ⟨0, by decide, σ.1 2, σ.2.1 0, σ.1 5, σ.1 7, σ.1 16, σ.2.2.2.1 0 0, σ.2.2.2.2.1 0, σ.2.2.2.1 0 1, σ.2.2.2.1 0 2, σ.2.2.2.1 0 3, σ.2.2.2.1 0 4, σ.2.2.2.1 0 5, σ.2.2.2.1 0 6, σ.2.1 6, upd (σ.1 35) 0 k, σ.1 37, σ.1 40, σ.1 43, σ.1 44, σ.1 45, σ.1 46, ?_, p1, p2, HST_same p3 0, p4, p5⟩
    rw [e1 0, bo15_some, e2, bo8_some]
    show (if k = k then (if k = 0 then _ else _) else _) = _
    rw [if_pos rfl, if_neg hk]
  obtain ⟨n, hn, vh', vi', vj', vk', vc', va', vpa', vb', vpb', mi', vdi', r1, r2, r3, r4, r5⟩ := remember_ok p3 p1 (mi := upd (σ.1 35) 0 0) rfl
  rcases step_or x with ⟨N, hN1, hN2, rfl⟩ | hx
  · have ein : mX9_in (nI N).toInt64 (1 : Int64) (40 : Int64) = 1 := by
      rw [show (1 : Int64) = (1 : Int32).toInt64 from by decide, show (40 : Int64) = (40 : Int32).toInt64 from by decide, g_in, if_pos ⟨(pu_le (a := 1) (by decide) (by omega)).mpr hN1, (pu_le (b := 40) (by omega) (by decide)).mpr hN2⟩]
    obtain ⟨v, vi1, vj1, va1, vb1, vwy1, vah1, vtg1, vws1, s1, q1, q2, q5⟩ := some_steps (N := N) (by omega) p1 (σ.1 43) (σ.1 44) (σ.1 45) (σ.1 46)
    have eV : mL_step (σ.1 2) (σ.2.1 0) (σ.1 3) (σ.1 4) (σ.1 5) (σ.1 6) (σ.1 7) (σ.1 8) (σ.1 16) σ.2.2.1 (σ.2.2.2.1 n 0) (σ.2.2.2.2.1 n) (σ.2.2.2.1 n 1) (σ.2.2.2.1 n 2) (σ.2.2.2.1 n 3) (σ.2.2.2.1 n 4) (σ.2.2.2.1 n 5) (σ.2.2.2.1 n 6) (σ.2.1 6) (σ.2.2.2.2.2 n 0) (nI N) = some (0, vi1, vj1, va1, vb1, vh', vi', vj', vk', vc', va', vpa', vb', vpb', vp_updL (σ.2.1 6) 0 (v).toInt64) := by
      unfold mL_step mX8_step
      rw [if_neg (show ¬ nI N < (1 : Int32) from fun q => by have := (pu_lt (b := 1) (by omega) (by decide)).mp q; omega), if_pos (show nI N ≤ (40 : Int32) from (pu_le (b := 40) (by omega) (by decide)).mpr hN2), r1, bo9_some, q1, bo5_some, bo1_some, bh14_l]
      rfl
    have eG : mX9_step (σ.1 35) (σ.1 37) (σ.1 40) (σ.1 43) (σ.1 44) (σ.1 45) (σ.1 46) (nI N) = some (v, mi', s1, vdi', vwy1, vah1, vtg1, vws1) := by
      unfold mX9_step mX9_step_J18 mX9_refused
      rw [ein, if_neg ne10, if_pos le00, bt2_mk, if_pos rfl, r2, bo2_some, q2, bo6_some]
    refine hgoal ⟨n, hn, vi1, vj1, va1, vb1, vh', vi', vj', vk', vc', va', vpa', vb', vpb', vp_updL (σ.2.1 6) 0 (v).toInt64, mi', s1, vdi', vwy1, vah1, vtg1, vws1, ?_, q5, (show TXT (σ.1 0) (σ.1 1) (mi' 2) (σ.1 36) from (show mi' 2 = σ.1 35 2 from r4) ▸ p2), r5, p4, p5⟩
    rw [eV, bo15_some, eG, bo8_some]
    show (if mi' 0 = 0 then (if (0 : Int32) = 0 then (if lg_cmp (v).toInt64 (v).toInt64 = 0 then _ else _) else _) else _) = _
    rw [if_pos (show mi' 0 = 0 from r3), if_pos rfl, if_pos (lg_eq.mpr rfl)]
  · have ein : mX9_in x.toInt64 (1 : Int64) (40 : Int64) = 0 := by
      rw [show (1 : Int64) = (1 : Int32).toInt64 from by decide, show (40 : Int64) = (40 : Int32).toInt64 from by decide, g_in, if_neg hx]
    refine no 1 (by decide) (fun n => ?_) ?_
    · unfold mL_step mX8_step
      by_cases q : x < (1 : Int32)
      · rw [if_pos q, bo1_some, bh14_r, if_pos rfl]
      · rw [if_neg q, if_neg (fun z => hx ⟨Int32.not_lt.mp q, z⟩), bo1_some, bh14_r, if_pos rfl]
    · unfold mX9_step mX9_step_J18 mX9_refused
      rw [ein, if_pos rfl, if_neg nle1, bt2_mk, if_neg ne10]
