/-! The slots at the law -/
theorem bo20_some {α0 α1 α2 α3 α4 α5 α6 α7 α8 α9 α10 α11 α12 α13 α14 α15 α16 α17 α18 α19 β : Type} (a0 : α0) (a1 : α1) (a2 : α2) (a3 : α3) (a4 : α4) (a5 : α5) (a6 : α6) (a7 : α7) (a8 : α8) (a9 : α9) (a10 : α10) (a11 : α11) (a12 : α12) (a13 : α13) (a14 : α14) (a15 : α15) (a16 : α16) (a17 : α17) (a18 : α18) (a19 : α19) (f : α0 → α1 → α2 → α3 → α4 → α5 → α6 → α7 → α8 → α9 → α10 → α11 → α12 → α13 → α14 → α15 → α16 → α17 → α18 → α19 → Option β) : bo20 (some (a0, a1, a2, a3, a4, a5, a6, a7, a8, a9, a10, a11, a12, a13, a14, a15, a16, a17, a18, a19)) f = f a0 a1 a2 a3 a4 a5 a6 a7 a8 a9 a10 a11 a12 a13 a14 a15 a16 a17 a18 a19 := rfl
theorem bh19_l {α0 α1 α2 α3 α4 α5 α6 α7 α8 α9 α10 α11 α12 α13 α14 α15 α16 α17 α18 β : Type} (a0 : α0) (a1 : α1) (a2 : α2) (a3 : α3) (a4 : α4) (a5 : α5) (a6 : α6) (a7 : α7) (a8 : α8) (a9 : α9) (a10 : α10) (a11 : α11) (a12 : α12) (a13 : α13) (a14 : α14) (a15 : α15) (a16 : α16) (a17 : α17) (a18 : α18) (f : α0 → α1 → α2 → α3 → α4 → α5 → α6 → α7 → α8 → α9 → α10 → α11 → α12 → α13 → α14 → α15 → α16 → α17 → α18 → Option β) (k : String → Option β) : bh19 (.inl (a0, a1, a2, a3, a4, a5, a6, a7, a8, a9, a10, a11, a12, a13, a14, a15, a16, a17, a18)) f k = f a0 a1 a2 a3 a4 a5 a6 a7 a8 a9 a10 a11 a12 a13 a14 a15 a16 a17 a18 := rfl
theorem bh19_r {α0 α1 α2 α3 α4 α5 α6 α7 α8 α9 α10 α11 α12 α13 α14 α15 α16 α17 α18 β : Type} (E : String) (f : α0 → α1 → α2 → α3 → α4 → α5 → α6 → α7 → α8 → α9 → α10 → α11 → α12 → α13 → α14 → α15 → α16 → α17 → α18 → Option β) (k : String → Option β) : bh19 (.inr E) f k = k E := rfl
theorem v_slot_out {x : Int32} (h : ¬ ((0 : Int32) ≤ x ∧ x ≤ nI 1)) : mX8_checkSlot x = Sum.inr "java/lang/IndexOutOfBoundsException" := by
  unfold mX8_checkSlot
  rw [if_neg (fun q => h (by rw [q]; decide)), if_neg (fun q => h (by rw [q]; decide))]
theorem v_slot_in {r : Nat} (hr : r < 2) : mX8_checkSlot (nI r) = Sum.inl () := by
  rcases (show r = 0 ∨ r = 1 by omega) with rfl | rfl <;> decide
theorem FL_116 {vi : Nat → Int32} {vj : Nat → Int64} {vk vc va vpa vb vpb s : Nat → Int32} (hF : FL vi vj vk vc va vpa vb vpb s) : s 116 = vi 11 := by
  obtain ⟨K, t, f0, f1, m, hV, hS, hk, -, -, ⟨h5, h6, hm, h7, h110, hvc, h115, h116, hct⟩⟩ := hF
  exact h116
theorem nI_117r : ∀ r, r < 2 → (117 : Int32) * nI r = nI (117 * r) := by decide +kernel
theorem pq_save : pl_save PRx := by
  intro σ xs i hP
  obtain ⟨p1, p2, p3, p4, p5⟩ := hP
  unfold mLaw_save
  generalize xs (i + (1 : Int32)).toNatClampNeg = x
  rcases rng_or 2 (by decide) (by decide) x with ⟨r, hr, rfl⟩ | hx
  · have ein : mX9_in (nI r).toInt64 (0 : Int64) (1 : Int64) = 1 := g_in0 (N := 2) (by decide) hr
    obtain ⟨vkp', f1, f2, f3⟩ := g_copy117_234 (σ.1 37) (σ.1 41) (a := 0) (b := 117 * r) (by decide) (by omega)
    have eG : mX9_save (σ.1 35) (σ.1 37) (σ.1 41) (σ.1 42) (nI r) = some (σ.1 37 116, upd (σ.1 35) 0 0, vkp', upd (σ.1 42) r 1) := by
      unfold mX9_save mX9_save_J16 mX9_refused
      rw [ein, if_neg ne10, if_pos le00, bt2_mk, if_pos rfl, nI_117r r hr, show mX9_copyState_117_234 (σ.1 37) (σ.1 41) (0 : Int32) (nI (117 * r)) = _ from f1, bo1_some, if_pos (g_idx (by omega) 2 hr), nI_clamp (by omega)]
      rfl
    rw [FL_116 p1] at eG
    rcases (show r = 0 ∨ r = 1 by omega) with rfl | rfl
    · obtain ⟨vi', vj', vk', vc', va', vpa', vb', vpb', e1, e2⟩ := v_copy (σ.1 18) (σ.2.1 2) (σ.1 19) (σ.1 20) (σ.1 21) (σ.1 22) (σ.1 23) (σ.1 24) (σ.1 2) (σ.2.1 0) (σ.1 3) (σ.1 4) (σ.1 5) (σ.1 6) (σ.1 7) (σ.1 8)
      have eV : mL_save (σ.1 2) (σ.2.1 0) (σ.1 3) (σ.1 4) (σ.1 5) (σ.1 6) (σ.1 7) (σ.1 8) (σ.1 17) (σ.1 18) (σ.2.1 2) (σ.1 19) (σ.1 20) (σ.1 21) (σ.1 22) (σ.1 23) (σ.1 24) (σ.1 25) (σ.1 26) (σ.2.1 3) (σ.1 27) (σ.1 28) (σ.1 29) (σ.1 30) (σ.1 31) (σ.1 32) (σ.2.1 6) (nI 0) = some (0, upd (σ.1 17) 1 1, vi', vj', vk', vc', va', vpa', vb', vpb', σ.1 25, σ.1 26, σ.2.1 3, σ.1 27, σ.1 28, σ.1 29, σ.1 30, σ.1 31, σ.1 32, vp_updL (σ.2.1 6) 0 (σ.1 2 11).toInt64) := by
        unfold mL_save mX8_save
        rw [v_slot_in hr, bx1_l, if_pos (show nI 0 = 0 from rfl), e1, bo8_some, bo1_some, bh19_l]
        rfl
      refine ⟨upd (σ.1 17) 1 1, vi', vj', vk', vc', va', vpa', vb', vpb', σ.1 25, σ.1 26, σ.2.1 3, σ.1 27, σ.1 28, σ.1 29, σ.1 30, σ.1 31, σ.1 32, vp_updL (σ.2.1 6) 0 (σ.1 2 11).toInt64, upd (σ.1 35) 0 0, vkp', upd (σ.1 42) 0 1, ?_, p1, p2, p3, ?_, ?_⟩
      · rw [eV, bo20_some, eG, bo4_some]
        show (if (0 : Int32) = 0 then (if (0 : Int32) = 0 then (if lg_cmp (σ.1 2 11).toInt64 (σ.1 2 11).toInt64 = 0 then _ else _) else _) else _) = _
        rw [if_pos rfl, if_pos rfl, if_pos (lg_eq.mpr rfl)]
      · exact ⟨rfl, Or.inr rfl, fun _ => FL_cong p1 e2 (fun k hk => by
          have := f2 k hk
          rw [show 117 * 0 + k = k by omega] at this
          exact this)⟩
      · refine ⟨p5.1, p5.2.1, fun q => FL_cong (p5.2.2 q) (AGv_refl _ _ _ _ _ _ _ _) (fun k hk => f3 (117 + k) (by omega))⟩
    · obtain ⟨vi', vj', vk', vc', va', vpa', vb', vpb', e1, e2⟩ := v_copy (σ.1 26) (σ.2.1 3) (σ.1 27) (σ.1 28) (σ.1 29) (σ.1 30) (σ.1 31) (σ.1 32) (σ.1 2) (σ.2.1 0) (σ.1 3) (σ.1 4) (σ.1 5) (σ.1 6) (σ.1 7) (σ.1 8)
      have eV : mL_save (σ.1 2) (σ.2.1 0) (σ.1 3) (σ.1 4) (σ.1 5) (σ.1 6) (σ.1 7) (σ.1 8) (σ.1 17) (σ.1 18) (σ.2.1 2) (σ.1 19) (σ.1 20) (σ.1 21) (σ.1 22) (σ.1 23) (σ.1 24) (σ.1 25) (σ.1 26) (σ.2.1 3) (σ.1 27) (σ.1 28) (σ.1 29) (σ.1 30) (σ.1 31) (σ.1 32) (σ.2.1 6) (nI 1) = some (0, σ.1 17, σ.1 18, σ.2.1 2, σ.1 19, σ.1 20, σ.1 21, σ.1 22, σ.1 23, σ.1 24, upd (σ.1 25) 1 1, vi', vj', vk', vc', va', vpa', vb', vpb', vp_updL (σ.2.1 6) 0 (σ.1 2 11).toInt64) := by
        unfold mL_save mX8_save
        rw [v_slot_in hr, bx1_l, if_neg (show ¬ nI 1 = 0 by decide), e1, bo8_some, bo1_some, bh19_l]
        rfl
      refine ⟨σ.1 17, σ.1 18, σ.2.1 2, σ.1 19, σ.1 20, σ.1 21, σ.1 22, σ.1 23, σ.1 24, upd (σ.1 25) 1 1, vi', vj', vk', vc', va', vpa', vb', vpb', vp_updL (σ.2.1 6) 0 (σ.1 2 11).toInt64, upd (σ.1 35) 0 0, vkp', upd (σ.1 42) 1 1, ?_, p1, p2, p3, ?_, ?_⟩
      · rw [eV, bo20_some, eG, bo4_some]
        show (if (0 : Int32) = 0 then (if (0 : Int32) = 0 then (if lg_cmp (σ.1 2 11).toInt64 (σ.1 2 11).toInt64 = 0 then _ else _) else _) else _) = _
        rw [if_pos rfl, if_pos rfl, if_pos (lg_eq.mpr rfl)]
      · refine ⟨p4.1, p4.2.1, fun q => FL_cong (p4.2.2 q) (AGv_refl _ _ _ _ _ _ _ _) (fun k hk => f3 k (by omega))⟩
      · exact ⟨rfl, Or.inr rfl, fun _ => FL_cong p1 e2 (fun k hk => by
          have := f2 k hk
          rw [Nat.zero_add] at this
          exact this)⟩
  · have ein : mX9_in x.toInt64 (0 : Int64) (1 : Int64) = 0 := g_inN (N := 2) (by decide) hx
    refine ⟨σ.1 17, σ.1 18, σ.2.1 2, σ.1 19, σ.1 20, σ.1 21, σ.1 22, σ.1 23, σ.1 24, σ.1 25, σ.1 26, σ.2.1 3, σ.1 27, σ.1 28, σ.1 29, σ.1 30, σ.1 31, σ.1 32, σ.2.1 6, upd (σ.1 35) 0 1, σ.1 41, σ.1 42, ?_, p1, p2, p3, p4, p5⟩
    unfold mL_save mX8_save mX9_save mX9_save_J16 mX9_refused
    rw [v_slot_out hx, bx1_r, bo1_some, bh19_r, if_pos rfl, bo20_some, ein, if_pos rfl, if_neg nle1, bt2_mk, if_neg ne10, bo4_some]
    show (if (1 : Int32) = 1 then (if (1 : Int32) = 0 then _ else _) else _) = _
    rw [if_pos rfl, if_neg ne10]
theorem pq_restore : pl_restore PRx := by
  intro σ xs i hP
  obtain ⟨p1, p2, p3, p4, p5⟩ := hP
  unfold mLaw_restore
  generalize xs (i + (1 : Int32)).toNatClampNeg = x
  have hH : HST (upd (σ.1 16) 2 0) σ.2.2.1 0 (σ.1 40) σ.2.2.2.1 σ.2.2.2.2.1 σ.2.2.2.2.2 := by
    obtain ⟨nx, ct, hnx, hct, h1, h2, h3, hhs, hrow⟩ := p3
    exact ⟨nx, 0, hnx, by decide, h1, rfl, rfl, hhs, fun i hi => absurd hi (Nat.not_lt_zero i)⟩
  refine Classical.byContradiction fun hgoal => ?_
  have no : ∀ k : Int32, k ≠ 0 → mL_restore (σ.1 2) (σ.2.1 0) (σ.1 3) (σ.1 4) (σ.1 5) (σ.1 6) (σ.1 7) (σ.1 8) (σ.1 16) (σ.1 17) (σ.1 18) (σ.2.1 2) (σ.1 19) (σ.1 20) (σ.1 21) (σ.1 22) (σ.1 23) (σ.1 24) (σ.1 25) (σ.1 26) (σ.2.1 3) (σ.1 27) (σ.1 28) (σ.1 29) (σ.1 30) (σ.1 31) (σ.1 32) (σ.2.1 6) x = some (k, σ.1 2, σ.2.1 0, σ.1 3, σ.1 4, σ.1 5, σ.1 6, σ.1 7, σ.1 8, σ.1 16, σ.2.1 6) → mX9_restore (σ.1 35) (σ.1 37) (σ.1 41) (σ.1 42) x = some (0, upd (σ.1 35) 0 k, σ.1 37) → False := fun k hk e1 e2 => by
    refine hgoal ⟨σ.1 2, σ.2.1 0, σ.1 3, σ.1 4, σ.1 5, σ.1 6, σ.1 7, σ.1 8, σ.1 16, σ.2.1 6, upd (σ.1 35) 0 k, σ.1 37, ?_, p1, p2, p3, p4, p5⟩
    rw [e1, bo11_some, e2, bo3_some]
    show (if k = k then (if k = 0 then _ else _) else _) = _
    rw [if_pos rfl, if_neg hk]
  rcases rng_or 2 (by decide) (by decide) x with ⟨r, hr, rfl⟩ | hx
  · have ein : mX9_in (nI r).toInt64 (0 : Int64) (1 : Int64) = 1 := g_in0 (N := 2) (by decide) hr
    rcases (show r = 0 ∨ r = 1 by omega) with rfl | rfl
    · by_cases hz : σ.1 42 0 = 0
      · refine no 2 (by decide) ?_ ?_
        · unfold mL_restore mX8_restore
          rw [v_slot_in hr, bx1_l, if_pos (show nI 0 = 0 from rfl), if_pos (p4.1.trans hz), bo1_some, bh10_r, if_neg (by decide), if_pos rfl]
        · unfold mX9_restore mX9_restore_J29 mX9_refused
          rw [ein, if_neg ne10, if_pos (g_idx (by omega) 2 hr), nI_clamp (by omega), if_pos hz, if_neg nle2, bt2_mk, if_neg ne10]
      · have h1 : σ.1 42 0 = 1 := by
          rcases p4.2.1 with q | q
          · exact absurd q hz
          · exact q
        have hvs : ¬ σ.1 17 1 = 0 := fun q => hz (p4.1.symm.trans q)
        obtain ⟨vi', vj', vk', vc', va', vpa', vb', vpb', e1, e2⟩ := v_copy (σ.1 2) (σ.2.1 0) (σ.1 3) (σ.1 4) (σ.1 5) (σ.1 6) (σ.1 7) (σ.1 8) (σ.1 18) (σ.2.1 2) (σ.1 19) (σ.1 20) (σ.1 21) (σ.1 22) (σ.1 23) (σ.1 24)
        obtain ⟨vnw', f1, f2, f3⟩ := g_copy234_117 (σ.1 41) (σ.1 37) (a := 117 * 0) (b := 0) (by decide) (by decide)
        have hF : FL vi' vj' vk' vc' va' vpa' vb' vpb' vnw' := FL_cong (p4.2.2 h1) e2 (fun k hk => by
          have := f2 k hk
          simpa using this)
        have eV : mL_restore (σ.1 2) (σ.2.1 0) (σ.1 3) (σ.1 4) (σ.1 5) (σ.1 6) (σ.1 7) (σ.1 8) (σ.1 16) (σ.1 17) (σ.1 18) (σ.2.1 2) (σ.1 19) (σ.1 20) (σ.1 21) (σ.1 22) (σ.1 23) (σ.1 24) (σ.1 25) (σ.1 26) (σ.2.1 3) (σ.1 27) (σ.1 28) (σ.1 29) (σ.1 30) (σ.1 31) (σ.1 32) (σ.2.1 6) (nI 0) = some (0, vi', vj', vk', vc', va', vpa', vb', vpb', upd (σ.1 16) 2 0, vp_updL (σ.2.1 6) 0 (vi' 11).toInt64) := by
          unfold mL_restore mX8_restore
          rw [v_slot_in hr, bx1_l, if_pos (show nI 0 = 0 from rfl), if_neg hvs, e1, bo8_some, bo1_some, bh10_l]
          rfl
        have eG : mX9_restore (σ.1 35) (σ.1 37) (σ.1 41) (σ.1 42) (nI 0) = some (vnw' 116, upd (upd (σ.1 35) 0 0) 7 0, vnw') := by
          unfold mX9_restore mX9_restore_J29 mX9_refused
          rw [ein, if_neg ne10, if_pos (g_idx (by omega) 2 hr), nI_clamp (by omega), if_neg hz, if_pos le00, bt2_mk, if_pos rfl, nI_117r 0 hr, show mX9_copyState_234_117 (σ.1 41) (σ.1 37) (nI (117 * 0)) (0 : Int32) = _ from f1, bo1_some]
          rfl
        rw [FL_116 hF] at eG
        refine hgoal ⟨vi', vj', vk', vc', va', vpa', vb', vpb', upd (σ.1 16) 2 0, vp_updL (σ.2.1 6) 0 (vi' 11).toInt64, upd (upd (σ.1 35) 0 0) 7 0, vnw', ?_, hF, p2, hH, p4, p5⟩
        rw [eV, bo11_some, eG, bo3_some]
        show (if (0 : Int32) = 0 then (if (0 : Int32) = 0 then (if lg_cmp (vi' 11).toInt64 (vi' 11).toInt64 = 0 then _ else _) else _) else _) = _
        rw [if_pos rfl, if_pos rfl, if_pos (lg_eq.mpr rfl)]
    · by_cases hz : σ.1 42 1 = 0
      · refine no 2 (by decide) ?_ ?_
        · unfold mL_restore mX8_restore
          rw [v_slot_in hr, bx1_l, if_neg (show ¬ nI 1 = 0 by decide), if_pos (p5.1.trans hz), bo1_some, bh10_r, if_neg (by decide), if_pos rfl]
        · unfold mX9_restore mX9_restore_J29 mX9_refused
          rw [ein, if_neg ne10, if_pos (g_idx (by omega) 2 hr), nI_clamp (by omega), if_pos hz, if_neg nle2, bt2_mk, if_neg ne10]
      · have h1 : σ.1 42 1 = 1 := by
          rcases p5.2.1 with q | q
          · exact absurd q hz
          · exact q
        have hvs : ¬ σ.1 25 1 = 0 := fun q => hz (p5.1.symm.trans q)
        obtain ⟨vi', vj', vk', vc', va', vpa', vb', vpb', e1, e2⟩ := v_copy (σ.1 2) (σ.2.1 0) (σ.1 3) (σ.1 4) (σ.1 5) (σ.1 6) (σ.1 7) (σ.1 8) (σ.1 26) (σ.2.1 3) (σ.1 27) (σ.1 28) (σ.1 29) (σ.1 30) (σ.1 31) (σ.1 32)
        obtain ⟨vnw', f1, f2, f3⟩ := g_copy234_117 (σ.1 41) (σ.1 37) (a := 117 * 1) (b := 0) (by decide) (by decide)
        have hF : FL vi' vj' vk' vc' va' vpa' vb' vpb' vnw' := FL_cong (p5.2.2 h1) e2 (fun k hk => by
          have := f2 k hk
          rw [Nat.zero_add] at this
          exact this)
        have eV : mL_restore (σ.1 2) (σ.2.1 0) (σ.1 3) (σ.1 4) (σ.1 5) (σ.1 6) (σ.1 7) (σ.1 8) (σ.1 16) (σ.1 17) (σ.1 18) (σ.2.1 2) (σ.1 19) (σ.1 20) (σ.1 21) (σ.1 22) (σ.1 23) (σ.1 24) (σ.1 25) (σ.1 26) (σ.2.1 3) (σ.1 27) (σ.1 28) (σ.1 29) (σ.1 30) (σ.1 31) (σ.1 32) (σ.2.1 6) (nI 1) = some (0, vi', vj', vk', vc', va', vpa', vb', vpb', upd (σ.1 16) 2 0, vp_updL (σ.2.1 6) 0 (vi' 11).toInt64) := by
          unfold mL_restore mX8_restore
          rw [v_slot_in hr, bx1_l, if_neg (show ¬ nI 1 = 0 by decide), if_neg hvs, e1, bo8_some, bo1_some, bh10_l]
          rfl
        have eG : mX9_restore (σ.1 35) (σ.1 37) (σ.1 41) (σ.1 42) (nI 1) = some (vnw' 116, upd (upd (σ.1 35) 0 0) 7 0, vnw') := by
          unfold mX9_restore mX9_restore_J29 mX9_refused
          rw [ein, if_neg ne10, if_pos (g_idx (by omega) 2 hr), nI_clamp (by omega), if_neg hz, if_pos le00, bt2_mk, if_pos rfl, nI_117r 1 hr, show mX9_copyState_234_117 (σ.1 41) (σ.1 37) (nI (117 * 1)) (0 : Int32) = _ from f1, bo1_some]
          rfl
        rw [FL_116 hF] at eG
        refine hgoal ⟨vi', vj', vk', vc', va', vpa', vb', vpb', upd (σ.1 16) 2 0, vp_updL (σ.2.1 6) 0 (vi' 11).toInt64, upd (upd (σ.1 35) 0 0) 7 0, vnw', ?_, hF, p2, hH, p4, p5⟩
        rw [eV, bo11_some, eG, bo3_some]
        show (if (0 : Int32) = 0 then (if (0 : Int32) = 0 then (if lg_cmp (vi' 11).toInt64 (vi' 11).toInt64 = 0 then _ else _) else _) else _) = _
        rw [if_pos rfl, if_pos rfl, if_pos (lg_eq.mpr rfl)]
  · have ein : mX9_in x.toInt64 (0 : Int64) (1 : Int64) = 0 := g_inN (N := 2) (by decide) hx
    refine no 1 (by decide) ?_ ?_
    · unfold mL_restore mX8_restore
      rw [v_slot_out hx, bx1_r, bo1_some, bh10_r, if_pos rfl]
    · unfold mX9_restore mX9_restore_J29 mX9_refused
      rw [ein, if_pos rfl, if_neg nle1, bt2_mk, if_neg ne10]
