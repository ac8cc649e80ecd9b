/-! The text's two calls, the loops, the slots -/
theorem bt2_two {α α2 β : Type} (x : α × α2) (f : α → α2 → β) : bt2 x f = f x.1 x.2 := rfl
theorem pq_clearText : pl_clearText PRx := by
  intro σ xs i hP
  obtain ⟨p1, ⟨n, hn, h1, h2, h3⟩, p3, p4, p5⟩ := hP
  refine ⟨upd (σ.1 0) 1 0, upd (upd (σ.1 35) 0 0) 2 0, ?_, p1, ⟨0, by decide, rfl, rfl, fun k hk => absurd hk (Nat.not_lt_zero k)⟩, p3, p4, p5⟩
  unfold mLaw_clearText mX8_clearText mX9_clearText
  show (if σ.1 0 1 = σ.1 35 2 then _ else _) = _
  rw [if_pos (h1.trans h2.symm)]
theorem bh3_l {α α2 α3 β : Type} (a : α) (b : α2) (c : α3) (f : α → α2 → α3 → Option β) (h : String → Option β) : bh3 (.inl (a, b, c)) f h = f a b c := rfl
theorem bh3_r {α α2 α3 β : Type} (E : String) (f : α → α2 → α3 → Option β) (h : String → Option β) : bh3 (.inr E) f h = h E := rfl
theorem ne20 : ¬ (2 : Int32) = 0 := by decide
theorem ne30 : ¬ (3 : Int32) = 0 := by decide
theorem jchar_nI : ∀ c, c < 256 → ((jchar (nI c)).toUInt32.toUInt16.toUInt32.toInt32) = nI c := by decide +kernel
theorem lt0_nI {c : Nat} (h : c < 2 ^ 31) : ¬ nI c < (0 : Int32) := pu_neg h
theorem ltc {a b : Nat} (ha : a < 2 ^ 31) (hb : b < 2 ^ 31) (h : a < b) : nI a < nI b := (pu_lt ha hb).mpr h
theorem pq_append : pl_append PRx := by
  intro σ xs i hP
  obtain ⟨p1, ⟨n, hn, h1, h2, h3⟩, p3, p4, p5⟩ := hP
  unfold mLaw_append
  generalize xs (i + (1 : Int32)).toNatClampNeg = x
  have no : ∀ k : Int32, k ≠ 0 → mL_append (σ.1 0) (σ.1 1) (σ.2.1 6) x = some (k, σ.1 0, σ.1 1, σ.2.1 6) → mX9_append (σ.1 35) (σ.1 36) x = some (0, upd (σ.1 35) 0 k, σ.1 36) →
      ∃ (ti_z sg_z : Nat → Int32) (vou_z : Nat → Int64) (mi_z vtt_z : Nat → Int32), (bo4 (mL_append (σ.1 0) (σ.1 1) (σ.2.1 6) x) (fun r_1 ti_2 sg_3 vou_4 => (bo3 (mX9_append (σ.1 35) (σ.1 36) x) (fun r_6 mi_7 vtt_8 => (if (mX9_thrown mi_7) = r_1 then (if r_1 = 0 then (if (lg_cmp (vou_4 (0 : Int32).toNatClampNeg) (r_6.toInt64)) = 0 then (some (ti_2, sg_3, vou_4, mi_7, vtt_8)) else none) else (some (ti_2, sg_3, vou_4, mi_7, vtt_8))) else none))))) = some (ti_z, sg_z, vou_z, mi_z, vtt_z) ∧ PRx ((setI (setI (setI (setI σ.1 0 ti_z) 1 sg_z) 35 mi_z) 36 vtt_z), (setL σ.2.1 6 vou_z), σ.2.2.1, σ.2.2.2.1, σ.2.2.2.2.1, σ.2.2.2.2.2) := fun k hk e1 e2 => by
    refine ⟨σ.1 0, σ.1 1, σ.2.1 6, upd (σ.1 35) 0 k, σ.1 36, ?_, p1, ⟨n, hn, h1, h2, h3⟩, p3, p4, p5⟩
    rw [e1, bo4_some, e2, bo3_some]
    show (if k = k then (if k = 0 then _ else _) else _) = _
    rw [if_pos rfl, if_neg hk]
  rcases rng_or 256 (by decide) (by decide) x with ⟨c, hc, rfl⟩ | hx
  · have hle : nI c ≤ (255 : Int32) := (pu_le (b := 255) (by omega) (by decide)).mpr (by omega)
    have ein : mX9_in (nI c).toInt64 (0 : Int64) (255 : Int64) = 1 := g_in0 (N := 256) (by decide) hc
    by_cases hn2 : n = 120
    · subst hn2
      refine no 2 (by decide) ?_ ?_
      · unfold mL_append mX8_append
        rw [if_neg (lt0_nI (by omega)), if_pos hle, h1, if_neg (by decide), bh3_r, if_neg (by decide), if_pos rfl]
      · unfold mX9_append mX9_append_J31 mX9_refused
        rw [ein, if_neg ne10, h2, if_pos (show nI 120 = (120 : Int32) from rfl), if_neg (show ¬ (2 : Int32) ≤ 0 by decide), bt2_mk, if_neg ne10]
    · have ti' : σ.1 0 1 = nI n := h1
      have hlt : nI n < (120 : Int32) := ltc (b := 120) (by omega) (by decide) (by omega)
      have eV : mL_append (σ.1 0) (σ.1 1) (σ.2.1 6) (nI c) = some (0, upd (σ.1 0) 1 (nI (n + 1)), upd (σ.1 1) n (nI c), vp_updL (σ.2.1 6) 0 (nI (n + 1)).toInt64) := by
        unfold mL_append mX8_append mX7_add
        rw [if_neg (lt0_nI (by omega)), if_pos hle, h1, if_pos hlt, if_neg (lt0_nI (by omega)), if_neg (fun q => Int32.not_le.mpr hlt q), bt2_mk, nI_1, nI_clamp (by omega), jchar_nI c hc, bh3_l]
        rfl
      have eG : mX9_append (σ.1 35) (σ.1 36) (nI c) = some (nI (n + 1), upd (upd (σ.1 35) 0 0) 2 (nI (n + 1)), upd (σ.1 36) n (nI c)) := by
        unfold mX9_append mX9_append_J31 mX9_refused
        have e2 : upd (σ.1 35) 0 (0 : Int32) 2 = nI n := h2
        rw [ein, if_neg ne10, h2, if_neg (show ¬ nI n = 120 from fun q => hn2 ((nI_inj (b := 120) (by omega) (by decide)).mp q)), if_pos (show (0 : Int32) ≤ 0 by decide), bt2_mk, if_pos rfl, e2, if_pos (g_idx (by omega) 120 (by omega)), nI_1, nI_clamp (by omega)]
      refine ⟨upd (σ.1 0) 1 (nI (n + 1)), upd (σ.1 1) n (nI c), vp_updL (σ.2.1 6) 0 (nI (n + 1)).toInt64, upd (upd (σ.1 35) 0 0) 2 (nI (n + 1)), upd (σ.1 36) n (nI c), ?_, p1, ⟨n + 1, by omega, rfl, rfl, fun k hk => ?_⟩, p3, p4, p5⟩
      rotate_left
      · show upd (σ.1 1) n (nI c) k = upd (σ.1 36) n (nI c) k ∧ ∃ d, d < 256 ∧ upd (σ.1 36) n (nI c) k = nI d
        by_cases e : k = n
        · subst e
          exact ⟨(if_pos rfl).trans (if_pos rfl).symm, c, hc, if_pos rfl⟩
        · obtain ⟨q1, d, q2, q3⟩ := h3 k (by omega)
          exact ⟨(if_neg e).trans (q1.trans (if_neg e).symm), d, q2, (if_neg e).trans q3⟩
      · rw [eV, bo4_some, eG, bo3_some]
        show (if (0 : Int32) = 0 then (if (0 : Int32) = 0 then (if lg_cmp (nI (n + 1)).toInt64 (nI (n + 1)).toInt64 = 0 then _ else _) else _) else _) = _
        rw [if_pos rfl, if_pos rfl, if_pos (lg_eq.mpr rfl)]
  · refine no 1 (by decide) ?_ ?_
    · unfold mL_append mX8_append
      rcases rng_out (N := 256) (by decide) (by decide) hx with q | ⟨q, q2⟩
      · rw [if_pos q, bh3_r, if_pos rfl]
      · rw [if_neg q, if_neg (show ¬ x ≤ (255 : Int32) from fun z => hx ⟨Int32.not_lt.mp q, z⟩), bh3_r, if_pos rfl]
    · have ein : mX9_in x.toInt64 (0 : Int64) (255 : Int64) = 0 := g_inN (N := 256) (by decide) hx
      unfold mX9_append mX9_append_J31 mX9_refused
      rw [ein, if_pos rfl, if_neg (show ¬ (1 : Int32) ≤ 0 by decide), bt2_mk, if_neg ne10]
theorem bh9_l {α α2 α3 α4 α5 α6 α7 α8 α9 β : Type} (a : α) (b : α2) (c : α3) (d : α4) (e : α5) (g : α6) (h : α7) (i : α8) (j : α9) (f : α → α2 → α3 → α4 → α5 → α6 → α7 → α8 → α9 → Option β) (k : String → Option β) : bh9 (.inl (a, b, c, d, e, g, h, i, j)) f k = f a b c d e g h i j := rfl
theorem bh9_r {α α2 α3 α4 α5 α6 α7 α8 α9 β : Type} (E : String) (f : α → α2 → α3 → α4 → α5 → α6 → α7 → α8 → α9 → Option β) (k : String → Option β) : bh9 (.inr E) f k = k E := rfl
theorem bo7_some {α α2 α3 α4 α5 α6 α7 β : Type} (a : α) (b : α2) (c : α3) (d : α4) (e : α5) (g : α6) (h : α7) (f : α → α2 → α3 → α4 → α5 → α6 → α7 → Option β) : bo7 (some (a, b, c, d, e, g, h)) f = f a b c d e g h := rfl
theorem bo9_some {α α2 α3 α4 α5 α6 α7 α8 α9 β : Type} (a : α) (b : α2) (c : α3) (d : α4) (e : α5) (g : α6) (h : α7) (i : α8) (j : α9) (f : α → α2 → α3 → α4 → α5 → α6 → α7 → α8 → α9 → Option β) : bo9 (some (a, b, c, d, e, g, h, i, j)) f = f a b c d e g h i j := rfl
theorem bo10_some {α α2 α3 α4 α5 α6 α7 α8 α9 α10 β : Type} (a : α) (b : α2) (c : α3) (d : α4) (e : α5) (g : α6) (h : α7) (i : α8) (j : α9) (k : α10) (f : α → α2 → α3 → α4 → α5 → α6 → α7 → α8 → α9 → α10 → Option β) : bo10 (some (a, b, c, d, e, g, h, i, j, k)) f = f a b c d e g h i j k := rfl
theorem bo11_some {α α2 α3 α4 α5 α6 α7 α8 α9 α10 α11 β : Type} (a : α) (b : α2) (c : α3) (d : α4) (e : α5) (g : α6) (h : α7) (i : α8) (j : α9) (k : α10) (l : α11) (f : α → α2 → α3 → α4 → α5 → α6 → α7 → α8 → α9 → α10 → α11 → Option β) : bo11 (some (a, b, c, d, e, g, h, i, j, k, l)) f = f a b c d e g h i j k l := rfl
/-- a trial copy, both sides -/
theorem trial_FL {vi : Nat → Int32} {vj : Nat → Int64} {vk vc va vpa vb vpb s : Nat → Int32} (hF : FL vi vj vk vc va vpa vb vpb s) (viT : Nat → Int32) (vjT : Nat → Int64) (vkT vcT vaT vpaT vbT vpbT vtr : Nat → Int32) :
    ∃ vi' vj' vk' vc' va' vpa' vb' vpb' vtr', mX1_copyFrom viT vjT vkT vcT vaT vpaT vbT vpbT vi vj vk vc va vpa vb vpb = some (vi', vj', vk', vc', va', vpa', vb', vpb') ∧ mX9_copyState_117_117 s vtr (0 : Int32) (0 : Int32) = some vtr' ∧ FL vi' vj' vk' vc' va' vpa' vb' vpb' vtr' ∧ va' 2 = va 2 ∧ vb' 2 = vb 2 ∧ vi' 11 = vi 11 ∧ ∀ k, k < 117 → vtr' k = s k := by
  obtain ⟨vi', vj', vk', vc', va', vpa', vb', vpb', e1, e2⟩ := v_copy viT vjT vkT vcT vaT vpaT vbT vpbT vi vj vk vc va vpa vb vpb
  obtain ⟨vtr', e3, e4, -⟩ := g_copy117_117 s vtr (a := 0) (b := 0) (by decide) (by decide)
  have es : ∀ k, k < 117 → vtr' k = s k := fun k hk => by
    have := e4 k hk
    rw [Nat.zero_add] at this
    exact this
  exact ⟨_, _, _, _, _, _, _, _, vtr', e1, e3, FL_cong hF e2 es, e2.2.2.2.2.1 2 (by decide), e2.2.2.2.2.2.2.1 2 (by decide), e2.1 11 (by decide) (by decide), es⟩
theorem pq_passesIn : pl_passesIn PRx := by
  intro σ xs i hP
  obtain ⟨p1, p2, p3, p4, p5⟩ := hP
  unfold mLaw_passesIn
  generalize xs (i + (1 : Int32)).toNatClampNeg = x
  rcases rng_or 2 (by decide) (by decide) x with ⟨r, hr, rfl⟩ | hx
  · obtain ⟨viT, vjT, vkT, vcT, vaT, vpaT, vbT, vpbT, vtr, e1, e2, e3, e4, e5, -, -⟩ := trial_FL p1 (σ.1 9) (σ.2.1 1) (σ.1 10) (σ.1 11) (σ.1 12) (σ.1 13) (σ.1 14) (σ.1 15) (σ.1 38)
    have hN := FL_next p1
    have hL := FL_NLe e3
    rcases (show r = 0 ∨ r = 1 by omega) with rfl | rfl
    · obtain ⟨v, viT', vjT', vaT', vbT', vtr', vwy', vah', vtg', vws', f1, f2⟩ := passes_0 (vi := σ.1 2) (vj := σ.2.1 0) (vk := σ.1 3) (vc := σ.1 4) (va := σ.1 5) (vpa := σ.1 6) (vb := σ.1 7) (vpb := σ.1 8) (mi := upd (σ.1 35) 0 0) (vnw := σ.1 37) (a0 := vaT) (hN.1.trans e4.symm) 150 4096 1 viT vjT vaT vbT vtr (σ.1 43) (σ.1 44) (σ.1 45) (σ.1 46) (by decide) (by decide) e3 hL.1
      refine ⟨viT', vjT', vkT, vcT, vaT', vpaT, vbT', vpbT, vp_updL (σ.2.1 6) 0 v.toInt64, upd (σ.1 35) 0 0, vtr', vwy', vah', vtg', vws', ?_, p1, p2, p3, p4, p5⟩
      unfold mL_passesIn mX8_passesIn mX9_passesIn
      rw [v_rob_in hr, bx1_l, e1, bo8_some, if_pos (show nI 0 = 0 from rfl), show (1 : Int32) = nI 1 from rfl, f1, bo1_some, bh9_l, bo10_some, g_noRob_in hr, bo2_some, if_pos rfl, e2, bo1_some, show mX9_passesIn_L25 4096 (upd (σ.1 35) 0 0) (σ.1 37) vtr (σ.1 43) (σ.1 44) (σ.1 45) (σ.1 46) (nI 0) (nI 1) = _ from f2, bo7_some]
      show (if (0 : Int32) = 0 then (if (0 : Int32) = 0 then (if lg_cmp v.toInt64 v.toInt64 = 0 then _ else _) else _) else _) = _
      rw [if_pos rfl, if_pos rfl, if_pos (lg_eq.mpr rfl)]
      rfl
    · obtain ⟨v, viT', vjT', vaT', vbT', vtr', vwy', vah', vtg', vws', f1, f2⟩ := passes_1 (vi := σ.1 2) (vj := σ.2.1 0) (vk := σ.1 3) (vc := σ.1 4) (va := σ.1 5) (vpa := σ.1 6) (vb := σ.1 7) (vpb := σ.1 8) (mi := upd (σ.1 35) 0 0) (vnw := σ.1 37) (a0 := vbT) (hN.2.trans e5.symm) 150 4096 1 viT vjT vaT vbT vtr (σ.1 43) (σ.1 44) (σ.1 45) (σ.1 46) (by decide) (by decide) e3 hL.2
      refine ⟨viT', vjT', vkT, vcT, vaT', vpaT, vbT', vpbT, vp_updL (σ.2.1 6) 0 v.toInt64, upd (σ.1 35) 0 0, vtr', vwy', vah', vtg', vws', ?_, p1, p2, p3, p4, p5⟩
      unfold mL_passesIn mX8_passesIn mX9_passesIn
      rw [v_rob_in hr, bx1_l, e1, bo8_some, if_neg (show ¬ nI 1 = 0 by decide), show (1 : Int32) = nI 1 from rfl, f1, bo1_some, bh9_l, bo10_some, g_noRob_in hr, bo2_some, if_pos rfl, e2, bo1_some, show mX9_passesIn_L25 4096 (upd (σ.1 35) 0 0) (σ.1 37) vtr (σ.1 43) (σ.1 44) (σ.1 45) (σ.1 46) (nI 1) (nI 1) = _ from f2, bo7_some]
      show (if (0 : Int32) = 0 then (if (0 : Int32) = 0 then (if lg_cmp v.toInt64 v.toInt64 = 0 then _ else _) else _) else _) = _
      rw [if_pos rfl, if_pos rfl, if_pos (lg_eq.mpr rfl)]
      rfl
  · refine ⟨σ.1 9, σ.2.1 1, σ.1 10, σ.1 11, σ.1 12, σ.1 13, σ.1 14, σ.1 15, σ.2.1 6, upd (σ.1 35) 0 1, σ.1 38, σ.1 43, σ.1 44, σ.1 45, σ.1 46, ?_, p1, p2, p3, p4, p5⟩
    unfold mL_passesIn mX8_passesIn mX9_passesIn
    rw [v_rob_out hx, bx1_r, bo1_some, bh9_r, if_pos rfl, bo10_some, g_noRob_out hx, bo2_some, if_neg ne10, bo7_some]
    show (if (1 : Int32) = 1 then (if (1 : Int32) = 0 then _ else _) else _) = _
    rw [if_pos rfl, if_neg ne10]
/-- the reference's loop -/
theorem g_loop_start {vi : Nat → Int32} {vj : Nat → Int64} {vk vc va vpa vb vpb s : Nat → Int32} (hF : FL vi vj vk vc va vpa vb vpb s) (viT : Nat → Int32) (vjT : Nat → Int64) (vkT vcT vaT vpaT vbT vpbT vtr vot vwy vah vtg vws : Nat → Int32) :
    ∃ vi1 vj1 vk1 vc1 va1 vpa1 vb1 vpb1 vtr1, mX1_copyFrom viT vjT vkT vcT vaT vpaT vbT vpbT vi vj vk vc va vpa vb vpb = some (vi1, vj1, vk1, vc1, va1, vpa1, vb1, vpb1) ∧ mX9_copyState_117_117 s vtr (0 : Int32) (0 : Int32) = some vtr1 ∧ FL vi1 vj1 vk1 vc1 va1 vpa1 vb1 vpb1 vtr1 ∧
      ∃ r vi' vj' va' vb' vwy' vah' vtg' vws' s' vot', mX6_makeSome vi1 vj1 vk1 vc1 va1 vpa1 vb1 vpb1 (120 : Int32) = some (r, vi', vj', va', vb') ∧ mX9_stepOn vwy vah vtg vws vtr1 (120 : Int32) = some (r, vwy', vah', vtg', vws', s') ∧ FL vi' vj' vk1 vc1 va' vpa1 vb' vpb1 s' ∧ mX9_copyState_117_117 s' vot (0 : Int32) (0 : Int32) = some vot' ∧ FL vi' vj' vk1 vc1 va' vpa1 vb' vpb1 vot' := by
  obtain ⟨vi1, vj1, vk1, vc1, va1, vpa1, vb1, vpb1, vtr1, e1, e2, e3, e4, e5, -, -⟩ := trial_FL hF viT vjT vkT vcT vaT vpaT vbT vpbT vtr
  obtain ⟨r, vi', vj', va', vb', vwy', vah', vtg', vws', s', f1, f2, f3⟩ := some_steps (N := 120) (by decide) e3 vwy vah vtg vws
  obtain ⟨vot', g1, g2, -⟩ := g_copy117_117 s' vot (a := 0) (b := 0) (by decide) (by decide)
  have es : ∀ k, k < 117 → vot' k = s' k := fun k hk => by
    have := g2 k hk
    rw [Nat.zero_add] at this
    exact this
  exact ⟨_, _, _, _, _, _, _, _, vtr1, e1, e2, e3, r, _, _, _, _, _, _, _, _, s', vot', f1, f2, f3, g1, FL_cong f3 (AGv_refl _ _ _ _ _ _ _ _) es⟩
theorem pq_loopByWaiting : pl_loopByWaiting PRx := by
  intro σ xs i hP
  obtain ⟨p1, p2, p3, p4, p5⟩ := hP
  obtain ⟨vi1, vj1, vk1, vc1, va1, vpa1, vb1, vpb1, vtr1, e1, e2, e3, r, vi', vj', va', vb', vwy', vah', vtg', vws', s', vot', f1, f2, f3, g1, g2⟩ := g_loop_start p1 (σ.1 9) (σ.2.1 1) (σ.1 10) (σ.1 11) (σ.1 12) (σ.1 13) (σ.1 14) (σ.1 15) (σ.1 38) (σ.1 39) (σ.1 43) (σ.1 44) (σ.1 45) (σ.1 46)
  obtain ⟨v, viT', vjT', vaT', vbT', vtr', vwy2, vah2, vtg2, vws2, h1, h2⟩ := wait_L (vi := σ.1 2) (vj := σ.2.1 0) (vk := σ.1 3) (vc := σ.1 4) (va := σ.1 5) (vpa := σ.1 6) (vb := σ.1 7) (vpb := σ.1 8) (mi := upd (σ.1 35) 0 0) (vnw := σ.1 37) g2 120 4096 1 vi' vj' va' vb' s' vwy' vah' vtg' vws' (by decide) (by decide) f3
  refine ⟨viT', vjT', vk1, vc1, vaT', vpa1, vbT', vpb1, upd (σ.1 35) 0 0, vtr', vot', vwy2, vah2, vtg2, vws2, ?_, p1, p2, p3, p4, p5⟩
  unfold mLaw_loopByWaiting mX8_loopByWaiting mX9_loopByWaiting mX9_loop
  rw [e1, bo8_some, f1, bo5_some, show (1 : Int32) = nI 1 from rfl, h1, bo9_some, e2, bo1_some, f2, bo6_some, g1, bo1_some, h2, bo8_some, bo8_some, if_pos rfl]
theorem pq_loopByKeeping : pl_loopByKeeping PRx := by
  intro σ xs i hP
  obtain ⟨p1, p2, p3, p4, p5⟩ := hP
  obtain ⟨vi1, vj1, vk1, vc1, va1, vpa1, vb1, vpb1, vtr1, e1, e2, e3, r, vi', vj', va', vb', vwy', vah', vtg', vws', s', vot', f1, f2, f3, g1, g2⟩ := g_loop_start p1 (σ.1 9) (σ.2.1 1) (σ.1 10) (σ.1 11) (σ.1 12) (σ.1 13) (σ.1 14) (σ.1 15) (σ.1 38) (σ.1 39) (σ.1 43) (σ.1 44) (σ.1 45) (σ.1 46)
  obtain ⟨viK, vjK, vaK, vbK, vkc, vkr, k1, k2⟩ := keep_1 (vi := σ.1 2) (vj := σ.2.1 0) (vk := σ.1 3) (vc := σ.1 4) (va := σ.1 5) (vpa := σ.1 6) (vb := σ.1 7) (vpb := σ.1 8) (X := (vi1, vj1, va1, vb1)) 241 4096 0 vi1 vj1 va1 vb1 vtr1 (σ.2.1 4) (σ.2.1 5) (by decide) (by decide) e3 rfl (fun i hi => absurd hi (Nat.not_lt_zero i))
  -- the class's state behind 120 steps
  have hit : ∀ (j n i : Nat) (l r : Int32) (Y : Sv) (Z : Sv), i + j = 120 → itV vk1 vc1 vpa1 vpb1 i (vi1, vj1, va1, vb1) = some Y → mX6_makeSome_L4 n Y.1 Y.2.1 vk1 vc1 Y.2.2.1 vpa1 Y.2.2.2 vpb1 (120 : Int32) l (nI i) = some (r, Z) → itV vk1 vc1 vpa1 vpb1 120 (vi1, vj1, va1, vb1) = some Z := by
    intro j
    induction j with
    | zero =>
      intro n i l r Y Z hi hY h
      obtain rfl : i = 120 := by omega
      cases n with
      | zero => cases h
      | succ n =>
        unfold mX6_makeSome_L4 at h
        rw [if_pos (by decide)] at h
        cases h
        exact hY
    | succ j ih =>
      intro n i l r Y Z hi hY h
      cases n with
      | zero => cases h
      | succ n =>
        unfold mX6_makeSome_L4 at h
        rw [if_neg (show ¬ (120 : Int32) ≤ nI i from nI_leF (b := 120) (by omega) (by decide) (by omega)), nI_1] at h
        cases hm : mX6_makeOne Y.1 Y.2.1 vk1 vc1 Y.2.2.1 vpa1 Y.2.2.2 vpb1 with
        | none => rw [hm] at h; cases h
        | some q =>
          obtain ⟨q0, q1, q2, q3, q4⟩ := q
          rw [hm, bo5_some] at h
          exact ih n (i + 1) _ r (q1, q2, q3, q4) Z (by omega) (itV_succ hY hm) h
  have h120 : itV vk1 vc1 vpa1 vpb1 120 (vi1, vj1, va1, vb1) = some (vi', vj', va', vb') := by
    have f1' := f1
    unfold mX6_makeSome at f1'
    exact hit 120 4096 0 0 r (vi1, vj1, va1, vb1) (vi', vj', va', vb') (by decide) rfl f1'
  obtain ⟨v, vtr', vwy2, vah2, vtg2, vws2, h1, h2⟩ := keep_2 (vi := σ.1 2) (vj := σ.2.1 0) (vk := σ.1 3) (vc := σ.1 4) (va := σ.1 5) (vpa := σ.1 6) (vb := σ.1 7) (vpb := σ.1 8) (viT := viK) (vjT := vjK) (vaT := vaK) (vbT := vbK) (mi := upd (σ.1 35) 0 0) (vnw := σ.1 37) k2 h120 g2 120 4096 1 (vi', vj', va', vb') s' vwy' vah' vtg' vws' (by decide) (by decide) (by decide) h120 f3
  refine ⟨viK, vjK, vk1, vc1, vaK, vpa1, vbK, vpb1, vkc, vkr, upd (σ.1 35) 0 0, vtr', vot', vwy2, vah2, vtg2, vws2, ?_, p1, p2, p3, p4, p5⟩
  unfold mLaw_loopByKeeping mX8_loopByKeeping mX9_loopByKeeping mX9_loop
  rw [e1, bo8_some, show mX8_loopByKeeping_L13 4096 (σ.1 2) (σ.2.1 0) (σ.1 3) (σ.1 4) (σ.1 5) (σ.1 6) (σ.1 7) (σ.1 8) vi1 vj1 vk1 vc1 va1 vpa1 vb1 vpb1 (σ.2.1 4) (σ.2.1 5) (0 : Int32) = _ from k1, show (1 : Int32) = nI 1 from rfl, h1, bo11_some, e2, bo1_some, f2, bo6_some, g1, bo1_some, h2, bo8_some, bo8_some, if_pos rfl]
