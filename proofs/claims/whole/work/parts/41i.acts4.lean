/-! Robots: put, write, wipe -/
theorem rob_put {va vpa s : Nat → Int32} {r f f' c : Nat} (hr : r < 2) (h : RB va vpa s r f) (hf : f' < 4) : RB (upd (upd va 0 (nI c)) 1 (nI f')) vpa (upd (upd s (72 + 9 * r + 0) (nI c)) (72 + 9 * r + 1) (nI f')) r f' := by
  obtain ⟨h1, hR, hO, hN⟩ := h
  refine ⟨rfl, ⟨if_pos rfl, fun j j2 j9 => ?_, fun j q1 q2 => ?_⟩, ?_, hN⟩
  · rw [show ∀ v w, upd (upd s (72 + 9 * r + 0) v) (72 + 9 * r + 1) w (72 + 9 * r + j) = s (72 + 9 * r + j) from fun v w => (if_neg (by omega)).trans (if_neg (by omega)), show ∀ v w, upd (upd va 0 v) 1 w j = va j from fun v w => (if_neg (by omega)).trans (if_neg (by omega))]
    exact hR.2.1 j j2 j9
  · rw [show ∀ v w, upd (upd s (72 + 9 * r + 0) v) (72 + 9 * r + 1) w (90 + 10 * r + j) = s (90 + 10 * r + j) from fun v w => (if_neg (by omega)).trans (if_neg (by omega))]
    exact hR.2.2 j q1 q2
  · obtain ⟨-, hh⟩ := OKr_cong (h' := upd (upd va 0 (nI c)) 1 (nI f')) rfl rfl hO
    exact ⟨hf, hh⟩
theorem op_put {vi : Nat → Int32} {vj : Nat → Int64} {vk vc va vpa vb vpb s : Nat → Int32} (hF : FL vi vj vk vc va vpa vb vpb s) {r c f : Nat} (hr : r < 2) (hc : c < 36) (hf : f < 4) :
    ∃ rf : Bool, mX1_refusesRobot vj vk va vb (nI r) (nI c) = (if rf then 1 else 0) ∧ mX9_canPut s (nI r) (nI c) = some (if rf then 0 else 1) ∧ (rf = true → mX1_placeRobot vj vk va vb (nI r) (nI c) (nI f) = (0, va, vb)) ∧
      (rf = false → ∃ va' vb' s' o, mX1_placeRobot vj vk va vb (nI r) (nI c) (nI f) = (1, va', vb') ∧ mX9_putOn s (nI r) (nI c) (nI f) = some (o, s') ∧ (if r = 0 then va 0 else vb 0) = o ∧ 0 ≤ o ∧ FL vi vj vk vc va' vpa vb' vpb s') := by
  obtain ⟨K, t, f0, f1, m, hV, hS, hk, hB0, hB1, ⟨h5, h6, hm, h7, h110, hvc, h115, h116, hct⟩⟩ := hF
  have hK : ∀ x, x < 36 → K x < 7 := fun x hx => (hk.1 x hx).1
  obtain ⟨own, hown⟩ : ∃ own, own = cl2 t r := ⟨_, rfl⟩
  obtain ⟨oth, hoth⟩ : ∃ oth, oth = cl2 t (1 - r) := ⟨_, rfl⟩
  have hoc : own < 36 ∧ oth < 36 ∧ own ≠ oth ∧ t.1 own = false ∧ t.1 oth = false ∧ (∀ x, th t.1 t.2.1 t.2.2 x = (t.1 x || x == own || x == oth)) := by
    obtain ⟨hA, h0, h1, hne, hC0, hC1, hb0, hb1⟩ := hk
    rcases (show r = 0 ∨ r = 1 by omega) with rfl | rfl
    · have e1 : own = t.2.1 := hown
      have e2 : oth = t.2.2 := hoth
      subst e1 e2
      exact ⟨h0, h1, hne, hC0, hC1, fun _ => rfl⟩
    · have e1 : own = t.2.2 := hown
      have e2 : oth = t.2.1 := hoth
      subst e1 e2
      exact ⟨h1, h0, fun q => hne q.symm, hC1, hC0, fun x => (tht_swp t x).symm⟩
  obtain ⟨o1, o2, o3, o4, o5, o6⟩ := hoc
  have eo : mX9_of s (nI r) (0 : Int32) = some (nI own) := (g_of s (k := 0) hr (by decide)).trans (by rw [Nat.add_zero, RS_cell hr hS, hown])
  obtain ⟨rf, hrf⟩ : ∃ rf : Bool, rf = (decide (K c = 1 ∨ K c = 2) || t.1 c || decide (oth = c)) := ⟨_, rfl⟩
  have eR : mX1_refusesRobot vj vk va vb (nI r) (nI c) = (if rf then 1 else 0) := by
    unfold mX1_refusesRobot
    rw [v_hard hV.1 hK hc, hV.2.1]
    by_cases q1 : K c = 1 ∨ K c = 2
    · rw [if_pos q1, if_neg ne10, hrf, decide_eq_true q1]; rfl
    · rw [if_neg q1, if_pos rfl, hrf, decide_eq_false q1, Bool.false_or]
      cases hC : t.1 c with
      | true => rw [if_neg (fun q => by rw [sL_holds0 hc, hC] at q; cases q)]; rfl
      | false =>
        rw [if_pos ((sL_holds0 hc).mpr hC), Bool.false_or]
        have e : ∀ x, x < 36 → (nI x = nI c ↔ x = c) := fun x hx => nI_inj (by omega) (by omega)
        rcases (show r = 0 ∨ r = 1 by omega) with rfl | rfl
        · have e2 : oth = t.2.2 := hoth
          rw [if_neg (show ¬ ((1 : Int32) - nI 0) = 0 by decide), hV.2.2.2, ← e2]
          by_cases q : oth = c
          · rw [if_pos ((e _ o2).mpr q), decide_eq_true q]; rfl
          · rw [if_neg (fun z => q ((e _ o2).mp z)), decide_eq_false q]; rfl
        · have e2 : oth = t.2.1 := hoth
          rw [if_pos (show ((1 : Int32) - nI 1) = 0 by decide), hV.2.2.1, ← e2]
          by_cases q : oth = c
          · rw [if_pos ((e _ o2).mpr q), decide_eq_true q]; rfl
          · rw [if_neg (fun z => q ((e _ o2).mp z)), decide_eq_false q]; rfl
  have eC : mX9_canPut s (nI r) (nI c) = some (if rf then 0 else 1) := by
    unfold mX9_canPut
    rw [g_hard hS hK hc, bo1_some, eo, g_hasThing hS hk.2.1 hk.2.2.1 hc, o6 c]
    by_cases q1 : K c = 1 ∨ K c = 2
    · rw [if_pos q1, if_neg ne10, hrf, decide_eq_true q1]; rfl
    · rw [if_neg q1, if_pos rfl, bo1_some, hrf, decide_eq_false q1, Bool.false_or]
      by_cases q2 : own = c
      · subst q2
        rw [if_pos rfl, o4, decide_eq_false (fun z => o3 z.symm)]; rfl
      · rw [if_neg (fun z => q2 ((nI_inj (by omega) (by omega)).mp z)), bo1_some]
        have e1 : (c == own) = false := by simpa using fun z => q2 z.symm
        have e2 : (c == oth) = decide (oth = c) := by
          rw [Bool.eq_iff_iff, beq_iff_eq, decide_eq_true_eq]
          exact ⟨fun z => z.symm, fun z => z.symm⟩
        rw [e1, e2, Bool.or_false]
        cases t.1 c <;> cases decide (oth = c) <;> rfl
  refine ⟨rf, eR, eC, fun h => ?_, fun h => ?_⟩
  · unfold mX1_placeRobot
    rw [eR, h]; rfl
  · rw [h] at hrf
    have hrf := hrf.symm
    rw [Bool.or_eq_false_iff, Bool.or_eq_false_iff] at hrf
    obtain ⟨⟨q1, q2⟩, q3⟩ := hrf
    have q1 := of_decide_eq_false q1
    have q3 := of_decide_eq_false q3
    have eO : mX9_putOn s (nI r) (nI c) (nI f) = some (nI own, upd (upd s (72 + 9 * r + 0) (nI c)) (72 + 9 * r + 1) (nI f)) := by
      unfold mX9_putOn
      rw [eo, bo1_some, show mX9_puts s (nI r) (0 : Int32) (nI c) = _ from g_puts s (k := 0) hr (by decide) (nI c), bo1_some, show mX9_puts (upd s (72 + 9 * r + 0) (nI c)) (nI r) (1 : Int32) (nI f) = _ from g_puts _ (k := 1) hr (by decide) (nI f), bo1_some]
    have hs : ∀ x, x ≠ 72 + 9 * r → x ≠ 72 + 9 * r + 1 → upd (upd s (72 + 9 * r + 0) (nI c)) (72 + 9 * r + 1) (nI f) x = s x := fun x h1 h2 => (if_neg h2).trans (if_neg h1)
    obtain ⟨hA, h0, h1, hne, hC0, hC1, hb0, hb1⟩ := hk
    rcases (show r = 0 ∨ r = 1 by omega) with rfl | rfl
    · have e1 : own = t.2.1 := hown
      have e2 : oth = t.2.2 := hoth
      refine ⟨upd (upd va 0 (nI c)) 1 (nI f), vb, _, _, ?_, eO, ?_, nI_pos' (by omega), K, (t.1, c, t.2.2), f, f1, m, ⟨hV.1, hV.2.1, rfl, hV.2.2.2⟩, ⟨fun x hx => ⟨?_, ?_⟩, rfl, (hs 81 (by omega) (by omega)).trans hS.2.2⟩, ⟨hA, hc, h1, fun q => q3 (e2.trans q.symm), q2, hC1, fun q => q1 (Or.inl q), hb1⟩, rob_put (by decide) hB0 hf, RB_row hB1 (fun k hk => hs k (by omega) (by omega)), h5, h6, hm, h7, (hs 110 (by omega) (by omega)).trans h110, fun k hk => ⟨(hs (111 + k) (by omega) (by omega)).trans (hvc k hk).1, (hvc k hk).2⟩, (hs 115 (by omega) (by omega)).trans h115, (hs 116 (by omega) (by omega)).trans h116, hct⟩
      · unfold mX1_placeRobot
        rw [eR, h]; rfl
      · rw [if_pos rfl, hV.2.2.1, e1]
      · rw [hs x (by omega) (by omega)]; exact (hS.1 x hx).1
      · rw [hs (36 + x) (by omega) (by omega)]; exact (hS.1 x hx).2
    · have e1 : own = t.2.2 := hown
      have e2 : oth = t.2.1 := hoth
      refine ⟨va, upd (upd vb 0 (nI c)) 1 (nI f), _, _, ?_, eO, ?_, nI_pos' (by omega), K, (t.1, t.2.1, c), f0, f, m, ⟨hV.1, hV.2.1, hV.2.2.1, rfl⟩, ⟨fun x hx => ⟨?_, ?_⟩, (hs 72 (by omega) (by omega)).trans hS.2.1, rfl⟩, ⟨hA, h0, hc, fun q => q3 (e2.trans q), hC0, q2, hb0, fun q => q1 (Or.inl q)⟩, RB_row hB0 (fun k hk => hs k (by omega) (by omega)), rob_put (by decide) hB1 hf, h5, h6, hm, h7, (hs 110 (by omega) (by omega)).trans h110, fun k hk => ⟨(hs (111 + k) (by omega) (by omega)).trans (hvc k hk).1, (hvc k hk).2⟩, (hs 115 (by omega) (by omega)).trans h115, (hs 116 (by omega) (by omega)).trans h116, hct⟩
      · unfold mX1_placeRobot
        rw [eR, h]; rfl
      · rw [if_neg (by decide), hV.2.2.2, e1]
      · rw [hs x (by omega) (by omega)]; exact (hS.1 x hx).1
      · rw [hs (36 + x) (by omega) (by omega)]; exact (hS.1 x hx).2
/-- one robot learns -/
theorem rob_write {va vpa s : Nat → Int32} {r f w : Nat} (hr : r < 2) (h : RB va vpa s r f) (hw : w < 6) : ∃ l, l ≤ 10 ∧ va 8 = nI l ∧ s (72 + 9 * r + 8) = nI l ∧ (l = 10 → mX4_learn va vpa (nI w) = (0, va, vpa)) ∧
      (l < 10 → mX4_learn va vpa (nI w) = (1, upd va 8 (nI (l + 1)), upd vpa l (nI w)) ∧ mX9_writeOn s (nI r) (nI w) = some (nI (l + 1), upd (upd s (90 + 10 * r + l) (nI w)) (72 + 9 * r + 8) (nI (l + 1))) ∧ RB (upd va 8 (nI (l + 1))) (upd vpa l (nI w)) (upd (upd s (90 + 10 * r + l) (nI w)) (72 + 9 * r + 8) (nI (l + 1))) r f) := by
  obtain ⟨h1, hR, ⟨hf, p, l, e7, e8, hl, hp, hi⟩, hN⟩ := h
  have s8 : s (72 + 9 * r + 8) = nI l := (hR.2.1 8 (by decide) (by decide)).trans e8
  refine ⟨l, hl, e8, s8, fun q => ?_, fun q => ⟨?_, ?_, h1, ⟨?_, fun j j2 j9 => ?_, fun j q1 q2 => ?_⟩, ⟨hf, p, l + 1, e7, rfl, by omega, by omega, fun j hj => ?_⟩, hN⟩⟩
  · unfold mX4_learn
    rw [e8, q, if_neg (by decide), if_neg (by decide)]
  · unfold mX4_learn
    rw [e8, if_neg (lt0_nI (by omega)), if_pos (show nI l < (10 : Int32) from ltc (b := 10) (by omega) (by decide) q), nI_clamp (by omega), nI_1]
  · unfold mX9_writeOn
    have e8' : mX9_of s (nI r) (8 : Int32) = some (nI l) := (g_of s (k := 8) hr (by decide)).trans (by rw [s8])
    have s8' : upd s (90 + 10 * r + l) (nI w) (72 + 9 * r + 8) = nI l := (if_neg (by omega)).trans s8
    rw [e8', bo1_some, g_prog hr q, if_pos (g_idx117 (by omega)), nI_clamp (by omega), show mX9_adds (upd s (90 + 10 * r + l) (nI w)) (nI r) (8 : Int32) (1 : Int32) = _ from g_adds _ (k := 8) hr (by decide) 1, bo1_some, s8', nI_1, show mX9_of (upd (upd s (90 + 10 * r + l) (nI w)) (72 + 9 * r + 8) (nI (l + 1))) (nI r) (8 : Int32) = _ from g_of _ (k := 8) hr (by decide), bo1_some, show ∀ v, upd (upd s (90 + 10 * r + l) (nI w)) (72 + 9 * r + 8) v (72 + 9 * r + 8) = v from fun v => if_pos rfl]
  · exact (if_neg (by omega)).trans ((if_neg (by omega)).trans hR.1)
  · by_cases e : j = 8
    · subst e; exact (if_pos rfl).trans (if_pos rfl).symm
    · rw [show ∀ v z, upd (upd s (90 + 10 * r + l) v) (72 + 9 * r + 8) z (72 + 9 * r + j) = s (72 + 9 * r + j) from fun v z => (if_neg (by omega)).trans (if_neg (by omega)), show ∀ v, upd va 8 v j = va j from fun v => if_neg e]
      exact hR.2.1 j j2 j9
  · have q1 : nI j < nI (l + 1) := q1
    have hjl := (pu_lt (by omega) (by omega)).mp q1
    by_cases e : j = l
    · subst e
      exact (if_neg (by omega)).trans ((if_pos rfl).trans (if_pos rfl).symm)
    · rw [show ∀ v z, upd (upd s (90 + 10 * r + l) v) (72 + 9 * r + 8) z (90 + 10 * r + j) = s (90 + 10 * r + j) from fun v z => (if_neg (by omega)).trans (if_neg (by omega)), show ∀ v, upd vpa l v j = vpa j from fun v => if_neg e]
      exact hR.2.2 j (by rw [e8]; exact nI_lt (by omega) (by omega)) q2
  · by_cases e : j = l
    · subst e; exact ⟨w, hw, if_pos rfl⟩
    · obtain ⟨i, i1, i2⟩ := hi j (by omega)
      exact ⟨i, i1, (if_neg e).trans i2⟩
/-- one robot forgets -/
theorem rob_wipe {va vpa s : Nat → Int32} {r f : Nat} (hr : r < 2) (h : RB va vpa s r f) : mX9_wipeOn s (nI r) = some (va 8, upd (upd s (72 + 9 * r + 8) 0) (72 + 9 * r + 7) 0) ∧ RB (mX4_forgetProgram va) vpa (upd (upd s (72 + 9 * r + 8) 0) (72 + 9 * r + 7) 0) r f ∧ mX4_forgetProgram va 0 = va 0 := by
  obtain ⟨h1, hR, ⟨hf, p, l, e7, e8, hl, hp, hi⟩, hN⟩ := h
  refine ⟨?_, ⟨h1, ⟨?_, fun j j2 j9 => ?_, fun j q1 q2 => ?_⟩, ⟨hf, 0, 0, rfl, rfl, by decide, Or.inr ⟨rfl, rfl⟩, fun j hj => absurd hj (Nat.not_lt_zero j)⟩, hN⟩, rfl⟩
  · unfold mX9_wipeOn
    rw [show mX9_of s (nI r) (8 : Int32) = _ from g_of s (k := 8) hr (by decide), bo1_some, show mX9_puts s (nI r) (8 : Int32) (0 : Int32) = _ from g_puts s (k := 8) hr (by decide) 0, bo1_some, show mX9_puts (upd s (72 + 9 * r + 8) 0) (nI r) (7 : Int32) (0 : Int32) = _ from g_puts _ (k := 7) hr (by decide) 0, bo1_some, hR.2.1 8 (by decide) (by decide)]
  · exact (if_neg (by omega)).trans ((if_neg (by omega)).trans hR.1)
  · unfold mX4_forgetProgram
    by_cases e8' : j = 8
    · subst e8'
      exact ((if_neg (by omega)).trans (if_pos rfl)).trans (if_pos rfl).symm
    · by_cases e7' : j = 7
      · subst e7'
        exact (if_pos rfl).trans ((if_neg (by decide)).trans (if_pos rfl)).symm
      · rw [show ∀ v w, upd (upd s (72 + 9 * r + 8) v) (72 + 9 * r + 7) w (72 + 9 * r + j) = s (72 + 9 * r + j) from fun v w => (if_neg (by omega)).trans (if_neg (by omega)), show ∀ v w, upd (upd va 7 v) 8 w j = va j from fun v w => (if_neg e8').trans (if_neg e7')]
        exact hR.2.1 j j2 j9
  · exfalso
    have q1 : nI j < (0 : Int32) := q1
    exact lt0_nI (by omega) q1
theorem FL_rows {vi : Nat → Int32} {vj : Nat → Int64} {vk vc va vpa vb vpb va' vpa' vb' vpb' s s' : Nat → Int32} (hF : FL vi vj vk vc va vpa vb vpb s) (ha0 : va' 0 = va 0) (hb0 : vb' 0 = vb 0) (hs : ∀ x, x < 73 ∨ x = 81 ∨ 110 ≤ x → s' x = s x) (h0 : ∀ f, RB va vpa s 0 f → RB va' vpa' s' 0 f) (h1 : ∀ f, RB vb vpb s 1 f → RB vb' vpb' s' 1 f) : FL vi vj vk vc va' vpa' vb' vpb' s' := by
  obtain ⟨K, t, f0, f1, m, hV, hS, hk, hB0, hB1, ⟨h5, h6, hm, h7, h110, hvc, h115, h116, hct⟩⟩ := hF
  exact ⟨K, t, f0, f1, m, ⟨hV.1, hV.2.1, ha0.trans hV.2.2.1, hb0.trans hV.2.2.2⟩, ⟨fun x hx => ⟨(hs x (by omega)).trans (hS.1 x hx).1, (hs (36 + x) (by omega)).trans (hS.1 x hx).2⟩, (hs 72 (by omega)).trans hS.2.1, (hs 81 (by omega)).trans hS.2.2⟩, hk, h0 f0 hB0, h1 f1 hB1, h5, h6, hm, h7, (hs 110 (by omega)).trans h110, fun k hk => ⟨(hs (111 + k) (by omega)).trans (hvc k hk).1, (hvc k hk).2⟩, (hs 115 (by omega)).trans h115, (hs 116 (by omega)).trans h116, hct⟩
theorem FL_RB {vi : Nat → Int32} {vj : Nat → Int64} {vk vc va vpa vb vpb s : Nat → Int32} (hF : FL vi vj vk vc va vpa vb vpb s) : (∃ f, RB va vpa s 0 f) ∧ ∃ f, RB vb vpb s 1 f := by
  obtain ⟨K, t, f0, f1, m, hV, hS, hk, hB0, hB1, -⟩ := hF
  exact ⟨⟨f0, hB0⟩, f1, hB1⟩
theorem op_write0 {vi : Nat → Int32} {vj : Nat → Int64} {vk vc va vpa vb vpb s : Nat → Int32} (hF : FL vi vj vk vc va vpa vb vpb s) {w : Nat} (hw : w < 6) : ∃ l, l ≤ 10 ∧ va 8 = nI l ∧ mX9_of s (nI 0) (8 : Int32) = some (nI l) ∧ (l = 10 → mX4_learn va vpa (nI w) = (0, va, vpa)) ∧ (l < 10 → ∃ va' vpa' s', mX4_learn va vpa (nI w) = (1, va', vpa') ∧ va' 8 = nI (l + 1) ∧ mX9_writeOn s (nI 0) (nI w) = some (nI (l + 1), s') ∧ FL vi vj vk vc va' vpa' vb vpb s') := by
  obtain ⟨⟨f, hB⟩, -⟩ := FL_RB hF
  obtain ⟨l, l1, l2, l3, l4, l5⟩ := rob_write (r := 0) (by decide) hB hw
  refine ⟨l, l1, l2, (g_of s (k := 8) (by decide) (by decide)).trans (by rw [l3]), l4, fun q => ?_⟩
  obtain ⟨a1, a2, -⟩ := l5 q
  refine ⟨_, _, _, a1, rfl, a2, FL_rows hF rfl rfl (fun x hx => (if_neg (by omega)).trans (if_neg (by omega))) (fun f' hB' => ?_) (fun f' hB' => RB_row hB' (fun k hk => (if_neg (by omega)).trans (if_neg (by omega))))⟩
  obtain ⟨l', b1, b2, b3, b4, b5⟩ := rob_write (r := 0) (by decide) hB' hw
  have : l' = l := (nI_inj (by omega) (by omega)).mp (b2.symm.trans l2)
  subst this
  exact (b5 q).2.2
theorem op_write1 {vi : Nat → Int32} {vj : Nat → Int64} {vk vc va vpa vb vpb s : Nat → Int32} (hF : FL vi vj vk vc va vpa vb vpb s) {w : Nat} (hw : w < 6) : ∃ l, l ≤ 10 ∧ vb 8 = nI l ∧ mX9_of s (nI 1) (8 : Int32) = some (nI l) ∧ (l = 10 → mX4_learn vb vpb (nI w) = (0, vb, vpb)) ∧ (l < 10 → ∃ vb' vpb' s', mX4_learn vb vpb (nI w) = (1, vb', vpb') ∧ vb' 8 = nI (l + 1) ∧ mX9_writeOn s (nI 1) (nI w) = some (nI (l + 1), s') ∧ FL vi vj vk vc va vpa vb' vpb' s') := by
  obtain ⟨-, ⟨f, hB⟩⟩ := FL_RB hF
  obtain ⟨l, l1, l2, l3, l4, l5⟩ := rob_write (r := 1) (by decide) hB hw
  refine ⟨l, l1, l2, (g_of s (k := 8) (by decide) (by decide)).trans (by rw [l3]), l4, fun q => ?_⟩
  obtain ⟨a1, a2, -⟩ := l5 q
  refine ⟨_, _, _, a1, rfl, a2, FL_rows hF rfl rfl (fun x hx => (if_neg (by omega)).trans (if_neg (by omega))) (fun f' hB' => RB_row hB' (fun k hk => (if_neg (by omega)).trans (if_neg (by omega)))) (fun f' hB' => ?_)⟩
  obtain ⟨l', b1, b2, b3, b4, b5⟩ := rob_write (r := 1) (by decide) hB' hw
  have : l' = l := (nI_inj (by omega) (by omega)).mp (b2.symm.trans l2)
  subst this
  exact (b5 q).2.2
theorem op_wipe0 {vi : Nat → Int32} {vj : Nat → Int64} {vk vc va vpa vb vpb s : Nat → Int32} (hF : FL vi vj vk vc va vpa vb vpb s) : ∃ s', mX9_wipeOn s (nI 0) = some (va 8, s') ∧ FL vi vj vk vc (mX4_forgetProgram va) vpa vb vpb s' := by
  obtain ⟨⟨f, hB⟩, -⟩ := FL_RB hF
  exact ⟨_, (rob_wipe (r := 0) (by decide) hB).1, FL_rows hF rfl rfl (fun x hx => (if_neg (by omega)).trans (if_neg (by omega))) (fun f' hB' => (rob_wipe (r := 0) (by decide) hB').2.1) (fun f' hB' => RB_row hB' (fun k hk => (if_neg (by omega)).trans (if_neg (by omega))))⟩
theorem op_wipe1 {vi : Nat → Int32} {vj : Nat → Int64} {vk vc va vpa vb vpb s : Nat → Int32} (hF : FL vi vj vk vc va vpa vb vpb s) : ∃ s', mX9_wipeOn s (nI 1) = some (vb 8, s') ∧ FL vi vj vk vc va vpa (mX4_forgetProgram vb) vpb s' := by
  obtain ⟨-, ⟨f, hB⟩⟩ := FL_RB hF
  exact ⟨_, (rob_wipe (r := 1) (by decide) hB).1, FL_rows hF rfl rfl (fun x hx => (if_neg (by omega)).trans (if_neg (by omega))) (fun f' hB' => RB_row hB' (fun k hk => (if_neg (by omega)).trans (if_neg (by omega)))) (fun f' hB' => (rob_wipe (r := 1) (by decide) hB').2.1)⟩
