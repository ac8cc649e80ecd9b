/-! The class: a robot follows its instruction -/
/-- a robot's own numbers behind its instruction: w what it wants, go the row that it pushes -/
def hmA (w go : Option Nat) (h : Nat → Int32) : Nat → Int32 := match go with
  | some r => upd (upd h 3 (h 3 + 1)) 5 (h 5 + nI r)
  | none => match w with
    | some _ => upd h 4 (h 4 + 1)
    | none => h
def hfA (w go : Option Nat) (h : Nat → Int32) : Nat → Int32 := tpA (hmA w go h)
theorem hmA_7 (w go : Option Nat) (h : Nat → Int32) : hmA w go h 7 = h 7 ∧ hmA w go h 8 = h 8 := by
  unfold hmA
  cases go with
  | some r => exact ⟨rfl, rfl⟩
  | none => cases w <;> exact ⟨rfl, rfl⟩
theorem v_next {va : Nat → Int32} {h : Nat → Int32} (hj : ∀ j, 2 ≤ j → j < 9 → va j = h j) : ∀ j, 2 ≤ j → j < 9 → mX4_comeToNextPlace va j = tpA h j := by
  intro j h2 h9
  unfold mX4_comeToNextPlace tpA
  rw [hj 8 (by decide) (by decide), hj 7 (by decide) (by decide)]
  split
  · by_cases e : j = 7
    · subst e; rfl
    · rw [show upd va 7 0 j = va j from if_neg e, show upd h 7 0 j = h j from if_neg e]; exact hj j h2 h9
  · by_cases e : j = 7
    · subst e; rfl
    · rw [show upd va 7 (h 7 + 1) j = va j from if_neg e, show upd h 7 (h 7 + 1) j = h j from if_neg e]; exact hj j h2 h9
theorem v_next01 (va : Nat → Int32) {j : Nat} (hj : j < 2) : mX4_comeToNextPlace va j = va j := by
  unfold mX4_comeToNextPlace
  split <;> exact if_neg (by omega)
theorem tpA_8 (h : Nat → Int32) : tpA h 8 = h 8 := by
  unfold tpA; split <;> exact if_neg (by decide)
theorem OKr_len {f : Nat} {h I : Nat → Int32} (hO : OKr f h I) : OKr f h I := hO
/-- behind a move nothing turns -/
theorem tfA_move {f : Nat} {h I : Nat → Int32} (hO : OKr f h I) {d : Nat} (hw : wdA f h I = some d) : tfA f h I = f := by
  unfold wdA at hw
  unfold tfA
  by_cases h8 : h 8 = 0
  · rw [if_pos h8]
  · rw [if_neg h8] at hw ⊢
    have e : byA (nowA h I) = 0 := by
      unfold byA
      by_cases h0 : nowA h I = 0
      · rw [h0]; decide
      · rw [if_neg h0] at hw
        by_cases h1 : nowA h I = 1
        · rw [h1]; decide
        · rw [if_neg h1] at hw; cases hw
    rw [e]; exact Nat.mod_eq_of_lt hO.1
/-- what is asked of a way at the time of following; what comes of the things -/
def goH (t : Th) (c : Nat) (w go : Option Nat) (x3 : Int64) : Prop := match go with
  | none => (∃ d, w = some d) → x3 = 0
  | some r => ∃ d, w = some d ∧ (pth d (r + 1) (bs c d)).length = r + 1 ∧ (∀ i, 1 ≤ i → i ≤ r → tht t (pi d c i) = true) ∧ tht t (pi d c (r + 1)) = false ∧ x3 = sL (fun y => decide (y ∈ c :: pth d (r + 1) (bs c d)))
def goR (c : Nat) (w go : Option Nat) (t t' : Th) : Prop := match go with
  | none => t' = t
  | some r => ∃ d, w = some d ∧ Img (sh d c r) t.1 t'.1 ∧ t'.2.1 = sh d c r t.2.1 ∧ t'.2.2 = sh d c r t.2.2
theorem v_follow_a {vj : Nat → Int64} {vk va vb vpa : Nat → Int32} {K : Nat → Nat} {C : Nat → Bool} {c0 c1 f : Nat} {h I : Nat → Int32} {x3 : Int64} (hV : RV vj vk va vb K C c0 c1) (hA : RA va vpa f h I) (hO : OKr f h I) (hT : TS (C, c0, c1)) (go : Option Nat) (hgo : goH (C, c0, c1) c0 (wdA f h I) go x3) :
    ∃ (vj' : Nat → Int64) (va' vb' : Nat → Int32) (t' : Th), mX6_follow_a vj va vpa vb x3 = (vj', va', vb') ∧ RV vj' vk va' vb' K t'.1 t'.2.1 t'.2.2 ∧ RA va' vpa (tfA f h I) (hfA (wdA f h I) go h) I ∧ (∀ j, 1 ≤ j → vb' j = vb j) ∧ (∀ j, j ≠ 4 → vj' j = vj j) ∧ goR c0 (wdA f h I) go (C, c0, c1) t' := by
  have hprog : ∀ (w go : Option Nat), ∀ j, nI j < hfA w go h 8 → j < 10 → vpa j = I j := fun w go j h1 h2 => hA.2.2 j (by
    unfold hfA at h1
    rw [tpA_8, (hmA_7 w go h).2] at h1
    exact h1) h2
  unfold mX6_follow_a
  rw [v_wanted hA hO]
  cases go with
  | none =>
    cases hw : wdA f h I with
    | none =>
      rw [if_pos (show opI none = (-1 : Int32) from rfl)]
      refine ⟨vj, mX4_comeToNextPlace (mX4_turn va vpa), vb, (C, c0, c1), rfl, ?_, ?_, fun _ _ => rfl, fun _ _ => rfl, rfl⟩
      · refine ⟨hV.1, hV.2.1, ?_, hV.2.2.2⟩
        rw [v_next01 _ (by decide)]
        rcases v_turn hA hO with ⟨e, -⟩ | e
        · rw [e]; exact hV.2.2.1
        · rw [e]; exact hV.2.2.1
      · refine ⟨?_, ?_, hprog none none⟩
        · rw [v_next01 _ (by decide)]
          rcases v_turn hA hO with ⟨e, q⟩ | e
          · rw [e, q]; exact hA.1
          · rw [e]; rfl
        · unfold hfA
          apply v_next
          intro j h2 h9
          rcases v_turn hA hO with ⟨e, q⟩ | e
          · rw [e]; exact hA.2.1 j h2 h9
          · rw [e]
            show upd va 1 _ j = h j
            rw [show upd va 1 (nI (tfA f h I)) j = va j from if_neg (by omega)]
            exact hA.2.1 j h2 h9
    | some d =>
      have hx3 := hgo ⟨d, hw⟩
      have hd := wd_lt hO.1 d hw
      have hne : ∀ d, d < 4 → ¬ nI d = (-1 : Int32) := by decide +kernel
      rw [if_neg (show ¬ opI (some d) = (-1 : Int32) from hne d hd), hx3, if_pos (by decide +kernel)]
      refine ⟨vj, mX4_comeToNextPlace (upd va 4 (va 4 + 1)), vb, (C, c0, c1), rfl, ?_, ?_, fun _ _ => rfl, fun _ _ => rfl, rfl⟩
      · refine ⟨hV.1, hV.2.1, ?_, hV.2.2.2⟩
        rw [v_next01 _ (by decide)]; exact hV.2.2.1
      · refine ⟨?_, ?_, hprog (some d) none⟩
        · rw [v_next01 _ (by decide), tfA_move hO hw]; exact hA.1
        · unfold hfA
          apply v_next
          intro j h2 h9
          show upd va 4 (va 4 + 1) j = upd h 4 (h 4 + 1) j
          by_cases e : j = 4
          · subst e
            show va 4 + 1 = h 4 + 1
            rw [hA.2.1 4 (by decide) (by decide)]
          · rw [show upd va 4 (va 4 + 1) j = va j from if_neg e, show upd h 4 (h 4 + 1) j = h j from if_neg e]
            exact hA.2.1 j h2 h9
  | some r =>
    obtain ⟨d, hw, hl, hT1, hT2, hx3⟩ := hgo
    have hd := wd_lt hO.1 d hw
    have hne : ∀ d, d < 4 → ¬ nI d = (-1 : Int32) := by decide +kernel
    have hc0 := hT.1
    have hc1 : c1 < 36 := hT.2.1
    obtain ⟨hp, hq⟩ := pin_pth (r + 1) c0 hl
    have hC0 : C c0 = false := hT.2.2.2.1
    rw [hw, if_neg (show ¬ opI (some d) = (-1 : Int32) from hne d hd), hx3, if_neg (fun q => by
      rw [sL_zero] at q
      have := q c0 hc0
      simp at this)]
    have erow : mX6_rowOf_a vj va vb (sL (fun y => decide (y ∈ c0 :: pth d (r + 1) (bs c0 d)))) = sL (rowP d c0 r) := by
      unfold mX6_rowOf_a
      rw [v_things hV hc0 hc1, hV.2.2.1, sL_set hc0, sL_and, sL_diff]
      exact sL_cong (fun y _ => way_row hd hc0 hl hT1 hT2 y)
    have ebit : mJ13_bitCount_95d88 (sL (rowP d c0 r)) = nI r := by rw [sL_count, rowP_count hd hc0 hp r (by omega)]
    have enew : ((vj 4 &&& (sL (rowP d c0 r) ^^^ (-1 : Int64))) ||| mX2_allBeside (vj 4 &&& sL (rowP d c0 r)) (nI d)) = sL (crP d c0 r C) := by
      rw [hV.2.1, sL_diff, sL_and, sL_all hd (fun x hx hxr => by
        rw [Bool.and_eq_true] at hxr
        obtain ⟨i, hi, rfl⟩ := rowP_iff.mp hxr.2
        exact ⟨_, hp (i + 1) (by omega)⟩), sL_or]
      rfl
    have ebes : mX2_beside (va 0) (nI d) = nI (sh d c0 r c0) := by
      rw [hV.2.2.1, pu_beside c0 hc0 d hd, show bs c0 d = some (pi d c0 1) from hp 0 (by omega)]
      show nI (pi d c0 1) = nI (sh d c0 r c0)
      rw [show sh d c0 r c0 = pi d c0 1 from sh_at hd hc0 hp r (by omega) 0 (by omega)]
    rw [opI_some, erow, ebes, ebit]
    have hvb : ∃ vb', (if mX2_holds (sL (rowP d c0 r)) (vb 0) = 0 then vb else upd vb 0 (mX2_beside (vb 0) (nI d))) = vb' ∧ vb' 0 = nI (sh d c0 r c1) ∧ ∀ j, 1 ≤ j → vb' j = vb j := by
      rw [hV.2.2.2]
      by_cases hrw : rowP d c0 r c1 = true
      · rw [if_neg (fun q => by rw [sL_holds0 hc1, hrw] at q; cases q)]
        refine ⟨_, rfl, ?_, fun j hj => if_neg (by omega)⟩
        obtain ⟨i, hi, e⟩ := rowP_iff.mp hrw
        show mX2_beside (nI c1) (nI d) = _
        rw [pu_beside c1 hc1 d hd, e, show bs (pi d c0 (i + 1)) d = some (pi d c0 (i + 2)) from hp (i + 1) (by omega), show sh d c0 r (pi d c0 (i + 1)) = pi d c0 (i + 2) from sh_at hd hc0 hp r (by omega) (i + 1) (by omega)]
        rfl
      · rw [if_pos ((sL_holds0 hc1).mpr (by simpa using hrw))]
        refine ⟨vb, rfl, ?_, fun _ _ => rfl⟩
        rw [hV.2.2.2]
        congr 1
        symm
        apply sh_off
        intro j hj q
        cases j with
        | zero => exact hT.2.2.1 q.symm
        | succ j => exact hrw (rowP_iff.mpr ⟨j, by omega, q⟩)
    obtain ⟨vb', e1, e2, e3⟩ := hvb
    have epush : mX6_pushRow_b vj vb (sL (rowP d c0 r)) (nI d) = (vp_updL vj 4 (sL (crP d c0 r C)), vb') := by
      unfold mX6_pushRow_b
      rw [enew, ← e1]
      split <;> rfl
    rw [epush]
    refine ⟨_, _, vb', (crP d c0 r C, sh d c0 r c0, sh d c0 r c1), rfl, ⟨hV.1, rfl, ?_, e2⟩, ⟨?_, ?_, hprog (some d) (some r)⟩, e3, fun j hj => if_neg hj, ⟨d, rfl, crP_img hd hc0 hp hC0, rfl, rfl⟩⟩
    · rw [v_next01 _ (by decide)]; rfl
    · rw [v_next01 _ (by decide), tfA_move hO hw]; exact hA.1
    · unfold hfA
      apply v_next
      intro j h2 h9
      show upd (upd (upd va 0 (nI (sh d c0 r c0))) 3 (va 3 + 1)) 5 (va 5 + nI r) j = upd (upd h 3 (h 3 + 1)) 5 (h 5 + nI r) j
      by_cases e5 : j = 5
      · subst e5
        show va 5 + nI r = h 5 + nI r
        rw [hA.2.1 5 (by decide) (by decide)]
      · rw [show upd (upd (upd va 0 (nI (sh d c0 r c0))) 3 (va 3 + 1)) 5 (va 5 + nI r) j = upd (upd va 0 (nI (sh d c0 r c0))) 3 (va 3 + 1) j from if_neg e5, show upd (upd h 3 (h 3 + 1)) 5 (h 5 + nI r) j = upd h 3 (h 3 + 1) j from if_neg e5]
        by_cases e3' : j = 3
        · subst e3'
          show va 3 + 1 = h 3 + 1
          rw [hA.2.1 3 (by decide) (by decide)]
        · rw [show upd (upd va 0 (nI (sh d c0 r c0))) 3 (va 3 + 1) j = upd va 0 (nI (sh d c0 r c0)) j from if_neg e3', show upd va 0 (nI (sh d c0 r c0)) j = va j from if_neg (by omega), show upd h 3 (h 3 + 1) j = h j from if_neg e3']
          exact hA.2.1 j h2 h9
