/-! The class: both robots follow -/
def swp (t : Th) : Th := (t.1, t.2.2, t.2.1)
theorem tht_swp (t : Th) (x : Nat) : tht (swp t) x = tht t x := by
  rw [Bool.eq_iff_iff, tht_iff, tht_iff]
  show (t.1 x = true ∨ x = t.2.2 ∨ x = t.2.1) ↔ _
  constructor
  · rintro (q | q | q)
    · exact Or.inl q
    · exact Or.inr (Or.inr q)
    · exact Or.inr (Or.inl q)
  · rintro (q | q | q)
    · exact Or.inl q
    · exact Or.inr (Or.inr q)
    · exact Or.inr (Or.inl q)
theorem goR_swp {c : Nat} {w go : Option Nat} {t t' : Th} (h : goR c w go (swp t) t') : goR c w go t (swp t') := by
  cases go with
  | none =>
    have h : t' = swp t := h
    subst h; rfl
  | some r =>
    obtain ⟨d, e, h1, h2, h3⟩ := h
    exact ⟨d, e, h1, h3, h2⟩
theorem TS_swp {t : Th} (h : TS t) : TS (swp t) := ⟨h.2.1, h.1, fun q => h.2.2.1 q.symm, h.2.2.2.2, h.2.2.2.1⟩
/-- a push leaves one thing at most on a cell -/
theorem goR_TS {K : Nat → Nat} {t t' : Th} {c : Nat} {w go : Option Nat} (hT : TS t) (hd : ∀ d, w = some d → d < 4) (hc : tht t c = true) (hc36 : c < 36)
    (hgo : ∀ r, go = some r → ∃ d, w = some d ∧ (pth d (r + 1) (bs c d)).length = r + 1 ∧ (∀ i, 1 ≤ i → i ≤ r → tht t (pi d c i) = true) ∧ tht t (pi d c (r + 1)) = false) (h : goR c w go t t') : TS t' := by
  cases go with
  | none =>
    have h : t' = t := h
    subst h; exact hT
  | some r =>
    obtain ⟨d, e, h1, h2, h3⟩ := h
    obtain ⟨d', e', hl, hT1, hT2⟩ := hgo r rfl
    have : d' = d := by rw [e'] at e; exact Option.some.inj e
    subst this
    have hd4 := hd d' e'
    obtain ⟨hp, -⟩ := pin_pth (r + 1) c hl
    obtain ⟨c1, c2, c3, c4⟩ := psh_char hd4 hc36 hp r t (Nat.le_refl _) hT (fun j hj => by
      cases j with
      | zero => exact hc
      | succ j => exact hT1 (j + 1) (by omega) hj) hT2
    have hC := Img.one h1 c1
    refine ⟨by rw [h2, ← c2]; exact c4.1, by rw [h3, ← c3]; exact c4.2.1, by rw [h2, h3, ← c2, ← c3]; exact c4.2.2.1, ?_, ?_⟩
    · rw [h2, ← c2, hC _ c4.1]; exact c4.2.2.2.1
    · rw [h3, ← c3, hC _ c4.2.1]; exact c4.2.2.2.2
/-- what makeOne does behind both robots' instructions -/
def v_rest (vi : Nat → Int32) (vj_11 : Nat → Int64) (vk vc va_12 vb_13 : Nat → Int32) : Option (Int32 × (Nat → Int32) × (Nat → Int64) × (Nat → Int32) × (Nat → Int32)) := (bo1 (mX6_carriedThings vj_11 vk va_12 vb_13) (fun r_15 => (bo3 (mX6_carryAll vj_11 vk va_12 vb_13 r_15) (fun vj_17 va_18 vb_19 => (bt2 (mX6_loseCrates vi vj_17) (fun vi_21 vj_22 => (bo1 (mX6_letFall_a vj_22 vk va_18 vb_19) (fun va_24 => (bo1 (mX6_letFall_b vj_22 vk va_24 vb_19) (fun vb_26 => (bo2 (mX6_passCheckpoint_a (upd vi_21 11 ((vi_21 11) + (1 : Int32))) vc va_24) (fun r_29 va_30 => (bo2 (mX6_passCheckpoint_b (upd vi_21 11 ((vi_21 11) + (1 : Int32))) vc vb_26) (fun r_32 vb_33 => (some ((r_29 + r_32), (upd vi_21 11 ((vi_21 11) + (1 : Int32))), vj_22, va_30, vb_33))))))))))))))))
theorem v_J66 (vi : Nat → Int32) (vj : Nat → Int64) (vk vc va vpa vb vpb : Nat → Int32) (x : Int64) : mX6_makeOne_J66 vi vj vk vc va vpa vb vpb x = v_rest vi (mX6_follow_b vj va vb vpb x).1 vk vc (mX6_follow_b vj va vb vpb x).2.1 (mX6_follow_b vj va vb vpb x).2.2 := rfl
theorem bt3_mk {α β γ δ : Type} (a : α) (b : β) (c : γ) (f : α → β → γ → δ) : bt3 (a, b, c) f = f a b c := rfl
theorem ne10 : ¬ (1 : Int32) = 0 := by decide
theorem v_J44 {vi : Nat → Int32} {vj : Nat → Int64} {vk vc va vpa vb vpb : Nat → Int32} {l3 x : Int64} {l5 : Int32} {vj1 : Nat → Int64} {va1 vb1 : Nat → Int32} (h : mX6_follow_a vj va vpa vb x = (vj1, va1, vb1)) : mX6_makeOne_J44 vi vj vk vc va vpa vb vpb l3 l5 x = (if l5 = 0 then mX6_makeOne_J66 vi vj1 vk vc va1 vpa vb1 vpb l3 else mX6_makeOne_J66 vi vj1 vk vc va1 vpa vb1 vpb 0) := by
  unfold mX6_makeOne_J44
  rw [h, bt3_mk]
theorem v_both {vi : Nat → Int32} {vj : Nat → Int64} {vk vc va vb vpa vpb : Nat → Int32} {K : Nat → Nat} {t : Th} {f0 f1 : Nat} {h0 I0 h1 I1 : Nat → Int32} (hV : RV vj vk va vb K t.1 t.2.1 t.2.2) (hk : RK K t.1 t.2.1 t.2.2) (hA0 : RA va vpa f0 h0 I0) (hO0 : OKr f0 h0 I0) (hA1 : RA vb vpb f1 h1 I1) (hO1 : OKr f1 h1 I1) :
    ∃ vj' va' vb' t1 t', mX6_makeOne vi vj vk vc va vpa vb vpb = v_rest vi vj' vk vc va' vb' ∧
      goR t.2.1 (wdA f0 h0 I0) (goA K t (wdA f0 h0 I0) (wdA f1 h1 I1) t.2.1 (wdA f0 h0 I0)) t t1 ∧
      goR t.2.2 (wdA f1 h1 I1) (goA K t (wdA f0 h0 I0) (wdA f1 h1 I1) t.2.2 (wdA f1 h1 I1)) t1 t' ∧ RV vj' vk va' vb' K t'.1 t'.2.1 t'.2.2 ∧
      RA va' vpa (tfA f0 h0 I0) (hfA (wdA f0 h0 I0) (goA K t (wdA f0 h0 I0) (wdA f1 h1 I1) t.2.1 (wdA f0 h0 I0)) h0) I0 ∧
      RA vb' vpb (tfA f1 h1 I1) (hfA (wdA f1 h1 I1) (goA K t (wdA f0 h0 I0) (wdA f1 h1 I1) t.2.2 (wdA f1 h1 I1)) h1) I1 ∧ (∀ j, j ≠ 4 → vj' j = vj j) := by
  have hw0 := wd_lt (f := f0) (h := h0) (I := I0) hO0.1
  have hw1 := wd_lt (f := f1) (h := h1) (I := I1) hO1.1
  have ea := v_wayOf_a hV hk hA0 hO0
  have eb := v_wayOf_b hV hk hA1 hO1
  have ec := v_clB hk hw0 hw1
  have hT := TS_of hk
  generalize hW0 : wdA f0 h0 I0 = w0 at *
  generalize hW1 : wdA f1 h1 I1 = w1 at *
  -- the ways that are gone
  have g0 : goH t t.2.1 w0 (goA K t w0 w1 t.2.1 w0) (if clB K t w0 w1 then 0 else wayL K t t.2.1 w0) := by
    cases hg : goA K t w0 w1 t.2.1 w0 with
    | none =>
      intro _
      rcases goA_none hg with q | q
      · rw [if_pos q]
      · rw [wayL_none q]; split <;> rfl
    | some r =>
      obtain ⟨q1, q2⟩ := goA_some hg
      obtain ⟨d, z1, z2, z3, z4, z5⟩ := roA_some q2
      subst z1
      exact ⟨d, rfl, z2, z4, z5, by rw [q1, wayL_some q2]; rfl⟩
  obtain ⟨vj1, va1, vb1, t1, k1, k2, k3, k4, k5, k6⟩ := v_follow_a hV hA0 hO0 hT (goA K t w0 w1 t.2.1 w0) (by rw [hW0]; exact g0)
  rw [hW0] at k3 k6
  have hT1 : TS t1 := goR_TS (K := K) hT hw0 (tht_iff.mpr (Or.inr (Or.inl rfl))) hk.2.1 (fun r hr => by
    obtain ⟨d, z1, z2, z3, z4, z5⟩ := roA_some (goA_some hr).2
    exact ⟨d, z1, z2, z4, z5⟩) k6
  have hA1' : RA vb1 vpb f1 h1 I1 := ⟨(k4 1 (by decide)).trans hA1.1, fun j h2 h9 => (k4 j (by omega)).trans (hA1.2.1 j h2 h9), hA1.2.2⟩
  have hV1 : RV vj1 vk vb1 va1 K t1.1 t1.2.2 t1.2.1 := ⟨k2.1, k2.2.1, k2.2.2.2, k2.2.2.1⟩
  have g1 : goH (t1.1, t1.2.2, t1.2.1) t1.2.2 w1 (goA K t w0 w1 t.2.2 w1) (if clB K t w0 w1 then 0 else wayL K t t.2.2 w1) := by
    cases hg : goA K t w0 w1 t.2.2 w1 with
    | none =>
      intro _
      rcases goA_none hg with q | q
      · rw [if_pos q]
      · rw [wayL_none q]; split <;> rfl
    | some r =>
      obtain ⟨q1, q2⟩ := goA_some hg
      obtain ⟨y1, d, z1, z2, z4, z5⟩ := second_way hk hw0 hw1 k6 hg
      subst z1
      rw [y1]
      refine ⟨d, rfl, z2, fun i h1 h2 => ?_, ?_, by rw [q1, wayL_some q2]; rfl⟩
      · have := tht_swp t1 (pi d t.2.2 i)
        unfold swp at this
        rw [y1] at this
        rw [this]; exact z4 i h1 h2
      · have := tht_swp t1 (pi d t.2.2 (r + 1))
        unfold swp at this
        rw [y1] at this
        rw [this]; exact z5
  obtain ⟨vj2, vb2, va2, t2, m1, m2, m3, m4, m5, m6⟩ := v_follow_a hV1 hA1' hO1 (TS_swp hT1) (goA K t w0 w1 t.2.2 w1) (by rw [hW1]; exact g1)
  rw [hW1] at m3 m6
  refine ⟨vj2, va2, vb2, t1, swp t2, ?_, k6, ?_, ⟨m2.1, m2.2.1, m2.2.2.2, m2.2.2.1⟩, ⟨(m4 1 (by decide)).trans k3.1, fun j h2 h9 => (m4 j (by omega)).trans (k3.2.1 j h2 h9), k3.2.2⟩, m3, fun j hj => (m5 j hj).trans (k5 j hj)⟩
  · unfold mX6_makeOne
    rw [ea, bo1_some, eb, bo1_some, ec]
    by_cases q : clB K t w0 w1 = true
    · rw [if_pos q, if_neg ne10]
      rw [if_pos q] at k1 m1
      rw [v_J44 k1, if_neg ne10, v_J66, v_follow_swap, m1]
    · rw [if_neg q, if_pos rfl]
      rw [if_neg q] at k1 m1
      rw [v_J44 k1, if_pos rfl, v_J66, v_follow_swap, m1]
  · have := goR_swp (t := t1) m6
    cases hg : goA K t w0 w1 t.2.2 w1 with
    | none => rw [hg] at this; exact this
    | some r =>
      rw [hg] at this
      obtain ⟨y1, -⟩ := second_way hk hw0 hw1 k6 hg
      rw [y1] at this
      exact this
