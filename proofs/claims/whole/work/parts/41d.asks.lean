/-! The state that both sides share between two calls; what only asks -/
theorem lg_lt0 {x y : Int64} : lg_cmp x y < 0 ↔ x < y := by
  have h := lg_cmp_ge x y
  rw [← Int32.not_le, h, Int64.not_le]
theorem lg_gt0 {x y : Int64} : 0 < lg_cmp x y ↔ y < x := by
  unfold lg_cmp
  by_cases h : x > y
  · rw [if_pos h]
    exact ⟨fun _ => h, fun _ => by decide⟩
  · rw [if_neg h]
    refine ⟨fun q => ?_, fun q => absurd q h⟩
    exfalso
    split at q
    · exact absurd q (by decide)
    · exact absurd q (by decide)
theorem i64_lt {a b : Int32} : a.toInt64 < b.toInt64 ↔ a < b := by
  rw [Int64.lt_iff_toInt_lt, Int32.lt_iff_toInt_lt, Int32.toInt_toInt64, Int32.toInt_toInt64]
theorem g_in (x a b : Int32) : mX9_in x.toInt64 a.toInt64 b.toInt64 = if a ≤ x ∧ x ≤ b then 1 else 0 := by
  unfold mX9_in
  by_cases h1 : x < a
  · rw [if_pos (lg_lt0.mpr (i64_lt.mpr h1)), if_neg (fun q => Int32.not_le.mpr h1 q.1)]
  · rw [if_neg (fun q => h1 (i64_lt.mp (lg_lt0.mp q)))]
    by_cases h2 : b < x
    · rw [if_pos (lg_gt0.mpr (i64_lt.mpr h2)), if_neg (fun q => Int32.not_le.mpr h2 q.2)]
    · rw [if_neg (fun q => h2 (i64_lt.mp (lg_gt0.mp q))), if_pos ⟨Int32.not_lt.mp h1, Int32.not_lt.mp h2⟩]
/-- within 0 .. N - 1, or not -/
theorem rng_or (N : Nat) (hN : 0 < N) (hN2 : N < 2 ^ 31) (x : Int32) : (∃ c, c < N ∧ x = nI c) ∨ ¬ ((0 : Int32) ≤ x ∧ x ≤ nI (N - 1)) := by
  by_cases h : x < 0
  · exact Or.inr (fun q => Int32.not_le.mpr h q.1)
  · obtain ⟨c, hc, rfl⟩ := nI_of h
    by_cases q : c < N
    · exact Or.inl ⟨c, q, rfl⟩
    · exact Or.inr (fun z => q (by have := (pu_le hc (by omega)).mp z.2; omega))
theorem rng_in {N c : Nat} (hN2 : N < 2 ^ 31) (hc : c < N) : (0 : Int32) ≤ nI c ∧ nI c ≤ nI (N - 1) := ⟨nI_pos' (by omega), (pu_le (by omega) (by omega)).mpr (by omega)⟩
theorem rng_out {N : Nat} {x : Int32} (hN : 0 < N) (hN2 : N < 2 ^ 31) (h : ¬ ((0 : Int32) ≤ x ∧ x ≤ nI (N - 1))) : x < 0 ∨ (¬ x < 0 ∧ nI N ≤ x) := by
  by_cases h0 : x < 0
  · exact Or.inl h0
  · obtain ⟨c, hc, rfl⟩ := nI_of h0
    refine Or.inr ⟨h0, (pu_le hN2 hc).mpr (Classical.byContradiction fun q => h (rng_in hN2 (by omega)))⟩
theorem g_in0 {N c : Nat} (hN2 : N < 2 ^ 31) (hc : c < N) : mX9_in (nI c).toInt64 (0 : Int64) (lN (N - 1)) = 1 := by
  rw [← nI_l (show N - 1 < 2 ^ 31 by omega), show (0 : Int64) = (0 : Int32).toInt64 from by decide, g_in, if_pos (rng_in hN2 hc)]
theorem g_inN {N : Nat} {x : Int32} (hN2 : N < 2 ^ 31) (h : ¬ ((0 : Int32) ≤ x ∧ x ≤ nI (N - 1))) : mX9_in x.toInt64 (0 : Int64) (lN (N - 1)) = 0 := by
  rw [← nI_l (show N - 1 < 2 ^ 31 by omega), show (0 : Int64) = (0 : Int32).toInt64 from by decide, g_in, if_neg h]
theorem nI_ltN {a b : Nat} (ha : a < 2 ^ 31) (hb : b < 2 ^ 31) (h : a < b) : nI a < nI b := (pu_lt ha hb).mpr h
-- cells
theorem v_cell_in {c : Nat} (hc : c < 36) : mX8_checkCell (nI c) = Sum.inl () := by
  unfold mX8_checkCell
  rw [if_neg (pu_neg (by omega)), if_pos (show nI c < (36 : Int32) from nI_ltN (b := 36) (by omega) (by decide) hc)]
theorem v_cell_out {x : Int32} (h : ¬ ((0 : Int32) ≤ x ∧ x ≤ nI 35)) : mX8_checkCell x = Sum.inr "java/lang/IndexOutOfBoundsException" := by
  unfold mX8_checkCell
  rcases rng_out (N := 36) (by decide) (by decide) h with q | ⟨q, q2⟩
  · rw [if_pos q]
  · rw [if_neg q, if_neg (show ¬ x < (36 : Int32) from Int32.not_lt.mpr q2)]
theorem g_cell_in {c : Nat} (hc : c < 36) : mX9_isCell (nI c) = 1 := g_in0 (N := 36) (by decide) hc
theorem g_cell_out {x : Int32} (h : ¬ ((0 : Int32) ≤ x ∧ x ≤ nI 35)) : mX9_isCell x = 0 := g_inN (N := 36) (by decide) h
theorem v_rob_in {c : Nat} (hc : c < 2) : mX8_checkRobot (nI c) = Sum.inl () := by
  unfold mX8_checkRobot
  rw [if_neg (pu_neg (by omega)), if_pos (show nI c < (2 : Int32) from nI_ltN (b := 2) (by omega) (by decide) hc)]
theorem v_rob_out {x : Int32} (h : ¬ ((0 : Int32) ≤ x ∧ x ≤ nI 1)) : mX8_checkRobot x = Sum.inr "java/lang/IndexOutOfBoundsException" := by
  unfold mX8_checkRobot
  rcases rng_out (N := 2) (by decide) (by decide) h with q | ⟨q, q2⟩
  · rw [if_pos q]
  · rw [if_neg q, if_neg (show ¬ x < (2 : Int32) from Int32.not_lt.mpr q2)]
theorem g_rob_in {c : Nat} (hc : c < 2) : mX9_isRobot (nI c) = 1 := g_in0 (N := 2) (by decide) hc
theorem g_rob_out {x : Int32} (h : ¬ ((0 : Int32) ≤ x ∧ x ≤ nI 1)) : mX9_isRobot x = 0 := g_inN (N := 2) (by decide) h
theorem g_noCell_in {c : Nat} (hc : c < 36) (mi : Nat → Int32) : mX9_noCell mi (nI c) = some (0, upd mi 0 0) := by
  unfold mX9_noCell
  rw [g_cell_in hc]; rfl
theorem g_noCell_out {x : Int32} (h : ¬ ((0 : Int32) ≤ x ∧ x ≤ nI 35)) (mi : Nat → Int32) : mX9_noCell mi x = some (1, upd mi 0 1) := by
  unfold mX9_noCell
  rw [g_cell_out h]; rfl
theorem g_noRob_in {c : Nat} (hc : c < 2) (mi : Nat → Int32) : mX9_noRobot mi (nI c) = some (0, upd mi 0 0) := by
  unfold mX9_noRobot
  rw [g_rob_in hc]; rfl
theorem g_noRob_out {x : Int32} (h : ¬ ((0 : Int32) ≤ x ∧ x ≤ nI 1)) (mi : Nat → Int32) : mX9_noRobot mi x = some (1, upd mi 0 1) := by
  unfold mX9_noRobot
  rw [g_rob_out h]; rfl
/-- the text on both sides -/
def TXT (ti sg : Nat → Int32) (size : Int32) (vtt : Nat → Int32) : Prop := ∃ n, n ≤ 120 ∧ ti 1 = nI n ∧ size = nI n ∧ ∀ k, k < n → sg k = vtt k ∧ ∃ c, c < 256 ∧ vtt k = nI c
/-- the remembered states on both sides -/
def HST (vh : Nat → Int32) (vhs : Nat → Option Nat) (acts : Int32) (vdi : Nat → Int32) (hi : Nat → Nat → Nat → Int32) (hj : Nat → Nat → Int64) (ha : Nat → Nat → Nat) : Prop :=
  ∃ nx ct : Nat, nx < 14 ∧ ct ≤ 14 ∧ vh 1 = nI nx ∧ vh 2 = nI ct ∧ acts = nI ct ∧ (∀ k, k < 14 → vhs k = some (ha k 0)) ∧
    ∀ i, i < ct → FL (hi ((nx + 14 - ct + i) % 14) 0) (hj ((nx + 14 - ct + i) % 14)) (hi ((nx + 14 - ct + i) % 14) 1) (hi ((nx + 14 - ct + i) % 14) 2) (hi ((nx + 14 - ct + i) % 14) 3) (hi ((nx + 14 - ct + i) % 14) 4) (hi ((nx + 14 - ct + i) % 14) 5) (hi ((nx + 14 - ct + i) % 14) 6) (fun k => vdi (117 * i + k))
/-- a slot on both sides -/
def SLT (used kept : Int32) (vi : Nat → Int32) (vj : Nat → Int64) (vk vc va vpa vb vpb s : Nat → Int32) : Prop := used = kept ∧ (kept = 0 ∨ kept = 1) ∧ (kept = 1 → FL vi vj vk vc va vpa vb vpb s)
def PRx (σ : LSt) : Prop :=
  FL (σ.1 2) (σ.2.1 0) (σ.1 3) (σ.1 4) (σ.1 5) (σ.1 6) (σ.1 7) (σ.1 8) (σ.1 37) ∧ TXT (σ.1 0) (σ.1 1) (σ.1 35 2) (σ.1 36) ∧ HST (σ.1 16) σ.2.2.1 (σ.1 35 7) (σ.1 40) σ.2.2.2.1 σ.2.2.2.2.1 σ.2.2.2.2.2 ∧
  SLT (σ.1 17 1) (σ.1 42 0) (σ.1 18) (σ.2.1 2) (σ.1 19) (σ.1 20) (σ.1 21) (σ.1 22) (σ.1 23) (σ.1 24) (σ.1 41) ∧ SLT (σ.1 25 1) (σ.1 42 1) (σ.1 26) (σ.2.1 3) (σ.1 27) (σ.1 28) (σ.1 29) (σ.1 30) (σ.1 31) (σ.1 32) (fun k => σ.1 41 (117 + k))
theorem PRx_mi {σ : LSt} (hP : PRx σ) {mi' : Nat → Int32} (h2 : mi' 2 = σ.1 35 2) (h7 : mi' 7 = σ.1 35 7) : PRx ((setI σ.1 35 mi'), σ.2.1, σ.2.2.1, σ.2.2.2.1, σ.2.2.2.2.1, σ.2.2.2.2.2) := by
  obtain ⟨p1, p2, p3, p4, p5⟩ := hP
  rw [← h2] at p2
  rw [← h7] at p3
  exact ⟨p1, p2, p3, p4, p5⟩
theorem PRx_mo {σ : LSt} (hP : PRx σ) {mi' : Nat → Int32} {vou' : Nat → Int64} (h2 : mi' 2 = σ.1 35 2) (h7 : mi' 7 = σ.1 35 7) : PRx ((setI σ.1 35 mi'), (setL σ.2.1 6 vou'), σ.2.2.1, σ.2.2.2.1, σ.2.2.2.2.1, σ.2.2.2.2.2) := by
  obtain ⟨p1, p2, p3, p4, p5⟩ := hP
  rw [← h2] at p2
  rw [← h7] at p3
  exact ⟨p1, p2, p3, p4, p5⟩
/-- an answer that both sides give alike -/
def QA (a : Option (Int32 × (Nat → Int64))) (b : Option (Int32 × (Nat → Int32))) (vou : Nat → Int64) (mi : Nat → Int32) : Prop :=
  (∃ v : Int32, a = some (0, vp_updL vou 0 v.toInt64) ∧ b = some (v, upd mi 0 0)) ∨ ∃ k w : Int32, k ≠ 0 ∧ a = some (k, vou) ∧ b = some (w, upd mi 0 k)
def qL (a : Option (Int32 × (Nat → Int64))) (b : Option (Int32 × (Nat → Int32))) : Option ((Nat → Int64) × (Nat → Int32)) := bo2 a (fun r_1 vou_2 => (bo2 b (fun r_4 mi_5 => (if (mX9_thrown mi_5) = r_1 then (if r_1 = 0 then (if (lg_cmp (vou_2 (0 : Int32).toNatClampNeg) (r_4.toInt64)) = 0 then (some (vou_2, mi_5)) else none) else (some (vou_2, mi_5))) else none))))
theorem qa_pl {σ : LSt} (hP : PRx σ) {L : Option ((Nat → Int64) × (Nat → Int32))} {a : Option (Int32 × (Nat → Int64))} {b : Option (Int32 × (Nat → Int32))} (e : L = qL a b) (h : QA a b (σ.2.1 6) (σ.1 35)) :
    ∃ vou_z mi_z, L = some (vou_z, mi_z) ∧ PRx ((setI σ.1 35 mi_z), (setL σ.2.1 6 vou_z), σ.2.2.1, σ.2.2.2.1, σ.2.2.2.2.1, σ.2.2.2.2.2) := by
  rcases h with ⟨v, e1, e2⟩ | ⟨k, w, hk, e1, e2⟩
  · refine ⟨vp_updL (σ.2.1 6) 0 v.toInt64, upd (σ.1 35) 0 0, ?_, PRx_mo hP rfl rfl⟩
    rw [e, e1, e2]
    unfold qL
    rw [bo2_some, bo2_some]
    show (if (0 : Int32) = 0 then (if (0 : Int32) = 0 then (if lg_cmp v.toInt64 v.toInt64 = 0 then _ else _) else _) else _) = _
    rw [if_pos rfl, if_pos rfl, if_pos (lg_eq.mpr rfl)]
  · refine ⟨σ.2.1 6, upd (σ.1 35) 0 k, ?_, PRx_mo hP rfl rfl⟩
    rw [e, e1, e2]
    unfold qL
    rw [bo2_some, bo2_some]
    show (if k = k then (if k = 0 then _ else _) else _) = _
    rw [if_pos rfl, if_neg hk]
theorem bh1_l {α β : Type} (q : α) (f : α → Option β) (h : String → Option β) : bh1 (.inl q) f h = f q := rfl
theorem bh1_r {α β : Type} (E : String) (f : α → Option β) (h : String → Option β) : bh1 (.inr E) f h = h E := rfl
theorem tx1_l {α β : Type} (q : α) (f : α → β ⊕ String) : tx1 (.inl q) f = f q := rfl
theorem tx1_r {α β : Type} (E : String) (f : α → β ⊕ String) : tx1 (.inr E) f = .inr E := rfl
theorem FL_rob {vi : Nat → Int32} {vj : Nat → Int64} {vk vc va vpa vb vpb s : Nat → Int32} (h : FL vi vj vk vc va vpa vb vpb s) : (∀ k, k < 9 → s (72 + 9 * 0 + k) = va k) ∧ ∀ k, k < 9 → s (72 + 9 * 1 + k) = vb k := by
  obtain ⟨K, t, f0, f1, m, hV, hS, hk, hB0, hB1, -⟩ := h
  refine ⟨fun k hk9 => ?_, fun k hk9 => ?_⟩
  · by_cases h0 : k = 0
    · subst h0; exact hS.2.1.trans hV.2.2.1.symm
    · by_cases h1 : k = 1
      · subst h1; exact hB0.2.1.1.trans hB0.1.symm
      · exact hB0.2.1.2.1 k (by omega) hk9
  · by_cases h0 : k = 0
    · subst h0; exact hS.2.2.trans hV.2.2.2.symm
    · by_cases h1 : k = 1
      · subst h1; exact hB1.2.1.1.trans hB1.1.symm
      · exact hB1.2.1.2.1 k (by omega) hk9
theorem g_ofRobot {r k : Nat} (hr : r < 2) (hk : k < 9) (mi s : Nat → Int32) : mX9_ofRobot mi s (nI r) (nI k) = some (s (72 + 9 * r + k), upd mi 0 0) := by
  unfold mX9_ofRobot
  rw [g_noRob_in hr, bo2_some, if_pos rfl, g_of s hr hk, bo1_some]
theorem g_ofRobotN {x : Int32} (h : ¬ ((0 : Int32) ≤ x ∧ x ≤ nI 1)) (k : Int32) (mi s : Nat → Int32) : mX9_ofRobot mi s x k = some (0, upd mi 0 1) := by
  unfold mX9_ofRobot
  rw [g_noRob_out h, bo2_some, if_neg (by decide)]
theorem pq_cellOf : pl_cellOf PRx := by
  intro σ xs i hP
  refine qa_pl hP (show mLaw_cellOf _ _ _ _ _ xs i = _ from rfl) ?_
  obtain ⟨g0, g1⟩ := FL_rob hP.1
  generalize xs (i + (1 : Int32)).toNatClampNeg = x
  unfold mL_cellOf mX8_cellOf mX9_cellOf
  rcases rng_or 2 (by decide) (by decide) x with ⟨r, hr, rfl⟩ | hx
  · rw [v_rob_in hr, tx1_l]
    refine Or.inl ?_
    rcases (show r = 0 ∨ r = 1 by omega) with rfl | rfl
    · exact ⟨σ.1 5 0, rfl, by rw [show (0 : Int32) = nI 0 from rfl, g_ofRobot (by decide) (by decide), bo2_some, g0 0 (by decide)]; rfl⟩
    · exact ⟨σ.1 7 0, rfl, by rw [show (0 : Int32) = nI 0 from rfl, g_ofRobot (by decide) (by decide), bo2_some, g1 0 (by decide)]; rfl⟩
  · rw [v_rob_out hx, tx1_r, bh1_r, if_pos rfl, g_ofRobotN hx]
    exact Or.inr ⟨1, 0, by decide, rfl, rfl⟩
theorem pq_facingOf : pl_facingOf PRx := by
  intro σ xs i hP
  refine qa_pl hP (show mLaw_facingOf _ _ _ _ _ xs i = _ from rfl) ?_
  obtain ⟨g0, g1⟩ := FL_rob hP.1
  generalize xs (i + (1 : Int32)).toNatClampNeg = x
  unfold mL_facingOf mX8_facingOf mX9_facingOf
  rcases rng_or 2 (by decide) (by decide) x with ⟨r, hr, rfl⟩ | hx
  · rw [v_rob_in hr, tx1_l]
    refine Or.inl ?_
    rcases (show r = 0 ∨ r = 1 by omega) with rfl | rfl
    · exact ⟨σ.1 5 1, rfl, by rw [show (1 : Int32) = nI 1 from rfl, g_ofRobot (by decide) (by decide), bo2_some, g0 1 (by decide)]⟩
    · exact ⟨σ.1 7 1, rfl, by rw [show (1 : Int32) = nI 1 from rfl, g_ofRobot (by decide) (by decide), bo2_some, g1 1 (by decide)]⟩
  · rw [v_rob_out hx, tx1_r, bh1_r, if_pos rfl, g_ofRobotN hx]
    exact Or.inr ⟨1, 0, by decide, rfl, rfl⟩
theorem pq_nextOf : pl_nextOf PRx := by
  intro σ xs i hP
  refine qa_pl hP (show mLaw_nextOf _ _ _ _ _ xs i = _ from rfl) ?_
  obtain ⟨g0, g1⟩ := FL_rob hP.1
  generalize xs (i + (1 : Int32)).toNatClampNeg = x
  unfold mL_nextOf mX8_nextOf mX9_nextOf
  rcases rng_or 2 (by decide) (by decide) x with ⟨r, hr, rfl⟩ | hx
  · rw [v_rob_in hr, tx1_l]
    refine Or.inl ?_
    rcases (show r = 0 ∨ r = 1 by omega) with rfl | rfl
    · exact ⟨σ.1 5 2, rfl, by rw [show (2 : Int32) = nI 2 from rfl, g_ofRobot (by decide) (by decide), bo2_some, g0 2 (by decide)]⟩
    · exact ⟨σ.1 7 2, rfl, by rw [show (2 : Int32) = nI 2 from rfl, g_ofRobot (by decide) (by decide), bo2_some, g1 2 (by decide)]⟩
  · rw [v_rob_out hx, tx1_r, bh1_r, if_pos rfl, g_ofRobotN hx]
    exact Or.inr ⟨1, 0, by decide, rfl, rfl⟩
theorem pq_movesOf : pl_movesOf PRx := by
  intro σ xs i hP
  refine qa_pl hP (show mLaw_movesOf _ _ _ _ _ xs i = _ from rfl) ?_
  obtain ⟨g0, g1⟩ := FL_rob hP.1
  generalize xs (i + (1 : Int32)).toNatClampNeg = x
  unfold mL_movesOf mX8_movesOf mX9_movesOf
  rcases rng_or 2 (by decide) (by decide) x with ⟨r, hr, rfl⟩ | hx
  · rw [v_rob_in hr, tx1_l]
    refine Or.inl ?_
    rcases (show r = 0 ∨ r = 1 by omega) with rfl | rfl
    · exact ⟨σ.1 5 3, rfl, by rw [show (3 : Int32) = nI 3 from rfl, g_ofRobot (by decide) (by decide), bo2_some, g0 3 (by decide)]⟩
    · exact ⟨σ.1 7 3, rfl, by rw [show (3 : Int32) = nI 3 from rfl, g_ofRobot (by decide) (by decide), bo2_some, g1 3 (by decide)]⟩
  · rw [v_rob_out hx, tx1_r, bh1_r, if_pos rfl, g_ofRobotN hx]
    exact Or.inr ⟨1, 0, by decide, rfl, rfl⟩
theorem pq_bumpsOf : pl_bumpsOf PRx := by
  intro σ xs i hP
  refine qa_pl hP (show mLaw_bumpsOf _ _ _ _ _ xs i = _ from rfl) ?_
  obtain ⟨g0, g1⟩ := FL_rob hP.1
  generalize xs (i + (1 : Int32)).toNatClampNeg = x
  unfold mL_bumpsOf mX8_bumpsOf mX9_bumpsOf
  rcases rng_or 2 (by decide) (by decide) x with ⟨r, hr, rfl⟩ | hx
  · rw [v_rob_in hr, tx1_l]
    refine Or.inl ?_
    rcases (show r = 0 ∨ r = 1 by omega) with rfl | rfl
    · exact ⟨σ.1 5 4, rfl, by rw [show (4 : Int32) = nI 4 from rfl, g_ofRobot (by decide) (by decide), bo2_some, g0 4 (by decide)]⟩
    · exact ⟨σ.1 7 4, rfl, by rw [show (4 : Int32) = nI 4 from rfl, g_ofRobot (by decide) (by decide), bo2_some, g1 4 (by decide)]⟩
  · rw [v_rob_out hx, tx1_r, bh1_r, if_pos rfl, g_ofRobotN hx]
    exact Or.inr ⟨1, 0, by decide, rfl, rfl⟩
theorem pq_pushesOf : pl_pushesOf PRx := by
  intro σ xs i hP
  refine qa_pl hP (show mLaw_pushesOf _ _ _ _ _ xs i = _ from rfl) ?_
  obtain ⟨g0, g1⟩ := FL_rob hP.1
  generalize xs (i + (1 : Int32)).toNatClampNeg = x
  unfold mL_pushesOf mX8_pushesOf mX9_pushesOf
  rcases rng_or 2 (by decide) (by decide) x with ⟨r, hr, rfl⟩ | hx
  · rw [v_rob_in hr, tx1_l]
    refine Or.inl ?_
    rcases (show r = 0 ∨ r = 1 by omega) with rfl | rfl
    · exact ⟨σ.1 5 5, rfl, by rw [show (5 : Int32) = nI 5 from rfl, g_ofRobot (by decide) (by decide), bo2_some, g0 5 (by decide)]⟩
    · exact ⟨σ.1 7 5, rfl, by rw [show (5 : Int32) = nI 5 from rfl, g_ofRobot (by decide) (by decide), bo2_some, g1 5 (by decide)]⟩
  · rw [v_rob_out hx, tx1_r, bh1_r, if_pos rfl, g_ofRobotN hx]
    exact Or.inr ⟨1, 0, by decide, rfl, rfl⟩
theorem pq_fallsOf : pl_fallsOf PRx := by
  intro σ xs i hP
  refine qa_pl hP (show mLaw_fallsOf _ _ _ _ _ xs i = _ from rfl) ?_
  obtain ⟨g0, g1⟩ := FL_rob hP.1
  generalize xs (i + (1 : Int32)).toNatClampNeg = x
  unfold mL_fallsOf mX8_fallsOf mX9_fallsOf
  rcases rng_or 2 (by decide) (by decide) x with ⟨r, hr, rfl⟩ | hx
  · rw [v_rob_in hr, tx1_l]
    refine Or.inl ?_
    rcases (show r = 0 ∨ r = 1 by omega) with rfl | rfl
    · exact ⟨σ.1 5 6, rfl, by rw [show (6 : Int32) = nI 6 from rfl, g_ofRobot (by decide) (by decide), bo2_some, g0 6 (by decide)]⟩
    · exact ⟨σ.1 7 6, rfl, by rw [show (6 : Int32) = nI 6 from rfl, g_ofRobot (by decide) (by decide), bo2_some, g1 6 (by decide)]⟩
  · rw [v_rob_out hx, tx1_r, bh1_r, if_pos rfl, g_ofRobotN hx]
    exact Or.inr ⟨1, 0, by decide, rfl, rfl⟩
theorem pq_placeOf : pl_placeOf PRx := by
  intro σ xs i hP
  refine qa_pl hP (show mLaw_placeOf _ _ _ _ _ xs i = _ from rfl) ?_
  obtain ⟨g0, g1⟩ := FL_rob hP.1
  generalize xs (i + (1 : Int32)).toNatClampNeg = x
  unfold mL_placeOf mX8_placeOf mX9_placeOf
  rcases rng_or 2 (by decide) (by decide) x with ⟨r, hr, rfl⟩ | hx
  · rw [v_rob_in hr, tx1_l]
    refine Or.inl ?_
    rcases (show r = 0 ∨ r = 1 by omega) with rfl | rfl
    · exact ⟨σ.1 5 7, rfl, by rw [show (7 : Int32) = nI 7 from rfl, g_ofRobot (by decide) (by decide), bo2_some, g0 7 (by decide)]⟩
    · exact ⟨σ.1 7 7, rfl, by rw [show (7 : Int32) = nI 7 from rfl, g_ofRobot (by decide) (by decide), bo2_some, g1 7 (by decide)]⟩
  · rw [v_rob_out hx, tx1_r, bh1_r, if_pos rfl, g_ofRobotN hx]
    exact Or.inr ⟨1, 0, by decide, rfl, rfl⟩
theorem pq_lengthOf : pl_lengthOf PRx := by
  intro σ xs i hP
  refine qa_pl hP (show mLaw_lengthOf _ _ _ _ _ xs i = _ from rfl) ?_
  obtain ⟨g0, g1⟩ := FL_rob hP.1
  generalize xs (i + (1 : Int32)).toNatClampNeg = x
  unfold mL_lengthOf mX8_lengthOf mX9_lengthOf
  rcases rng_or 2 (by decide) (by decide) x with ⟨r, hr, rfl⟩ | hx
  · rw [v_rob_in hr, tx1_l]
    refine Or.inl ?_
    rcases (show r = 0 ∨ r = 1 by omega) with rfl | rfl
    · exact ⟨σ.1 5 8, rfl, by rw [show (8 : Int32) = nI 8 from rfl, g_ofRobot (by decide) (by decide), bo2_some, g0 8 (by decide)]⟩
    · exact ⟨σ.1 7 8, rfl, by rw [show (8 : Int32) = nI 8 from rfl, g_ofRobot (by decide) (by decide), bo2_some, g1 8 (by decide)]⟩
  · rw [v_rob_out hx, tx1_r, bh1_r, if_pos rfl, g_ofRobotN hx]
    exact Or.inr ⟨1, 0, by decide, rfl, rfl⟩
