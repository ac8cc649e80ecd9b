/-! Checkpoints -/
def NX (h : Nat → Int32) : Prop := ∃ x, 1 ≤ x ∧ x ≤ 5 ∧ h 2 = nI x
def pz (m : Nat) (vc : Nat → Int32) (c : Nat) (h : Nat → Int32) : Bool := decide ((h 2).toNatClampNeg ≤ m) && decide (vc ((h 2).toNatClampNeg - 1) = nI c)
def phA (m : Nat) (vc : Nat → Int32) (c : Nat) (h : Nat → Int32) : Nat → Int32 := if pz m vc c h then upd h 2 (h 2 + 1) else h
theorem nI_m1 {x : Nat} (h1 : 1 ≤ x) : nI x - (1 : Int32) = nI (x - 1) := by
  obtain ⟨y, rfl⟩ : ∃ y, x = y + 1 := ⟨x - 1, by omega⟩
  rw [← nI_1, Int32.add_sub_cancel]; rfl
theorem v_point {vi vc : Nat → Int32} {m x : Nat} (hm : m ≤ 4) (h7 : vi 7 = nI m) (h1 : 1 ≤ x) (h5 : x < 2 ^ 31) : mX1_checkpointCell vi vc (nI x) = some (if x ≤ m then vc (x - 1) else -1) := by
  unfold mX1_checkpointCell
  rw [if_neg (fun q => by
    have q1 : nI x < nI 1 := q
    rw [pu_lt (by omega) (by omega)] at q1
    omega), nI_m1 h1, h7]
  by_cases hx : x ≤ m
  · rw [if_neg (fun q => by rw [pu_le (by omega) (by omega)] at q; omega), if_neg (fun q => by
      have q1 : nI 4 ≤ nI (x - 1) := q
      rw [pu_le (by omega) (by omega)] at q1
      omega), if_pos (g_idx (by omega) 4 (by omega)), nI_clamp (by omega), if_pos hx]
  · rw [if_pos (by rw [pu_le (by omega) (by omega)]; omega), if_neg hx]
theorem v_pass_a {vi vc va vpa : Nat → Int32} {m c f : Nat} {h I : Nat → Int32} (hm : m ≤ 4) (h7 : vi 7 = nI m) (hc : c < 36) (h0 : va 0 = nI c) (hA : RA va vpa f h I) (hN : NX h) :
    ∃ va', mX6_passCheckpoint_a vi vc va = some (if pz m vc c h then 1 else 0, va') ∧ va' 0 = va 0 ∧ RA va' vpa f (phA m vc c h) I := by
  obtain ⟨x, x1, x5, hx⟩ := hN
  have a2 := hA.2.1 2 (by decide) (by decide)
  unfold mX6_passCheckpoint_a
  rw [a2, hx, v_point hm h7 x1 (by omega), bo1_some, h0]
  have ex : (h 2).toNatClampNeg = x := by rw [hx, nI_clamp (by omega)]
  have hz : pz m vc c h = true ↔ (if x ≤ m then vc (x - 1) else -1) = nI c := by
    unfold pz
    rw [ex, Bool.and_eq_true, decide_eq_true_eq, decide_eq_true_eq]
    by_cases q : x ≤ m
    · rw [if_pos q]; exact ⟨fun z => z.2, fun z => ⟨q, z⟩⟩
    · rw [if_neg q]; exact ⟨fun z => absurd z.1 q, fun z => absurd z.symm (ne_neg1 c hc)⟩
  unfold phA
  by_cases q : pz m vc c h = true
  · rw [if_pos (hz.mp q), if_pos q, if_pos q]
    refine ⟨_, rfl, (if_neg (by decide)).trans h0, (if_neg (by decide)).trans hA.1, fun j j2 j9 => ?_, fun j q1 q2 => hA.2.2 j q1 q2⟩
    by_cases e : j = 2
    · subst e
      show nI x + 1 = h 2 + 1
      rw [hx]
    · rw [show ∀ v, upd va 2 v j = va j from fun v => if_neg e, show ∀ v, upd h 2 v j = h j from fun v => if_neg e]
      exact hA.2.1 j j2 j9
  · rw [if_neg (fun z => q (hz.mpr z)), if_neg q, if_neg q]
    exact ⟨va, rfl, h0, hA⟩
theorem v_pass_swap (vi vc vb : Nat → Int32) : mX6_passCheckpoint_b vi vc vb = mX6_passCheckpoint_a vi vc vb := rfl
theorem g_pass_s {s : Nat → Int32} {K : Nat → Nat} {t : Th} {r f m : Nat} {vc h I : Nat → Int32} (hr : r < 2) (hS : RS s K t.1 t.2.1 t.2.2) (hk : RK K t.1 t.2.1 t.2.2) (hR : RR s r f h I) (hm : m ≤ 4) (h110 : s 110 = nI m) (hvc : ∀ k, k < m → s (111 + k) = vc k) (hN : NX h) (n : Nat) (l : Int32) :
    ∃ s', mX9_passes_L4 (n + 1) s l (nI r) = mX9_passes_L4 n s' (l + (if pz m vc (cl2 t r) h then 1 else 0)) (nI (r + 1)) ∧ RR s' r f (phA m vc (cl2 t r) h) I ∧ ∀ k, k ≠ 72 + 9 * r + 2 → s' k = s k := by
  obtain ⟨x, x1, x5, hx⟩ := hN
  have hr2 : ¬ ((2 : Int32) ≤ nI r) := fun q => by
    have q1 : nI 2 ≤ nI r := q
    rw [pu_le (by omega) (by omega)] at q1
    omega
  have ex : (h 2).toNatClampNeg = x := by rw [hx, nI_clamp (by omega)]
  have e : mX9_passes_L4 (n + 1) s l (nI r) = (if (2 : Int32) ≤ nI r then (some (l, s)) else (bo1 (mX9_of s (nI r) (2 : Int32)) (fun r_2 => (if (s (110 : Int32).toNatClampNeg) < r_2 then (mX9_passes_J49 (fun vs l1 l2 => mX9_passes_L4 n vs l1 l2) s l (nI r)) else (if ¬ (((110 : Int32) + r_2) < 0 ∨ 117 ≤ ((110 : Int32) + r_2).toNatClampNeg) then (bo1 (mX9_of s (nI r) (0 : Int32)) (fun r_6 => (if (s ((110 : Int32) + r_2).toNatClampNeg) = r_6 then (bo1 (mX9_adds s (nI r) (2 : Int32) (1 : Int32)) (fun vs_9 => (mX9_passes_J49 (fun vs l1 l2 => mX9_passes_L4 n vs l1 l2) vs_9 (l + (1 : Int32)) (nI r)))) else (mX9_passes_J49 (fun vs l1 l2 => mX9_passes_L4 n vs l1 l2) s l (nI r))))) else none))))) := rfl
  have j49 : ∀ s' l', mX9_passes_J49 (fun vs l1 l2 => mX9_passes_L4 n vs l1 l2) s' l' (nI r) = mX9_passes_L4 n s' l' (nI (r + 1)) := fun s' l' => by
    unfold mX9_passes_J49
    rw [nI_1]
  have e2 : mX9_of s (nI r) (2 : Int32) = some (nI x) := (g_of s (k := 2) hr (by decide)).trans (by rw [hR.2.1 2 (by decide) (by decide), hx])
  have e0 : mX9_of s (nI r) (0 : Int32) = some (nI (cl2 t r)) := (g_of s (k := 0) hr (by decide)).trans (by rw [Nat.add_zero, RS_cell hr hS])
  have e110 : ((110 : Int32) + nI x) = nI (110 + x) := nI_add 110 x
  rw [e, if_neg hr2, e2, bo1_some, show s (110 : Int32).toNatClampNeg = nI m from h110]
  by_cases hxm : x ≤ m
  · have hpz : pz m vc (cl2 t r) h = true ↔ s (110 + x) = nI (cl2 t r) := by
      unfold pz
      rw [ex, Bool.and_eq_true, decide_eq_true_eq, decide_eq_true_eq, ← hvc (x - 1) (by omega), show 111 + (x - 1) = 110 + x by omega]
      exact ⟨fun z => z.2, fun z => ⟨hxm, z⟩⟩
    rw [if_neg (fun q => by rw [pu_lt (by omega) (by omega)] at q; omega), e110, if_pos (g_idx117 (by omega)), nI_clamp (by omega), e0, bo1_some]
    unfold phA
    by_cases q : pz m vc (cl2 t r) h = true
    · rw [if_pos (hpz.mp q), if_pos q, if_pos q, show mX9_adds s (nI r) (2 : Int32) (1 : Int32) = _ from g_adds s (k := 2) hr (by decide) 1, bo1_some, j49]
      refine ⟨_, rfl, ⟨(if_neg (by omega)).trans hR.1, fun j j2 j9 => ?_, fun j q1 q2 => (if_neg (by omega)).trans (hR.2.2 j q1 q2)⟩, fun k hk => if_neg hk⟩
      by_cases ej : j = 2
      · subst ej
        rw [show ∀ v, upd s (72 + 9 * r + 2) v (72 + 9 * r + 2) = v from fun v => if_pos rfl, hR.2.1 2 (by decide) (by decide)]; rfl
      · rw [show ∀ v, upd s (72 + 9 * r + 2) v (72 + 9 * r + j) = s (72 + 9 * r + j) from fun v => if_neg (by omega), show ∀ v, upd h 2 v j = h j from fun v => if_neg ej]
        exact hR.2.1 j j2 j9
    · rw [if_neg (fun z => q (hpz.mpr z)), if_neg q, if_neg q, j49, Int32.add_zero]
      exact ⟨s, rfl, hR, fun _ _ => rfl⟩
  · have hpz : ¬ pz m vc (cl2 t r) h = true := by
      unfold pz
      rw [ex, Bool.and_eq_true, decide_eq_true_eq]
      exact fun z => hxm z.1
    unfold phA
    rw [if_pos (by rw [pu_lt (by omega) (by omega)]; omega), j49, if_neg hpz, if_neg hpz, Int32.add_zero]
    exact ⟨s, rfl, hR, fun _ _ => rfl⟩
theorem NX_ph {m c : Nat} {vc h : Nat → Int32} (hm : m ≤ 4) (hN : NX h) : NX (phA m vc c h) ∧ ∃ x x', x ≤ x' ∧ x' ≤ 5 ∧ h 2 = nI x ∧ phA m vc c h 2 = nI x' := by
  obtain ⟨x, x1, x5, hx⟩ := hN
  have ex : (h 2).toNatClampNeg = x := by rw [hx, nI_clamp (by omega)]
  unfold phA
  by_cases q : pz m vc c h = true
  · rw [if_pos q]
    have hxm : x ≤ m := by
      unfold pz at q
      rw [ex, Bool.and_eq_true, decide_eq_true_eq] at q
      exact q.1
    have e : upd h 2 (h 2 + 1) 2 = nI (x + 1) := by
      show h 2 + 1 = _
      rw [hx, nI_1]
    exact ⟨⟨x + 1, by omega, by omega, e⟩, x, x + 1, by omega, by omega, hx, e⟩
  · rw [if_neg q]
    exact ⟨⟨x, x1, x5, hx⟩, x, x, Nat.le_refl _, x5, hx, hx⟩
