/-! The class: both ways, and whether they clash -/
def wayL (K : Nat → Nat) (t : Th) (c : Nat) (w : Option Nat) : Int64 := match w with
  | none => 0
  | some d => match rl K (tht t) d 6 (bs c d) with
    | none => 0
    | some r => sL (fun y => decide (y ∈ c :: pth d (r + 1) (bs c d)))
theorem wayL_none {K : Nat → Nat} {t : Th} {c : Nat} {w : Option Nat} (h : roA K t c w = none) : wayL K t c w = 0 := by
  cases w with
  | none => rfl
  | some d =>
    have h : rl K (tht t) d 6 (bs c d) = none := h
    unfold wayL
    simp only [h]
theorem wayL_some {K : Nat → Nat} {t : Th} {c r d : Nat} (h : roA K t c (some d) = some r) : wayL K t c (some d) = sL (fun y => decide (y ∈ c :: pth d (r + 1) (bs c d))) := by
  have h : rl K (tht t) d 6 (bs c d) = some r := h
  unfold wayL
  simp only [h]
theorem v_wayOf_a {vj : Nat → Int64} {vk va vb vpa : Nat → Int32} {K : Nat → Nat} {t : Th} {f : Nat} {h I : Nat → Int32} (hV : RV vj vk va vb K t.1 t.2.1 t.2.2) (hk : RK K t.1 t.2.1 t.2.2) (hA : RA va vpa f h I) (hO : OKr f h I) : mX6_wayOf_a vj vk va vpa vb = some (wayL K t t.2.1 (wdA f h I)) := by
  unfold mX6_wayOf_a
  rw [v_wanted hA hO]
  cases hw : wdA f h I with
  | none => rw [if_pos (show opI none = (-1 : Int32) from rfl)]; rfl
  | some d =>
    have hd := wd_lt hO.1 d hw
    have hne : ∀ d, d < 4 → ¬ nI d = (-1 : Int32) := by decide +kernel
    rw [if_neg (show ¬ opI (some d) = (-1 : Int32) from hne d hd), hV.2.2.1, opI_some, v_wayFrom hV hk hd hk.2.1, bo1_some]
    rfl
theorem v_wayOf_b {vj : Nat → Int64} {vk va vb vpb : Nat → Int32} {K : Nat → Nat} {t : Th} {f : Nat} {h I : Nat → Int32} (hV : RV vj vk va vb K t.1 t.2.1 t.2.2) (hk : RK K t.1 t.2.1 t.2.2) (hA : RA vb vpb f h I) (hO : OKr f h I) : mX6_wayOf_b vj vk va vb vpb = some (wayL K t t.2.2 (wdA f h I)) := by
  unfold mX6_wayOf_b
  rw [v_wanted hA hO]
  cases hw : wdA f h I with
  | none => rw [if_pos (show opI none = (-1 : Int32) from rfl)]; rfl
  | some d =>
    have hd := wd_lt hO.1 d hw
    have hne : ∀ d, d < 4 → ¬ nI d = (-1 : Int32) := by decide +kernel
    rw [if_neg (show ¬ opI (some d) = (-1 : Int32) from hne d hd), hV.2.2.2, opI_some, v_wayFrom hV hk hd hk.2.2.1, bo1_some]
    rfl
theorem v_clash0 (x : Int64) : mX6_clash 0 x = 0 ∧ mX6_clash x 0 = 0 := by
  have e1 : (0 : Int64) &&& x = 0 := Int64.zero_and
  have e2 : x &&& (0 : Int64) = 0 := Int64.and_zero
  unfold mX6_clash
  rw [e1, e2]
  decide +kernel
theorem v_clB {K : Nat → Nat} {t : Th} {w0 w1 : Option Nat} (hk : RK K t.1 t.2.1 t.2.2) (hw0 : ∀ d, w0 = some d → d < 4) (hw1 : ∀ d, w1 = some d → d < 4) : mX6_clash (wayL K t t.2.1 w0) (wayL K t t.2.2 w1) = if clB K t w0 w1 then 1 else 0 := by
  cases hr0 : roA K t t.2.1 w0 with
  | none =>
    have : clB K t w0 w1 = false := by unfold clB; rw [hr0]; cases w0 <;> cases w1 <;> rfl
    rw [this, wayL_none hr0]
    exact (v_clash0 _).1
  | some r0 =>
    obtain ⟨d0, rfl, hl0, h60, hT0, hF0⟩ := roA_some hr0
    cases hr1 : roA K t t.2.2 w1 with
    | none =>
      have : clB K t (some d0) w1 = false := by unfold clB; rw [hr1]; cases w1 <;> cases roA K t t.2.1 (some d0) <;> rfl
      rw [this, wayL_none hr1]
      exact (v_clash0 _).2
    | some r1 =>
      obtain ⟨d1, rfl, hl1, h61, hT1, hF1⟩ := roA_some hr1
      rw [wayL_some hr0, wayL_some hr1, v_clash, clB_some hr0 hr1]
      have e : (List.range 36).any (fun y => decide (y ∈ t.2.1 :: pth d0 (r0 + 1) (bs t.2.1 d0)) && decide (y ∈ t.2.2 :: pth d1 (r1 + 1) (bs t.2.2 d1))) = clA t.2.1 d0 r0 t.2.2 d1 r1 := by
        unfold clA
        rw [Bool.eq_iff_iff, List.any_eq_true, List.any_eq_true]
        constructor
        · rintro ⟨y, _, h⟩
          rw [Bool.and_eq_true, decide_eq_true_eq] at h
          exact ⟨y, h.1, h.2⟩
        · rintro ⟨y, h1, h2⟩
          refine ⟨y, List.mem_range.mpr ?_, by rw [Bool.and_eq_true]; exact ⟨decide_eq_true h1, h2⟩⟩
          rcases List.mem_cons.mp h1 with q | q
          · rw [q]; exact hk.2.1
          · exact pth_lt (hw0 d0 rfl) _ _ (fun z hz => bs_lt _ hk.2.1 d0 (hw0 d0 rfl) z hz) y q
      rw [e]
theorem v_things_comm (vj : Nat → Int64) (va vb : Nat → Int32) : mX1_things vj va vb = mX1_things vj vb va := by
  unfold mX1_things
  rw [Int64.or_assoc, Int64.or_assoc, Int64.or_comm (mX2_setOf (va 0))]
theorem v_follow_swap (vj : Nat → Int64) (va vb vpb : Nat → Int32) (x : Int64) : mX6_follow_b vj va vb vpb x = ((mX6_follow_a vj vb vpb va x).1, (mX6_follow_a vj vb vpb va x).2.2, (mX6_follow_a vj vb vpb va x).2.1) := by
  have hr : mX6_rowOf_b vj va vb x = mX6_rowOf_a vj vb va x := by
    unfold mX6_rowOf_b mX6_rowOf_a
    rw [v_things_comm]
  unfold mX6_follow_b mX6_follow_a
  rw [hr]
  split
  · rfl
  · split
    · rfl
    · have : ∀ r d, mX6_pushRow_a vj va r d = mX6_pushRow_b vj va r d := fun _ _ => rfl
      rw [this]
      rfl
