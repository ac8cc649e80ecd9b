/-! The class's sweeping -/
def SW (K : Nat → Nat) (s0 : Nat) (lab : Nat → Option Nat) (B : Nat) : Prop := ∀ u d, u < 144 → lab u = some d → Rch K s0 d u ∧ d ≤ B
def LE (lab' lab : Nat → Option Nat) : Prop := ∀ u d, lab u = some d → ∃ e, lab' u = some e ∧ e ≤ d
theorem LE_refl (lab : Nat → Option Nat) : LE lab lab := fun u d h => ⟨d, h, Nat.le_refl d⟩
theorem LE_trans {a b c : Nat → Option Nat} (h1 : LE a b) (h2 : LE b c) : LE a c := fun u d h => by
  obtain ⟨e, e1, e2⟩ := h2 u d h
  obtain ⟨f, f1, f2⟩ := h1 u e e1
  exact ⟨f, f1, by omega⟩
theorem dsC_le {a b : Option Nat} (ha : ∀ d, a = some d → d < 900000) (hb : ∀ d, b = some d → d < 900000) : dsC a ≤ dsC b + 1 ↔ ∀ d, b = some d → ∃ e, a = some e ∧ e ≤ d + 1 := by
  cases b with
  | none =>
    refine ⟨fun _ d h => (by cases h), fun _ => ?_⟩
    have e1 : dsC none + 1 = nI 1000001 := by decide
    rw [e1]
    cases a with
    | none => show nI 1000000 ≤ nI 1000001; exact (pu_le (by omega) (by omega)).mpr (by omega)
    | some e => have := ha e rfl; exact (pu_le (by omega) (by omega)).mpr (by omega)
  | some d =>
    have hd := hb d rfl
    rw [dsC_some, nI_1]
    cases a with
    | none =>
      refine ⟨fun q => ?_, fun q => ?_⟩
      · have q1 : nI 1000000 ≤ nI (d + 1) := q
        rw [pu_le (by omega) (by omega)] at q1
        omega
      · obtain ⟨e, e1, -⟩ := q d rfl
        cases e1
    | some e =>
      have he := ha e rfl
      rw [dsC_some, pu_le (by omega) (by omega)]
      refine ⟨fun q d' hd' => (by cases hd'; exact ⟨e, rfl, q⟩), fun q => ?_⟩
      obtain ⟨e', e1, e2⟩ := q d rfl
      cases e1
      exact e2
theorem v_sw1 {K : Nat → Nat} {vk : Nat → Int32} {s0 v : Nat} (hv : ∀ x, x < 36 → vk x = nI (K x)) (hK : ∀ x, x < 36 → K x < 7) (hv144 : v < 144) (k4 : (Nat → Int32) → (Nat → Int32) → Int32 → Int32 → Option (Int32 × (Nat → Int32))) :
    ∀ (j n i B : Nat) (lab : Nat → Option Nat) (ds : Nat → Int32) (b : Bool), j < n → i + j = 5 → B + j < 900000 → DS ds lab → SW K s0 lab B →
      ∃ lab' ds' b', mX0_sweepOnce_L14 k4 n ds vk (if b then 1 else 0) (nI v) (nI i) = k4 ds' vk (if b' then 1 else 0) (nI (v + 1)) ∧ DS ds' lab' ∧ SW K s0 lab' (B + j) ∧ LE lab' lab ∧ (∀ i', i ≤ i' → i' < 5 → ∀ u d, stp K v i' = some u → lab v = some d → ∃ e, lab' u = some e ∧ e ≤ d + 1) ∧ ((b' = b ∧ lab' = lab) ∨ b' = true) := by
  intro j
  induction j with
  | zero =>
    intro n i B lab ds b hn hi hB hD hS
    obtain ⟨n, rfl⟩ : ∃ m, n = m + 1 := ⟨n - 1, by omega⟩
    obtain rfl : i = 5 := by omega
    refine ⟨lab, ds, b, ?_, hD, hS, LE_refl lab, fun i' h1 h2 => by omega, Or.inl ⟨rfl, rfl⟩⟩
    unfold mX0_sweepOnce_L14
    rw [if_pos (by decide), nI_1]
  | succ j ih =>
    intro n i B lab ds b hn hi hB hD hS
    obtain ⟨n, rfl⟩ : ∃ m, n = m + 1 := ⟨n - 1, by omega⟩
    have h5 : ¬ ((4 : Int32) < nI i) := fun z => by
      have z1 : nI 4 < nI i := z
      rw [pu_lt (by omega) (by omega)] at z1
      omega
    have hb9 : ∀ u, u < 144 → ∀ d, lab u = some d → d < 900000 := fun u hu d hd => by have := (hS u d hu hd).2; omega
    have stay : (∀ u d, stp K v i = some u → lab v = some d → ∃ e, lab u = some e ∧ e ≤ d + 1) →
        ∃ lab' ds' b', mX0_sweepOnce_J66 k4 (fun ds vk l2 l3 l4 => mX0_sweepOnce_L14 k4 n ds vk l2 l3 l4) ds vk (if b then 1 else 0) (nI v) (nI i) = k4 ds' vk (if b' then 1 else 0) (nI (v + 1)) ∧ DS ds' lab' ∧ SW K s0 lab' (B + (j + 1)) ∧ LE lab' lab ∧ (∀ i', i ≤ i' → i' < 5 → ∀ u d, stp K v i' = some u → lab v = some d → ∃ e, lab' u = some e ∧ e ≤ d + 1) ∧ ((b' = b ∧ lab' = lab) ∨ b' = true) := fun h => by
      unfold mX0_sweepOnce_J66
      rw [nI_1]
      obtain ⟨lab', ds', b', a1, a2, a3, a4, a5, a6⟩ := ih n (i + 1) B lab ds b (by omega) (by omega) (by omega) hD hS
      refine ⟨lab', ds', b', a1, a2, fun u d hu hd => ?_, a4, fun i' h1 h2 u d hu hd => ?_, a6⟩
      · obtain ⟨x, y⟩ := a3 u d hu hd
        exact ⟨x, by omega⟩
      · by_cases e : i' = i
        · subst e
          obtain ⟨e, e1, e2⟩ := h u d hu hd
          obtain ⟨f, f1, f2⟩ := a4 u e e1
          exact ⟨f, f1, by omega⟩
        · exact a5 i' (by omega) h2 u d hu hd
    unfold mX0_sweepOnce_L14
    rw [if_neg h5, v_standAfter hv hK hv144 (by omega)]
    cases hst : stp K v i with
    | none =>
      rw [if_pos (show opI none = (-1 : Int32) from rfl)]
      exact stay (fun u d hu => by rw [hst] at hu; cases hu)
    | some u =>
      have hu := stp_lt hv144 i u hst
      have hcmp := dsC_le (a := lab u) (b := lab v) (hb9 u hu) (hb9 v hv144)
      rw [opI_some, if_neg (ne_neg144 u hu), v_dist hD hu, v_dist hD hv144]
      by_cases q : dsC (lab u) ≤ dsC (lab v) + 1
      · rw [if_pos q]
        exact stay (fun u' d hu' hd => by rw [hst] at hu'; cases hu'; exact hcmp.mp q d hd)
      · rw [if_neg q]
        obtain ⟨d, hd, hno⟩ : ∃ d, lab v = some d ∧ ∀ e, lab u = some e → ¬ e ≤ d + 1 := by
          cases hlv : lab v with
          | none =>
            rw [hlv] at q hcmp
            exact absurd (hcmp.mpr (fun d h => by cases h)) q
          | some d =>
            refine ⟨d, rfl, fun e he hle => q (hcmp.mpr (fun d' hd' => ?_))⟩
            rw [hlv] at hd'; cases hd'
            exact ⟨e, he, hle⟩
        have hdB := (hS v d hv144 hd).2
        rw [hd, dsC_some, nI_1, v_setD hu, bt1_mk]
        unfold mX0_sweepOnce_J66
        rw [nI_1]
        have hLE1 : LE (fun x => if x = u then some (d + 1) else lab x) lab := fun x e he => by
          show ∃ f, (if x = u then some (d + 1) else lab x) = some f ∧ f ≤ e
          by_cases ex : x = u
          · rw [if_pos ex]
            rw [ex] at he
            have := hno e he
            exact ⟨d + 1, rfl, by omega⟩
          · rw [if_neg ex]; exact ⟨e, he, Nat.le_refl e⟩
        obtain ⟨lab', ds', b', a1, a2, a3, a4, a5, a6⟩ := ih n (i + 1) (B + 1) _ (upd ds u (nI (d + 1))) true (by omega) (by omega) (by omega) (DS_upd hD u (d + 1)) (fun x e hx he => by
          have he : (if x = u then some (d + 1) else lab x) = some e := he
          by_cases ex : x = u
          · rw [if_pos ex] at he; cases he
            rw [ex]
            exact ⟨Or.inr ⟨v, i, hv144, by omega, (hS v d hv144 hd).1, hst⟩, by omega⟩
          · rw [if_neg ex] at he
            obtain ⟨x1, x2⟩ := hS x e hx he
            exact ⟨x1, by omega⟩)
        refine ⟨lab', ds', b', a1, a2, fun x e hx he => ?_, LE_trans a4 hLE1, fun i' h1 h2 x e hx he => ?_, Or.inr ?_⟩
        · obtain ⟨x1, x2⟩ := a3 x e hx he
          exact ⟨x1, by omega⟩
        · by_cases ei : i' = i
          · subst ei
            rw [hst] at hx; cases hx
            cases he
            obtain ⟨f, f1, f2⟩ := a4 u (d + 1) (if_pos rfl)
            exact ⟨f, f1, f2⟩
          · obtain ⟨g, g1, g2⟩ := hLE1 v e (hd.trans he)
            obtain ⟨f, f1, f2⟩ := a5 i' (by omega) h2 x g hx g1
            exact ⟨f, f1, by omega⟩
        · rcases a6 with ⟨a6, -⟩ | a6
          · exact a6
          · exact a6
theorem v_sw2 {K : Nat → Nat} {vk : Nat → Int32} {s0 : Nat} (hv : ∀ x, x < 36 → vk x = nI (K x)) (hK : ∀ x, x < 36 → K x < 7) :
    ∀ (j n v B : Nat) (lab : Nat → Option Nat) (ds : Nat → Int32) (b : Bool), j < n → v + j = 144 → B + 5 * j + 5 < 900000 → DS ds lab → SW K s0 lab B →
      ∃ lab' ds' b', mX0_sweepOnce_L4 n ds vk (if b then 1 else 0) (nI v) = some (if b' then 1 else 0, ds') ∧ DS ds' lab' ∧ SW K s0 lab' (B + 5 * j) ∧ LE lab' lab ∧ (∀ w, v ≤ w → w < 144 → ∀ i, i < 5 → ∀ u d, stp K w i = some u → lab w = some d → ∃ e, lab' u = some e ∧ e ≤ d + 1) ∧ ((b' = b ∧ lab' = lab) ∨ b' = true) := by
  intro j
  induction j with
  | zero =>
    intro n v B lab ds b hn hi hB hD hS
    obtain ⟨n, rfl⟩ : ∃ m, n = m + 1 := ⟨n - 1, by omega⟩
    obtain rfl : v = 144 := by omega
    refine ⟨lab, ds, b, ?_, hD, hS, LE_refl lab, fun w h1 h2 => by omega, Or.inl ⟨rfl, rfl⟩⟩
    have hb : (if b = true then (1 : Int32) else 0) = 0 ∨ (if b = true then (1 : Int32) else 0) = 1 := by cases b <;> simp
    unfold mX0_sweepOnce_L4
    rw [if_pos (by decide), if_pos hb]
  | succ j ih =>
    intro n v B lab ds b hn hi hB hD hS
    obtain ⟨n, rfl⟩ : ∃ m, n = m + 1 := ⟨n - 1, by omega⟩
    unfold mX0_sweepOnce_L4
    rw [if_neg (show ¬ ((144 : Int32) ≤ nI v) from nI_leF (b := 144) (by omega) (by decide) (by omega))]
    obtain ⟨lab1, ds1, b1, a1, a2, a3, a4, a5, a6⟩ := v_sw1 (s0 := s0) hv hK (show v < 144 by omega) (fun ds vk l2 l3 => mX0_sweepOnce_L4 n ds vk l2 l3) 5 4096 0 B lab ds b (by decide) (by decide) (by omega) hD hS
    obtain ⟨lab2, ds2, b2, c1, c2, c3, c4, c5, c6⟩ := ih n (v + 1) (B + 5) lab1 ds1 b1 (by omega) (by omega) (by omega) a2 a3
    refine ⟨lab2, ds2, b2, (show mX0_sweepOnce_L14 (fun ds vk l2 l3 => mX0_sweepOnce_L4 n ds vk l2 l3) 4096 ds vk (if b then 1 else 0) (nI v) (0 : Int32) = _ from a1).trans c1, c2, fun u d hu hd => ?_, LE_trans c4 a4, fun w h1 h2 i hi5 u d hu hd => ?_, ?_⟩
    · obtain ⟨x, y⟩ := c3 u d hu hd
      exact ⟨x, by omega⟩
    · by_cases e : w = v
      · subst e
        obtain ⟨f, f1, f2⟩ := a5 i (Nat.zero_le i) hi5 u d hu hd
        obtain ⟨g, g1, g2⟩ := c4 u f f1
        exact ⟨g, g1, by omega⟩
      · obtain ⟨f, f1, f2⟩ := a4 w d hd
        obtain ⟨g, g1, g2⟩ := c5 w (by omega) h2 i hi5 u f hu f1
        exact ⟨g, g1, by omega⟩
    · rcases c6 with ⟨q1, q2⟩ | q
      · rcases a6 with ⟨p1, p2⟩ | p
        · exact Or.inl ⟨q1.trans p1, q2.trans p2⟩
        · exact Or.inr (q1.trans p)
      · exact Or.inr q
theorem v_sw3 {K : Nat → Nat} {vk : Nat → Int32} {s0 cell : Nat} (hv : ∀ x, x < 36 → vk x = nI (K x)) (hK : ∀ x, x < 36 → K x < 7) (hs : s0 < 144) (hc : cell < 36) (htop : ∀ n u, u < 144 → Rch K s0 n u → Rch K s0 143 u) :
    ∀ (j n r : Nat) (lab : Nat → Option Nat) (ds : Nat → Int32) (b : Bool), j < n → r + j = 145 → DS ds lab → SW K s0 lab (720 * r) → lab s0 = some 0 → (∀ n, n ≤ r → ∀ u, u < 144 → Rch K s0 n u → ∃ e, lab u = some e ∧ e ≤ n) →
      (b = false → ∀ w, w < 144 → ∀ i, i < 5 → ∀ u d, stp K w i = some u → lab w = some d → ∃ e, lab u = some e ∧ e ≤ d + 1) →
      ∃ a ds', mX0_sweep_L16 n ds vk (nI cell) (if b then 1 else 0) (nI r) = some (a, ds') ∧ ANS K s0 cell a := by
  -- a sweep that brings nothing nearer is the last
  have fix : ∀ (lab : Nat → Option Nat), lab s0 = some 0 → (∀ w, w < 144 → ∀ i, i < 5 → ∀ u d, stp K w i = some u → lab w = some d → ∃ e, lab u = some e ∧ e ≤ d + 1) → ∀ n u, u < 144 → Rch K s0 n u → ∃ e, lab u = some e ∧ e ≤ n := by
    intro lab h0 hf n
    induction n with
    | zero =>
      intro u _ hu
      have hu : u = s0 := hu
      exact ⟨0, by rw [hu]; exact h0, Nat.le_refl 0⟩
    | succ n ih =>
      intro u hu144 hu
      rcases hu with hu | ⟨w, i, hw, hi, hr, hst⟩
      · obtain ⟨e, a, b⟩ := ih u hu144 hu
        exact ⟨e, a, by omega⟩
      · obtain ⟨e, a, b⟩ := ih w hw hr
        obtain ⟨f, f1, f2⟩ := hf w hw i hi u e hst a
        exact ⟨f, f1, by omega⟩
  have least : ∀ (r : Nat) (lab : Nat → Option Nat) (ds : Nat → Int32), r ≤ 145 → DS ds lab → SW K s0 lab (720 * r) → (∀ n, n ≤ 143 → ∀ u, u < 144 → Rch K s0 n u → ∃ e, lab u = some e ∧ e ≤ n) → ∃ a ds', bo1 (mX0_leastDistance ds (nI cell)) (fun r_6 => some (r_6, ds)) = some (a, ds') ∧ ANS K s0 cell a := fun r lab ds hr hD hS hF => by
    obtain ⟨a, a1, a2⟩ := v_least hD (fun u d hu hd => by have := (hS u d hu hd).2; omega) hc (fun u d hu hd => (hS u d hu hd).1) hF htop
    rw [a1, bo1_some]
    exact ⟨a, ds, rfl, a2⟩
  intro j
  induction j with
  | zero =>
    intro n r lab ds b hn hi hD hS h0 hF hfx
    obtain ⟨n, rfl⟩ : ∃ m, n = m + 1 := ⟨n - 1, by omega⟩
    obtain rfl : r = 145 := by omega
    unfold mX0_sweep_L16
    cases b with
    | false =>
      rw [if_pos (show (if false = true then (1 : Int32) else 0) = 0 from rfl)]
      exact least 145 lab ds (by decide) hD hS (fun n hn => hF n (by omega))
    | true =>
      rw [if_neg (show ¬ (if true = true then (1 : Int32) else 0) = 0 by decide), if_pos (by decide)]
      exact least 145 lab ds (by decide) hD hS (fun n hn => hF n (by omega))
  | succ j ih =>
    intro n r lab ds b hn hi hD hS h0 hF hfx
    obtain ⟨n, rfl⟩ : ∃ m, n = m + 1 := ⟨n - 1, by omega⟩
    unfold mX0_sweep_L16
    cases b with
    | false =>
      rw [if_pos (show (if false = true then (1 : Int32) else 0) = 0 from rfl)]
      exact least r lab ds (by omega) hD hS (fun n _ u hu hr => fix lab h0 (hfx rfl) n u hu hr)
    | true =>
      have hr144 : ¬ ((144 : Int32) < nI r) := fun z => by
        have z1 : nI 144 < nI r := z
        rw [pu_lt (by omega) (by omega)] at z1
        omega
      obtain ⟨lab', ds', b', a1, a2, a3, a4, a5, a6⟩ := v_sw2 (s0 := s0) hv hK 144 4096 0 (720 * r) lab ds false (by decide) (by decide) (by omega) hD hS
      have eo : mX0_sweepOnce ds vk = some (if b' then 1 else 0, ds') := a1
      rw [if_neg (show ¬ (if true = true then (1 : Int32) else 0) = 0 by decide), if_neg hr144, eo, bo2_some, nI_1]
      have h0' : lab' s0 = some 0 := by
        obtain ⟨e, e1, e2⟩ := a4 s0 0 h0
        rw [e1, show e = 0 by omega]
      refine ih n (r + 1) lab' ds' b' (by omega) (by omega) a2 (fun u d hu hd => ?_) h0' (fun n hn u hu hr => ?_) (fun hb w hw i hi u d hu hd => ?_)
      · obtain ⟨x, y⟩ := a3 u d hu hd
        exact ⟨x, by omega⟩
      · by_cases hnr : n ≤ r
        · obtain ⟨e, e1, e2⟩ := hF n hnr u hu hr
          obtain ⟨f, f1, f2⟩ := a4 u e e1
          exact ⟨f, f1, by omega⟩
        · obtain rfl : n = r + 1 := by omega
          rcases hr with hr | ⟨w, i, hw, hi, hr, hst⟩
          · obtain ⟨e, e1, e2⟩ := hF r (Nat.le_refl r) u hu hr
            obtain ⟨f, f1, f2⟩ := a4 u e e1
            exact ⟨f, f1, by omega⟩
          · obtain ⟨e, e1, e2⟩ := hF r (Nat.le_refl r) w hw hr
            obtain ⟨f, f1, f2⟩ := a5 w (Nat.zero_le w) hw i hi u e hst e1
            exact ⟨f, f1, by omega⟩
      · rcases a6 with ⟨-, q⟩ | q
        · rw [q] at hd
          exact a5 w (Nat.zero_le w) hw i hi u d hu hd
        · rw [hb] at q; cases q
theorem v_sweep {K : Nat → Nat} {vk : Nat → Int32} {s0 cell : Nat} (hv : ∀ x, x < 36 → vk x = nI (K x)) (hK : ∀ x, x < 36 → K x < 7) (hs : s0 < 144) (hc : cell < 36) (ds : Nat → Int32) : ∃ a ds', mX0_sweep ds vk (nI s0) (nI cell) = some (a, ds') ∧ ANS K s0 cell a := by
  obtain ⟨ds1, e1, e2⟩ := v_forget ds
  have htop := (v_spread (cell := cell) hv hK hs hc ds ds).2
  have hD : DS (upd ds1 s0 (nI 0)) (fun u => if u = s0 then some 0 else none) := fun u hu => by
    show upd ds1 s0 (nI 0) u = dsC (if u = s0 then some 0 else none)
    by_cases e : u = s0
    · rw [if_pos e]; exact if_pos e
    · rw [if_neg e]; exact (if_neg e).trans (e2 u hu)
  obtain ⟨a, ds', a1, a2⟩ := v_sw3 (cell := cell) hv hK hs hc htop 145 4096 0 _ (upd ds1 s0 (nI 0)) true (by decide) (by decide) hD (fun u d hu hd => by
    have hd : (if u = s0 then some 0 else none : Option Nat) = some d := hd
    by_cases e : u = s0
    · rw [if_pos e] at hd; cases hd
      exact ⟨e, Nat.zero_le _⟩
    · rw [if_neg e] at hd; cases hd) (if_pos rfl) (fun n hn u hu hr => by
    obtain rfl : n = 0 := by omega
    have hr : u = s0 := hr
    exact ⟨0, if_pos hr, Nat.le_refl 0⟩) (fun h => by cases h)
  refine ⟨a, ds', ?_, a2⟩
  unfold mX0_sweep
  rw [e1, bo1_some, v_setD hs, bt1_mk, show (1 : Int32) = (if true = true then (1 : Int32) else 0) from rfl, show (0 : Int32) = nI 0 from rfl]
  exact a1
/-! Both at the law -/
theorem bh2_l {α α2 β : Type} (a : α) (b : α2) (f : α → α2 → Option β) (h : String → Option β) : bh2 (.inl (a, b)) f h = f a b := rfl
theorem bh2_r {α α2 β : Type} (E : String) (f : α → α2 → Option β) (h : String → Option β) : bh2 (.inr E) f h = h E := rfl
theorem v_standOf {va : Nat → Int32} {c f : Nat} (h0 : va 0 = nI c) (h1 : va 1 = nI f) : mX0_standOf (va 0) (va 1) = nI (4 * c + f) := by
  unfold mX0_standOf
  rw [h0, h1]
  show nI c * nI 4 + nI f = _
  rw [nI_mul, nI_add, Nat.mul_comm]
theorem pq_fewestBySpreading : pl_fewestBySpreading PRx := by
  intro σ xs i hP
  obtain ⟨p1, p2, p3, p4, p5⟩ := hP
  have p1' := p1
  obtain ⟨K, t, f0, f1, m, hV, hS, hk, hB0, hB1, -⟩ := p1'
  have hK : ∀ x, x < 36 → K x < 7 := fun x hx => (hk.1 x hx).1
  unfold mLaw_fewestBySpreading
  generalize xs (i + (1 : Int32)).toNatClampNeg = x
  generalize xs (i + (2 : Int32)).toNatClampNeg = y
  refine Classical.byContradiction fun hgoal => ?_
  have no : mL_fewestBySpreading (σ.1 3) (σ.1 5) (σ.1 7) (σ.1 33) (σ.1 34) (σ.2.1 6) x y = some (1, σ.1 33, σ.1 34, σ.2.1 6) → mX9_fewest (σ.1 35) (σ.1 37) (σ.1 47) (σ.1 48) x y = some (0, upd (σ.1 35) 0 1, σ.1 47, σ.1 48) → False := fun e1 e2 => by
    refine hgoal ⟨σ.1 33, σ.1 34, σ.2.1 6, upd (σ.1 35) 0 1, σ.1 47, σ.1 48, ?_, p1, p2, p3, p4, p5⟩
    unfold mX9_fewestBySpreading
    rw [e1, bo4_some, e2, bo4_some, bo4_some]
    show (if (1 : Int32) = 1 then (if (1 : Int32) = 0 then _ else _) else _) = _
    rw [if_pos rfl, if_neg ne10]
  rcases rng_or 2 (by decide) (by decide) x with ⟨r, hr, rfl⟩ | hx
  · rcases rng_or 36 (by decide) (by decide) y with ⟨c, hc, rfl⟩ | hy
    · rcases (show r = 0 ∨ r = 1 by omega) with rfl | rfl
      · obtain ⟨a, ds1, rc1, a1, a2⟩ := (v_spread (s0 := 4 * t.2.1 + f0) (cell := c) hV.1 hK (by have := hk.2.1; have := hB0.2.2.1.1; omega) hc (σ.1 33) (σ.1 34)).1
        obtain ⟨a', vfr', vrw', g1, g2⟩ := g_few (σ.1 35) (σ.1 47) (σ.1 48) hS hK (r := 0) (by decide) hk.2.1 hB0.2.2.1.1 hc ((g_of (σ.1 37) (r := 0) (k := 0) (by decide) (by decide)).trans (congrArg some hS.2.1)) ((g_of (σ.1 37) (r := 0) (k := 1) (by decide) (by decide)).trans (congrArg some hB0.2.1.1))
        have eA := ANS_one g2 a2
        subst eA
        have eV : mL_fewestBySpreading (σ.1 3) (σ.1 5) (σ.1 7) (σ.1 33) (σ.1 34) (σ.2.1 6) (nI 0) (nI c) = some (0, ds1, rc1, vp_updL (σ.2.1 6) 0 a'.toInt64) := by
          unfold mL_fewestBySpreading mX8_fewestBySpreading
          rw [v_rob_in hr, bx1_l, v_cell_in hc, bx1_l, if_pos (show nI 0 = 0 from rfl), v_standOf hV.2.2.1 hB0.1, a1, bo3_some, bo1_some, bh3_l]
          rfl
        refine hgoal ⟨ds1, rc1, vp_updL (σ.2.1 6) 0 a'.toInt64, upd (σ.1 35) 0 0, vfr', vrw', ?_, p1, p2, p3, p4, p5⟩
        unfold mX9_fewestBySpreading
        rw [eV, bo4_some, g1, bo4_some, bo4_some]
        show (if (0 : Int32) = 0 then (if (0 : Int32) = 0 then (if lg_cmp a'.toInt64 a'.toInt64 = 0 then _ else _) else _) else _) = _
        rw [if_pos rfl, if_pos rfl, if_pos (lg_eq.mpr rfl)]
      · obtain ⟨a, ds1, rc1, a1, a2⟩ := (v_spread (s0 := 4 * t.2.2 + f1) (cell := c) hV.1 hK (by have := hk.2.2.1; have := hB1.2.2.1.1; omega) hc (σ.1 33) (σ.1 34)).1
        obtain ⟨a', vfr', vrw', g1, g2⟩ := g_few (σ.1 35) (σ.1 47) (σ.1 48) hS hK (r := 1) (by decide) hk.2.2.1 hB1.2.2.1.1 hc ((g_of (σ.1 37) (r := 1) (k := 0) (by decide) (by decide)).trans (congrArg some hS.2.2)) ((g_of (σ.1 37) (r := 1) (k := 1) (by decide) (by decide)).trans (congrArg some hB1.2.1.1))
        have eA := ANS_one g2 a2
        subst eA
        have eV : mL_fewestBySpreading (σ.1 3) (σ.1 5) (σ.1 7) (σ.1 33) (σ.1 34) (σ.2.1 6) (nI 1) (nI c) = some (0, ds1, rc1, vp_updL (σ.2.1 6) 0 a'.toInt64) := by
          unfold mL_fewestBySpreading mX8_fewestBySpreading
          rw [v_rob_in hr, bx1_l, v_cell_in hc, bx1_l, if_neg (show ¬ nI 1 = 0 by decide), v_standOf hV.2.2.2 hB1.1, a1, bo3_some, bo1_some, bh3_l]
          rfl
        refine hgoal ⟨ds1, rc1, vp_updL (σ.2.1 6) 0 a'.toInt64, upd (σ.1 35) 0 0, vfr', vrw', ?_, p1, p2, p3, p4, p5⟩
        unfold mX9_fewestBySpreading
        rw [eV, bo4_some, g1, bo4_some, bo4_some]
        show (if (0 : Int32) = 0 then (if (0 : Int32) = 0 then (if lg_cmp a'.toInt64 a'.toInt64 = 0 then _ else _) else _) else _) = _
        rw [if_pos rfl, if_pos rfl, if_pos (lg_eq.mpr rfl)]
    · refine no ?_ (g_fewN2 hr hy _ _ _ _)
      unfold mL_fewestBySpreading mX8_fewestBySpreading
      rw [v_rob_in hr, bx1_l, v_cell_out hy, bx1_r, bo1_some, bh3_r, if_pos rfl]
  · refine no ?_ (g_fewN1 hx _ _ _ _ _)
    unfold mL_fewestBySpreading mX8_fewestBySpreading
    rw [v_rob_out hx, bx1_r, bo1_some, bh3_r, if_pos rfl]
theorem pq_fewestBySweeping : pl_fewestBySweeping PRx := by
  intro σ xs i hP
  obtain ⟨p1, p2, p3, p4, p5⟩ := hP
  have p1' := p1
  obtain ⟨K, t, f0, f1, m, hV, hS, hk, hB0, hB1, -⟩ := p1'
  have hK : ∀ x, x < 36 → K x < 7 := fun x hx => (hk.1 x hx).1
  unfold mLaw_fewestBySweeping
  generalize xs (i + (1 : Int32)).toNatClampNeg = x
  generalize xs (i + (2 : Int32)).toNatClampNeg = y
  refine Classical.byContradiction fun hgoal => ?_
  have no : mL_fewestBySweeping (σ.1 3) (σ.1 5) (σ.1 7) (σ.1 33) (σ.2.1 6) x y = some (1, σ.1 33, σ.2.1 6) → mX9_fewest (σ.1 35) (σ.1 37) (σ.1 47) (σ.1 48) x y = some (0, upd (σ.1 35) 0 1, σ.1 47, σ.1 48) → False := fun e1 e2 => by
    refine hgoal ⟨σ.1 33, σ.2.1 6, upd (σ.1 35) 0 1, σ.1 47, σ.1 48, ?_, p1, p2, p3, p4, p5⟩
    unfold mX9_fewestBySweeping
    rw [e1, bo3_some, e2, bo4_some, bo4_some]
    show (if (1 : Int32) = 1 then (if (1 : Int32) = 0 then _ else _) else _) = _
    rw [if_pos rfl, if_neg ne10]
  rcases rng_or 2 (by decide) (by decide) x with ⟨r, hr, rfl⟩ | hx
  · rcases rng_or 36 (by decide) (by decide) y with ⟨c, hc, rfl⟩ | hy
    · rcases (show r = 0 ∨ r = 1 by omega) with rfl | rfl
      · obtain ⟨a, ds1, a1, a2⟩ := v_sweep (s0 := 4 * t.2.1 + f0) (cell := c) hV.1 hK (by have := hk.2.1; have := hB0.2.2.1.1; omega) hc (σ.1 33)
        obtain ⟨a', vfr', vrw', g1, g2⟩ := g_few (σ.1 35) (σ.1 47) (σ.1 48) hS hK (r := 0) (by decide) hk.2.1 hB0.2.2.1.1 hc ((g_of (σ.1 37) (r := 0) (k := 0) (by decide) (by decide)).trans (congrArg some hS.2.1)) ((g_of (σ.1 37) (r := 0) (k := 1) (by decide) (by decide)).trans (congrArg some hB0.2.1.1))
        have eA := ANS_one g2 a2
        subst eA
        have eV : mL_fewestBySweeping (σ.1 3) (σ.1 5) (σ.1 7) (σ.1 33) (σ.2.1 6) (nI 0) (nI c) = some (0, ds1, vp_updL (σ.2.1 6) 0 a'.toInt64) := by
          unfold mL_fewestBySweeping mX8_fewestBySweeping
          rw [v_rob_in hr, bx1_l, v_cell_in hc, bx1_l, if_pos (show nI 0 = 0 from rfl), v_standOf hV.2.2.1 hB0.1, a1, bo2_some, bo1_some, bh2_l]
          rfl
        refine hgoal ⟨ds1, vp_updL (σ.2.1 6) 0 a'.toInt64, upd (σ.1 35) 0 0, vfr', vrw', ?_, p1, p2, p3, p4, p5⟩
        unfold mX9_fewestBySweeping
        rw [eV, bo3_some, g1, bo4_some, bo4_some]
        show (if (0 : Int32) = 0 then (if (0 : Int32) = 0 then (if lg_cmp a'.toInt64 a'.toInt64 = 0 then _ else _) else _) else _) = _
        rw [if_pos rfl, if_pos rfl, if_pos (lg_eq.mpr rfl)]
      · obtain ⟨a, ds1, a1, a2⟩ := v_sweep (s0 := 4 * t.2.2 + f1) (cell := c) hV.1 hK (by have := hk.2.2.1; have := hB1.2.2.1.1; omega) hc (σ.1 33)
        obtain ⟨a', vfr', vrw', g1, g2⟩ := g_few (σ.1 35) (σ.1 47) (σ.1 48) hS hK (r := 1) (by decide) hk.2.2.1 hB1.2.2.1.1 hc ((g_of (σ.1 37) (r := 1) (k := 0) (by decide) (by decide)).trans (congrArg some hS.2.2)) ((g_of (σ.1 37) (r := 1) (k := 1) (by decide) (by decide)).trans (congrArg some hB1.2.1.1))
        have eA := ANS_one g2 a2
        subst eA
        have eV : mL_fewestBySweeping (σ.1 3) (σ.1 5) (σ.1 7) (σ.1 33) (σ.2.1 6) (nI 1) (nI c) = some (0, ds1, vp_updL (σ.2.1 6) 0 a'.toInt64) := by
          unfold mL_fewestBySweeping mX8_fewestBySweeping
          rw [v_rob_in hr, bx1_l, v_cell_in hc, bx1_l, if_neg (show ¬ nI 1 = 0 by decide), v_standOf hV.2.2.2 hB1.1, a1, bo2_some, bo1_some, bh2_l]
          rfl
        refine hgoal ⟨ds1, vp_updL (σ.2.1 6) 0 a'.toInt64, upd (σ.1 35) 0 0, vfr', vrw', ?_, p1, p2, p3, p4, p5⟩
        unfold mX9_fewestBySweeping
        rw [eV, bo3_some, g1, bo4_some, bo4_some]
        show (if (0 : Int32) = 0 then (if (0 : Int32) = 0 then (if lg_cmp a'.toInt64 a'.toInt64 = 0 then _ else _) else _) else _) = _
        rw [if_pos rfl, if_pos rfl, if_pos (lg_eq.mpr rfl)]
    · refine no ?_ (g_fewN2 hr hy _ _ _ _)
      unfold mL_fewestBySweeping mX8_fewestBySweeping
      rw [v_rob_in hr, bx1_l, v_cell_out hy, bx1_r, bo1_some, bh2_r, if_pos rfl]
  · refine no ?_ (g_fewN1 hx _ _ _ _ _)
    unfold mL_fewestBySweeping mX8_fewestBySweeping
    rw [v_rob_out hx, bx1_r, bo1_some, bh2_r, if_pos rfl]
