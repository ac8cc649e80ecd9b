/-! The reference's search, the class's spreading -/
theorem bk_all {K : Nat → Nat} {lab : Nat → Option Nat} {q : Nat → Nat} {m k : Nat} (hK : BK K lab q m k 5) : ∀ j, j < k + 1 → ∀ i, i < 5 → ∀ u, stp K (q j) i = some u → ∃ d e, lab (q j) = some d ∧ lab u = some e ∧ e ≤ d + 1 := by
  intro j hj i hi u hu
  obtain ⟨h1, d, h2, h3, h4⟩ := hK
  by_cases e : j = k
  · subst e
    obtain ⟨x, x1, x2⟩ := h4 i hi u hu
    exact ⟨d, x, h2, x1, x2⟩
  · exact h1 j (by omega) i hi u hu
theorem opI_none144 {o : Option Nat} (h : ∀ x, o = some x → x < 144) : opI o = -1 ↔ o = none := by
  cases o with
  | none => exact ⟨fun _ => rfl, fun _ => rfl⟩
  | some d => exact ⟨fun q => absurd q (ne_neg144 d (h d rfl)), fun q => by cases q⟩
theorem BI_lab {K : Nat → Nat} {s0 : Nat} {lab : Nat → Option Nat} {q : Nat → Nat} {m : Nat} (hB : BI K s0 lab q m) {u d : Nat} (hu : u < 144) (h : lab u = some d) : d < 144 := by
  obtain ⟨-, j, j1, j2⟩ := hB.2.2.2.2.1 u d hu h
  obtain ⟨-, e, e1, e2⟩ := hB.2.2.2.1 j j1
  rw [j2, h] at e1; cases e1
  have := hB.2.2.2.2.2.2
  have := fb_ct_le (fun u => (lab u).isSome) 144
  omega
theorem BI_m {K : Nat → Nat} {s0 : Nat} {lab : Nat → Option Nat} {q : Nat → Nat} {m : Nat} (hB : BI K s0 lab q m) : m ≤ 144 := by
  have := hB.2.2.2.2.2.2
  have := fb_ct_le (fun u => (lab u).isSome) 144
  omega
theorem g_few1 {K : Nat → Nat} {C : Nat → Bool} {c0 c1 s0 cell k : Nat} {mi vnw : Nat → Int32} (hS : RS vnw K C c0 c1) (hK : ∀ x, x < 36 → K x < 7) (k94 : (Nat → Int32) → (Nat → Int32) → (Nat → Int32) → (Nat → Int32) → Int32 → Int32 → Int32 → Option (Int32 × (Nat → Int32) × (Nat → Int32) × (Nat → Int32))) :
    ∀ (j n i : Nat) (lab : Nat → Option Nat) (q : Nat → Nat) (m : Nat) (vfr vrw : Nat → Int32), j < n → i + j = 5 → BI K s0 lab q m → k < m → BK K lab q m k i → (∀ u, u < 144 → vfr u = opI (lab u)) → (∀ j, j < m → vrw j = nI (q j)) →
      ∃ lab' q' m' vfr' vrw', mX9_fewest_L129 k94 n mi vnw vfr vrw (nI cell) (nI m) (nI k) (nI i) = k94 mi vnw vfr' vrw' (nI cell) (nI m') (nI (k + 1)) ∧ BI K s0 lab' q' m' ∧ k < m' ∧ BK K lab' q' m' k 5 ∧ (∀ u, u < 144 → vfr' u = opI (lab' u)) ∧ (∀ j, j < m' → vrw' j = nI (q' j)) ∧ ∀ j, j < m → q' j = q j := by
  intro j
  induction j with
  | zero =>
    intro n i lab q m vfr vrw hn hi hB hk hBK hf hr
    obtain ⟨n, rfl⟩ : ∃ m, n = m + 1 := ⟨n - 1, by omega⟩
    obtain rfl : i = 5 := by omega
    refine ⟨lab, q, m, vfr, vrw, ?_, hB, hk, hBK, hf, hr, fun _ _ => rfl⟩
    unfold mX9_fewest_L129
    rw [if_pos (by decide), nI_1]
  | succ j ih =>
    intro n i lab q m vfr vrw hn hi hB hk hBK hf hr
    obtain ⟨n, rfl⟩ : ∃ m, n = m + 1 := ⟨n - 1, by omega⟩
    have hm := BI_m hB
    have hqk := (hB.2.2.2.1 k hk).1
    have h5 : ¬ ((5 : Int32) ≤ nI i) := nI_leF (b := 5) (by omega) (by decide) (by omega)
    have stay : (∀ u, stp K (q k) i = some u → ∃ e, lab u = some e) → ∃ lab' q' m' vfr' vrw', mX9_fewest_J202 k94 (fun mi vnw vfr vrw l2 l3 l4 l5 => mX9_fewest_L129 k94 n mi vnw vfr vrw l2 l3 l4 l5) mi vnw vfr vrw (nI cell) (nI m) (nI k) (nI i) = k94 mi vnw vfr' vrw' (nI cell) (nI m') (nI (k + 1)) ∧ BI K s0 lab' q' m' ∧ k < m' ∧ BK K lab' q' m' k 5 ∧ (∀ u, u < 144 → vfr' u = opI (lab' u)) ∧ (∀ j, j < m' → vrw' j = nI (q' j)) ∧ ∀ j, j < m → q' j = q j := fun h => by
      unfold mX9_fewest_J202
      rw [nI_1]
      exact ih n (i + 1) lab q m vfr vrw (by omega) (by omega) hB hk (bfs_old hB hk hBK h) hf hr
    unfold mX9_fewest_L129
    rw [if_neg h5, if_pos (g_idx (by omega) 144 (by omega)), nI_clamp (by omega), hr k hk, g_brings hS hK hqk (by omega), bo1_some]
    cases hst : stp K (q k) i with
    | none =>
      rw [if_pos (show opI none = (-1 : Int32) from rfl)]
      exact stay (fun u hu => by rw [hst] at hu; cases hu)
    | some u =>
      have hu := stp_lt hqk i u hst
      rw [opI_some, if_neg (ne_neg144 u hu), if_pos (g_idx (by omega) 144 hu), nI_clamp (by omega), hf u hu]
      cases hl : lab u with
      | some e =>
        have he := BI_lab hB hu hl
        rw [opI_some, if_neg (ne_neg144 e he)]
        exact stay (fun u' hu' => by rw [hst] at hu'; cases hu'; exact ⟨e, hl⟩)
      | none =>
        obtain ⟨-, d, hd, -⟩ := hB.2.2.2.1 k hk
        obtain ⟨m1, m2, m3⟩ := bfs_new hB hk (show i < 5 by omega) hBK hd hst hl
        rw [if_pos (show opI none = (-1 : Int32) from rfl), if_pos (g_idx (by omega) 144 hqk), if_pos (g_idx (by omega) 144 m1), nI_clamp (by omega), nI_clamp (by omega), hf _ hqk, hd]
        unfold mX9_fewest_J202
        show ∃ lab' q' m' vfr' vrw', mX9_fewest_L129 k94 n mi vnw (upd vfr u (nI d + 1)) (upd vrw m (nI u)) (nI cell) (nI m + 1) (nI k) (nI i + 1) = _ ∧ _
        rw [nI_1, nI_1, nI_1]
        obtain ⟨lab', q', m', vfr', vrw', a1, a2, a3, a4, a5, a6, a7⟩ := ih n (i + 1) _ _ (m + 1) (upd vfr u (nI (d + 1))) (upd vrw m (nI u)) (by omega) (by omega) m2 (by omega) m3 (fun x hx => by
          show upd vfr u (nI (d + 1)) x = opI (if x = u then some (d + 1) else lab x)
          by_cases e : x = u
          · rw [if_pos e]; exact if_pos e
          · rw [if_neg e]; exact (if_neg e).trans (hf x hx)) (fun x hx => by
          show upd vrw m (nI u) x = nI (if x = m then u else q x)
          by_cases e : x = m
          · rw [if_pos e]; exact if_pos e
          · rw [if_neg e]; exact (if_neg e).trans (hr x (by omega)))
        exact ⟨lab', q', m', vfr', vrw', a1, a2, a3, a4, a5, a6, fun x hx => (a7 x (by omega)).trans (if_neg (by omega))⟩
theorem g_few2 {K : Nat → Nat} {C : Nat → Bool} {c0 c1 s0 cell : Nat} {mi vnw : Nat → Int32} (hS : RS vnw K C c0 c1) (hK : ∀ x, x < 36 → K x < 7) (hs : s0 < 144) (hc : cell < 36) :
    ∀ (j n k : Nat) (lab : Nat → Option Nat) (q : Nat → Nat) (m : Nat) (vfr vrw : Nat → Int32), j < n → k + j = 144 → BI K s0 lab q m → k < m → BK K lab q m k 0 → (∀ j, j < k → q j / 4 ≠ cell) → (∀ u, u < 144 → vfr u = opI (lab u)) → (∀ j, j < m → vrw j = nI (q j)) →
      ∃ a vfr' vrw', mX9_fewest_L94 n mi vnw vfr vrw (nI cell) (nI m) (nI k) = some (a, mi, vfr', vrw') ∧ ANS K s0 cell a := by
  intro j
  induction j with
  | zero =>
    intro n k lab q m vfr vrw hn hk hB hkm
    have := BI_m hB
    omega
  | succ j ih =>
    intro n k lab q m vfr vrw hn hk hB hkm hBK hno hf hr
    obtain ⟨n, rfl⟩ : ∃ m, n = m + 1 := ⟨n - 1, by omega⟩
    have hm := BI_m hB
    have hqk := (hB.2.2.2.1 k hkm).1
    have hle : ¬ nI m ≤ nI k := nI_leF (by omega) (by omega) hkm
    have ed : nI (q k) / (4 : Int32) = nI (q k / 4) := nI_div (b := 4) (by omega) (by decide)
    have hce : nI (q k / 4) = nI cell ↔ q k / 4 = cell := nI_inj (by omega) (by omega)
    unfold mX9_fewest_L94
    rw [if_neg hle, if_pos (g_idx (by omega) 144 (by omega)), nI_clamp (by omega), hr k hkm, ed]
    by_cases hq : q k / 4 = cell
    · rw [if_pos (hce.mpr hq), if_pos (g_idx (by omega) 144 hqk), nI_clamp (by omega), hf _ hqk]
      obtain ⟨h1, d, h2, h3, h4⟩ := hBK
      refine ⟨_, vfr, vrw, rfl, Or.inl ⟨d, BI_lab hB hqk h2, by rw [h2]; rfl, ⟨q k % 4, Nat.mod_lt _ (by decide), ?_⟩, fun l hl f hf4 hr4 => ?_⟩⟩
      · have : 4 * cell + q k % 4 = q k := by omega
        rw [this]
        exact (hB.2.2.2.2.1 _ _ hqk h2).1
      · obtain ⟨a, e, b, c⟩ := bfs_full hB h1 hs l (fun d' _ hd' => by rw [h2] at hd'; cases hd'; omega) (by omega) _ hr4
        obtain ⟨x, x1, x2⟩ := (hB.2.2.2.2.1 _ e a b).2
        have hxk : x < k := Classical.byContradiction fun z => by
          have := hB.2.2.2.2.2.1 k x d e (by omega) x1 h2 (by rw [x2]; exact b)
          omega
        exact hno x hxk (by rw [x2]; omega)
    · rw [if_neg (fun z => hq (hce.mp z))]
      obtain ⟨lab', q', m', vfr', vrw', a1, a2, a3, a4, a5, a6, a7⟩ := g_few1 (mi := mi) (cell := cell) hS hK (fun mi vnw vfr vrw l2 l3 l4 => mX9_fewest_L94 n mi vnw vfr vrw l2 l3 l4) 5 4096 0 lab q m vfr vrw (by decide) (by decide) hB hkm hBK hf hr
      have hno' : ∀ j, j < k + 1 → q' j / 4 ≠ cell := fun j hj => by
        rw [a7 j (by omega)]
        by_cases e : j = k
        · rw [e]; exact hq
        · exact hno j (by omega)
      suffices hh : ∃ a vfr'' vrw'', mX9_fewest_L94 n mi vnw vfr' vrw' (nI cell) (nI m') (nI (k + 1)) = some (a, mi, vfr'', vrw'') ∧ ANS K s0 cell a from by
        obtain ⟨a, x, y, e, z⟩ := hh
        exact ⟨a, x, y, a1.trans e, z⟩
      by_cases hk1 : k + 1 < m'
      · exact ih n (k + 1) lab' q' m' vfr' vrw' (by omega) (by omega) a2 hk1 (bfs_next a2 a4 hk1) hno' a5 a6
      · obtain rfl : m' = k + 1 := by omega
        cases n with
        | zero => omega
        | succ n =>
          unfold mX9_fewest_L94
          rw [if_pos ((pu_le (by omega) (by omega)).mpr (Nat.le_refl _))]
          refine ⟨_, _, _, rfl, Or.inr ⟨rfl, fun l f hf4 hr4 => ?_⟩⟩
          obtain ⟨a, e, b, c⟩ := bfs_full a2 (bk_all a4) hs l (fun d h _ => absurd h (Nat.lt_irrefl _)) (Nat.le_refl _) _ hr4
          obtain ⟨x, x1, x2⟩ := (a2.2.2.2.2.1 _ e a b).2
          exact hno' x x1 (by rw [x2]; omega)
theorem g_few3 {K : Nat → Nat} {C : Nat → Bool} {c0 c1 r own f cell : Nat} {mi vnw : Nat → Int32} (hS : RS vnw K C c0 c1) (hK : ∀ x, x < 36 → K x < 7) (hr : r < 2) (ho : own < 36) (hf : f < 4) (hc : cell < 36) (e0 : mX9_of vnw (nI r) (0 : Int32) = some (nI own)) (e1 : mX9_of vnw (nI r) (1 : Int32) = some (nI f)) :
    ∀ (j n i : Nat) (vfr vrw : Nat → Int32), j < n → i + j = 144 → (∀ u, u < i → vfr u = -1) → ∃ a vfr' vrw', mX9_fewest_L30 n mi vnw vfr vrw (nI r) (nI cell) (nI i) = some (a, mi, vfr', vrw') ∧ ANS K (4 * own + f) cell a := by
  intro j
  induction j with
  | zero =>
    intro n i vfr vrw hn hi hv
    obtain ⟨n, rfl⟩ : ∃ m, n = m + 1 := ⟨n - 1, by omega⟩
    obtain rfl : i = 144 := by omega
    have hs : 4 * own + f < 144 := by omega
    have ee : ((4 : Int32) * nI own) + nI f = nI (4 * own + f) := by
      show nI 4 * nI own + nI f = _
      rw [nI_mul, nI_add]
    obtain ⟨b1, b2⟩ := BI_0 (K := K) hs (fun _ => 4 * own + f) rfl
    obtain ⟨a, vfr', vrw', a1, a2⟩ := g_few2 (mi := mi) (cell := cell) hS hK hs hc 144 4096 0 _ _ 1 (upd vfr (4 * own + f) 0) (upd vrw 0 (nI (4 * own + f))) (by decide) (by decide) b1 (by decide) b2 (fun j hj => absurd hj (Nat.not_lt_zero j)) (fun u hu => by
      show upd vfr (4 * own + f) 0 u = opI (if u = 4 * own + f then some 0 else none)
      by_cases e : u = 4 * own + f
      · rw [if_pos e]; exact if_pos e
      · rw [if_neg e]; exact (if_neg e).trans (hv u hu)) (fun j hj => by
      obtain rfl : j = 0 := by omega
      rfl)
    refine ⟨a, vfr', vrw', ?_, a2⟩
    have e00 : upd vrw (0 : Int32).toNatClampNeg (nI (4 * own + f)) (0 : Int32).toNatClampNeg = nI (4 * own + f) := rfl
    unfold mX9_fewest_L30
    rw [if_pos (by decide), e0, bo1_some, e1, bo1_some, ee, e00, if_pos (g_idx (by omega) 144 hs), nI_clamp (by omega)]
    exact a1
  | succ j ih =>
    intro n i vfr vrw hn hi hv
    obtain ⟨n, rfl⟩ : ∃ m, n = m + 1 := ⟨n - 1, by omega⟩
    have hle : ¬ ((144 : Int32) ≤ nI i) := nI_leF (b := 144) (by omega) (by decide) (by omega)
    unfold mX9_fewest_L30
    rw [if_neg hle, if_pos (g_idx (by omega) 144 (by omega)), nI_clamp (by omega), nI_1]
    refine ih n (i + 1) _ vrw (by omega) (by omega) (fun u hu => ?_)
    by_cases e : u = i
    · subst e; exact if_pos rfl
    · exact (if_neg e).trans (hv u (by omega))
theorem g_few {K : Nat → Nat} {C : Nat → Bool} {c0 c1 r own f cell : Nat} {vnw : Nat → Int32} (mi vfr vrw : Nat → Int32) (hS : RS vnw K C c0 c1) (hK : ∀ x, x < 36 → K x < 7) (hr : r < 2) (ho : own < 36) (hf : f < 4) (hc : cell < 36) (e0 : mX9_of vnw (nI r) (0 : Int32) = some (nI own)) (e1 : mX9_of vnw (nI r) (1 : Int32) = some (nI f)) :
    ∃ a vfr' vrw', mX9_fewest mi vnw vfr vrw (nI r) (nI cell) = some (a, upd mi 0 0, vfr', vrw') ∧ ANS K (4 * own + f) cell a := by
  obtain ⟨a, vfr', vrw', a1, a2⟩ := g_few3 (mi := upd mi 0 0) hS hK hr ho hf hc e0 e1 144 4096 0 vfr vrw (by decide) (by decide) (fun u hu => absurd hu (Nat.not_lt_zero u))
  refine ⟨a, vfr', vrw', ?_, a2⟩
  unfold mX9_fewest mX9_fewest_J20 mX9_refused
  rw [g_rob_in hr, if_neg ne10, g_cell_in hc, if_neg ne10, if_pos le00, bt2_mk, if_pos rfl]
  exact a1
theorem g_fewN1 {x : Int32} (h : ¬ ((0 : Int32) ≤ x ∧ x ≤ nI 1)) (y : Int32) (mi vnw vfr vrw : Nat → Int32) : mX9_fewest mi vnw vfr vrw x y = some (0, upd mi 0 1, vfr, vrw) := by
  unfold mX9_fewest mX9_fewest_J19 mX9_fewest_J20 mX9_refused
  rw [g_rob_out h, if_pos rfl, if_neg nle1, bt2_mk, if_neg ne10]
theorem g_fewN2 {r : Nat} (hr : r < 2) {y : Int32} (h : ¬ ((0 : Int32) ≤ y ∧ y ≤ nI 35)) (mi vnw vfr vrw : Nat → Int32) : mX9_fewest mi vnw vfr vrw (nI r) y = some (0, upd mi 0 1, vfr, vrw) := by
  unfold mX9_fewest mX9_fewest_J19 mX9_fewest_J20 mX9_refused
  rw [g_rob_in hr, if_neg ne10, g_cell_out h, if_pos rfl, if_neg nle1, bt2_mk, if_neg ne10]
/-! The class: distances as labels -/
def dsC (o : Option Nat) : Int32 := match o with
  | none => 1000000
  | some d => nI d
theorem dsC_some (d : Nat) : dsC (some d) = nI d := rfl
theorem dsC_far {o : Option Nat} (h : ∀ d, o = some d → d < 1000000) : dsC o = 1000000 ↔ o = none := by
  cases o with
  | none => exact ⟨fun _ => rfl, fun _ => rfl⟩
  | some d =>
    have hd := h d rfl
    refine ⟨fun q => ?_, fun q => by cases q⟩
    have q : nI d = nI 1000000 := q
    have := (nI_inj (by omega) (by omega)).mp q
    omega
def DS (ds : Nat → Int32) (lab : Nat → Option Nat) : Prop := ∀ u, u < 144 → ds u = dsC (lab u)
theorem v_dist {ds : Nat → Int32} {lab : Nat → Option Nat} (h : DS ds lab) {u : Nat} (hu : u < 144) : mX0_distance ds (nI u) = dsC (lab u) := by
  unfold mX0_distance
  rw [if_neg (lt0_nI (by omega)), if_neg (show ¬ ((144 : Int32) ≤ nI u) from nI_leF (b := 144) (by omega) (by decide) hu), nI_clamp (by omega), h u hu]
theorem v_setD {ds : Nat → Int32} {u : Nat} (hu : u < 144) (v : Int32) : mX0_setDistance ds (nI u) v = upd ds u v := by
  unfold mX0_setDistance
  rw [if_neg (lt0_nI (by omega)), if_neg (show ¬ ((144 : Int32) ≤ nI u) from nI_leF (b := 144) (by omega) (by decide) hu), nI_clamp (by omega)]
theorem DS_upd {ds : Nat → Int32} {lab : Nat → Option Nat} (h : DS ds lab) (u d : Nat) : DS (upd ds u (nI d)) (fun x => if x = u then some d else lab x) := fun x hx => by
  show upd ds u (nI d) x = dsC (if x = u then some d else lab x)
  by_cases e : x = u
  · rw [if_pos e]; exact if_pos e
  · rw [if_neg e]; exact (if_neg e).trans (h x hx)
theorem v_forget_L : ∀ (j n i : Nat) (ds : Nat → Int32), j < n → i + j = 144 → (∀ u, u < i → ds u = 1000000) → ∃ ds', mX0_forgetDistances_L2 n ds (nI i) = some ds' ∧ DS ds' (fun _ => none) := by
  intro j
  induction j with
  | zero =>
    intro n i ds hn hi h
    obtain ⟨n, rfl⟩ : ∃ m, n = m + 1 := ⟨n - 1, by omega⟩
    obtain rfl : i = 144 := by omega
    refine ⟨ds, ?_, h⟩
    unfold mX0_forgetDistances_L2
    rw [if_pos (by decide)]
  | succ j ih =>
    intro n i ds hn hi h
    obtain ⟨n, rfl⟩ : ∃ m, n = m + 1 := ⟨n - 1, by omega⟩
    have hle : ¬ ((144 : Int32) ≤ nI i) := nI_leF (b := 144) (by omega) (by decide) (by omega)
    unfold mX0_forgetDistances_L2
    rw [if_neg hle, if_pos (g_idx (by omega) 144 (by omega)), nI_clamp (by omega), nI_1]
    refine ih n (i + 1) _ (by omega) (by omega) (fun u hu => ?_)
    by_cases e : u = i
    · subst e; exact if_pos rfl
    · exact (if_neg e).trans (h u (by omega))
theorem v_forget (ds : Nat → Int32) : ∃ ds', mX0_forgetDistances ds = some ds' ∧ DS ds' (fun _ => none) := v_forget_L 144 4096 0 ds (by decide) (by decide) (fun u hu => absurd hu (Nat.not_lt_zero u))
theorem v_least_L {ds : Nat → Int32} {lab : Nat → Option Nat} {cell : Nat} (h : DS ds lab) (hb : ∀ u d, u < 144 → lab u = some d → d < 1000000) (hc : cell < 36) : ∀ (j n f : Nat) (o : Option Nat), j < n → f + j = 4 → (∀ g, g < f → ∀ d, lab (4 * cell + g) = some d → ∃ e, o = some e ∧ e ≤ d) → (∀ e, o = some e → ∃ g, g < f ∧ lab (4 * cell + g) = some e) →
      ∃ o' : Option Nat, mX0_leastDistance_L5 n ds (nI cell) (dsC o) (nI f) = some (opI o') ∧ (∀ g, g < 4 → ∀ d, lab (4 * cell + g) = some d → ∃ e, o' = some e ∧ e ≤ d) ∧ (∀ e, o' = some e → ∃ g, g < 4 ∧ lab (4 * cell + g) = some e) := by
  intro j
  induction j with
  | zero =>
    intro n f o hn hf h1 h2
    obtain ⟨n, rfl⟩ : ∃ m, n = m + 1 := ⟨n - 1, by omega⟩
    obtain rfl : f = 4 := by omega
    refine ⟨o, ?_, h1, h2⟩
    have hfar : dsC o = 1000000 ↔ o = none := dsC_far (fun d hd => by
      obtain ⟨g, g1, g2⟩ := h2 d hd
      exact hb _ d (by omega) g2)
    unfold mX0_leastDistance_L5
    rw [if_pos (by decide)]
    cases o with
    | none => rw [if_pos (hfar.mpr rfl)]; rfl
    | some e => rw [if_neg (fun q => by have := hfar.mp q; cases this)]; rfl
  | succ j ih =>
    intro n f o hn hf h1 h2
    obtain ⟨n, rfl⟩ : ∃ m, n = m + 1 := ⟨n - 1, by omega⟩
    have hle : ¬ ((4 : Int32) ≤ nI f) := nI_leF (b := 4) (by omega) (by decide) (by omega)
    have es : mX0_standOf (nI cell) (nI f) = nI (4 * cell + f) := by
      unfold mX0_standOf
      show nI cell * nI 4 + nI f = _
      rw [nI_mul, nI_add, Nat.mul_comm]
    unfold mX0_leastDistance_L5
    rw [if_neg hle, es, v_dist h (by omega), nI_1]
    have key : ∃ o2, jmin (dsC o) (dsC (lab (4 * cell + f))) = dsC o2 ∧ (∀ g, g < f + 1 → ∀ d, lab (4 * cell + g) = some d → ∃ e, o2 = some e ∧ e ≤ d) ∧ (∀ e, o2 = some e → ∃ g, g < f + 1 ∧ lab (4 * cell + g) = some e) := by
      have ob : ∀ e, o = some e → e < 1000000 := fun e he => by
        obtain ⟨g, g1, g2⟩ := h2 e he
        exact hb _ e (by omega) g2
      unfold jmin
      cases hl : lab (4 * cell + f) with
      | none =>
        have hnl : ¬ dsC none < dsC o := by
          cases o with
          | none => exact Int32.lt_irrefl
          | some e =>
            have := ob e rfl
            exact fun q => by
              have q1 : nI 1000000 < nI e := q
              rw [pu_lt (by omega) (by omega)] at q1
              omega
        rw [if_neg hnl]
        refine ⟨o, rfl, fun g hg d hd => ?_, fun e he => ?_⟩
        · by_cases eg : g = f
          · rw [eg, hl] at hd; cases hd
          · exact h1 g (by omega) d hd
        · obtain ⟨g, g1, g2⟩ := h2 e he
          exact ⟨g, by omega, g2⟩
      | some d =>
        have hd := hb _ d (by omega) hl
        by_cases q : dsC (some d) < dsC o
        · rw [if_pos q]
          refine ⟨some d, rfl, fun g hg x hx => ?_, fun e he => ?_⟩
          · by_cases eg : g = f
            · rw [eg, hl] at hx; cases hx
              exact ⟨d, rfl, Nat.le_refl d⟩
            · obtain ⟨e, e1, e2⟩ := h1 g (by omega) x hx
              have := ob e e1
              rw [e1] at q
              have q1 : nI d < nI e := q
              rw [pu_lt (by omega) (by omega)] at q1
              exact ⟨d, rfl, by omega⟩
          · cases he; exact ⟨f, by omega, hl⟩
        · rw [if_neg q]
          refine ⟨o, rfl, fun g hg x hx => ?_, fun e he => ?_⟩
          · by_cases eg : g = f
            · rw [eg, hl] at hx; cases hx
              cases o with
              | none =>
                exact absurd (show nI d < nI 1000000 from (pu_lt (by omega) (by omega)).mpr hd) q
              | some e =>
                have := ob e rfl
                refine ⟨e, rfl, Classical.byContradiction fun z => q (show nI d < nI e from (pu_lt (by omega) (by omega)).mpr (by omega))⟩
            · exact h1 g (by omega) x hx
          · obtain ⟨g, g1, g2⟩ := h2 e he
            exact ⟨g, by omega, g2⟩
    obtain ⟨o2, k1, k2, k3⟩ := key
    rw [k1]
    exact ih n (f + 1) o2 (by omega) (by omega) k2 k3
/-- labels that are right give the answer -/
theorem v_least {K : Nat → Nat} {s0 cell : Nat} {ds : Nat → Int32} {lab : Nat → Option Nat} (h : DS ds lab) (hb : ∀ u d, u < 144 → lab u = some d → d < 1000000) (hc : cell < 36) (hsound : ∀ u d, u < 144 → lab u = some d → Rch K s0 d u) (hfull : ∀ n, n ≤ 143 → ∀ u, u < 144 → Rch K s0 n u → ∃ e, lab u = some e ∧ e ≤ n) (htop : ∀ n u, u < 144 → Rch K s0 n u → Rch K s0 143 u) :
    ∃ a, mX0_leastDistance ds (nI cell) = some a ∧ ANS K s0 cell a := by
  obtain ⟨o, e1, e2, e3⟩ := v_least_L h hb hc 4 4096 0 none (by decide) (by decide) (fun g hg => absurd hg (Nat.not_lt_zero g)) (fun e he => by cases he)
  refine ⟨opI o, e1, ?_⟩
  cases o with
  | none =>
    refine Or.inr ⟨rfl, fun l f hf hr => ?_⟩
    obtain ⟨e, x1, x2⟩ := hfull 143 (by decide) _ (by omega) (htop l _ (by omega) hr)
    obtain ⟨y, y1, y2⟩ := e2 f hf e x1
    cases y1
  | some e =>
    obtain ⟨g, g1, g2⟩ := e3 e rfl
    have hr := hsound _ e (by omega) g2
    obtain ⟨x, x1, x2⟩ := hfull 143 (by decide) _ (by omega) (htop e _ (by omega) hr)
    rw [g2] at x1; cases x1
    refine Or.inl ⟨e, by omega, rfl, ⟨g, g1, hr⟩, fun l hl f hf hrl => ?_⟩
    obtain ⟨x, x1, x3⟩ := hfull l (by omega) _ (by omega) hrl
    obtain ⟨y, y1, y2⟩ := e2 f hf x x1
    cases y1
    omega
theorem v_spr1 {K : Nat → Nat} {vk : Nat → Int32} {s0 k : Nat} {l3 : Int32} (hv : ∀ x, x < 36 → vk x = nI (K x)) (hK : ∀ x, x < 36 → K x < 7) (k23 : (Nat → Int32) → (Nat → Int32) → (Nat → Int32) → Int32 → Int32 → Int32 → Option (Int32 × (Nat → Int32) × (Nat → Int32))) :
    ∀ (j n i : Nat) (lab : Nat → Option Nat) (q : Nat → Nat) (m : Nat) (ds rc : Nat → Int32), j < n → i + j = 5 → BI K s0 lab q m → k < m → BK K lab q m k i → DS ds lab → (∀ j, j < m → rc j = nI (q j)) →
      ∃ lab' q' m' ds' rc', mX0_spread_L52 k23 n ds rc vk l3 (nI m) (nI k) (nI (q k)) (nI i) = k23 ds' rc' vk l3 (nI m') (nI (k + 1)) ∧ BI K s0 lab' q' m' ∧ k < m' ∧ BK K lab' q' m' k 5 ∧ DS ds' lab' ∧ (∀ j, j < m' → rc' j = nI (q' j)) := by
  intro j
  induction j with
  | zero =>
    intro n i lab q m ds rc hn hi hB hk hBK hf hr
    obtain ⟨n, rfl⟩ : ∃ m, n = m + 1 := ⟨n - 1, by omega⟩
    obtain rfl : i = 5 := by omega
    refine ⟨lab, q, m, ds, rc, ?_, hB, hk, hBK, hf, hr⟩
    unfold mX0_spread_L52
    rw [if_pos (by decide), nI_1]
  | succ j ih =>
    intro n i lab q m ds rc hn hi hB hk hBK hf hr
    obtain ⟨n, rfl⟩ : ∃ m, n = m + 1 := ⟨n - 1, by omega⟩
    have hm := BI_m hB
    have hqk := (hB.2.2.2.1 k hk).1
    have h5 : ¬ ((4 : Int32) < nI i) := fun z => by
      have z1 : nI 4 < nI i := z
      rw [pu_lt (by omega) (by omega)] at z1
      omega
    have stay : (∀ u, stp K (q k) i = some u → ∃ e, lab u = some e) → ∃ lab' q' m' ds' rc', mX0_spread_J121 k23 (fun ds rc vk l3 l4 l5 l6 l7 => mX0_spread_L52 k23 n ds rc vk l3 l4 l5 l6 l7) ds rc vk l3 (nI m) (nI k) (nI (q k)) (nI i) = k23 ds' rc' vk l3 (nI m') (nI (k + 1)) ∧ BI K s0 lab' q' m' ∧ k < m' ∧ BK K lab' q' m' k 5 ∧ DS ds' lab' ∧ (∀ j, j < m' → rc' j = nI (q' j)) := fun h => by
      unfold mX0_spread_J121
      rw [nI_1]
      exact ih n (i + 1) lab q m ds rc (by omega) (by omega) hB hk (bfs_old hB hk hBK h) hf hr
    unfold mX0_spread_L52
    rw [if_neg h5, v_standAfter hv hK hqk (by omega)]
    cases hst : stp K (q k) i with
    | none =>
      rw [if_pos (show opI none = (-1 : Int32) from rfl)]
      exact stay (fun u hu => by rw [hst] at hu; cases hu)
    | some u =>
      have hu := stp_lt hqk i u hst
      have hfar : dsC (lab u) = 1000000 ↔ lab u = none := dsC_far (fun d hd => by have := BI_lab hB hu hd; omega)
      rw [opI_some, if_neg (ne_neg144 u hu), v_dist hf hu]
      cases hl : lab u with
      | some e =>
        rw [hl] at hfar
        rw [if_neg (fun z => by have := hfar.mp z; cases this)]
        exact stay (fun u' hu' => by rw [hst] at hu'; cases hu'; exact ⟨e, hl⟩)
      | none =>
        rw [hl] at hfar
        obtain ⟨-, d, hd, -⟩ := hB.2.2.2.1 k hk
        obtain ⟨m1, m2, m3⟩ := bfs_new hB hk (show i < 5 by omega) hBK hd hst hl
        rw [if_pos (hfar.mpr rfl), if_neg (show ¬ ((144 : Int32) ≤ nI m) from nI_leF (b := 144) (by omega) (by decide) m1), v_dist hf hqk, hd, dsC_some, nI_1, v_setD hu]
        show ∃ lab' q' m' ds' rc', (if ¬ (nI m < 0 ∨ 144 ≤ (nI m).toNatClampNeg) then _ else _) = _ ∧ _
        rw [if_pos (g_idx (by omega) 144 m1), nI_clamp (by omega)]
        unfold mX0_spread_J121
        rw [nI_1, nI_1]
        have hqq : (if k = m then u else q k) = q k := if_neg (by omega)
        obtain ⟨lab', q', m', ds', rc', a1, a2, a3, a4, a5, a6⟩ := ih n (i + 1) _ _ (m + 1) (upd ds u (nI (d + 1))) (upd rc m (nI u)) (by omega) (by omega) m2 (by omega) m3 (DS_upd hf u (d + 1)) (fun x hx => by
          show upd rc m (nI u) x = nI (if x = m then u else q x)
          by_cases e : x = m
          · rw [if_pos e]; exact if_pos e
          · rw [if_neg e]; exact (if_neg e).trans (hr x (by omega)))
        have a1 : mX0_spread_L52 k23 n (upd ds u (nI (d + 1))) (upd rc m (nI u)) vk l3 (nI (m + 1)) (nI k) (nI (if k = m then u else q k)) (nI (i + 1)) = _ := a1
        rw [hqq] at a1
        exact ⟨lab', q', m', ds', rc', a1, a2, a3, a4, a5, a6⟩
theorem v_spr2 {K : Nat → Nat} {vk : Nat → Int32} {s0 : Nat} {l3 : Int32} (hv : ∀ x, x < 36 → vk x = nI (K x)) (hK : ∀ x, x < 36 → K x < 7) :
    ∀ (j n k : Nat) (lab : Nat → Option Nat) (q : Nat → Nat) (m : Nat) (ds rc : Nat → Int32), j < n → k + j = 144 → BI K s0 lab q m → k < m → BK K lab q m k 0 → DS ds lab → (∀ j, j < m → rc j = nI (q j)) →
      ∃ lab' q' m' ds' rc', mX0_spread_L23 n ds rc vk l3 (nI m) (nI k) = bo1 (mX0_leastDistance ds' l3) (fun r => some (r, ds', rc')) ∧ DS ds' lab' ∧ BI K s0 lab' q' m' ∧ ∀ j, j < m' → ∀ i, i < 5 → ∀ u, stp K (q' j) i = some u → ∃ d e, lab' (q' j) = some d ∧ lab' u = some e ∧ e ≤ d + 1 := by
  intro j
  induction j with
  | zero =>
    intro n k lab q m ds rc hn hk hB hkm
    have := BI_m hB
    omega
  | succ j ih =>
    intro n k lab q m ds rc hn hk hB hkm hBK hf hr
    obtain ⟨n, rfl⟩ : ∃ m, n = m + 1 := ⟨n - 1, by omega⟩
    have hm := BI_m hB
    have hle : ¬ nI m ≤ nI k := nI_leF (by omega) (by omega) hkm
    unfold mX0_spread_L23
    rw [if_neg hle, if_neg (show ¬ ((144 : Int32) ≤ nI k) from nI_leF (b := 144) (by omega) (by decide) (by omega)), if_pos (g_idx (by omega) 144 (by omega)), nI_clamp (by omega), hr k hkm]
    obtain ⟨lab', q', m', ds', rc', a1, a2, a3, a4, a5, a6⟩ := v_spr1 (l3 := l3) hv hK (fun ds rc vk l3 l4 l5 => mX0_spread_L23 n ds rc vk l3 l4 l5) 5 4096 0 lab q m ds rc (by decide) (by decide) hB hkm hBK hf hr
    suffices hh : ∃ lab'' q'' m'' ds'' rc'', mX0_spread_L23 n ds' rc' vk l3 (nI m') (nI (k + 1)) = bo1 (mX0_leastDistance ds'' l3) (fun r => some (r, ds'', rc'')) ∧ DS ds'' lab'' ∧ BI K s0 lab'' q'' m'' ∧ ∀ j, j < m'' → ∀ i, i < 5 → ∀ u, stp K (q'' j) i = some u → ∃ d e, lab'' (q'' j) = some d ∧ lab'' u = some e ∧ e ≤ d + 1 from by
      obtain ⟨x1, x2, x3, x4, x5, e, z⟩ := hh
      exact ⟨x1, x2, x3, x4, x5, a1.trans e, z⟩
    by_cases hk1 : k + 1 < m'
    · exact ih n (k + 1) lab' q' m' ds' rc' (by omega) (by omega) a2 hk1 (bfs_next a2 a4 hk1) a5 a6
    · obtain rfl : m' = k + 1 := by omega
      cases n with
      | zero => omega
      | succ n =>
        unfold mX0_spread_L23
        rw [if_pos ((pu_le (by omega) (by omega)).mpr (Nat.le_refl _))]
        exact ⟨lab', q', k + 1, ds', rc', rfl, a5, a2, bk_all a4⟩
/-- a search that has come to its end: everything that is reached is within 143 -/
theorem bfs_end {K : Nat → Nat} {s0 : Nat} {lab : Nat → Option Nat} {q : Nat → Nat} {m : Nat} (hs : s0 < 144) (hB : BI K s0 lab q m) (hp : ∀ j, j < m → ∀ i, i < 5 → ∀ u, stp K (q j) i = some u → ∃ d e, lab (q j) = some d ∧ lab u = some e ∧ e ≤ d + 1) :
    (∀ n u, u < 144 → Rch K s0 n u → ∃ e, lab u = some e ∧ e ≤ n) ∧ ∀ n u, u < 144 → Rch K s0 n u → Rch K s0 143 u := by
  have h1 : ∀ n u, u < 144 → Rch K s0 n u → ∃ e, lab u = some e ∧ e ≤ n := fun n u _ hu => (bfs_full hB hp hs n (fun d h _ => absurd h (Nat.lt_irrefl _)) (Nat.le_refl _) u hu).2
  refine ⟨h1, fun n u hu hr => ?_⟩
  obtain ⟨e, e1, e2⟩ := h1 n u hu hr
  have := BI_lab hB hu e1
  exact Rch_le (hB.2.2.2.2.1 u e hu e1).1 (by omega)
theorem bt1_mk {α β : Type} (a : α) (f : α → β) : bt1 a f = f a := rfl
theorem v_spread {K : Nat → Nat} {vk : Nat → Int32} {s0 cell : Nat} (hv : ∀ x, x < 36 → vk x = nI (K x)) (hK : ∀ x, x < 36 → K x < 7) (hs : s0 < 144) (hc : cell < 36) (ds rc : Nat → Int32) :
    (∃ a ds' rc', mX0_spread ds rc vk (nI s0) (nI cell) = some (a, ds', rc') ∧ ANS K s0 cell a) ∧ ∀ n u, u < 144 → Rch K s0 n u → Rch K s0 143 u := by
  obtain ⟨ds1, e1, e2⟩ := v_forget ds
  obtain ⟨b1, b2⟩ := BI_0 (K := K) hs (fun _ => s0) rfl
  obtain ⟨lab, q, m, ds2, rc2, f1, f2, f3, f4⟩ := v_spr2 (l3 := nI cell) hv hK 144 4096 0 _ _ 1 (upd ds1 s0 (nI 0)) (upd rc 0 (nI s0)) (by decide) (by decide) b1 (by decide) b2 (fun u hu => by
    show upd ds1 s0 (nI 0) u = dsC (if u = s0 then some 0 else none)
    by_cases e : u = s0
    · rw [if_pos e]; exact if_pos e
    · rw [if_neg e]; exact (if_neg e).trans (e2 u hu)) (fun j hj => by
    obtain rfl : j = 0 := by omega
    rfl)
  obtain ⟨g1, g2⟩ := bfs_end hs f3 f4
  refine ⟨?_, g2⟩
  obtain ⟨a, a1, a2⟩ := v_least (K := K) (s0 := s0) (cell := cell) f2 (fun u d hu hd => by have := BI_lab f3 hu hd; omega) hc (fun u d hu hd => (f3.2.2.2.2.1 u d hu hd).1) (fun n _ u hu hr => g1 n u hu hr) g2
  refine ⟨a, ds2, rc2, ?_, a2⟩
  unfold mX0_spread
  rw [e1, bo1_some, v_setD hs, bt1_mk, show (1 : Int32) = nI 1 from rfl, show (0 : Int32) = nI 0 from rfl, show (nI 0).toNatClampNeg = 0 from rfl, f1, a1, bo1_some]
