/-! Pits: lost crates, robots that fall -/
def lowF (K : Nat → Nat) (T : Nat → Bool) : Nat → Nat → Option Nat
  | 0, _ => none
  | j + 1, c => if K c = 0 ∧ T c = false then some c else lowF K T j (c + 1)
theorem lowF_some {K : Nat → Nat} {T : Nat → Bool} : ∀ (j c y : Nat), c + j = 36 → lowF K T j c = some y → y < 36 ∧ K y = 0 ∧ T y = false
  | 0, _, _, _, h => by cases h
  | j + 1, c, y, hc, h => by
    have h : (if K c = 0 ∧ T c = false then some c else lowF K T j (c + 1)) = some y := h
    by_cases q : K c = 0 ∧ T c = false
    · rw [if_pos q] at h; cases h; exact ⟨by omega, q⟩
    · rw [if_neg q] at h; exact lowF_some j (c + 1) y (by omega) h
theorem nI_iff0 {a : Nat} (h : a < 2 ^ 31) : nI a = (0 : Int32) ↔ a = 0 := nI_inj (b := 0) h (by decide)
theorem v_low_L {vj : Nat → Int64} {vk va vb : Nat → Int32} {K : Nat → Nat} {T : Nat → Bool} (hv : ∀ x, x < 36 → vk x = nI (K x)) (hK : ∀ x, x < 36 → K x < 7) (ht : mX1_things vj va vb = sL T) :
    ∀ (j n c : Nat), j < n → c + j = 36 → mX1_lowestFreeCell_L2 n vj vk va vb (nI c) = some (opI (lowF K T j c)) := by
  intro j
  induction j with
  | zero =>
    intro n c hn hc
    obtain ⟨n, rfl⟩ : ∃ m, n = m + 1 := ⟨n - 1, by omega⟩
    obtain rfl : c = 36 := by omega
    unfold mX1_lowestFreeCell_L2
    rw [if_pos le36']; rfl
  | succ j ih =>
    intro n c hn hc
    obtain ⟨n, rfl⟩ : ∃ m, n = m + 1 := ⟨n - 1, by omega⟩
    have hc36 : c < 36 := by omega
    have hkc := hK c hc36
    have next : mX1_lowestFreeCell_J29 (fun vj vk va vb l1 => mX1_lowestFreeCell_L2 n vj vk va vb l1) vj vk va vb (nI c) = some (opI (lowF K T j (c + 1))) := by
      unfold mX1_lowestFreeCell_J29
      show mX1_lowestFreeCell_L2 n vj vk va vb (nI c + (1 : Int32)) = _
      rw [nI_1]
      exact ih n (c + 1) (by omega) (by omega)
    unfold mX1_lowestFreeCell_L2
    rw [if_neg (le36 hc36), v_kind hv hc36, ht]
    show _ = some (opI (if K c = 0 ∧ T c = false then some c else lowF K T j (c + 1)))
    by_cases h0 : K c = 0
    · rw [if_pos ((nI_iff0 (by omega)).mpr h0)]
      by_cases hT : T c = false
      · rw [if_pos ((sL_holds0 hc36).mpr hT), if_pos ⟨h0, hT⟩]; rfl
      · rw [if_neg (fun q => hT ((sL_holds0 hc36).mp q)), if_neg (fun q => hT q.2)]; exact next
    · rw [if_neg (fun q => h0 ((nI_iff0 (by omega)).mp q)), if_neg (fun q => h0 q.1)]; exact next
theorem v_low {vj : Nat → Int64} {vk va vb : Nat → Int32} {K : Nat → Nat} {T : Nat → Bool} (hv : ∀ x, x < 36 → vk x = nI (K x)) (hK : ∀ x, x < 36 → K x < 7) (ht : mX1_things vj va vb = sL T) : mX1_lowestFreeCell vj vk va vb = some (opI (lowF K T 36 0)) := by
  unfold mX1_lowestFreeCell
  exact v_low_L hv hK ht 36 4096 0 (by decide) (by decide)
def flc (K : Nat → Nat) (t : Th) (c : Nat) : Nat := if K c = 2 then (lowF K (tht t) 36 0).getD c else c
def fl0 (K : Nat → Nat) (t : Th) : Th := (t.1, flc K t t.2.1, t.2.2)
def fl1 (K : Nat → Nat) (t : Th) : Th := (t.1, t.2.1, flc K t t.2.2)
def ff (K : Nat → Nat) (c f : Nat) : Nat := if K c = 2 then 0 else f
def fh (K : Nat → Nat) (c : Nat) (h : Nat → Int32) : Nat → Int32 := if K c = 2 then upd h 6 (h 6 + 1) else h
theorem flc_swp (K : Nat → Nat) (t : Th) (c : Nat) : flc K (swp t) c = flc K t c := by
  unfold flc
  rw [show tht (swp t) = tht t from funext (tht_swp t)]
theorem flc_or {K : Nat → Nat} {t : Th} (c : Nat) : flc K t c = c ∨ (flc K t c < 36 ∧ K (flc K t c) = 0 ∧ tht t (flc K t c) = false) := by
  unfold flc
  split
  · cases hl : lowF K (tht t) 36 0 with
    | none => exact Or.inl rfl
    | some y => exact Or.inr (lowF_some 36 0 y (by decide) hl)
  · exact Or.inl rfl
theorem fl0_RK {K : Nat → Nat} {t : Th} (hk : RK K t.1 t.2.1 t.2.2) : RK K (fl0 K t).1 (fl0 K t).2.1 (fl0 K t).2.2 := by
  show RK K t.1 (flc K t t.2.1) t.2.2
  rcases flc_or (K := K) (t := t) t.2.1 with q | ⟨q1, q2, q3⟩
  · rw [q]; exact hk
  · generalize flc K t t.2.1 = y at *
    have hn : ¬ (t.1 y = true ∨ y = t.2.1 ∨ y = t.2.2) := fun q => by rw [tht_iff.mpr q] at q3; cases q3
    obtain ⟨hA, h0, h1, hne, hC0, hC1, hb0, hb1⟩ := hk
    exact ⟨hA, q1, h1, fun e => hn (Or.inr (Or.inr e)), by rw [← Bool.not_eq_true]; exact fun e => hn (Or.inl e), hC1, by omega, hb1⟩
theorem RK_swp {K : Nat → Nat} {t : Th} (hk : RK K t.1 t.2.1 t.2.2) : RK K (swp t).1 (swp t).2.1 (swp t).2.2 :=
  ⟨hk.1, hk.2.2.1, hk.2.1, fun e => hk.2.2.2.1 e.symm, hk.2.2.2.2.2.1, hk.2.2.2.2.1, hk.2.2.2.2.2.2.2, hk.2.2.2.2.2.2.1⟩
theorem fl1_swp (K : Nat → Nat) (t : Th) : fl1 K t = swp (fl0 K (swp t)) := by
  unfold fl1 fl0
  rw [flc_swp]; rfl
theorem fl1_RK {K : Nat → Nat} {t : Th} (hk : RK K t.1 t.2.1 t.2.2) : RK K (fl1 K t).1 (fl1 K t).2.1 (fl1 K t).2.2 := by
  rw [fl1_swp]; exact RK_swp (fl0_RK (RK_swp hk))
theorem v_fall_a {vj : Nat → Int64} {vk va vb vpa : Nat → Int32} {K : Nat → Nat} {t : Th} {f : Nat} {h I : Nat → Int32} (hV : RV vj vk va vb K t.1 t.2.1 t.2.2) (hk : RK K t.1 t.2.1 t.2.2) (hA : RA va vpa f h I) :
    ∃ va', mX6_letFall_a vj vk va vb = some va' ∧ RV vj vk va' vb K (fl0 K t).1 (fl0 K t).2.1 (fl0 K t).2.2 ∧ RA va' vpa (ff K t.2.1 f) (fh K t.2.1 h) I := by
  have hK : ∀ x, x < 36 → K x < 7 := fun x hx => (hk.1 x hx).1
  have hk0 := hK _ hk.2.1
  have e2 : nI (K t.2.1) = (2 : Int32) ↔ K t.2.1 = 2 := nI_inj (b := 2) (by omega) (by decide)
  unfold mX6_letFall_a
  rw [hV.2.2.1, v_kind hV.1 hk.2.1]
  show ∃ va', _ ∧ RV vj vk va' vb K t.1 (flc K t t.2.1) t.2.2 ∧ _
  unfold ff fh flc
  by_cases h2 : K t.2.1 = 2
  · rw [if_pos (e2.mpr h2), if_pos h2, if_pos h2, if_pos h2]
    generalize hg : upd (upd va 6 ((va 6) + (1 : Int32))) 1 (0 : Int32) = v1
    have hv0 : v1 0 = nI t.2.1 := by rw [← hg]; exact hV.2.2.1
    have hv1 : v1 1 = nI 0 := by rw [← hg]; rfl
    have hvj : ∀ j, 2 ≤ j → j < 9 → v1 j = upd h 6 (h 6 + 1) j := fun j j2 j9 => by
      rw [← hg, show ∀ v w, upd (upd va 6 v) 1 w j = upd va 6 v j from fun v w => if_neg (by omega)]
      by_cases e : j = 6
      · subst e
        show va 6 + 1 = h 6 + 1
        rw [hA.2.1 6 (by decide) (by decide)]
      · rw [show ∀ v, upd va 6 v j = va j from fun v => if_neg e, show ∀ v, upd h 6 v j = h j from fun v => if_neg e]
        exact hA.2.1 j j2 j9
    have hth : mX1_things vj v1 vb = sL (tht t) := by
      have := v_things (vj := vj) (vk := vk) (va := v1) (vb := vb) (K := K) (C := t.1) (c0 := t.2.1) (c1 := t.2.2) ⟨hV.1, hV.2.1, hv0, hV.2.2.2⟩ hk.2.1 hk.2.2.1
      exact this
    rw [v_low hV.1 hK hth, bo1_some]
    cases hl : lowF K (tht t) 36 0 with
    | none =>
      rw [if_pos (show opI none = (-1 : Int32) from rfl)]
      exact ⟨v1, rfl, ⟨hV.1, hV.2.1, hv0, hV.2.2.2⟩, hv1, hvj, hA.2.2⟩
    | some y =>
      have hy := (lowF_some 36 0 y (by decide) hl).1
      rw [opI_some, if_neg (ne_neg1 y hy)]
      refine ⟨_, rfl, ⟨hV.1, hV.2.1, rfl, hV.2.2.2⟩, hv1, fun j j2 j9 => ?_, hA.2.2⟩
      rw [show ∀ v, upd v1 0 v j = v1 j from fun v => if_neg (by omega)]
      exact hvj j j2 j9
  · rw [if_neg (fun q => h2 (e2.mp q)), if_neg h2, if_neg h2, if_neg h2]
    exact ⟨va, rfl, hV, hA⟩
theorem v_low_comm (vj : Nat → Int64) (vk va vb : Nat → Int32) : ∀ (n : Nat) (l : Int32), mX1_lowestFreeCell_L2 n vj vk va vb l = mX1_lowestFreeCell_L2 n vj vk vb va l := by
  intro n
  induction n with
  | zero => intro l; rfl
  | succ n ih =>
    intro l
    unfold mX1_lowestFreeCell_L2
    rw [v_things_comm vj va vb]
    unfold mX1_lowestFreeCell_J29
    show (if _ then _ else if _ then if _ then _ else mX1_lowestFreeCell_L2 n vj vk va vb (l + 1) else mX1_lowestFreeCell_L2 n vj vk va vb (l + 1)) = _
    rw [ih]
theorem v_fall_swap (vj : Nat → Int64) (vk va vb : Nat → Int32) : mX6_letFall_b vj vk va vb = mX6_letFall_a vj vk vb va := by
  unfold mX6_letFall_b mX6_letFall_a mX1_lowestFreeCell
  rw [v_low_comm]
theorem v_fall_b {vj : Nat → Int64} {vk va vb vpb : Nat → Int32} {K : Nat → Nat} {t : Th} {f : Nat} {h I : Nat → Int32} (hV : RV vj vk va vb K t.1 t.2.1 t.2.2) (hk : RK K t.1 t.2.1 t.2.2) (hA : RA vb vpb f h I) :
    ∃ vb', mX6_letFall_b vj vk va vb = some vb' ∧ RV vj vk va vb' K (fl1 K t).1 (fl1 K t).2.1 (fl1 K t).2.2 ∧ RA vb' vpb (ff K t.2.2 f) (fh K t.2.2 h) I := by
  rw [v_fall_swap, fl1_swp]
  obtain ⟨vb', e1, e2, e3⟩ := v_fall_a (t := swp t) (vj := vj) (vk := vk) (va := vb) (vb := va) ⟨hV.1, hV.2.1, hV.2.2.2, hV.2.2.1⟩ (RK_swp hk) hA
  exact ⟨vb', e1, ⟨e2.1, e2.2.1, e2.2.2.2, e2.2.2.1⟩, e3⟩
/-- lost crates -/
def los (K : Nat → Nat) (t : Th) : Th := (fun x => t.1 x && !decide (K x = 2), t.2)
def loc (K : Nat → Nat) (t : Th) (n : Nat) : Nat := fb_ct (fun x => t.1 x && decide (K x = 2)) n
theorem los_RK {K : Nat → Nat} {t : Th} (hk : RK K t.1 t.2.1 t.2.2) : RK K (los K t).1 (los K t).2.1 (los K t).2.2 := by
  obtain ⟨hA, h0, h1, hne, hC0, hC1, hb0, hb1⟩ := hk
  refine ⟨fun x hx => ⟨(hA x hx).1, fun q => (hA x hx).2 ?_⟩, h0, h1, hne, ?_, ?_, hb0, hb1⟩
  · have q : (t.1 x && !decide (K x = 2)) = true := q
    rw [Bool.and_eq_true] at q; exact q.1
  · show (t.1 t.2.1 && _) = false; rw [hC0]; rfl
  · show (t.1 t.2.2 && _) = false; rw [hC1]; rfl
theorem los_ct (K : Nat → Nat) (t : Th) : fb_ct (los K t).1 36 + loc K t 36 = fb_ct t.1 36 := by
  unfold loc
  rw [← fb_ct_or (fun k _ ⟨q1, q2⟩ => by
    have q1 : (t.1 k && !decide (K k = 2)) = true := q1
    rw [Bool.and_eq_true, Bool.not_eq_true'] at q1
    rw [Bool.and_eq_true] at q2
    rw [q1.2] at q2; cases q2.2)]
  apply fb_ct_cong
  intro k _
  show ((t.1 k && !decide (K k = 2)) || (t.1 k && decide (K k = 2))) = t.1 k
  cases t.1 k <;> cases decide (K k = 2) <;> rfl
theorem v_lose {vi : Nat → Int32} {vj : Nat → Int64} {vk va vb : Nat → Int32} {K : Nat → Nat} {t : Th} (hV : RV vj vk va vb K t.1 t.2.1 t.2.2) (h6 : vj 6 = sL (fun x => decide (K x = 2))) :
    ∃ vj', mX6_loseCrates vi vj = (upd vi 10 (vi 10 + nI (loc K t 36)), vj') ∧ RV vj' vk va vb K (los K t).1 (los K t).2.1 (los K t).2.2 ∧ ∀ j, j ≠ 4 → vj' j = vj j := by
  unfold mX6_loseCrates
  rw [hV.2.1, h6, sL_and, sL_count, sL_diff]
  refine ⟨_, rfl, ⟨hV.1, ?_, hV.2.2.1, hV.2.2.2⟩, fun j hj => if_neg hj⟩
  show sL _ = sL _
  apply sL_cong
  intro x _
  show (t.1 x && !(t.1 x && decide (K x = 2))) = (t.1 x && !decide (K x = 2))
  cases t.1 x <;> cases decide (K x = 2) <;> rfl
/-! The reference's pits -/
def flS (s : Nat → Int32) (r : Nat) (v : Int32) : Nat → Int32 := upd (upd (upd s (72 + 9 * r + 0) v) (72 + 9 * r + 1) 0) (72 + 9 * r + 6) (upd (upd s (72 + 9 * r + 0) v) (72 + 9 * r + 1) 0 (72 + 9 * r + 6) + 1)
theorem g_J47 (s : Nat → Int32) {r : Nat} (hr : r < 2) (v : Int32) : mX9_falls_J47 s (nI r) (nI r) (0 : Int32) v = some (flS s r v) := by
  unfold mX9_falls_J47
  rw [show mX9_puts s (nI r) (0 : Int32) v = _ from g_puts s (k := 0) hr (by decide) v, bo1_some, show mX9_puts (upd s (72 + 9 * r + 0) v) (nI r) (1 : Int32) (0 : Int32) = _ from g_puts _ (k := 1) hr (by decide) 0, bo1_some, show mX9_adds (upd (upd s (72 + 9 * r + 0) v) (72 + 9 * r + 1) 0) (nI r) (6 : Int32) (1 : Int32) = _ from g_adds _ (k := 6) hr (by decide) 1, bo1_some]
  rfl
theorem g_falls_L {s : Nat → Int32} {K : Nat → Nat} {t : Th} (h : RS s K t.1 t.2.1 t.2.2) (hk : RK K t.1 t.2.1 t.2.2) {r : Nat} (hr : r < 2) :
    ∀ (j n c : Nat), j < n → c + j = 36 → mX9_falls_L2 n s (nI r) (nI c) = some (flS s r (nI ((lowF K (tht t) j c).getD (cl2 t r)))) := by
  intro j
  induction j with
  | zero =>
    intro n c hn hc
    obtain ⟨n, rfl⟩ : ∃ m, n = m + 1 := ⟨n - 1, by omega⟩
    obtain rfl : c = 36 := by omega
    unfold mX9_falls_L2 mX9_falls_J28
    rw [if_pos le36', if_pos le36', show mX9_of s (nI r) (0 : Int32) = _ from g_of s (k := 0) hr (by decide), bo1_some, g_J47 s hr, Nat.add_zero, RS_cell hr h]
    rfl
  | succ j ih =>
    intro n c hn hc
    obtain ⟨n, rfl⟩ : ∃ m, n = m + 1 := ⟨n - 1, by omega⟩
    have hc36 : c < 36 := by omega
    have hkc := (hk.1 c hc36).1
    have next : mX9_falls_J22 (fun vs l1 l2 => mX9_falls_L2 n vs l1 l2) s (nI r) (nI c) = some (flS s r (nI ((lowF K (tht t) j (c + 1)).getD (cl2 t r)))) := by
      unfold mX9_falls_J22
      show mX9_falls_L2 n s (nI r) (nI c + (1 : Int32)) = _
      rw [nI_1]
      exact ih n (c + 1) (by omega) (by omega)
    unfold mX9_falls_L2
    rw [if_neg (le36 hc36), if_pos (g_idx117 (by omega)), nI_clamp (by omega), (h.1 c hc36).1, g_hasThing h hk.2.1 hk.2.2.1 hc36]
    show _ = some (flS s r (nI ((if K c = 0 ∧ tht t c = false then some c else lowF K (tht t) j (c + 1)).getD (cl2 t r))))
    have e0 : (0 : Int32) < nI (K c) ↔ 0 < K c := pu_lt (a := 0) (by decide) (by omega)
    by_cases h0 : K c = 0
    · rw [if_neg (fun q => by have := e0.mp q; omega), bo1_some]
      by_cases hT : th t.1 t.2.1 t.2.2 c = true
      · rw [if_pos hT, if_neg (by decide), if_neg (fun q => by have q2 : th t.1 t.2.1 t.2.2 c = false := q.2; rw [hT] at q2; cases q2)]
        exact next
      · rw [if_neg hT, if_pos rfl, if_pos ⟨h0, show th t.1 t.2.1 t.2.2 c = false by simpa using hT⟩]
        unfold mX9_falls_J28
        rw [if_neg (le36 hc36), g_J47 s hr]; rfl
    · rw [if_pos (e0.mpr (by omega)), if_neg (fun q => h0 q.1)]
      exact next
def flt (K : Nat → Nat) (t : Th) (r : Nat) : Th := if r = 0 then fl0 K t else fl1 K t
theorem g_fall_s {s : Nat → Int32} {K : Nat → Nat} {t : Th} {r f : Nat} {h I : Nat → Int32} (hr : r < 2) (hS : RS s K t.1 t.2.1 t.2.2) (hk : RK K t.1 t.2.1 t.2.2) (hR : RR s r f h I) (n : Nat) :
    ∃ s', mX9_pits_L48 (n + 1) s (nI r) = mX9_pits_L48 n s' (nI (r + 1)) ∧ RS s' K (flt K t r).1 (flt K t r).2.1 (flt K t r).2.2 ∧ RR s' r (ff K (cl2 t r) f) (fh K (cl2 t r) h) I ∧ ∀ k, k ≠ 72 + 9 * r → k ≠ 72 + 9 * r + 1 → k ≠ 72 + 9 * r + 6 → s' k = s k := by
  have hr2 : ¬ ((2 : Int32) ≤ nI r) := fun q => by
    have q1 : nI 2 ≤ nI r := q
    rw [pu_le (by omega) (by omega)] at q1
    omega
  have hc36 : cl2 t r < 36 := by unfold cl2; split; exact hk.2.1; exact hk.2.2.1
  have hkc := (hk.1 _ hc36).1
  have e2 : nI (K (cl2 t r)) = (2 : Int32) ↔ K (cl2 t r) = 2 := nI_inj (b := 2) (by omega) (by decide)
  have e : mX9_pits_L48 (n + 1) s (nI r) = (if (2 : Int32) ≤ nI r then (some s) else (bo1 (mX9_of s (nI r) (0 : Int32)) (fun r_3 => (if ¬ (r_3 < 0 ∨ 117 ≤ r_3.toNatClampNeg) then (if (s r_3.toNatClampNeg) = (2 : Int32) then (bo1 (mX9_falls s (nI r)) (fun vs_7 => (mX9_pits_J70 (fun vs l1 => mX9_pits_L48 n vs l1) vs_7 (nI r)))) else (mX9_pits_J70 (fun vs l1 => mX9_pits_L48 n vs l1) s (nI r))) else none)))) := rfl
  have j70 : ∀ s', mX9_pits_J70 (fun vs l1 => mX9_pits_L48 n vs l1) s' (nI r) = mX9_pits_L48 n s' (nI (r + 1)) := fun s' => by
    unfold mX9_pits_J70
    rw [nI_1]
  rw [e, if_neg hr2, show mX9_of s (nI r) (0 : Int32) = _ from g_of s (k := 0) hr (by decide), bo1_some, Nat.add_zero, RS_cell hr hS, if_pos (g_idx117 (by omega)), nI_clamp (by omega), (hS.1 _ hc36).1]
  have hflt : flt K t r = if r = 0 then (t.1, flc K t (cl2 t r), t.2.2) else (t.1, t.2.1, flc K t (cl2 t r)) := by
    unfold flt fl0 fl1 cl2
    by_cases q : r = 0
    · rw [if_pos q, if_pos q, if_pos q]
    · rw [if_neg q, if_neg q, if_neg q]
  by_cases h2 : K (cl2 t r) = 2
  · rw [if_pos (e2.mpr h2)]
    unfold mX9_falls
    rw [show (0 : Int32) = nI 0 from rfl, g_falls_L hS hk hr 36 4096 0 (by decide) (by decide), bo1_some, j70]
    have hfl : flc K t (cl2 t r) = (lowF K (tht t) 36 0).getD (cl2 t r) := by unfold flc; rw [if_pos h2]
    rw [← hfl]
    generalize flc K t (cl2 t r) = y at *
    have n0 : ∀ k, k ≠ 72 + 9 * r → k ≠ 72 + 9 * r + 1 → k ≠ 72 + 9 * r + 6 → flS s r (nI y) k = s k := fun k k0 k1 k6 => by
      unfold flS
      rw [show ∀ a v b w c z, upd (upd (upd s a v) b w) c z k = if k = c then z else if k = b then w else if k = a then v else s k from fun _ _ _ _ _ _ => rfl, if_neg k6, if_neg k1, if_neg (by omega)]
    have nc : flS s r (nI y) (72 + 9 * r) = nI y := by
      unfold flS
      rw [show ∀ a v b w c z k, upd (upd (upd s a v) b w) c z k = if k = c then z else if k = b then w else if k = a then v else s k from fun _ _ _ _ _ _ _ => rfl, if_neg (by omega), if_neg (by omega), if_pos (by omega)]
    refine ⟨_, rfl, ?_, ⟨?_, fun j j2 j9 => ?_, fun j q1 q2 => ?_⟩, n0⟩
    · rw [hflt]
      refine ⟨fun x hx => ?_, ?_, ?_⟩
      · rw [n0 x (by omega) (by omega) (by omega), n0 (36 + x) (by omega) (by omega) (by omega)]
        have := hS.1 x hx
        by_cases q : r = 0
        · rw [if_pos q]; exact this
        · rw [if_neg q]; exact this
      · by_cases q : r = 0
        · subst q; exact nc
        · rw [if_neg q, n0 72 (by omega) (by omega) (by omega)]; exact hS.2.1
      · by_cases q : r = 0
        · rw [if_pos q, n0 81 (by omega) (by omega) (by omega)]; exact hS.2.2
        · obtain rfl : r = 1 := by omega
          exact nc
    · unfold ff flS
      rw [show ∀ a v b w c z k, upd (upd (upd s a v) b w) c z k = if k = c then z else if k = b then w else if k = a then v else s k from fun _ _ _ _ _ _ _ => rfl, if_neg (by omega), if_pos rfl, if_pos h2]; rfl
    · unfold fh
      rw [if_pos h2]
      by_cases e6 : j = 6
      · subst e6
        unfold flS
        rw [show ∀ a v b w c z k, upd (upd (upd s a v) b w) c z k = if k = c then z else if k = b then w else if k = a then v else s k from fun _ _ _ _ _ _ _ => rfl, if_pos rfl]
        show (if (72 + 9 * r + 6) = 72 + 9 * r + 1 then (0 : Int32) else if (72 + 9 * r + 6) = 72 + 9 * r + 0 then nI y else s (72 + 9 * r + 6)) + 1 = h 6 + 1
        rw [if_neg (by omega), if_neg (by omega), hR.2.1 6 (by decide) (by decide)]
      · rw [n0 _ (by omega) (by omega) (by omega), hR.2.1 j j2 j9]
        exact (if_neg e6).symm
    · rw [n0 _ (by omega) (by omega) (by omega)]
      refine hR.2.2 j ?_ q2
      unfold fh at q1
      rw [if_pos h2] at q1
      exact q1
  · rw [if_neg (fun q => h2 (e2.mp q)), j70]
    have hfl : flc K t (cl2 t r) = cl2 t r := by unfold flc; rw [if_neg h2]
    refine ⟨s, rfl, ?_, ?_, fun _ _ _ _ => rfl⟩
    · rw [hflt, hfl]
      unfold cl2
      by_cases q : r = 0
      · rw [if_pos q, if_pos q]; exact hS
      · rw [if_neg q, if_neg q]; exact hS
    · unfold ff fh
      rw [if_neg h2, if_neg h2]; exact hR
theorem ne01 : ¬ (0 : Int32) = 1 := by decide
theorem g_pits_L {s : Nat → Int32} {K : Nat → Nat} {t : Th} (h : RS s K t.1 t.2.1 t.2.2) (hk : RK K t.1 t.2.1 t.2.2) :
    ∀ (j n c : Nat) (s1 : Nat → Int32), j < n → c + j = 36 → (∀ k, (k < 36 ∨ 72 ≤ k) → k ≠ 115 → s1 k = s k) → s1 115 = s 115 + nI (loc K t c) → (∀ x, x < 36 → s1 (36 + x) = (if t.1 x && !(decide (K x = 2) && decide (x < c)) then (1 : Int32) else 0)) →
      ∃ s2, mX9_pits_L2 n s1 (nI c) = mX9_pits_L48 4096 s2 (0 : Int32) ∧ (∀ k, (k < 36 ∨ 72 ≤ k) → k ≠ 115 → s2 k = s k) ∧ s2 115 = s 115 + nI (loc K t 36) ∧ ∀ x, x < 36 → s2 (36 + x) = (if (los K t).1 x then (1 : Int32) else 0) := by
  intro j
  induction j with
  | zero =>
    intro n c s1 hn hc hR hL hS
    obtain ⟨n, rfl⟩ : ∃ m, n = m + 1 := ⟨n - 1, by omega⟩
    obtain rfl : c = 36 := by omega
    refine ⟨s1, ?_, hR, hL, fun x hx => by rw [hS x hx, decide_eq_true hx, Bool.and_true]; rfl⟩
    unfold mX9_pits_L2
    rw [if_pos le36']
  | succ j ih =>
    intro n c s1 hn hc hR hL hS
    obtain ⟨n, rfl⟩ : ∃ m, n = m + 1 := ⟨n - 1, by omega⟩
    have hc36 : c < 36 := by omega
    have hkc := (hk.1 c hc36).1
    have e2 : nI (K c) = (2 : Int32) ↔ K c = 2 := nI_inj (b := 2) (by omega) (by decide)
    have hl1 : loc K t (c + 1) = loc K t c + (if (t.1 c && decide (K c = 2)) then 1 else 0) := rfl
    have stay : (t.1 c && decide (K c = 2)) = false → ∃ s2, mX9_pits_J40 (fun vs l1 => mX9_pits_L2 n vs l1) s1 (nI c) = mX9_pits_L48 4096 s2 (0 : Int32) ∧ (∀ k, (k < 36 ∨ 72 ≤ k) → k ≠ 115 → s2 k = s k) ∧ s2 115 = s 115 + nI (loc K t 36) ∧ ∀ x, x < 36 → s2 (36 + x) = (if (los K t).1 x then (1 : Int32) else 0) := fun q => by
      unfold mX9_pits_J40
      show ∃ s2, mX9_pits_L2 n s1 (nI c + (1 : Int32)) = _ ∧ _
      rw [nI_1]
      refine ih n (c + 1) s1 (by omega) (by omega) hR (by rw [hL, hl1, if_neg (by rw [q]; decide), Nat.add_zero]) (fun x hx => ?_)
      rw [hS x hx]
      by_cases e : x = c
      · subst e
        cases hC : t.1 x with
        | false => rfl
        | true => rw [hC, Bool.true_and] at q; rw [q]; rfl
      · by_cases l : x < c
        · rw [decide_eq_true l, decide_eq_true (show x < c + 1 by omega)]
        · rw [decide_eq_false l, decide_eq_false (show ¬ x < c + 1 by omega)]
    unfold mX9_pits_L2
    rw [if_neg (le36 hc36), if_pos (g_idx117 (by omega)), nI_clamp (by omega), hR c (Or.inl hc36) (by omega), (h.1 c hc36).1]
    by_cases h2 : K c = 2
    · rw [if_pos (e2.mpr h2), g_crate hc36, if_pos (g_idx117 (by omega)), nI_clamp (by omega), hS c hc36]
      by_cases hC : t.1 c = true
      · have hb : (t.1 c && !(decide (K c = 2) && decide (c < c))) = true := by rw [hC, decide_eq_false (Nat.lt_irrefl c)]; simp
        rw [if_pos hb, if_pos rfl]
        unfold mX9_pits_J40
        have e115 : upd s1 (36 + c) (0 : Int32) 115 = s1 115 := if_neg (by omega)
        show ∃ s2, mX9_pits_L2 n (upd (upd s1 (36 + c) (0 : Int32)) 115 (upd s1 (36 + c) (0 : Int32) 115 + (1 : Int32))) (nI c + (1 : Int32)) = _ ∧ _
        rw [nI_1, e115]
        refine ih n (c + 1) _ (by omega) (by omega) (fun k k1 k2 => ?_) ?_ (fun x hx => ?_)
        · rw [show ∀ v w, upd (upd s1 (36 + c) v) 115 w k = upd s1 (36 + c) v k from fun v w => if_neg k2, show ∀ v, upd s1 (36 + c) v k = s1 k from fun v => if_neg (by omega)]
          exact hR k k1 k2
        · show s1 115 + (1 : Int32) = _
          rw [hL, hl1, if_pos (by rw [hC, decide_eq_true h2]; rfl), Int32.add_assoc, nI_1]
        · rw [show ∀ v w, upd (upd s1 (36 + c) v) 115 w (36 + x) = upd s1 (36 + c) v (36 + x) from fun v w => if_neg (by omega)]
          by_cases e : x = c
          · subst e
            rw [show ∀ v, upd s1 (36 + x) v (36 + x) = v from fun v => if_pos rfl, decide_eq_true h2, decide_eq_true (show x < x + 1 by omega)]; simp
          · rw [show ∀ v, upd s1 (36 + c) v (36 + x) = s1 (36 + x) from fun v => if_neg (by omega), hS x hx]
            by_cases l : x < c
            · rw [decide_eq_true l, decide_eq_true (show x < c + 1 by omega)]
            · rw [decide_eq_false l, decide_eq_false (show ¬ x < c + 1 by omega)]
      · rw [if_neg (show ¬ (if (t.1 c && !(decide (K c = 2) && decide (c < c))) then (1 : Int32) else 0) = 1 by rw [show t.1 c = false by simpa using hC]; exact ne01)]
        exact stay (by rw [show t.1 c = false by simpa using hC]; rfl)
    · rw [if_neg (fun q => h2 (e2.mp q))]
      exact stay (by rw [decide_eq_false h2, Bool.and_false])
theorem g_pits {s : Nat → Int32} {K : Nat → Nat} {t : Th} {f0 f1 : Nat} {h0 I0 h1 I1 : Nat → Int32} (h : RS s K t.1 t.2.1 t.2.2) (hk : RK K t.1 t.2.1 t.2.2) (hR0 : RR s 0 f0 h0 I0) (hR1 : RR s 1 f1 h1 I1) :
    ∃ s', mX9_pits s = some s' ∧ RS s' K (fl1 K (fl0 K (los K t))).1 (fl1 K (fl0 K (los K t))).2.1 (fl1 K (fl0 K (los K t))).2.2 ∧ RR s' 0 (ff K t.2.1 f0) (fh K t.2.1 h0) I0 ∧ RR s' 1 (ff K t.2.2 f1) (fh K t.2.2 h1) I1 ∧ s' 115 = s 115 + nI (loc K t 36) ∧ ∀ k, 90 ≤ k → k ≠ 115 → s' k = s k := by
  obtain ⟨s2, a1, a2, a3, a4⟩ := g_pits_L h hk 36 4096 0 s (by decide) (by decide) (fun _ _ _ => rfl) (by show s 115 = s 115 + nI 0; rw [show nI 0 = (0 : Int32) from rfl, Int32.add_zero]) (fun x hx => by
    rw [decide_eq_false (Nat.not_lt_zero x), Bool.and_false, (h.1 x hx).2]
    cases t.1 x <;> rfl)
  have hS2 : RS s2 K (los K t).1 (los K t).2.1 (los K t).2.2 := ⟨fun x hx => ⟨by rw [a2 x (Or.inl hx) (by omega)]; exact (h.1 x hx).1, a4 x hx⟩, (a2 72 (by omega) (by omega)).trans h.2.1, (a2 81 (by omega) (by omega)).trans h.2.2⟩
  have tr : ∀ {s s' : Nat → Int32} {r f : Nat} {h I : Nat → Int32}, r < 2 → RR s r f h I → (∀ k, 72 + 9 * r + 1 ≤ k → k < 72 + 9 * r + 9 ∨ (90 ≤ k ∧ k < 110) → s' k = s k) → RR s' r f h I := fun hr hR e => ⟨(e _ (by omega) (by omega)).trans hR.1, fun j j2 j9 => (e _ (by omega) (by omega)).trans (hR.2.1 j j2 j9), fun j q1 q2 => (e _ (by omega) (by omega)).trans (hR.2.2 j q1 q2)⟩
  obtain ⟨s3, b1, b2, b3, b4⟩ := g_fall_s (r := 0) (by decide) hS2 (los_RK hk) (tr (by decide) hR0 (fun k _ k2 => a2 k (by omega) (by omega))) 4095
  obtain ⟨s4, c1, c2, c3, c4⟩ := g_fall_s (r := 1) (t := fl0 K (los K t)) (by decide) b2 (fl0_RK (los_RK hk)) (tr (s := s) (by decide) hR1 (fun k _ k2 => (b4 k (by omega) (by omega) (by omega)).trans (a2 k (by omega) (by omega)))) 4094
  refine ⟨s4, ?_, c2, tr (s := s3) (by decide) b3 (fun k _ k2 => c4 k (by omega) (by omega) (by omega)), c3, ?_, fun k k1 k2 => ?_⟩
  · unfold mX9_pits
    refine a1.trans (b1.trans (c1.trans ?_))
    show mX9_pits_L48 (4093 + 1) s4 (nI 2) = some s4
    unfold mX9_pits_L48
    rw [if_pos (by decide)]
  · rw [c4 115 (by omega) (by omega) (by omega), b4 115 (by omega) (by omega) (by omega)]; exact a3
  · rw [c4 k (by omega) (by omega) (by omega), b4 k (by omega) (by omega) (by omega)]; exact a2 k (by omega) k2
