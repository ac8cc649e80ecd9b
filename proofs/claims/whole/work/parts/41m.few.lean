/-! Fewest instructions: stands, what is reached, the search breadth first -/
def sto (K : Nat → Nat) (o : Option Nat) (f : Nat) : Option Nat := match o with
  | none => none
  | some y => if K y = 1 ∨ K y = 2 then none else some (4 * y + f)
def stp (K : Nat → Nat) (u i : Nat) : Option Nat :=
  if i = 0 then sto K (bs (u / 4) (u % 4)) (u % 4)
  else if i = 1 then sto K (bs (u / 4) ((u % 4 + 2) % 4)) (u % 4)
  else if i = 2 then some (4 * (u / 4) + (u % 4 + 3) % 4)
  else if i = 3 then some (4 * (u / 4) + (u % 4 + 1) % 4)
  else some (4 * (u / 4) + (u % 4 + 2) % 4)
theorem sto_lt {K : Nat → Nat} {o : Option Nat} {f v : Nat} (ho : ∀ x, o = some x → x < 36) (hf : f < 4) (h : sto K o f = some v) : v < 144 := by
  cases o with
  | none => cases h
  | some y =>
    have h : (if K y = 1 ∨ K y = 2 then none else some (4 * y + f)) = some v := h
    split at h
    · cases h
    · cases h; have := ho y rfl; omega
theorem stp_lt {K : Nat → Nat} {u : Nat} (hu : u < 144) (i v : Nat) (h : stp K u i = some v) : v < 144 := by
  unfold stp at h
  have hc : u / 4 < 36 := by omega
  have hf : u % 4 < 4 := Nat.mod_lt _ (by decide)
  split at h
  · exact sto_lt (fun x hx => bs_lt _ hc _ hf x hx) hf h
  · split at h
    · exact sto_lt (fun x hx => bs_lt _ hc _ (Nat.mod_lt _ (by decide)) x hx) hf h
    · have m3 : (u % 4 + 3) % 4 < 4 := Nat.mod_lt _ (by decide)
      have m1 : (u % 4 + 1) % 4 < 4 := Nat.mod_lt _ (by decide)
      have m2 : (u % 4 + 2) % 4 < 4 := Nat.mod_lt _ (by decide)
      split at h
      · cases h; omega
      · split at h
        · cases h; omega
        · cases h; omega
theorem ne_neg144 : ∀ d, d < 144 → ¬ nI d = (-1 : Int32) := by decide +kernel
theorem nI_sub2 {a b : Nat} (h : b ≤ a) : nI a - nI b = nI (a - b) := by
  have := nI_sub (a := a - b) (b := b)
  rwa [Nat.sub_add_cancel h] at this
theorem v_standOn {vk : Nat → Int32} {K : Nat → Nat} (hv : ∀ x, x < 36 → vk x = nI (K x)) (hK : ∀ x, x < 36 → K x < 7) (o : Option Nat) (ho : ∀ x, o = some x → x < 36) (f : Nat) : mX0_standOn vk (opI o) (nI f) = opI (sto K o f) := by
  unfold mX0_standOn
  cases o with
  | none =>
    have : mX1_isBlockOrPit vk (opI none) = 1 := by
      unfold mX1_isBlockOrPit
      rw [show opI none = (-1 : Int32) from rfl, v_kindN, if_pos rfl]
    rw [this, if_neg ne10]; rfl
  | some y =>
    rw [opI_some, v_hard hv hK (ho y rfl)]
    show _ = opI (if K y = 1 ∨ K y = 2 then none else some (4 * y + f))
    by_cases q : K y = 1 ∨ K y = 2
    · rw [if_pos q, if_neg ne10, if_pos q]; rfl
    · rw [if_neg q, if_pos rfl, if_neg q]
      unfold mX0_standOf
      show nI y * nI 4 + nI f = nI (4 * y + f)
      rw [nI_mul, nI_add, Nat.mul_comm]
theorem v_standAfter {vk : Nat → Int32} {K : Nat → Nat} (hv : ∀ x, x < 36 → vk x = nI (K x)) (hK : ∀ x, x < 36 → K x < 7) {u i : Nat} (hu : u < 144) (hi : i < 5) : mX0_standAfter vk (nI u) (nI i) = opI (stp K u i) := by
  have hc : u / 4 < 36 := by omega
  have hf : u % 4 < 4 := Nat.mod_lt _ (by decide)
  have ed : nI u / (4 : Int32) = nI (u / 4) := nI_div (b := 4) (by omega) (by decide)
  have er : jrem (nI u) (4 : Int32) = nI (u % 4) := nI_rem (b := 4) (by omega) (by decide)
  have t1 : mX2_turned (nI (u % 4)) (1 : Int32) = nI ((u % 4 + 1) % 4) := pu_turned _ hf 1 (by decide)
  have t2 : mX2_turned (nI (u % 4)) (2 : Int32) = nI ((u % 4 + 2) % 4) := pu_turned _ hf 2 (by decide)
  have t3 : mX2_turned (nI (u % 4)) (3 : Int32) = nI ((u % 4 + 3) % 4) := pu_turned _ hf 3 (by decide)
  have eo : ∀ g, mX0_standOf (nI (u / 4)) (nI g) = nI (4 * (u / 4) + g) := fun g => by
    unfold mX0_standOf
    show nI (u / 4) * nI 4 + nI g = _
    rw [nI_mul, nI_add, Nat.mul_comm]
  have hm : (u % 4 + 2) % 4 < 4 := Nat.mod_lt _ (by decide)
  unfold mX0_standAfter
  rw [ed, er, t1, t2, t3, eo, eo, eo, pu_beside _ hc _ hf, pu_beside _ hc _ hm, v_standOn hv hK _ (fun x hx => bs_lt _ hc _ hf x hx), v_standOn hv hK _ (fun x hx => bs_lt _ hc _ hm x hx)]
  rcases (show i = 0 ∨ i = 1 ∨ i = 2 ∨ i = 3 ∨ i = 4 by omega) with rfl | rfl | rfl | rfl | rfl <;> rfl
theorem g_brings {s : Nat → Int32} {K : Nat → Nat} {C : Nat → Bool} {c0 c1 : Nat} (hS : RS s K C c0 c1) (hK : ∀ x, x < 36 → K x < 7) {u i : Nat} (hu : u < 144) (hi : i < 5) : mX9_brings s (nI u) (nI i) = some (opI (stp K u i)) := by
  have hc : u / 4 < 36 := by omega
  have hf : u % 4 < 4 := Nat.mod_lt _ (by decide)
  have hm : (u % 4 + 2) % 4 < 4 := Nat.mod_lt _ (by decide)
  have ed : nI u / (4 : Int32) = nI (u / 4) := nI_div (b := 4) (by omega) (by decide)
  have er : jrem (nI u) (4 : Int32) = nI (u % 4) := nI_rem (b := 4) (by omega) (by decide)
  have e1 : nI (u % 4) + (1 : Int32) = nI (u % 4 + 1) := nI_add _ 1
  have e2 : nI (u % 4) + (2 : Int32) = nI (u % 4 + 2) := nI_add _ 2
  have e3 : nI (u % 4) + (3 : Int32) = nI (u % 4 + 3) := nI_add _ 3
  have r1 : jrem (nI (u % 4 + 1)) (4 : Int32) = nI ((u % 4 + 1) % 4) := nI_rem (b := 4) (by omega) (by decide)
  have r2 : jrem (nI (u % 4 + 2)) (4 : Int32) = nI ((u % 4 + 2) % 4) := nI_rem (b := 4) (by omega) (by decide)
  have r3 : jrem (nI (u % 4 + 3)) (4 : Int32) = nI ((u % 4 + 3) % 4) := nI_rem (b := 4) (by omega) (by decide)
  have e4 : ∀ g, nI u - nI (u % 4) + nI g = nI (4 * (u / 4) + g) := fun g => by
    rw [nI_sub2 (by omega), nI_add]
    congr 1
    omega
  have j53 : ∀ d, d < 4 → mX9_brings_J53 s (nI (u % 4)) (nI (u / 4)) (nI d) = some (opI (sto K (bs (u / 4) d) (u % 4))) := fun d hd => by
    unfold mX9_brings_J53
    rw [pu_next _ hc _ hd]
    cases hb : bs (u / 4) d with
    | none => rw [if_pos (show opI none = (-1 : Int32) from rfl)]; rfl
    | some y =>
      have hy := bs_lt _ hc _ hd y hb
      rw [opI_some, if_neg (ne_neg1 y hy), g_hard hS hK hy, bo1_some]
      show _ = some (opI (if K y = 1 ∨ K y = 2 then none else some (4 * y + u % 4)))
      by_cases q : K y = 1 ∨ K y = 2
      · rw [if_pos q, if_neg ne10, if_pos q]; rfl
      · rw [if_neg q, if_pos rfl, if_neg q]
        show some (nI 4 * nI y + nI (u % 4)) = some (nI (4 * y + u % 4))
        rw [nI_mul, nI_add]
  unfold mX9_brings
  rw [ed, er, e1, e2, e3, r1, r2, r3, e4, e4, e4, j53 _ hf, j53 _ hm]
  rcases (show i = 0 ∨ i = 1 ∨ i = 2 ∨ i = 3 ∨ i = 4 by omega) with rfl | rfl | rfl | rfl | rfl <;> rfl
/-- reached within k instructions -/
def Rch (K : Nat → Nat) (s0 : Nat) : Nat → Nat → Prop
  | 0, u => u = s0
  | k + 1, u => Rch K s0 k u ∨ ∃ v i, v < 144 ∧ i < 5 ∧ Rch K s0 k v ∧ stp K v i = some u
theorem Rch_mono {K : Nat → Nat} {s0 u k : Nat} (h : Rch K s0 k u) : ∀ j, Rch K s0 (k + j) u
  | 0 => h
  | j + 1 => Or.inl (Rch_mono h j)
theorem Rch_le {K : Nat → Nat} {s0 u k j : Nat} (h : Rch K s0 k u) (hj : k ≤ j) : Rch K s0 j u := by
  have := Rch_mono h (j - k)
  rwa [Nat.add_sub_cancel' hj] at this
/-- the answer -/
def ANS (K : Nat → Nat) (s0 cell : Nat) (a : Int32) : Prop :=
  (∃ k, k < 144 ∧ a = nI k ∧ (∃ f, f < 4 ∧ Rch K s0 k (4 * cell + f)) ∧ ∀ j, j < k → ∀ f, f < 4 → ¬ Rch K s0 j (4 * cell + f)) ∨ (a = -1 ∧ ∀ j f, f < 4 → ¬ Rch K s0 j (4 * cell + f))
theorem ANS_one {K : Nat → Nat} {s0 cell : Nat} {a b : Int32} (ha : ANS K s0 cell a) (hb : ANS K s0 cell b) : a = b := by
  rcases ha with ⟨k, k1, k2, ⟨f, f1, f2⟩, k3⟩ | ⟨a1, a2⟩
  · rcases hb with ⟨l, l1, l2, ⟨g, g1, g2⟩, l3⟩ | ⟨b1, b2⟩
    · have : k = l := by
        rcases Nat.lt_trichotomy k l with q | q | q
        · exact absurd f2 (l3 k q f f1)
        · exact q
        · exact absurd g2 (k3 l q g g1)
      rw [k2, l2, this]
    · exact absurd f2 (b2 k f f1)
  · rcases hb with ⟨l, l1, l2, ⟨g, g1, g2⟩, l3⟩ | ⟨b1, b2⟩
    · exact absurd g2 (a2 l g g1)
    · rw [a1, b1]
/-- the search: labels, the row of what is reached, how many -/
def BI (K : Nat → Nat) (s0 : Nat) (lab : Nat → Option Nat) (q : Nat → Nat) (m : Nat) : Prop :=
  0 < m ∧ q 0 = s0 ∧ lab s0 = some 0 ∧ (∀ j, j < m → q j < 144 ∧ ∃ d, lab (q j) = some d ∧ d ≤ j) ∧ (∀ u d, u < 144 → lab u = some d → Rch K s0 d u ∧ ∃ j, j < m ∧ q j = u) ∧
  (∀ i j a b, i ≤ j → j < m → lab (q i) = some a → lab (q j) = some b → a ≤ b) ∧ fb_ct (fun u => (lab u).isSome) 144 = m
/-- those before the place k have told all their next ones, the one at k those of the instructions before i -/
def BK (K : Nat → Nat) (lab : Nat → Option Nat) (q : Nat → Nat) (m k i : Nat) : Prop :=
  (∀ j, j < k → ∀ i, i < 5 → ∀ u, stp K (q j) i = some u → ∃ d e, lab (q j) = some d ∧ lab u = some e ∧ e ≤ d + 1) ∧ (∃ d, lab (q k) = some d ∧ (∀ j e, j < m → lab (q j) = some e → e ≤ d + 1) ∧ ∀ i', i' < i → ∀ u, stp K (q k) i' = some u → ∃ e, lab u = some e ∧ e ≤ d + 1)
theorem BI_0 {K : Nat → Nat} {s0 : Nat} (hs : s0 < 144) (q : Nat → Nat) (hq : q 0 = s0) : BI K s0 (fun u => if u = s0 then some 0 else none) q 1 ∧ BK K (fun u => if u = s0 then some 0 else none) q 1 0 0 := by
  have hl : (if s0 = s0 then some 0 else none : Option Nat) = some 0 := if_pos rfl
  refine ⟨⟨by decide, hq, hl, fun j hj => ?_, fun u d hu h => ?_, fun i j a b hij hj ha hb => ?_, ?_⟩, fun j hj => absurd hj (Nat.not_lt_zero j), 0, ?_, fun j e hj he => ?_, fun i hi => absurd hi (Nat.not_lt_zero i)⟩
  · obtain rfl : j = 0 := by omega
    rw [hq]
    exact ⟨hs, 0, hl, by decide⟩
  · have h : (if u = s0 then some 0 else none : Option Nat) = some d := h
    by_cases e : u = s0
    · rw [if_pos e] at h; cases h
      exact ⟨e, 0, by decide, hq.trans e.symm⟩
    · rw [if_neg e] at h; cases h
  · obtain rfl : j = 0 := by omega
    obtain rfl : i = 0 := by omega
    rw [ha] at hb; cases hb; exact Nat.le_refl a
  · have h1 := fb_ct_upd (fun _ => false) true hs
    have h2 : fb_ct (fun _ => false) 144 = 0 := fb_ct_zero.mpr (fun _ _ => rfl)
    rw [h2] at h1
    have h3 : fb_ct (fun u => (if u = s0 then some 0 else none : Option Nat).isSome) 144 = fb_ct (fun k => if k = s0 then true else false) 144 := fb_ct_cong (fun u _ => by
      by_cases e : u = s0
      · rw [if_pos e, if_pos e]; rfl
      · rw [if_neg e, if_neg e]; rfl)
    rw [h3]
    simpa using h1
  · show (if q 0 = s0 then some 0 else none : Option Nat) = some 0
    rw [if_pos hq]
  · obtain rfl : j = 0 := by omega
    have he : (if q 0 = s0 then some 0 else none : Option Nat) = some e := he
    rw [if_pos hq] at he; cases he; decide
theorem bfs_old {K : Nat → Nat} {s0 : Nat} {lab : Nat → Option Nat} {q : Nat → Nat} {m k i : Nat} (hB : BI K s0 lab q m) (hk : k < m) (hK : BK K lab q m k i) (h : ∀ u, stp K (q k) i = some u → ∃ e, lab u = some e) : BK K lab q m k (i + 1) := by
  obtain ⟨h1, d, h2, h3, h4⟩ := hK
  refine ⟨h1, d, h2, h3, fun i' hi' u hu => ?_⟩
  by_cases e : i' = i
  · subst e
    obtain ⟨e, he⟩ := h u hu
    have hu144 := stp_lt (hB.2.2.2.1 k hk).1 i' u hu
    obtain ⟨j, hj, hjq⟩ := (hB.2.2.2.2.1 u e hu144 he).2
    exact ⟨e, he, h3 j e hj (by rw [hjq]; exact he)⟩
  · exact h4 i' (by omega) u hu
theorem bfs_new {K : Nat → Nat} {s0 : Nat} {lab : Nat → Option Nat} {q : Nat → Nat} {m k i u d : Nat} (hB : BI K s0 lab q m) (hk : k < m) (hi : i < 5) (hK : BK K lab q m k i) (hd : lab (q k) = some d) (hu : stp K (q k) i = some u) (hl : lab u = none) :
    m < 144 ∧ BI K s0 (fun x => if x = u then some (d + 1) else lab x) (fun j => if j = m then u else q j) (m + 1) ∧ BK K (fun x => if x = u then some (d + 1) else lab x) (fun j => if j = m then u else q j) (m + 1) k (i + 1) := by
  obtain ⟨b1, b2, b3, b4, b5, b6, b7⟩ := hB
  obtain ⟨h1, d', h2, h3, h4⟩ := hK
  obtain rfl : d' = d := by rw [h2] at hd; exact Option.some.inj hd
  have hu144 : u < 144 := stp_lt (b4 k hk).1 i u hu
  have hne : ∀ j, j < m → q j ≠ u := fun j hj e => by
    obtain ⟨-, e1, e2, -⟩ := b4 j hj
    rw [e, hl] at e2; cases e2
  have hct := fb_ct_upd (fun x => (lab x).isSome) true hu144
  rw [show (lab u).isSome = false by rw [hl]; rfl] at hct
  have hm : fb_ct (fun x => (if x = u then some (d' + 1) else lab x).isSome) 144 = m + 1 := by
    rw [← b7]
    have : fb_ct (fun x => (if x = u then some (d' + 1) else lab x).isSome) 144 = fb_ct (fun x => if x = u then true else (lab x).isSome) 144 := fb_ct_cong (fun x _ => by
      by_cases e : x = u
      · rw [if_pos e, if_pos e]; rfl
      · rw [if_neg e, if_neg e])
    rw [this]
    simpa using hct
  have hle := fb_ct_le (fun x => (if x = u then some (d' + 1) else lab x).isSome) 144
  have hlq : ∀ j, j < m → (if (if j = m then u else q j) = u then some (d' + 1) else lab (if j = m then u else q j)) = lab (q j) := fun j hj => by
    rw [if_neg (show ¬ j = m by omega), if_neg (hne j hj)]
  have hll : ∀ x e, lab x = some e → (if x = u then some (d' + 1) else lab x) = some e := fun x e h => by
    rw [if_neg (fun z => by rw [z, hl] at h; cases h)]; exact h
  have hdk : d' ≤ k := by
    obtain ⟨-, e1, e2, e3⟩ := b4 k hk
    rw [h2] at e2; cases e2; exact e3
  refine ⟨by omega, ⟨by omega, ?_, hll _ _ b3, fun j hj => ?_, fun x e hx h => ?_, fun a b x y hab hb hx hy => ?_, hm⟩, fun j hj i' hi' x hx => ?_, d', ?_, fun j e hj he => ?_, fun i' hi' x hx => ?_⟩
  · show (if 0 = m then u else q 0) = s0
    rw [if_neg (by omega)]; exact b2
  · show (if j = m then u else q j) < 144 ∧ ∃ e, (if (if j = m then u else q j) = u then some (d' + 1) else lab (if j = m then u else q j)) = some e ∧ e ≤ j
    by_cases e : j = m
    · rw [if_pos e, if_pos rfl]
      exact ⟨hu144, _, rfl, by omega⟩
    · have hjm : j < m := by omega
      rw [hlq j hjm, if_neg e]
      exact b4 j hjm
  · have h : (if x = u then some (d' + 1) else lab x) = some e := h
    by_cases ex : x = u
    · rw [if_pos ex] at h; cases h
      refine ⟨?_, m, by omega, by show (if m = m then u else q m) = x; rw [if_pos rfl, ex]⟩
      rw [ex]
      exact Or.inr ⟨q k, i, (b4 k hk).1, hi, (b5 _ _ (b4 k hk).1 h2).1, hu⟩
    · rw [if_neg ex] at h
      obtain ⟨g1, j, g2, g3⟩ := b5 x e hx h
      exact ⟨g1, j, by omega, by show (if j = m then u else q j) = x; rw [if_neg (by omega)]; exact g3⟩
  · have hx : (if (if a = m then u else q a) = u then some (d' + 1) else lab (if a = m then u else q a)) = some x := hx
    have hy : (if (if b = m then u else q b) = u then some (d' + 1) else lab (if b = m then u else q b)) = some y := hy
    by_cases eb : b = m
    · rw [if_pos eb, if_pos rfl] at hy; cases hy
      by_cases ea : a = m
      · rw [if_pos ea, if_pos rfl] at hx; cases hx; exact Nat.le_refl _
      · rw [hlq a (by omega)] at hx
        exact h3 a x (by omega) hx
    · rw [hlq b (by omega)] at hy
      rw [hlq a (by omega)] at hx
      exact b6 a b x y hab (by omega) hx hy
  · have hx : stp K (if j = m then u else q j) i' = some x := hx
    rw [if_neg (show ¬ j = m by omega)] at hx
    obtain ⟨e1, e2, g1, g2, g3⟩ := h1 j hj i' hi' x hx
    exact ⟨e1, e2, (hlq j (by omega)).trans g1, hll _ _ g2, g3⟩
  · exact (hlq k hk).trans h2
  · have he : (if (if j = m then u else q j) = u then some (d' + 1) else lab (if j = m then u else q j)) = some e := he
    by_cases ej : j = m
    · rw [if_pos ej, if_pos rfl] at he; cases he; exact Nat.le_refl _
    · rw [hlq j (by omega)] at he
      exact h3 j e (by omega) he
  · have hx : stp K (if k = m then u else q k) i' = some x := hx
    rw [if_neg (show ¬ k = m by omega)] at hx
    by_cases ei : i' = i
    · subst ei
      rw [hu] at hx; cases hx
      exact ⟨d' + 1, if_pos rfl, Nat.le_refl _⟩
    · obtain ⟨e, g1, g2⟩ := h4 i' (by omega) x hx
      exact ⟨e, hll _ _ g1, g2⟩
theorem bfs_next {K : Nat → Nat} {s0 : Nat} {lab : Nat → Option Nat} {q : Nat → Nat} {m k : Nat} (hB : BI K s0 lab q m) (hK : BK K lab q m k 5) (hk : k + 1 < m) : BK K lab q m (k + 1) 0 := by
  obtain ⟨h1, d, h2, h3, h4⟩ := hK
  obtain ⟨-, e, g1, g2⟩ := hB.2.2.2.1 (k + 1) hk
  have hde := hB.2.2.2.2.2.1 k (k + 1) d e (by omega) hk h2 g1
  refine ⟨fun j hj i hi u hu => ?_, e, g1, fun j x hj hx => by have := h3 j x hj hx; omega, fun i hi => absurd hi (Nat.not_lt_zero i)⟩
  by_cases ej : j = k
  · subst ej
    obtain ⟨x, x1, x2⟩ := h4 i hi u hu
    exact ⟨d, x, h2, x1, x2⟩
  · exact h1 j (by omega) i hi u hu
/-- what is reached within n, n not above the label at k, is labelled so -/
theorem bfs_full {K : Nat → Nat} {s0 : Nat} {lab : Nat → Option Nat} {q : Nat → Nat} {m k : Nat} (hB : BI K s0 lab q m) (hp : ∀ j, j < k → ∀ i, i < 5 → ∀ u, stp K (q j) i = some u → ∃ d e, lab (q j) = some d ∧ lab u = some e ∧ e ≤ d + 1) (hs : s0 < 144) :
    ∀ n, (∀ d, k < m → lab (q k) = some d → n ≤ d) → k ≤ m → ∀ u, Rch K s0 n u → u < 144 ∧ ∃ e, lab u = some e ∧ e ≤ n := by
  intro n
  induction n with
  | zero =>
    intro _ _ u hu
    have hu : u = s0 := hu
    subst hu
    exact ⟨hs, 0, hB.2.2.1, Nat.le_refl 0⟩
  | succ n ih =>
    intro hn hkm u hu
    have ih := ih (fun d h1 h2 => by have := hn d h1 h2; omega) hkm
    rcases hu with hu | ⟨v, i, hv, hi, hr, hst⟩
    · obtain ⟨a, e, b, c⟩ := ih u hu
      exact ⟨a, e, b, by omega⟩
    · obtain ⟨_, e, b, c⟩ := ih v hr
      obtain ⟨j, j1, j2⟩ := (hB.2.2.2.2.1 v e hv b).2
      have hjk : j < k := Classical.byContradiction fun z => by
        obtain ⟨-, x, x1, x2⟩ := hB.2.2.2.1 k (by omega)
        have := hB.2.2.2.2.2.1 k j x e (by omega) j1 x1 (by rw [j2]; exact b)
        have := hn x (by omega) x1
        omega
      obtain ⟨d', e', y1, y2, y3⟩ := hp j hjk i hi u (by rw [j2]; exact hst)
      rw [j2, b] at y1; cases y1
      exact ⟨stp_lt hv i u hst, e', y2, by omega⟩
