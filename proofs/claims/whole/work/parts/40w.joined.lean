/-! Both sides' things are the same; they stay apart and on no block; as many crates as before -/
def Teq (t t' : Th) : Prop := (∀ x, x < 36 → t.1 x = t'.1 x) ∧ t.2.1 = t'.2.1 ∧ t.2.2 = t'.2.2
theorem Teq_refl (t : Th) : Teq t t := ⟨fun _ _ => rfl, rfl, rfl⟩
theorem goR_one {c : Nat} {w go : Option Nat} {t t' a b : Th} (h : Teq t t') (h1 : goR c w go t a) (h2 : goR c w go t' b) : Teq a b := by
  cases go with
  | none =>
    have h1 : a = t := h1
    have h2 : b = t' := h2
    subst h1 h2
    exact h
  | some r =>
    obtain ⟨d, e, i1, c1, k1⟩ := h1
    obtain ⟨d', e', i2, c2, k2⟩ := h2
    obtain rfl : d = d' := by rw [e] at e'; exact Option.some.inj e'
    refine ⟨fun y hy => ?_, by rw [c1, c2, h.2.1], by rw [k1, k2, h.2.2]⟩
    rw [Bool.eq_iff_iff, i1 y hy, i2 y hy]
    exact ⟨fun ⟨z, hz, q1, q2⟩ => ⟨z, hz, by rw [← h.1 z hz]; exact q1, q2⟩, fun ⟨z, hz, q1, q2⟩ => ⟨z, hz, by rw [h.1 z hz]; exact q1, q2⟩⟩
theorem RS_Teq {s : Nat → Int32} {K : Nat → Nat} {t t' : Th} (h : RS s K t.1 t.2.1 t.2.2) (e : Teq t t') : RS s K t'.1 t'.2.1 t'.2.2 :=
  ⟨fun x hx => ⟨(h.1 x hx).1, by rw [← e.1 x hx]; exact (h.1 x hx).2⟩, by rw [← e.2.1]; exact h.2.1, by rw [← e.2.2]; exact h.2.2⟩
theorem fb_img {C C' : Nat → Bool} {f : Nat → Nat} (hf : ∀ x, x < 36 → C x = true → f x < 36) (hi : ∀ x y, x < 36 → y < 36 → C x = true → C y = true → f x = f y → x = y) (h : Img f C C') : fb_ct C' 36 = fb_ct C 36 := by
  have aux : ∀ n, n ≤ 36 → fb_ct (fun y => (List.range n).any (fun x => C x && (f x == y))) 36 = fb_ct C n := by
    intro n
    induction n with
    | zero => intro _; exact fb_ct_zero.mpr (fun k _ => rfl)
    | succ n ih =>
      intro hn
      have ih := ih (by omega)
      rw [fb_ct_succ C n, ← ih]
      by_cases hc : C n = true
      · rw [if_pos hc]
        have e : fb_ct (fun y => (List.range (n + 1)).any (fun x => C x && (f x == y))) 36 = fb_ct (fun y => (List.range n).any (fun x => C x && (f x == y)) || (y == f n)) 36 := fb_ct_cong (fun y _ => by
          rw [any_succ, hc, Bool.true_and]
          congr 1
          rw [Bool.eq_iff_iff, beq_iff_eq, beq_iff_eq]
          exact ⟨fun q => q.symm, fun q => q.symm⟩)
        rw [e, fb_ct_or (fun k _ ⟨q1, q2⟩ => by
          obtain ⟨x, hx, q⟩ := any_rng.mp q1
          rw [Bool.and_eq_true, beq_iff_eq] at q
          rw [beq_iff_eq] at q2
          have := hi x n (by omega) (by omega) q.1 hc (q.2.trans q2)
          omega), fb_one _ (hf n (by omega) hc)]
      · rw [if_neg hc]
        refine (fb_ct_cong (fun y _ => ?_)).trans (Nat.add_zero _).symm
        rw [any_succ, show C n = false by simpa using hc, Bool.false_and, Bool.or_false]
  rw [← aux 36 (Nat.le_refl _)]
  apply fb_ct_cong
  intro y hy
  rw [Bool.eq_iff_iff, h y hy, any_rng]
  exact ⟨fun ⟨z, hz, q1, q2⟩ => ⟨z, hz, by rw [q1, q2]; simp⟩, fun ⟨z, hz, q⟩ => by
    rw [Bool.and_eq_true, beq_iff_eq] at q
    exact ⟨z, hz, q.1, q.2⟩⟩
theorem th_nb {K : Nat → Nat} {t : Th} (hk : RK K t.1 t.2.1 t.2.2) {x : Nat} (hx : x < 36) (h : tht t x = true) : K x ≠ 1 := by
  rcases tht_iff.mp h with q | q | q
  · exact (hk.1 x hx).2 q
  · rw [q]; exact hk.2.2.2.2.2.2.1
  · rw [q]; exact hk.2.2.2.2.2.2.2
theorem goR_RK {K : Nat → Nat} {t t' : Th} {c : Nat} {w go : Option Nat} (hk : RK K t.1 t.2.1 t.2.2) (hd : ∀ d, w = some d → d < 4) (hc : tht t c = true) (hc36 : c < 36)
    (hgo : ∀ r, go = some r → ∃ d, w = some d ∧ (pth d (r + 1) (bs c d)).length = r + 1 ∧ (∀ i, 1 ≤ i → i ≤ r → tht t (pi d c i) = true) ∧ tht t (pi d c (r + 1)) = false ∧ K (pi d c (r + 1)) ≠ 1) (h : goR c w go t t') :
    RK K t'.1 t'.2.1 t'.2.2 ∧ fb_ct t'.1 36 = fb_ct t.1 36 := by
  have hT' := goR_TS (K := K) (TS_of hk) hd hc hc36 (fun r hr => by
    obtain ⟨d, z1, z2, z3, z4, _⟩ := hgo r hr
    exact ⟨d, z1, z2, z3, z4⟩) h
  cases go with
  | none =>
    have h : t' = t := h
    subst h
    exact ⟨hk, rfl⟩
  | some r =>
    obtain ⟨d, e, h1, h2, h3⟩ := h
    obtain ⟨d', e', hl, hT1, hT2, hK1⟩ := hgo r rfl
    obtain rfl : d' = d := by rw [e'] at e; exact Option.some.inj e
    have hd4 := hd d' e'
    obtain ⟨hp, -⟩ := pin_pth (r + 1) c hl
    have nb : ∀ z, z < 36 → tht t z = true → K (sh d' c r z) ≠ 1 := fun z hz ht => by
      rcases sh_or hd4 hc36 hp r (Nat.le_refl _) z with ⟨j, j1, j2, j3⟩ | ⟨_, j3⟩
      · rw [j3]
        by_cases q : j = r
        · rw [q]; exact hK1
        · exact th_nb hk (pi_lt hd4 hc36 hp (j + 1) (by omega)) (hT1 (j + 1) (by omega) (by omega))
      · rw [j3]; exact th_nb hk hz ht
    have hCT : ∀ x, t.1 x = true → tht t x = true := fun x q => tht_iff.mpr (Or.inl q)
    refine ⟨⟨fun x hx => ⟨(hk.1 x hx).1, fun q => ?_⟩, hT'.1, hT'.2.1, hT'.2.2.1, hT'.2.2.2.1, hT'.2.2.2.2, ?_, ?_⟩, fb_img (f := sh d' c r) (fun x hx q => ?_) (fun x y hx hy qx qy q => ?_) h1⟩
    · obtain ⟨z, hz, q1, q2⟩ := (h1 x hx).mp q
      rw [← q2]; exact nb z hz (hCT z q1)
    · rw [h2]; exact nb _ hk.2.1 (tht_iff.mpr (Or.inr (Or.inl rfl)))
    · rw [h3]; exact nb _ hk.2.2.1 (tht_iff.mpr (Or.inr (Or.inr rfl)))
    · rcases sh_or hd4 hc36 hp r (Nat.le_refl _) x with ⟨j, j1, j2, j3⟩ | ⟨_, j3⟩
      · rw [j3]; exact pi_lt hd4 hc36 hp (j + 1) (by omega)
      · rw [j3]; exact hx
    · rcases sh_or hd4 hc36 hp r (Nat.le_refl _) x with ⟨j, j1, j2, j3⟩ | ⟨j4, j3⟩
      · rcases sh_or hd4 hc36 hp r (Nat.le_refl _) y with ⟨k, k1, k2, k3⟩ | ⟨k4, k3⟩
        · rw [j3, k3] at q
          have := pi_inj hd4 hc36 hp (i := j + 1) (j := k + 1) (by omega) (by omega) q
          rw [j2, k2, show j = k by omega]
        · rw [j3, k3] at q
          by_cases e : j = r
          · rw [e] at q
            rw [q, hCT y qy] at hT2; cases hT2
          · exact absurd q.symm (k4 (j + 1) (by omega))
      · rcases sh_or hd4 hc36 hp r (Nat.le_refl _) y with ⟨k, k1, k2, k3⟩ | ⟨k4, k3⟩
        · rw [j3, k3] at q
          by_cases e : k = r
          · rw [e] at q
            rw [← q, hCT x qx] at hT2; cases hT2
          · exact absurd q (j4 (k + 1) (by omega))
        · rw [j3, k3] at q; exact q
theorem roA_K {K : Nat → Nat} {t : Th} {c r d : Nat} (h : roA K t c (some d) = some r) : K (pi d c (r + 1)) ≠ 1 := (rl_row 6 c r h).2.2
/-- both robots' pushes keep things apart and on no block -/
theorem both_RK {K : Nat → Nat} {t t1 t' : Th} {w0 w1 : Option Nat} (hk : RK K t.1 t.2.1 t.2.2) (hw0 : ∀ d, w0 = some d → d < 4) (hw1 : ∀ d, w1 = some d → d < 4) (h0 : goR t.2.1 w0 (goA K t w0 w1 t.2.1 w0) t t1) (h1 : goR t.2.2 w1 (goA K t w0 w1 t.2.2 w1) t1 t') : RK K t'.1 t'.2.1 t'.2.2 ∧ fb_ct t'.1 36 = fb_ct t.1 36 := by
  obtain ⟨a1, a2⟩ := goR_RK hk hw0 (tht_iff.mpr (Or.inr (Or.inl rfl))) hk.2.1 (fun r hr => by
    obtain ⟨q1, q2⟩ := goA_some hr
    obtain ⟨d, z1, z2, z3, z4, z5⟩ := roA_some q2
    subst z1
    exact ⟨d, rfl, z2, z4, z5, roA_K q2⟩) h0
  cases hg : goA K t w0 w1 t.2.2 w1 with
  | none =>
    rw [hg] at h1
    have h1 : t' = t1 := h1
    subst h1
    exact ⟨a1, a2⟩
  | some r =>
    obtain ⟨y1, d, z1, z2, z4, z5⟩ := second_way hk hw0 hw1 h0 hg
    obtain ⟨q1, q2⟩ := goA_some hg
    subst z1
    obtain ⟨b1, b2⟩ := goR_RK a1 hw1 (c := t.2.2) (by rw [← y1]; exact tht_iff.mpr (Or.inr (Or.inr rfl))) hk.2.2.1 (fun r' hr => by
      rw [hg] at hr; cases hr
      exact ⟨d, rfl, z2, z4, z5, roA_K q2⟩) h1
    exact ⟨b1, b2.trans a2⟩
