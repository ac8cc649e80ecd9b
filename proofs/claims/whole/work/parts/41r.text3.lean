/-! The text: the whole of it; a new floor -/
theorem ne_neg200 : ∀ d, d < 200 → ¬ nI d = (-1 : Int32) := by decide +kernel
theorem kind_sign : ∀ c, c < 256 → mX9_kindOfSign (nI c) = -1 ∨ ((mX9_kindOfSign (nI c)).toNatClampNeg < 7 ∧ mX9_kindOfSign (nI c) = nI (mX9_kindOfSign (nI c)).toNatClampNeg) := by decide +kernel
theorem kind_same (x : Int32) : mX7_kindOfSign x = mX9_kindOfSign x := rfl
theorem kind_none : mX9_kindOfSign (-1) = -1 := by decide
theorem kinds_L {ti sg vtt : Nat → Int32} {n : Nat} (hT : TX ti sg vtt n) {vi vc va vpa vb vpb : Nat → Int32} : ∀ (j n1 n2 n3 c : Nat) (mi s : Nat → Int32) (vj : Nat → Int64) (vk : Nat → Int32), j < n1 → j < n2 → j < n3 → c + j = 36 → 1 + c ≤ n → mi 2 = nI n → mi 16 = nI (1 + c) → FL vi vj vk vc va vpa vb vpb s →
    (∃ e mi' s', e < 200 ∧ mX7_firstError_L14 n1 ti sg (nI (1 + c)) = some (nI e) ∧ mX9_readKinds_L2 n2 mi vtt s (nI c) = some (0, mi', s') ∧ mi' 16 = nI e ∧ KP mi mi') ∨
    (∃ mi' s' vj' vk', 37 ≤ n ∧ mX7_firstError_L14 n1 ti sg (nI (1 + c)) = mX7_firstError_L45 4096 ti sg (37 : Int32) (0 : Int32) ∧ mX9_readKinds_L2 n2 mi vtt s (nI c) = some (1, mi', s') ∧ mi' 16 = nI 37 ∧ KP mi mi' ∧ mX7_giveTo_L4 n3 ti sg vi vj vk vc va vpa vb vpb (mi 17) (nI c) = mX7_giveTo_L48 4096 ti sg vi vj' vk' vc va vpa vb vpb (mi' 17) (37 : Int32) (0 : Int32) ∧ FL vi vj' vk' vc va vpa vb vpb s') := by
  have hn := hT.1
  intro j
  induction j with
  | zero =>
    intro n1 n2 n3 c mi s vj vk h1 h2 h3 hc hcn m2 m16 hF
    obtain ⟨n1, rfl⟩ : ∃ m, n1 = m + 1 := ⟨n1 - 1, by omega⟩
    obtain ⟨n2, rfl⟩ : ∃ m, n2 = m + 1 := ⟨n2 - 1, by omega⟩
    obtain ⟨n3, rfl⟩ : ∃ m, n3 = m + 1 := ⟨n3 - 1, by omega⟩
    obtain rfl : c = 36 := by omega
    refine Or.inr ⟨mi, s, vj, vk, hcn, ?_, ?_, m16, ⟨rfl, rfl, rfl⟩, ?_, hF⟩
    · unfold mX7_firstError_L14
      rw [if_pos (by decide)]
    · unfold mX9_readKinds_L2
      rw [if_pos le36']
    · unfold mX7_giveTo_L4
      rw [if_pos le36']
  | succ j ih =>
    intro n1 n2 n3 c mi s vj vk h1 h2 h3 hc hcn m2 m16 hF
    obtain ⟨n1, rfl⟩ : ∃ m, n1 = m + 1 := ⟨n1 - 1, by omega⟩
    obtain ⟨n2, rfl⟩ : ∃ m, n2 = m + 1 := ⟨n2 - 1, by omega⟩
    obtain ⟨n3, rfl⟩ : ∃ m, n3 = m + 1 := ⟨n3 - 1, by omega⟩
    have hc36 : c < 36 := by omega
    have h37 : ¬ ((37 : Int32) ≤ nI (1 + c)) := nI_leF (b := 37) (by omega) (by decide) (by omega)
    have e1c : (1 : Int32) + nI c = nI (1 + c) := nI_add 1 c
    unfold mX7_firstError_L14 mX9_readKinds_L2 mX7_giveTo_L4
    rw [if_neg h37, if_neg (le36 hc36), if_neg (le36 hc36), v_sign hT (by omega), kind_same, e1c, v_sign hT (by omega), kind_same, m2, m16]
    by_cases hp : 1 + c < n
    · have hcc := (hT.2.2 (1 + c) hp).2
      rw [if_pos hp, if_neg (nI_leF (by omega) (by omega) hp), if_pos (g_idx (by omega) 120 (by omega)), nI_clamp (by omega), hcc.1]
      rcases kind_sign (txc vtt (1 + c)) hcc.2 with hk | ⟨hk, ek⟩
      · rw [hk, if_pos rfl]
        refine Or.inl ⟨1 + c, mi, s, by omega, rfl, ?_, m16, ⟨rfl, rfl, rfl⟩⟩
        unfold mX9_readKinds_J35
        rw [if_pos rfl]
      · generalize (mX9_kindOfSign (nI (txc vtt (1 + c)))).toNatClampNeg = k at *
        rw [ek, if_neg (ne_neg1 k (by omega))]
        unfold mX9_readKinds_J35 mX9_readKinds_J69 mX7_giveTo_J34
        rw [if_neg (ne_neg1 k (by omega)), nI_1, show 1 + c + 1 = 1 + (c + 1) by omega]
        obtain ⟨rf, o1, o2, o3, o4⟩ := op_kind hF hc36 hk
        cases rf with
        | true =>
          rw [o2, bo1_some, if_pos itf_t0, o3 rfl, bo3_some, if_pos rfl, nI_1]
          have m16' : upd mi 17 (mi 17 + 1) 16 = nI (1 + c) := m16
          rw [m16', nI_1, show 1 + c + 1 = 1 + (c + 1) by omega]
          rcases ih n1 n2 n3 (c + 1) (upd (upd mi 17 (mi 17 + 1)) 16 (nI (1 + (c + 1)))) s vj vk (by omega) (by omega) (by omega) (by omega) (by omega) m2 rfl hF with h | ⟨mi', s', vj', vk', a0, a1, a2, a3, a4, a5, a6⟩
          · exact Or.inl h
          · exact Or.inr ⟨mi', s', vj', vk', a0, a1, a2, a3, a4, a5, a6⟩
        | false =>
          obtain ⟨vj1, vk1, s1, q1, q2, q3⟩ := o4 rfl
          have es : s1 = upd s c (nI k) := by
            unfold mX9_kindOn at q2
            rw [if_pos (g_idx117 (by omega)), nI_clamp (by omega)] at q2
            have := (Option.some.inj q2)
            exact (congrArg Prod.snd this).symm
          rw [o2, bo1_some, if_neg itf_f0, if_pos (g_idx117 (by omega)), nI_clamp (by omega), q1, bo3_some, if_neg ne10, nI_1, Int32.add_zero, m16, nI_1, show 1 + c + 1 = 1 + (c + 1) by omega, ← es]
          rcases ih n1 n2 n3 (c + 1) (upd mi 16 (nI (1 + (c + 1)))) s1 vj1 vk1 (by omega) (by omega) (by omega) (by omega) (by omega) m2 rfl q3 with h | ⟨mi', s', vj', vk', a0, a1, a2, a3, a4, a5, a6⟩
          · exact Or.inl h
          · exact Or.inr ⟨mi', s', vj', vk', a0, a1, a2, a3, a4, a5, a6⟩
    · rw [if_neg hp, if_pos ((pu_le (by omega) (by omega)).mpr (by omega)), kind_none, if_pos rfl]
      refine Or.inl ⟨1 + c, mi, s, by omega, rfl, ?_, m16, ⟨rfl, rfl, rfl⟩⟩
      unfold mX9_readKinds_J35
      rw [if_pos rfl]
theorem items_L {ti sg vtt : Nat → Int32} {n : Nat} (hT : TX ti sg vtt n) {vk : Nat → Int32} : ∀ (j n1 n2 n3 p i : Nat) (mi s vi : Nat → Int32) (vj : Nat → Int64) (vc va vpa vb vpb : Nat → Int32), j < n1 → j < n2 → j < n3 → n ≤ p + j → p ≤ n → i ≤ p → mi 2 = nI n → mi 16 = nI p → FL vi vj vk vc va vpa vb vpb s →
    (∃ e mi' s', e < 200 ∧ mX7_firstError_L45 n1 ti sg (nI p) (nI i) = some (nI e) ∧ mX9_readText_L52 n2 mi vtt s = some (nI e, mi', s') ∧ KP mi mi') ∨
    (∃ mi' s' vi' vj' vc' va' vpa' vb' vpb', mX7_firstError_L45 n1 ti sg (nI p) (nI i) = some (-1) ∧ mX9_readText_L52 n2 mi vtt s = some (-1, mi', s') ∧ KP mi mi' ∧ mX7_giveTo_L48 n3 ti sg vi vj vk vc va vpa vb vpb (mi 17) (nI p) (nI i) = some (mi' 17, vi', vj', vk, vc', va', vpa', vb', vpb') ∧ FL vi' vj' vk vc' va' vpa' vb' vpb' s') := by
  have hn := hT.1
  have fin : ∀ (n1 n2 n3 i : Nat) (mi s vi : Nat → Int32) (vj : Nat → Int64) (vc va vpa vb vpb : Nat → Int32), mi 2 = nI n → mi 16 = nI n → mX7_firstError_L45 (n1 + 1) ti sg (nI n) (nI i) = some (-1) ∧ mX9_readText_L52 (n2 + 1) mi vtt s = some (-1, mi, s) ∧ mX7_giveTo_L48 (n3 + 1) ti sg vi vj vk vc va vpa vb vpb (mi 17) (nI n) (nI i) = some (mi 17, vi, vj, vk, vc, va, vpa, vb, vpb) := by
    intro n1 n2 n3 i mi s vi vj vc va vpa vb vpb m2 m16
    have hle : nI n ≤ nI n := (pu_le (by omega) (by omega)).mpr (Nat.le_refl n)
    refine ⟨?_, ?_, ?_⟩
    · unfold mX7_firstError_L45
      rw [hT.2.1, if_pos hle, ite_self]
    · unfold mX9_readText_L52
      rw [m2, m16, if_pos hle]
    · unfold mX7_giveTo_L48
      rw [hT.2.1, if_pos hle, ite_self]
  intro j
  induction j with
  | zero =>
    intro n1 n2 n3 p i mi s vi vj vc va vpa vb vpb h1 h2 h3 hp hpn hip m2 m16 hF
    obtain ⟨n1, rfl⟩ : ∃ m, n1 = m + 1 := ⟨n1 - 1, by omega⟩
    obtain ⟨n2, rfl⟩ : ∃ m, n2 = m + 1 := ⟨n2 - 1, by omega⟩
    obtain ⟨n3, rfl⟩ : ∃ m, n3 = m + 1 := ⟨n3 - 1, by omega⟩
    obtain rfl : p = n := by omega
    obtain ⟨f1, f2, f3⟩ := fin n1 n2 n3 i mi s vi vj vc va vpa vb vpb m2 m16
    exact Or.inr ⟨mi, s, vi, vj, vc, va, vpa, vb, vpb, f1, f2, ⟨rfl, rfl, rfl⟩, f3, hF⟩
  | succ j ih =>
    intro n1 n2 n3 p i mi s vi vj vc va vpa vb vpb h1 h2 h3 hp hpn hip m2 m16 hF
    obtain ⟨n1, rfl⟩ : ∃ m, n1 = m + 1 := ⟨n1 - 1, by omega⟩
    obtain ⟨n2, rfl⟩ : ∃ m, n2 = m + 1 := ⟨n2 - 1, by omega⟩
    obtain ⟨n3, rfl⟩ : ∃ m, n3 = m + 1 := ⟨n3 - 1, by omega⟩
    by_cases hpe : p = n
    · subst hpe
      obtain ⟨f1, f2, f3⟩ := fin n1 n2 n3 i mi s vi vj vc va vpa vb vpb m2 m16
      exact Or.inr ⟨mi, s, vi, vj, vc, va, vpa, vb, vpb, f1, f2, ⟨rfl, rfl, rfl⟩, f3, hF⟩
    · have hpl : p < n := by omega
      have hle : ¬ nI n ≤ nI p := nI_leF (by omega) (by omega) hpl
      have h120 : ¬ ((120 : Int32) ≤ nI i) := nI_leF (b := 120) (by omega) (by decide) (by omega)
      unfold mX7_firstError_L45 mX9_readText_L52 mX7_giveTo_L48
      rw [hT.2.1, m2, m16, if_neg h120, if_neg hle, if_neg hle, if_neg h120, if_neg hle]
      rcases item_x hT hpl hF m2 m16 with ⟨e, mi1, s1, e1, e2, e3, e4, e5⟩ | ⟨len, r, mi1, s1, vi1, vj1, vc1, va1, vpa1, vb1, vpb1, a1, a2, a3, a4, a5, a6, a7, a8, a9, a10⟩
      · rw [e2, bo1_some, if_neg (ne_neg200 e e1), e3, bo3_some, if_pos rfl, e4]
        exact Or.inl ⟨e, mi1, s1, e1, rfl, rfl, e5⟩
      · rw [a3, bo1_some, if_pos rfl, a4, bo1_some, a5, bo3_some, if_neg ne10, a9, bo8_some, bo1_some, nI_add, nI_1, ← a7]
        rcases ih n1 n2 n3 (p + len) (i + 1) mi1 s1 vi1 vj1 vc1 va1 vpa1 vb1 vpb1 (by omega) (by omega) (by omega) (by omega) a2 (by omega) (a8.2.1.trans m2) a6 a10 with ⟨e, mi2, s2, b1, b2, b3, b4⟩ | ⟨mi2, s2, vi2, vj2, vc2, va2, vpa2, vb2, vpb2, b1, b2, b3, b4, b5⟩
        · exact Or.inl ⟨e, mi2, s2, b1, b2, b3, ⟨b4.1.trans a8.1, b4.2.1.trans a8.2.1, b4.2.2.trans a8.2.2⟩⟩
        · exact Or.inr ⟨mi2, s2, vi2, vj2, vc2, va2, vpa2, vb2, vpb2, b1, b2, ⟨b3.1.trans a8.1, b3.2.1.trans a8.2.1, b3.2.2.trans a8.2.2⟩, b4, b5⟩
theorem read_ok {ti sg vtt : Nat → Int32} {n : Nat} (hT : TX ti sg vtt n) {mi vtr s0 : Nat → Int32} (m2 : mi 2 = nI n) (hcl : mX9_clear vtr = some s0) {vi : Nat → Int32} {vj : Nat → Int64} {vk vc va vpa vb vpb : Nat → Int32} (hF : FL vi vj vk vc va vpa vb vpb s0) :
    (∃ e mi' s', e < 200 ∧ mX7_firstError ti sg = some (nI e) ∧ mX9_readText mi vtt vtr = some (nI e, mi', s') ∧ KP mi mi') ∨
    (∃ mi' s' vi' vj' vk' vc' va' vpa' vb' vpb', mX7_firstError ti sg = some (-1) ∧ mX9_readText mi vtt vtr = some (-1, mi', s') ∧ KP mi mi' ∧ mX7_giveTo ti sg vi vj vk vc va vpa vb vpb = some (mi' 17, vi', vj', vk', vc', va', vpa', vb', vpb') ∧ FL vi' vj' vk' vc' va' vpa' vb' vpb' s') := by
  have hn := hT.1
  have hs0 : mX7_signAt ti sg (0 : Int32) = if 0 < n then nI (txc vtt 0) else -1 := v_sign hT (p := 0) (by decide)
  unfold mX7_firstError mX9_readText
  rw [hcl, bo1_some, hs0, m2]
  by_cases h0 : n = 0
  · rw [if_neg (show ¬ 0 < n by omega), if_neg (by decide), if_pos (show nI n = 0 by rw [h0]; rfl)]
    exact Or.inl ⟨0, _, _, by decide, rfl, rfl, ⟨rfl, rfl, rfl⟩⟩
  · have hv0 : vtt (0 : Int32).toNatClampNeg = nI (txc vtt 0) := (hT.2.2 0 (by omega)).2.1
    rw [if_pos (show 0 < n by omega), if_neg (show ¬ nI n = 0 from nI_ne0 (by omega) (by omega)), hv0]
    by_cases h70 : nI (txc vtt 0) = (70 : Int32)
    · rw [if_pos h70, if_pos h70]
      have kk := kinds_L hT (vi := vi) (vc := vc) (va := va) (vpa := vpa) (vb := vb) (vpb := vpb) 36 4096 4096 4096 0 (upd (upd (upd mi 17 0) 16 0) 16 1) s0 vj vk (by decide) (by decide) (by decide) (by decide) (by omega) m2 rfl hF
      rcases kk with ⟨e, mi1, s1, e1, e2, e3, e4, e5⟩ | ⟨mi1, s1, vj1, vk1, h37, a1, a2, a3, a4, a5, a6⟩
      · have e3 : mX9_readKinds (upd (upd (upd mi 17 0) 16 0) 16 1) vtt s0 = _ := e3
        have e2 : mX7_firstError_L14 4096 ti sg (1 : Int32) = _ := e2
        rw [e2, e3, bo3_some, if_pos rfl, e4]
        exact Or.inl ⟨e, mi1, s1, e1, rfl, rfl, e5⟩
      · have a2 : mX9_readKinds (upd (upd (upd mi 17 0) 16 0) 16 1) vtt s0 = _ := a2
        have a1 : mX7_firstError_L14 4096 ti sg (1 : Int32) = _ := a1
        have a5 : mX7_giveTo ti sg vi vj vk vc va vpa vb vpb = _ := a5
        rw [a1, a2, bo3_some, if_neg ne10, a5]
        rcases items_L hT 120 4096 4096 4096 37 0 mi1 s1 vi vj1 vc va vpa vb vpb (by decide) (by decide) (by decide) (by omega) h37 (by decide) (a4.2.1.trans m2) a3 a6 with ⟨e, mi2, s2, b1, b2, b3, b4⟩ | ⟨mi2, s2, vi2, vj2, vc2, va2, vpa2, vb2, vpb2, b1, b2, b3, b4, b5⟩
        · exact Or.inl ⟨e, mi2, s2, b1, b2, b3, ⟨b4.1.trans a4.1, b4.2.1.trans a4.2.1, b4.2.2.trans a4.2.2⟩⟩
        · exact Or.inr ⟨mi2, s2, vi2, vj2, vk1, vc2, va2, vpa2, vb2, vpb2, b1, b2, ⟨b3.1.trans a4.1, b3.2.1.trans a4.2.1, b3.2.2.trans a4.2.2⟩, b4, b5⟩
    · rw [if_neg h70, if_neg h70]
      exact Or.inl ⟨0, _, _, by decide, rfl, rfl, ⟨rfl, rfl, rfl⟩⟩
