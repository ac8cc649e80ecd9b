/-! The reference: a robot follows its instruction -/
theorem jrem_pl : ∀ l, l < 11 → ∀ p, p < 11 → p < l → jrem (nI p + 1) (nI l) = if nI l ≤ nI p + 1 then 0 else nI p + 1 := by decide +kernel
theorem by_lt (i : Int32) : byA i < 4 := by
  unfold byA
  split
  · decide
  · split
    · decide
    · split <;> decide
/-- robot a's numbers turn and its place goes on -/
theorem g_turns {s : Nat → Int32} {a f : Nat} {h I : Nat → Int32} (ha : a < 2) (hR : RR s a f h I) (hO : OKr f h I) :
    ∃ s1, mX9_turns s (nI a) = some s1 ∧ RR s1 a (tfA f h I) (tpA h) I ∧ (∀ k, k ≠ 72 + 9 * a + 1 → k ≠ 72 + 9 * a + 7 → s1 k = s k) := by
  obtain ⟨hf, p, l, e7, e8, hl, hp, hi⟩ := hO
  have e8' : mX9_of s (nI a) (8 : Int32) = some (h 8) := (g_of s (k := 8) ha (by decide)).trans (by rw [hR.2.1 8 (by decide) (by decide)])
  have e7' : mX9_of s (nI a) (7 : Int32) = some (h 7) := (g_of s (k := 7) ha (by decide)).trans (by rw [hR.2.1 7 (by decide) (by decide)])
  have e1' : mX9_of s (nI a) (1 : Int32) = some (nI f) := (g_of s (k := 1) ha (by decide)).trans (by rw [hR.1])
  unfold mX9_turns
  rw [e8', bo1_some]
  by_cases hl0 : l = 0
  · subst hl0
    have hp0 : p = 0 := by omega
    subst hp0
    have h80 : h 8 = 0 := e8
    rw [if_pos (by rw [h80]; decide)]
    refine ⟨s, rfl, ⟨?_, fun j h2 h9 => ?_, fun j h1 h2 => ?_⟩, fun _ _ _ => rfl⟩
    · unfold tfA; rw [if_pos h80]; exact hR.1
    · rw [hR.2.1 j h2 h9]
      unfold tpA
      rw [if_pos (by rw [e8, e7]; decide +kernel)]
      by_cases e : j = 7
      · subst e; exact e7
      · exact (if_neg e).symm
    · rw [tpA_8] at h1; exact hR.2.2 j h1 h2
  · have hpl : p < l := by omega
    have h8 : ¬ h 8 = 0 := by rw [e8]; exact nI_ne0 (by omega) (by omega)
    have eI : s (90 + 10 * a + p) = I p := hR.2.2 p (by rw [e8]; exact nI_lt hpl (by omega)) (by omega)
    have en : nowA h I = I p := by unfold nowA; rw [e7, nI_clamp (by omega)]
    rw [if_neg (by rw [e8]; exact nI_nle (by omega) (by omega)), e7', bo1_some, e7, g_prog ha (by omega), if_pos (g_idx (by omega) 117 (by omega)), nI_clamp (by omega), eI]
    have key : ∀ b : Nat, b < 4 → tfA f h I = (f + b) % 4 → ∃ s1, mX9_turns_J56 s (nI a) (nI b) = some s1 ∧ RR s1 a (tfA f h I) (tpA h) I ∧ (∀ k, k ≠ 72 + 9 * a + 1 → k ≠ 72 + 9 * a + 7 → s1 k = s k) := by
      intro b hb hfA
      unfold mX9_turns_J56
      rw [e1', bo1_some, show nI f + nI b = nI (f + b) from nI_add f b, jrem4 (by omega)]
      have p1 := g_puts s (r := a) (k := 1) ha (by decide) (nI ((f + b) % 4))
      rw [show mX9_puts s (nI a) (1 : Int32) (nI ((f + b) % 4)) = _ from p1, bo1_some]
      have q7 : mX9_of (upd s (72 + 9 * a + 1) (nI ((f + b) % 4))) (nI a) (7 : Int32) = some (nI p) := (g_of _ (k := 7) ha (by decide)).trans (by
        rw [show upd s (72 + 9 * a + 1) (nI ((f + b) % 4)) (72 + 9 * a + 7) = s (72 + 9 * a + 7) from if_neg (by omega), hR.2.1 7 (by decide) (by decide), e7])
      have q8 : mX9_of (upd s (72 + 9 * a + 1) (nI ((f + b) % 4))) (nI a) (8 : Int32) = some (nI l) := (g_of _ (k := 8) ha (by decide)).trans (by
        rw [show upd s (72 + 9 * a + 1) (nI ((f + b) % 4)) (72 + 9 * a + 8) = s (72 + 9 * a + 8) from if_neg (by omega), hR.2.1 8 (by decide) (by decide), e8])
      rw [q7, bo1_some, q8, bo1_some, if_neg (by rw [← e8]; exact h8)]
      have p7 := g_puts (upd s (72 + 9 * a + 1) (nI ((f + b) % 4))) (r := a) (k := 7) ha (by decide) (jrem (nI p + 1) (nI l))
      rw [show mX9_puts (upd s (72 + 9 * a + 1) (nI ((f + b) % 4))) (nI a) (7 : Int32) (jrem (nI p + (1 : Int32)) (nI l)) = _ from p7, bo1_some]
      refine ⟨_, rfl, ⟨?_, fun j h2 h9 => ?_, fun j h1 h2 => ?_⟩, fun k k1 k7 => ?_⟩
      · rw [hfA]
        show upd (upd s (72 + 9 * a + 1) _) (72 + 9 * a + 7) _ (72 + 9 * a + 1) = _
        rw [show ∀ v w, upd (upd s (72 + 9 * a + 1) v) (72 + 9 * a + 7) w (72 + 9 * a + 1) = upd s (72 + 9 * a + 1) v (72 + 9 * a + 1) from fun v w => if_neg (by omega)]
        exact if_pos rfl
      · rw [jrem_pl l (by omega) p (by omega) hpl]
        unfold tpA
        rw [e7, e8]
        by_cases e : j = 7
        · subst e
          rw [show ∀ v w, upd (upd s (72 + 9 * a + 1) v) (72 + 9 * a + 7) w (72 + 9 * a + 7) = w from fun v w => if_pos rfl]
          split <;> rfl
        · rw [show ∀ v w, upd (upd s (72 + 9 * a + 1) v) (72 + 9 * a + 7) w (72 + 9 * a + j) = upd s (72 + 9 * a + 1) v (72 + 9 * a + j) from fun v w => if_neg (by omega), show ∀ v, upd s (72 + 9 * a + 1) v (72 + 9 * a + j) = s (72 + 9 * a + j) from fun v => if_neg (by omega), hR.2.1 j h2 h9]
          split <;> exact (if_neg e).symm
      · rw [tpA_8] at h1
        rw [show ∀ v w, upd (upd s (72 + 9 * a + 1) v) (72 + 9 * a + 7) w (90 + 10 * a + j) = upd s (72 + 9 * a + 1) v (90 + 10 * a + j) from fun v w => if_neg (by omega), show ∀ v, upd s (72 + 9 * a + 1) v (90 + 10 * a + j) = s (90 + 10 * a + j) from fun v => if_neg (by omega)]
        exact hR.2.2 j h1 h2
      · show upd (upd s (72 + 9 * a + 1) _) (72 + 9 * a + 7) _ k = s k
        rw [show ∀ v w, upd (upd s (72 + 9 * a + 1) v) (72 + 9 * a + 7) w k = upd s (72 + 9 * a + 1) v k from fun v w => if_neg k7, show ∀ v, upd s (72 + 9 * a + 1) v k = s k from fun v => if_neg k1]
    have ht : tfA f h I = (f + byA (I p)) % 4 := by unfold tfA; rw [if_neg h8, en]
    by_cases h2 : I p = 2
    · rw [if_pos h2]; exact key 3 (by decide) (by rw [ht, h2]; rfl)
    · rw [if_neg h2]
      by_cases h3 : I p = 3
      · rw [if_pos h3]; exact key 1 (by decide) (by rw [ht, h3]; rfl)
      · rw [if_neg h3]
        by_cases h4 : I p = 4
        · rw [if_pos h4]; exact key 2 (by decide) (by rw [ht, h4]; rfl)
        · rw [if_neg h4]
          exact key 0 (by decide) (by rw [ht]; unfold byA; rw [if_neg h2, if_neg h3, if_neg h4])
