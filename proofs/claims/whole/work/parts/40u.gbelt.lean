/-! Belts: the reference's targets -/
def wsO (K : Nat → Nat) (T : Nat → Bool) (c : Nat) : Option Nat := if T c then blt K c else none
def tgO (K : Nat → Nat) (T : Nat → Bool) (c : Nat) : Option Nat := if unh K T c then blt K c else none
theorem wsO_lt {K : Nat → Nat} {T : Nat → Bool} (hK : ∀ x, x < 36 → K x < 7) {c : Nat} (hc : c < 36) : ∀ y, wsO K T c = some y → y < 36 := by
  intro y h
  unfold wsO at h
  split at h
  · exact blt_lt hK hc y h
  · cases h
theorem wn_ws {K : Nat → Nat} {T : Nat → Bool} {o y : Nat} : wn K T o y = true ↔ wsO K T o = some y := by
  rw [wn_iff]
  unfold wsO
  by_cases h : T o = true
  · rw [if_pos h]; exact ⟨fun q => q.2, fun q => ⟨h, q⟩⟩
  · rw [if_neg h]; exact ⟨fun q => absurd q.1 h, fun q => by cases q⟩
theorem ne_neg1 : ∀ d, d < 36 → ¬ nI d = (-1 : Int32) := by decide +kernel
theorem opI_inj {a b : Option Nat} (ha : ∀ x, a = some x → x < 36) (hb : ∀ x, b = some x → x < 36) : opI a = opI b ↔ a = b := by
  constructor
  · intro h
    cases a with
    | none => cases b with
      | none => rfl
      | some y => exact absurd h.symm (ne_neg1 y (hb y rfl))
    | some x => cases b with
      | none => exact absurd h (ne_neg1 x (ha x rfl))
      | some y =>
        have := (nI_inj (show x < 2 ^ 31 by have := ha x rfl; omega) (show y < 2 ^ 31 by have := hb y rfl; omega)).mp h
        rw [this]
  · intro h; rw [h]
theorem g_belt_k : ∀ k, k < 7 → (nI k < (3 : Int32) ↔ k < 3) ∧ (3 ≤ k → nI k - (3 : Int32) = nI (k - 3)) := by decide +kernel
theorem g_idx36 {c : Nat} (h : c < 36) : ¬ (nI c < 0 ∨ 36 ≤ (nI c).toNatClampNeg) := g_idx (by omega) 36 h
theorem g_idx117 {c : Nat} (h : c < 117) : ¬ (nI c < 0 ∨ 117 ≤ (nI c).toNatClampNeg) := g_idx (by omega) 117 h
theorem g_find1 {s : Nat → Int32} {K : Nat → Nat} {t : Th} (h : RS s K t.1 t.2.1 t.2.2) (hk : RK K t.1 t.2.1 t.2.2) (vtg : Nat → Int32) :
    ∀ (j n c : Nat) (vws : Nat → Int32), j < n → c + j = 36 → (∀ x, x < c → vws x = opI (wsO K (tht t) x)) →
      ∃ vws', mX9_findsTargets_L2 n vtg vws s (nI c) = mX9_findsTargets_L68 4096 vtg vws' s (0 : Int32) ∧ ∀ x, x < 36 → vws' x = opI (wsO K (tht t) x) := by
  intro j
  induction j with
  | zero =>
    intro n c vws hn hc hw
    obtain ⟨n, rfl⟩ : ∃ m, n = m + 1 := ⟨n - 1, by omega⟩
    obtain rfl : c = 36 := by omega
    refine ⟨vws, ?_, hw⟩
    unfold mX9_findsTargets_L2
    rw [if_pos le36']
  | succ j ih =>
    intro n c vws hn hc hw
    obtain ⟨n, rfl⟩ : ∃ m, n = m + 1 := ⟨n - 1, by omega⟩
    have hc36 : c < 36 := by omega
    have hkc := (hk.1 c hc36).1
    have key := ih n (c + 1) (upd vws c (opI (wsO K (tht t) c))) (by omega) (by omega) (fun x hx => by
      by_cases e : x = c
      · subst e; exact if_pos rfl
      · rw [show ∀ v, upd vws c v x = vws x from fun v => if_neg e]; exact hw x (by omega))
    have s59 : ∀ o : Option Nat, o = wsO K (tht t) c → ∃ vws', mX9_findsTargets_J59 (fun vtg vws vs l2 => mX9_findsTargets_L2 n vtg vws vs l2) vtg vws s (nI c) (nI c) (opI o) = mX9_findsTargets_L68 4096 vtg vws' s (0 : Int32) ∧ ∀ x, x < 36 → vws' x = opI (wsO K (tht t) x) := fun o ho => by
      subst ho
      unfold mX9_findsTargets_J59
      rw [if_pos (g_idx36 hc36), nI_clamp (by omega)]
      show ∃ vws', mX9_findsTargets_L2 n vtg _ s (nI c + (1 : Int32)) = _ ∧ _
      rw [nI_1]
      exact key
    have s35 : wsO K (tht t) c = none → ∃ vws', mX9_findsTargets_J35 (fun vtg vws vs l2 => mX9_findsTargets_L2 n vtg vws vs l2) vtg vws s (nI c) = mX9_findsTargets_L68 4096 vtg vws' s (0 : Int32) ∧ ∀ x, x < 36 → vws' x = opI (wsO K (tht t) x) := fun ho => by
      unfold mX9_findsTargets_J35 mX9_findsTargets_J36 mX9_findsTargets_J58
      rw [if_pos rfl]
      exact s59 none ho.symm
    unfold mX9_findsTargets_L2
    rw [if_neg (le36 hc36), if_pos (g_idx117 (by omega)), nI_clamp (by omega), (h.1 c hc36).1]
    by_cases h3 : K c < 3
    · rw [if_pos ((g_belt_k (K c) hkc).1.mpr h3)]
      exact s35 (by unfold wsO blt; rw [if_pos h3, ite_self])
    · rw [if_neg (fun q => h3 ((g_belt_k (K c) hkc).1.mp q)), g_hasThing h hk.2.1 hk.2.2.1 hc36, bo1_some, (g_belt_k (K c) hkc).2 (by omega), pu_next c hc36 (K c - 3) (by omega)]
      by_cases hT : th t.1 t.2.1 t.2.2 c = true
      · rw [if_pos hT, if_neg (by decide)]
        have hw' : wsO K (tht t) c = match bs c (K c - 3) with
          | none => none
          | some y => if K y = 1 then none else some y := by
          unfold wsO blt
          rw [if_pos (show tht t c = true from hT), if_neg h3]
          rfl
        unfold mX9_findsTargets_J36 mX9_findsTargets_J58
        cases hb : bs c (K c - 3) with
        | none =>
          rw [hb] at hw'
          rw [if_pos (show opI none = (-1 : Int32) from rfl)]
          exact s59 none hw'.symm
        | some y =>
          rw [hb] at hw'
          have hy := bs_lt c hc36 (K c - 3) (by omega) y hb
          have e1 : nI (K y) = (1 : Int32) ↔ K y = 1 := nI_inj (a := K y) (b := 1) (by have := (hk.1 y hy).1; omega) (by decide)
          have hw'' : (if K y = 1 then none else some y) = wsO K (tht t) c := hw'.symm
          rw [opI_some, if_neg (ne_neg1 y hy), if_pos (g_idx117 (by omega)), nI_clamp (by omega), (h.1 y hy).1]
          by_cases e : K y = 1
          · rw [if_pos (e1.mpr e)]
            rw [if_pos e] at hw''
            exact s59 none hw''
          · rw [if_neg (fun q => e (e1.mp q))]
            rw [if_neg e] at hw''
            exact s59 (some y) hw''
      · rw [if_neg hT, if_pos rfl]
        exact s35 (by unfold wsO; rw [if_neg (show ¬ tht t c = true from hT)])
/-- what o hinders at c -/
def bad (w : Nat → Option Nat) (c o : Nat) : Bool := (!(o == c) && decide (w o = w c)) || (decide (w c = some o) && decide (w o = some c))
theorem g_find2 {w : Nat → Option Nat} {vws s : Nat → Int32} (hw : ∀ x, x < 36 → vws x = opI (w x)) (hl : ∀ x, x < 36 → ∀ y, w x = some y → y < 36) (k68 : (Nat → Int32) → (Nat → Int32) → (Nat → Int32) → Int32 → Option ((Nat → Int32) × (Nat → Int32))) {c : Nat} (hc : c < 36) (V : Int32) :
    ∀ (j n o : Nat) (vtg : Nat → Int32), j < n → o + j = 36 → vtg c = (if (List.range o).any (bad w c) then -1 else V) →
      ∃ vtg', mX9_findsTargets_L88 k68 n vtg vws s (nI c) (nI o) = k68 vtg' vws s (nI (c + 1)) ∧ vtg' c = (if (List.range 36).any (bad w c) then -1 else V) ∧ ∀ x, x ≠ c → vtg' x = vtg x := by
  intro j
  induction j with
  | zero =>
    intro n o vtg hn ho hv
    obtain ⟨n, rfl⟩ : ∃ m, n = m + 1 := ⟨n - 1, by omega⟩
    obtain rfl : o = 36 := by omega
    refine ⟨vtg, ?_, hv, fun _ _ => rfl⟩
    unfold mX9_findsTargets_L88
    rw [if_pos le36', nI_1]
  | succ j ih =>
    intro n o vtg hn ho hv
    obtain ⟨n, rfl⟩ : ∃ m, n = m + 1 := ⟨n - 1, by omega⟩
    have ho36 : o < 36 := by omega
    have s173 : ∀ v : Int32, v = (if (List.range (o + 1)).any (bad w c) then -1 else V) →
        ∃ vtg', mX9_findsTargets_J173 k68 (fun vtg vws vs l2 l3 => mX9_findsTargets_L88 k68 n vtg vws vs l2 l3) vtg vws s (nI c) (nI o) (nI c) v = k68 vtg' vws s (nI (c + 1)) ∧ vtg' c = (if (List.range 36).any (bad w c) then -1 else V) ∧ ∀ x, x ≠ c → vtg' x = vtg x := fun v hv' => by
      unfold mX9_findsTargets_J173
      rw [if_pos (g_idx36 hc), nI_clamp (by omega)]
      show ∃ vtg', mX9_findsTargets_L88 k68 n (upd vtg c v) vws s (nI c) (nI o + (1 : Int32)) = _ ∧ _
      rw [nI_1]
      obtain ⟨vtg', a1, a2, a3⟩ := ih n (o + 1) (upd vtg c v) (by omega) (by omega) ((if_pos rfl).trans hv')
      exact ⟨vtg', a1, a2, fun x hx => (a3 x hx).trans (if_neg hx)⟩
    have s146 : ∀ a b : Bool, bad w c o = (a || b) → ∃ vtg', mX9_findsTargets_J146 k68 (fun vtg vws vs l2 l3 => mX9_findsTargets_L88 k68 n vtg vws vs l2 l3) vtg vws s (nI c) (nI o) (if a then 1 else 0) (if b then 1 else 0) = k68 vtg' vws s (nI (c + 1)) ∧ vtg' c = (if (List.range 36).any (bad w c) then -1 else V) ∧ ∀ x, x ≠ c → vtg' x = vtg x := fun a b hab => by
      unfold mX9_findsTargets_J146
      cases a with
      | true =>
        rw [if_neg (show ¬ (if true = true then (1 : Int32) else 0) = 0 by decide)]
        unfold mX9_findsTargets_J163
        exact s173 _ (by rw [any_succ, hab]; simp)
      | false =>
        rw [if_pos (show (if false = true then (1 : Int32) else 0) = 0 from rfl)]
        cases b with
        | true =>
          rw [if_neg (show ¬ (if true = true then (1 : Int32) else 0) = 0 by decide)]
          unfold mX9_findsTargets_J163
          exact s173 _ (by rw [any_succ, hab]; simp)
        | false =>
          rw [if_pos (show (if false = true then (1 : Int32) else 0) = 0 from rfl), if_pos (g_idx36 hc), nI_clamp (by omega)]
          exact s173 _ (by rw [hv, any_succ, hab]; simp)
    have s119 : ∀ a : Bool, a = (!(o == c) && decide (w o = w c)) → ∃ vtg', mX9_findsTargets_J119 k68 (fun vtg vws vs l2 l3 => mX9_findsTargets_L88 k68 n vtg vws vs l2 l3) vtg vws s (nI c) (nI o) (if a then 1 else 0) = k68 vtg' vws s (nI (c + 1)) ∧ vtg' c = (if (List.range 36).any (bad w c) then -1 else V) ∧ ∀ x, x ≠ c → vtg' x = vtg x := fun a ha => by
      unfold mX9_findsTargets_J119 mX9_findsTargets_J145
      rw [if_pos (g_idx36 hc), nI_clamp (by omega), hw c hc]
      have e1 : nI o = opI (w c) ↔ some o = w c := opI_inj (a := some o) (fun x hx => by cases hx; exact ho36) (hl c hc)
      have s0 := s146 a false
      have s1 := s146 a true
      rw [show (if false = true then (1 : Int32) else 0) = 0 from rfl] at s0
      rw [show (if true = true then (1 : Int32) else 0) = 1 from rfl] at s1
      by_cases h1 : some o = w c
      · rw [if_pos (e1.mpr h1), if_pos (g_idx36 ho36), nI_clamp (by omega), hw o ho36]
        have e2 : opI (w o) = nI c ↔ w o = some c := opI_inj (b := some c) (hl o ho36) (fun x hx => by cases hx; exact hc)
        by_cases h2 : w o = some c
        · rw [if_pos (e2.mpr h2)]
          exact s1 (by unfold bad; rw [← ha, decide_eq_true h1.symm, decide_eq_true h2]; rfl)
        · rw [if_neg (fun q => h2 (e2.mp q))]
          exact s0 (by unfold bad; rw [← ha, decide_eq_false h2, Bool.and_false])
      · rw [if_neg (fun q => h1 (e1.mp q))]
        exact s0 (by unfold bad; rw [← ha, decide_eq_false (fun q => h1 q.symm), Bool.false_and])
    unfold mX9_findsTargets_L88 mX9_findsTargets_J118
    rw [if_neg (le36 ho36)]
    have s0 := s119 false
    have s1 := s119 true
    rw [show (if false = true then (1 : Int32) else 0) = 0 from rfl] at s0
    rw [show (if true = true then (1 : Int32) else 0) = 1 from rfl] at s1
    have eoc : nI o = nI c ↔ o = c := nI_inj (by omega) (by omega)
    by_cases hoc : o = c
    · rw [if_pos (eoc.mpr hoc)]
      exact s0 (by subst hoc; simp)
    · rw [if_neg (fun q => hoc (eoc.mp q)), if_pos (g_idx36 ho36), if_pos (g_idx36 hc), nI_clamp (by omega), nI_clamp (by omega), hw o ho36, hw c hc]
      have e2 : opI (w o) = opI (w c) ↔ w o = w c := opI_inj (hl o ho36) (hl c hc)
      by_cases h2 : w o = w c
      · rw [if_pos (e2.mpr h2)]
        exact s1 (by rw [decide_eq_true h2]; simp [hoc])
      · rw [if_neg (fun q => h2 (e2.mp q))]
        exact s0 (by rw [decide_eq_false h2, Bool.and_false])
theorem tgO_bad {K : Nat → Nat} {T : Nat → Bool} (hK : ∀ x, x < 36 → K x < 7) {c : Nat} (hc : c < 36) : (if (List.range 36).any (bad (wsO K T) c) then (-1 : Int32) else opI (wsO K T c)) = opI (tgO K T c) := by
  cases hw : wsO K T c with
  | none =>
    have hu : unh K T c = false := by
      rw [← Bool.not_eq_true, unh_iff]
      rintro ⟨y, h1, h2, -⟩
      unfold wsO at hw
      rw [if_pos h2, h1] at hw; cases hw
    unfold tgO
    rw [hu]
    show (if _ then (-1 : Int32) else -1) = -1
    rw [ite_self]
  | some y =>
    obtain ⟨hT, hb⟩ := wn_iff.mp (wn_ws.mpr hw)
    have hy := blt_lt hK hc y hb
    by_cases hu : unh K T c = true
    · unfold tgO
      rw [if_pos hu, if_neg, hb]
      rw [any_rng]
      rintro ⟨o, ho, h⟩
      obtain ⟨z, z1, z2, z3, z4⟩ := unh_iff.mp hu
      rw [hb] at z1; cases z1
      unfold bad at h
      rw [Bool.or_eq_true, Bool.and_eq_true, Bool.and_eq_true, decide_eq_true_eq, decide_eq_true_eq, decide_eq_true_eq, hw] at h
      rcases h with ⟨q1, q2⟩ | ⟨q1, q2⟩
      · have := z3 o ho (by simpa using q1)
        rw [wn_ws.mpr q2] at this; cases this
      · cases q1
        rw [wn_ws.mpr q2] at z4; cases z4
    · unfold tgO
      rw [if_neg hu, if_pos]
      · rfl
      · rw [any_rng]
        refine Classical.byContradiction fun q => hu (unh_iff.mpr ⟨y, hb, hT, fun o ho hoc => ?_, ?_⟩)
        · rw [← Bool.not_eq_true]
          intro q1
          refine q ⟨o, ho, ?_⟩
          unfold bad
          rw [wn_ws.mp q1, hw]
          simp [hoc]
        · rw [← Bool.not_eq_true]
          intro q1
          refine q ⟨y, hy, ?_⟩
          unfold bad
          rw [wn_ws.mp q1, hw]
          simp
theorem g_find3 {K : Nat → Nat} {T : Nat → Bool} {vws s : Nat → Int32} (hK : ∀ x, x < 36 → K x < 7) (hw : ∀ x, x < 36 → vws x = opI (wsO K T x)) :
    ∀ (j n c : Nat) (vtg : Nat → Int32), j < n → c + j = 36 → (∀ x, x < c → vtg x = opI (tgO K T x)) → ∃ vtg', mX9_findsTargets_L68 n vtg vws s (nI c) = some (vtg', vws) ∧ ∀ x, x < 36 → vtg' x = opI (tgO K T x) := by
  intro j
  induction j with
  | zero =>
    intro n c vtg hn hc hv
    obtain ⟨n, rfl⟩ : ∃ m, n = m + 1 := ⟨n - 1, by omega⟩
    obtain rfl : c = 36 := by omega
    refine ⟨vtg, ?_, hv⟩
    unfold mX9_findsTargets_L68
    rw [if_pos le36']
  | succ j ih =>
    intro n c vtg hn hc hv
    obtain ⟨n, rfl⟩ : ∃ m, n = m + 1 := ⟨n - 1, by omega⟩
    have hc36 : c < 36 := by omega
    unfold mX9_findsTargets_L68
    rw [if_neg (le36 hc36), if_pos (g_idx36 hc36), nI_clamp (by omega), hw c hc36]
    obtain ⟨vtg', a1, a2, a3⟩ := g_find2 (s := s) hw (fun x hx => wsO_lt hK hx) (fun vtg vws vs l2 => mX9_findsTargets_L68 n vtg vws vs l2) hc36 (opI (wsO K T c)) 36 4096 0 (upd vtg c (opI (wsO K T c))) (by decide) (by decide) (if_pos rfl)
    obtain ⟨vtg'', b1, b2⟩ := ih n (c + 1) vtg' (by omega) (by omega) (fun x hx => by
      by_cases e : x = c
      · subst e; rw [a2, tgO_bad hK hc36]
      · rw [a3 x e, show ∀ v, upd vtg c v x = vtg x from fun v => if_neg e]; exact hv x (by omega))
    exact ⟨vtg'', a1.trans b1, b2⟩
theorem g_findsTargets {s : Nat → Int32} {K : Nat → Nat} {t : Th} (h : RS s K t.1 t.2.1 t.2.2) (hk : RK K t.1 t.2.1 t.2.2) (vtg vws : Nat → Int32) :
    ∃ vtg' vws', mX9_findsTargets vtg vws s = some (vtg', vws') ∧ ∀ x, x < 36 → vtg' x = opI (tgO K (tht t) x) := by
  unfold mX9_findsTargets
  obtain ⟨vws', a1, a2⟩ := g_find1 h hk vtg 36 4096 0 vws (by decide) (by decide) (fun x hx => absurd hx (Nat.not_lt_zero x))
  obtain ⟨vtg', b1, b2⟩ := g_find3 (s := s) (fun x hx => (hk.1 x hx).1) a2 36 4096 0 vtg (by decide) (by decide) (fun x hx => absurd hx (Nat.not_lt_zero x))
  exact ⟨vtg', vws', a1.trans b1, b2⟩
/-! The reference holds back what would come to a thing at rest -/
def gIn (K : Nat → Nat) (T : Nat → Bool) (g : Nat → Option Nat) : Prop := (∀ c, c < 36 → ∀ y, g c = some y → unh K T c = true ∧ blt K c = some y) ∧ ∀ S, stb K T S → ∀ c, c < 36 → S c = true → g c ≠ none
def gHb (T : Nat → Bool) (g : Nat → Option Nat) (x : Nat) : Prop := ∃ y, g x = some y ∧ T y = true ∧ g y = none
def gCt (g : Nat → Option Nat) : Nat := fb_ct (fun x => (g x).isSome) 36
theorem g_hold1 {s : Nat → Int32} {K : Nat → Nat} {t : Th} (h : RS s K t.1 t.2.1 t.2.2) (hk : RK K t.1 t.2.1 t.2.2) (k2 : (Nat → Int32) → (Nat → Int32) → Int32 → Option ((Nat → Int32))) :
    ∀ (j n c : Nat) (vtg : Nat → Int32) (g : Nat → Option Nat) (l : Int32), j < n → c + j = 36 → (∀ x, x < 36 → vtg x = opI (g x)) → gIn K (tht t) g →
      ∃ vtg' g' l', mX9_holdsBack_L10 k2 n vtg s l (nI c) = k2 vtg' s l' ∧ (∀ x, x < 36 → vtg' x = opI (g' x)) ∧ gIn K (tht t) g' ∧ ((l' = l ∧ g' = g ∧ ∀ x, c ≤ x → x < 36 → ¬ gHb (tht t) g x) ∨ (l' = 1 ∧ gCt g' < gCt g)) := by
  intro j
  induction j with
  | zero =>
    intro n c vtg g l hn hc hv hg
    obtain ⟨n, rfl⟩ : ∃ m, n = m + 1 := ⟨n - 1, by omega⟩
    obtain rfl : c = 36 := by omega
    refine ⟨vtg, g, l, ?_, hv, hg, Or.inl ⟨rfl, rfl, fun x h1 h2 => by omega⟩⟩
    unfold mX9_holdsBack_L10
    rw [if_pos le36']
  | succ j ih =>
    intro n c vtg g l hn hc hv hg
    obtain ⟨n, rfl⟩ : ∃ m, n = m + 1 := ⟨n - 1, by omega⟩
    have hc36 : c < 36 := by omega
    have stay : ¬ gHb (tht t) g c → ∃ vtg' g' l', mX9_holdsBack_J63 k2 (fun vtg vs l2 l3 => mX9_holdsBack_L10 k2 n vtg vs l2 l3) vtg s l (nI c) = k2 vtg' s l' ∧ (∀ x, x < 36 → vtg' x = opI (g' x)) ∧ gIn K (tht t) g' ∧ ((l' = l ∧ g' = g ∧ ∀ x, c ≤ x → x < 36 → ¬ gHb (tht t) g x) ∨ (l' = 1 ∧ gCt g' < gCt g)) := fun hnb => by
      unfold mX9_holdsBack_J63
      obtain ⟨vtg', g', l', a1, a2, a3, a4⟩ := ih n (c + 1) vtg g l (by omega) (by omega) hv hg
      refine ⟨vtg', g', l', ?_, a2, a3, ?_⟩
      · show mX9_holdsBack_L10 k2 n vtg s l (nI c + (1 : Int32)) = _
        rw [nI_1]; exact a1
      · rcases a4 with ⟨e1, e2, e3⟩ | e
        · refine Or.inl ⟨e1, e2, fun x h1 h2 => ?_⟩
          by_cases q : x = c
          · subst q; exact hnb
          · exact e3 x (by omega) h2
        · exact Or.inr e
    unfold mX9_holdsBack_L10
    rw [if_neg (le36 hc36), if_pos (g_idx36 hc36), nI_clamp (by omega), hv c hc36]
    cases hgc : g c with
    | none =>
      rw [if_pos (show opI none = (-1 : Int32) from rfl)]
      exact stay (fun ⟨y, h1, _⟩ => by rw [hgc] at h1; cases h1)
    | some y =>
      obtain ⟨hu, hb⟩ := hg.1 c hc36 y hgc
      have hy := blt_lt (fun x hx => (hk.1 x hx).1) hc36 y hb
      rw [opI_some, if_neg (ne_neg1 y hy), g_hasThing h hk.2.1 hk.2.2.1 hy, bo1_some]
      by_cases hT : th t.1 t.2.1 t.2.2 y = true
      · rw [if_pos hT, if_neg (by decide), if_pos (g_idx36 hy), nI_clamp (by omega), hv y hy]
        cases hgy : g y with
        | none =>
          rw [if_pos (show opI none = (-1 : Int32) from rfl)]
          unfold mX9_holdsBack_J63
          show ∃ vtg' g' l', mX9_holdsBack_L10 k2 n (upd vtg c (-1)) s 1 (nI c + (1 : Int32)) = _ ∧ _
          rw [nI_1]
          have hct : gCt (fun x => if x = c then none else g x) < gCt g := fb_ct_lt (fun k _ q => by
            have q : ((if k = c then none else g k) : Option Nat).isSome = true := q
            by_cases e : k = c
            · rw [if_pos e] at q; cases q
            · rw [if_neg e] at q; exact q) hc36 (by rw [hgc]; rfl) (by show ((if c = c then none else g c) : Option Nat).isSome = false; rw [if_pos rfl]; rfl)
          obtain ⟨vtg', g', l', a1, a2, a3, a4⟩ := ih n (c + 1) (upd vtg c (-1)) (fun x => if x = c then none else g x) 1 (by omega) (by omega) (fun x hx => by
            by_cases e : x = c
            · rw [show (if x = c then none else g x) = none from if_pos e]; exact if_pos e
            · rw [show (if x = c then none else g x) = g x from if_neg e]; exact (if_neg e).trans (hv x hx)) ⟨fun x hx z hz => by
            have hz : (if x = c then none else g x) = some z := hz
            by_cases e : x = c
            · rw [if_pos e] at hz; cases hz
            · rw [if_neg e] at hz; exact hg.1 x hx z hz, fun S hS x hx hSx => by
            show (if x = c then none else g x) ≠ none
            by_cases e : x = c
            · subst e
              exact absurd hgy (hg.2 S hS y hy ((hS x hx hSx).2 y hb hT))
            · rw [if_neg e]; exact hg.2 S hS x hx hSx⟩
          refine ⟨vtg', g', l', a1, a2, a3, Or.inr ?_⟩
          rcases a4 with ⟨e1, e2, _⟩ | ⟨e1, e2⟩
          · exact ⟨e1, by rw [e2]; exact hct⟩
          · exact ⟨e1, by omega⟩
        | some z =>
          have hz := blt_lt (fun x hx => (hk.1 x hx).1) hy z (hg.1 y hy z hgy).2
          rw [opI_some, if_neg (ne_neg1 z hz)]
          exact stay (fun ⟨y', h1, h2, h3⟩ => by rw [hgc] at h1; cases h1; rw [hgy] at h3; cases h3)
      · rw [if_neg hT, if_pos rfl]
        exact stay (fun ⟨y', h1, h2, _⟩ => by rw [hgc] at h1; cases h1; exact hT h2)
noncomputable def cgO (K : Nat → Nat) (T : Nat → Bool) (c : Nat) : Option Nat := if carP K T c then blt K c else none
theorem g_hold2 {s : Nat → Int32} {K : Nat → Nat} {t : Th} (h : RS s K t.1 t.2.1 t.2.2) (hk : RK K t.1 t.2.1 t.2.2) :
    ∀ (N n : Nat) (vtg : Nat → Int32) (g : Nat → Option Nat), gCt g < N → N < n → (∀ x, x < 36 → vtg x = opI (g x)) → gIn K (tht t) g →
      ∃ vtg', mX9_holdsBack_L2 n vtg s 1 = some vtg' ∧ ∀ x, x < 36 → vtg' x = opI (cgO K (tht t) x) := by
  intro N
  induction N with
  | zero => intro n vtg g hN; omega
  | succ N ih =>
    intro n vtg g hN hn hv hg
    obtain ⟨n, rfl⟩ : ∃ m, n = m + 1 + 1 := ⟨n - 2, by omega⟩
    unfold mX9_holdsBack_L2
    rw [if_neg (by decide)]
    obtain ⟨vtg', g', l', a1, a2, a3, a4⟩ := g_hold1 h hk (fun vtg vs l2 => mX9_holdsBack_L2 (n + 1) vtg vs l2) 36 4096 0 vtg g 0 (by decide) (by decide) hv hg
    suffices hh : ∃ v, mX9_holdsBack_L2 (n + 1) vtg' s l' = some v ∧ ∀ x, x < 36 → v x = opI (cgO K (tht t) x) from by
      obtain ⟨v, e, q⟩ := hh
      exact ⟨v, a1.trans e, q⟩
    rcases a4 with ⟨e1, e2, e3⟩ | ⟨e1, e2⟩
    · subst e1 e2
      refine ⟨vtg', ?_, fun x hx => ?_⟩
      · unfold mX9_holdsBack_L2
        rw [if_pos rfl]
      · rw [a2 x hx]
        have hone : ∀ c, c < 36 → (g' c).isSome = carP K (tht t) c := carP_one (P := fun c => (g' c).isSome) (fun c hc q => by
          obtain ⟨y, hy⟩ := Option.isSome_iff_exists.mp q
          obtain ⟨u1, u2⟩ := hg.1 c hc y hy
          refine ⟨u1, fun z hz ht => ?_⟩
          rw [u2] at hz; cases hz
          show (g' y).isSome = true
          cases hgy : g' y with
          | some w => rfl
          | none => exact absurd ⟨y, hy, ht, hgy⟩ (e3 c (Nat.zero_le c) hc)) (fun S hS c hc q => by
          show (g' c).isSome = true
          cases hgc : g' c with
          | some w => rfl
          | none => exact absurd hgc (a3.2 S hS c hc q))
        congr 1
        unfold cgO
        rw [← hone x hx]
        cases hgx : g' x with
        | none => rfl
        | some y => exact ((hg.1 x hx y hgx).2).symm
    · subst e1
      exact ih (n + 1) vtg' g' (by omega) (by omega) a2 a3
theorem g_holdsBack {s : Nat → Int32} {K : Nat → Nat} {t : Th} (h : RS s K t.1 t.2.1 t.2.2) (hk : RK K t.1 t.2.1 t.2.2) (vtg : Nat → Int32) (hv : ∀ x, x < 36 → vtg x = opI (tgO K (tht t) x)) :
    ∃ vtg', mX9_holdsBack vtg s = some vtg' ∧ ∀ x, x < 36 → vtg' x = opI (cgO K (tht t) x) := by
  unfold mX9_holdsBack
  refine g_hold2 h hk 37 4096 vtg (tgO K (tht t)) (by have := fb_ct_le (fun x => (tgO K (tht t) x).isSome) 36; unfold gCt; omega) (by decide) hv ⟨fun c hc y hy => ?_, fun S hS c hc q => ?_⟩
  · unfold tgO at hy
    split at hy
    · exact ⟨by assumption, hy⟩
    · cases hy
  · have hu := (hS c hc q).1
    obtain ⟨y, hb, -⟩ := unh_iff.mp hu
    unfold tgO
    rw [if_pos hu, hb]
    exact fun q => by cases q
