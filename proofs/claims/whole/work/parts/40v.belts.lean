/-! Belts: what comes of the things -/
def cra (K : Nat → Nat) (C P : Nat → Bool) (y : Nat) : Bool := (C y && !P y) || (List.range 36).any (fun c => (C c && P c) && decide (blt K c = some y))
def car (K : Nat → Nat) (P : Nat → Bool) (c : Nat) : Nat := if P c then (blt K c).getD c else c
noncomputable def bl (K : Nat → Nat) (t : Th) : Th := (cra K t.1 (carP K (tht t)), car K (carP K (tht t)) t.2.1, car K (carP K (tht t)) t.2.2)
theorem car_lt {K : Nat → Nat} {P : Nat → Bool} (hK : ∀ x, x < 36 → K x < 7) {c : Nat} (hc : c < 36) : car K P c < 36 := by
  unfold car
  split
  · cases hb : blt K c with
    | none => exact hc
    | some y => exact blt_lt hK hc y hb
  · exact hc
theorem carP_some {K : Nat → Nat} {T : Nat → Bool} {c : Nat} (hc : c < 36) (h : carP K T c = true) : ∃ y, blt K c = some y ∧ T c = true ∧ (∀ o, o < 36 → o ≠ c → wn K T o y = false) ∧ (T y = true → carP K T y = true) := by
  obtain ⟨h1, h2⟩ := carP_stb K T c hc h
  obtain ⟨y, q1, q2, q3, q4⟩ := unh_iff.mp h1
  exact ⟨y, q1, q2, q3, fun q => h2 y q1 q⟩
/-- where the thing of x goes, no other thing goes or stays -/
theorem bl_apart {K : Nat → Nat} {t : Th} : ∀ x x', x < 36 → x' < 36 → x ≠ x' → tht t x = true → tht t x' = true → car K (carP K (tht t)) x ≠ car K (carP K (tht t)) x' := by
  intro x x' hx hx' hn ht ht' q
  unfold car at q
  by_cases p : carP K (tht t) x = true
  · obtain ⟨y, y1, y2, y3, y4⟩ := carP_some hx p
    rw [if_pos p, y1] at q
    have q : y = _ := q
    by_cases p' : carP K (tht t) x' = true
    · obtain ⟨z, z1, z2, z3, z4⟩ := carP_some hx' p'
      rw [if_pos p', z1] at q
      have q : y = z := q
      subst q
      have := y3 x' hx' (fun e => hn e.symm)
      rw [wn_iff.mpr ⟨ht', z1⟩] at this; cases this
    · rw [if_neg p'] at q
      subst q
      exact p' (y4 ht')
  · rw [if_neg p] at q
    by_cases p' : carP K (tht t) x' = true
    · obtain ⟨z, z1, z2, z3, z4⟩ := carP_some hx' p'
      rw [if_pos p', z1] at q
      have q : x = z := q
      subst q
      exact p (z4 ht)
    · rw [if_neg p'] at q
      exact hn q
theorem bl_img {K : Nat → Nat} {t : Th} : Img (car K (carP K (tht t))) t.1 (cra K t.1 (carP K (tht t))) := by
  intro y hy36
  unfold cra
  rw [Bool.or_eq_true, Bool.and_eq_true, Bool.not_eq_true', any_rng]
  constructor
  · rintro (⟨q1, q2⟩ | ⟨c, hc, q⟩)
    · exact ⟨y, hy36, q1, by unfold car; rw [if_neg (by rw [q2]; decide)]⟩
    · rw [Bool.and_eq_true, Bool.and_eq_true, decide_eq_true_eq] at q
      exact ⟨c, hc, q.1.1, by unfold car; rw [if_pos q.1.2, q.2]; rfl⟩
  · rintro ⟨z, hz, q1, q2⟩
    unfold car at q2
    by_cases p : carP K (tht t) z = true
    · obtain ⟨w, w1, -⟩ := carP_some hz p
      rw [if_pos p, w1] at q2
      have q2 : w = y := q2
      subst q2
      exact Or.inr ⟨z, hz, by rw [q1, p, decide_eq_true w1]; rfl⟩
    · rw [if_neg p] at q2
      subst q2
      exact Or.inl ⟨q1, by simpa using p⟩
theorem bl_nob {K : Nat → Nat} {P : Nat → Bool} : ∀ x, K x ≠ 1 → K (car K P x) ≠ 1 := by
  intro x hkx
  unfold car
  split
  · cases hb : blt K x with
    | none => exact hkx
    | some y => exact (blt_K1 hb).1
  · exact hkx
/-- things that are carried stay apart, and come on no block -/
theorem bl_RK {K : Nat → Nat} {t : Th} (hk : RK K t.1 t.2.1 t.2.2) : RK K (bl K t).1 (bl K t).2.1 (bl K t).2.2 := by
  have hK : ∀ x, x < 36 → K x < 7 := fun x hx => (hk.1 x hx).1
  obtain ⟨hA, h0, h1, hne, hC0, hC1, hb0, hb1⟩ := hk
  have hT0 : tht t t.2.1 = true := tht_iff.mpr (Or.inr (Or.inl rfl))
  have hT1 : tht t t.2.2 = true := tht_iff.mpr (Or.inr (Or.inr rfl))
  have hCT : ∀ c, t.1 c = true → tht t c = true := fun c q => tht_iff.mpr (Or.inl q)
  have cfrom : ∀ y, cra K t.1 (carP K (tht t)) y = true → y < 36 → ∃ c, c < 36 ∧ t.1 c = true ∧ car K (carP K (tht t)) c = y := fun y hy hy36 => (bl_img y hy36).mp hy
  have apart := bl_apart (K := K) (t := t)
  have nob : ∀ x, x < 36 → K x ≠ 1 → K (car K (carP K (tht t)) x) ≠ 1 := fun x _ h => bl_nob x h
  refine ⟨fun x hx => ⟨hK x hx, fun q => ?_⟩, car_lt hK h0, car_lt hK h1, apart _ _ h0 h1 hne hT0 hT1, ?_, ?_, nob _ h0 hb0, nob _ h1 hb1⟩
  · obtain ⟨c, hc, q1, q2⟩ := cfrom x q hx
    rw [← q2]
    exact nob c hc ((hA c hc).2 q1)
  · rw [← Bool.not_eq_true]
    intro q
    obtain ⟨c, hc, q1, q2⟩ := cfrom _ q (car_lt hK h0)
    exact apart c t.2.1 hc h0 (fun e => by rw [e, hC0] at q1; cases q1) (hCT c q1) hT0 q2
  · rw [← Bool.not_eq_true]
    intro q
    obtain ⟨c, hc, q1, q2⟩ := cfrom _ q (car_lt hK h1)
    exact apart c t.2.2 hc h1 (fun e => by rw [e, hC1] at q1; cases q1) (hCT c q1) hT1 q2
def crc (K : Nat → Nat) (C P : Nat → Bool) (c y : Nat) : Bool := (C y && !P y) || (List.range c).any (fun x => (C x && P x) && decide (blt K x = some y))
theorem v_carry_L {vj : Nat → Int64} {vk va vb : Nat → Int32} {K : Nat → Nat} {C P : Nat → Bool} (hv : ∀ x, x < 36 → vk x = nI (K x)) (hK : ∀ x, x < 36 → K x < 7) (h4 : vj 4 = sL C) :
    ∀ (j n c : Nat), j < n → c + j = 36 → mX6_carryAll_L14 n vj vk va vb (sL P) (sL (crc K C P c)) (nI c) = mX6_carryAll_J59 vj vk va vb (sL P) (sL (cra K C P)) := by
  intro j
  induction j with
  | zero =>
    intro n c hn hc
    obtain ⟨n, rfl⟩ : ∃ m, n = m + 1 := ⟨n - 1, by omega⟩
    obtain rfl : c = 36 := by omega
    unfold mX6_carryAll_L14
    rw [if_pos le36', ite_self]
    rfl
  | succ j ih =>
    intro n c hn hc
    obtain ⟨n, rfl⟩ : ∃ m, n = m + 1 := ⟨n - 1, by omega⟩
    have hc36 : c < 36 := by omega
    unfold mX6_carryAll_L14
    by_cases hz : lg_cmp (sL P) (0 : Int64) = 0
    · rw [if_pos hz]
      congr 1
      apply sL_cong
      intro y hy
      rw [sL_zero] at hz
      unfold crc cra
      rw [any_rngF (fun x hx => by rw [hz x (by omega)]; simp), any_rngF (fun x hx => by rw [hz x (by omega)]; simp)]
    · rw [if_neg hz, if_neg (le36 hc36), h4, sL_and]
      have i1 := ih n (c + 1) (by omega) (by omega)
      have step : ∀ X : Nat → Bool, (∀ y, y < 36 → X y = crc K C P (c + 1) y) → mX6_carryAll_J53 (fun vj vk va vb l1 l3 l5 => mX6_carryAll_L14 n vj vk va vb l1 l3 l5) vj vk va vb (sL P) (sL X) (nI c) = mX6_carryAll_J59 vj vk va vb (sL P) (sL (cra K C P)) := fun X hX => by
        unfold mX6_carryAll_J53
        show mX6_carryAll_L14 n vj vk va vb (sL P) (sL X) (nI c + (1 : Int32)) = _
        rw [sL_cong hX, nI_1]; exact i1
      have es : ∀ y, crc K C P (c + 1) y = (crc K C P c y || ((C c && P c) && decide (blt K c = some y))) := fun y => by
        unfold crc
        rw [any_succ, Bool.or_assoc]
      by_cases hp : (C c && P c) = true
      · rw [if_neg (fun q => by rw [sL_holds0 hc36, hp] at q; cases q), v_beltTarget hv hK hc36, sL_blt hK hc36, sL_or]
        refine step _ (fun y _ => ?_)
        rw [es, hp, Bool.true_and]
      · rw [if_pos ((sL_holds0 hc36).mpr (by simpa using hp))]
        refine step _ (fun y _ => ?_)
        rw [es, show (C c && P c) = false by simpa using hp, Bool.false_and, Bool.or_false]
theorem v_carryR {vk : Nat → Int32} {K : Nat → Nat} {P : Nat → Bool} (hv : ∀ x, x < 36 → vk x = nI (K x)) (hK : ∀ x, x < 36 → K x < 7) (hP : ∀ x, x < 36 → P x = true → blt K x ≠ none) {c : Nat} (hc : c < 36) (va : Nat → Int32) (ha : va 0 = nI c) :
    ∃ va', (if mX2_holds (sL P) (va 0) = 0 then va else (upd va 0 (mX6_beltTarget vk (va 0)))) = va' ∧ va' 0 = nI (car K P c) ∧ ∀ j, 1 ≤ j → va' j = va j := by
  rw [ha, v_beltTarget hv hK hc]
  unfold car
  by_cases hp : P c = true
  · rw [if_neg (fun q => by rw [sL_holds0 hc, hp] at q; cases q), if_pos hp]
    refine ⟨_, rfl, ?_, fun j hj => if_neg (by omega)⟩
    cases hb : blt K c with
    | none => exact absurd hb (hP c hc hp)
    | some y => rfl
  · rw [if_pos ((sL_holds0 hc).mpr (by simpa using hp)), if_neg hp]
    exact ⟨va, rfl, ha, fun _ _ => rfl⟩
theorem v_carryAll {vj : Nat → Int64} {vk va vb : Nat → Int32} {K : Nat → Nat} {t : Th} (hV : RV vj vk va vb K t.1 t.2.1 t.2.2) (hk : RK K t.1 t.2.1 t.2.2) :
    ∃ vj' va' vb', mX6_carryAll vj vk va vb (sL (carP K (tht t))) = some (vj', va', vb') ∧ RV vj' vk va' vb' K (bl K t).1 (bl K t).2.1 (bl K t).2.2 ∧ (∀ j, j ≠ 4 → vj' j = vj j) ∧ (∀ j, 1 ≤ j → va' j = va j) ∧ (∀ j, 1 ≤ j → vb' j = vb j) := by
  have hK : ∀ x, x < 36 → K x < 7 := fun x hx => (hk.1 x hx).1
  have hP : ∀ x, x < 36 → carP K (tht t) x = true → blt K x ≠ none := fun x hx q => by
    obtain ⟨y, h, -⟩ := carP_some hx q
    rw [h]; exact fun q => by cases q
  unfold mX6_carryAll
  rw [hV.2.1, sL_diff]
  have := v_carry_L (va := va) (vb := vb) (P := carP K (tht t)) hV.1 hK hV.2.1 36 4096 0 (by decide) (by decide)
  have e : sL (crc K t.1 (carP K (tht t)) 0) = sL (fun x => t.1 x && !carP K (tht t) x) := sL_cong (fun y _ => by unfold crc; simp)
  rw [e] at this
  obtain ⟨va', a1, a2, a3⟩ := v_carryR hV.1 hK hP hk.2.1 va hV.2.2.1
  obtain ⟨vb', b1, b2, b3⟩ := v_carryR hV.1 hK hP hk.2.2.1 vb hV.2.2.2
  refine ⟨_, va', vb', this.trans ?_, ⟨hV.1, rfl, a2, b2⟩, fun j hj => if_neg hj, a3, b3⟩
  unfold mX6_carryAll_J59 mX6_carryRobot_a mX6_carryRobot_b
  rw [a1, b1]
  rfl
/-! The reference's belts -/
def RSC (s s0 : Nat → Int32) : Prop := ∀ k, (k < 36 ∨ 72 ≤ k) → s k = s0 k
theorem g_b12 {s : Nat → Int32} {vwy vtg : Nat → Int32} : ∀ (j n c : Nat) (vws : Nat → Int32), j < n → c + j = 36 → (∀ x, x < c → vws x = s (36 + x)) →
      ∃ vws', mX9_belts_L12 n vwy vtg vws s (nI c) = mX9_belts_L38 4096 vwy vtg vws' s (0 : Int32) ∧ ∀ x, x < 36 → vws' x = s (36 + x) := by
  intro j
  induction j with
  | zero =>
    intro n c vws hn hc hw
    obtain ⟨n, rfl⟩ : ∃ m, n = m + 1 := ⟨n - 1, by omega⟩
    obtain rfl : c = 36 := by omega
    refine ⟨vws, ?_, hw⟩
    unfold mX9_belts_L12
    rw [if_pos le36']
  | succ j ih =>
    intro n c vws hn hc hw
    obtain ⟨n, rfl⟩ : ∃ m, n = m + 1 := ⟨n - 1, by omega⟩
    have hc36 : c < 36 := by omega
    unfold mX9_belts_L12
    rw [if_neg (le36 hc36), g_crate hc36, if_pos (g_idx117 (by omega)), if_pos (g_idx36 hc36), nI_clamp (by omega), nI_clamp (by omega), nI_1]
    exact ih n (c + 1) _ (by omega) (by omega) (fun x hx => by
      by_cases e : x = c
      · subst e; exact if_pos rfl
      · rw [show ∀ v, upd vws c v x = vws x from fun v => if_neg e]; exact hw x (by omega))
theorem g_b38 {s : Nat → Int32} {vwy vtg vws : Nat → Int32} {C P : Nat → Bool} (ht : ∀ x, x < 36 → (vtg x = -1 ↔ P x = false)) (hw : ∀ x, x < 36 → vws x = (if C x then (1 : Int32) else 0)) :
    ∀ (j n c : Nat) (s1 : Nat → Int32), j < n → c + j = 36 → RSC s1 s → (∀ x, x < 36 → s1 (36 + x) = (if C x && !(P x && decide (x < c)) then (1 : Int32) else 0)) →
      ∃ s2, mX9_belts_L38 n vwy vtg vws s1 (nI c) = mX9_belts_L79 4096 vwy vtg vws s2 (0 : Int32) ∧ RSC s2 s ∧ ∀ x, x < 36 → s2 (36 + x) = (if C x && !P x then (1 : Int32) else 0) := by
  intro j
  induction j with
  | zero =>
    intro n c s1 hn hc hR hS
    obtain ⟨n, rfl⟩ : ∃ m, n = m + 1 := ⟨n - 1, by omega⟩
    obtain rfl : c = 36 := by omega
    refine ⟨s1, ?_, hR, fun x hx => by rw [hS x hx, decide_eq_true hx, Bool.and_true]⟩
    unfold mX9_belts_L38
    rw [if_pos le36']
  | succ j ih =>
    intro n c s1 hn hc hR hS
    obtain ⟨n, rfl⟩ : ∃ m, n = m + 1 := ⟨n - 1, by omega⟩
    have hc36 : c < 36 := by omega
    have same : (C c && P c) = false → ∀ x, x < 36 → s1 (36 + x) = (if C x && !(P x && decide (x < c + 1)) then (1 : Int32) else 0) := fun q x hx => by
      rw [hS x hx]
      by_cases e : x = c
      · subst e
        cases hC : C x with
        | false => rfl
        | true => rw [hC, Bool.true_and] at q; rw [q]; rfl
      · by_cases l : x < c
        · rw [decide_eq_true l, decide_eq_true (show x < c + 1 by omega)]
        · rw [decide_eq_false l, decide_eq_false (show ¬ x < c + 1 by omega)]
    have stay : (C c && P c) = false → ∃ s2, mX9_belts_J71 (fun vwy vtg vws vs l2 => mX9_belts_L38 n vwy vtg vws vs l2) vwy vtg vws s1 (nI c) = mX9_belts_L79 4096 vwy vtg vws s2 (0 : Int32) ∧ RSC s2 s ∧ ∀ x, x < 36 → s2 (36 + x) = (if C x && !P x then (1 : Int32) else 0) := fun q => by
      unfold mX9_belts_J71
      show ∃ s2, mX9_belts_L38 n vwy vtg vws s1 (nI c + (1 : Int32)) = _ ∧ _
      rw [nI_1]
      exact ih n (c + 1) s1 (by omega) (by omega) hR (same q)
    unfold mX9_belts_L38
    rw [if_neg (le36 hc36), if_pos (g_idx36 hc36), nI_clamp (by omega)]
    by_cases hp : P c = true
    · rw [if_neg (fun q => by rw [(ht c hc36).mp q] at hp; cases hp), hw c hc36]
      by_cases hC : C c = true
      · rw [if_pos hC, if_pos rfl, g_crate hc36, if_pos (g_idx117 (by omega)), nI_clamp (by omega)]
        unfold mX9_belts_J71
        show ∃ s2, mX9_belts_L38 n vwy vtg vws (upd s1 (36 + c) 0) (nI c + (1 : Int32)) = _ ∧ _
        rw [nI_1]
        refine ih n (c + 1) _ (by omega) (by omega) (fun k hk => ?_) (fun x hx => ?_)
        · rw [show ∀ v, upd s1 (36 + c) v k = s1 k from fun v => if_neg (by omega)]; exact hR k hk
        · by_cases e : x = c
          · subst e
            rw [show ∀ v, upd s1 (36 + x) v (36 + x) = v from fun v => if_pos rfl, hp, decide_eq_true (show x < x + 1 by omega)]; simp
          · rw [show ∀ v, upd s1 (36 + c) v (36 + x) = s1 (36 + x) from fun v => if_neg (by omega), hS x hx]
            by_cases l : x < c
            · rw [decide_eq_true l, decide_eq_true (show x < c + 1 by omega)]
            · rw [decide_eq_false l, decide_eq_false (show ¬ x < c + 1 by omega)]
      · rw [if_neg hC, if_neg (by decide)]
        exact stay (by rw [show C c = false by simpa using hC]; rfl)
    · rw [if_pos ((ht c hc36).mpr (by simpa using hp))]
      exact stay (by rw [show P c = false by simpa using hp, Bool.and_false])
theorem g_b79 {s : Nat → Int32} {vwy vtg vws : Nat → Int32} {K : Nat → Nat} {C P : Nat → Bool} (hK : ∀ x, x < 36 → K x < 7) (ht : ∀ x, x < 36 → vtg x = opI (if P x then blt K x else none)) (hP : ∀ x, x < 36 → P x = true → blt K x ≠ none) (hw : ∀ x, x < 36 → vws x = (if C x then (1 : Int32) else 0)) :
    ∀ (j n c : Nat) (s1 : Nat → Int32), j < n → c + j = 36 → RSC s1 s → (∀ x, x < 36 → s1 (36 + x) = (if crc K C P c x then (1 : Int32) else 0)) →
      ∃ s2, mX9_belts_L79 n vwy vtg vws s1 (nI c) = mX9_belts_L125 4096 vwy vtg vws s2 (0 : Int32) ∧ RSC s2 s ∧ ∀ x, x < 36 → s2 (36 + x) = (if cra K C P x then (1 : Int32) else 0) := by
  intro j
  induction j with
  | zero =>
    intro n c s1 hn hc hR hS
    obtain ⟨n, rfl⟩ : ∃ m, n = m + 1 := ⟨n - 1, by omega⟩
    obtain rfl : c = 36 := by omega
    refine ⟨s1, ?_, hR, hS⟩
    unfold mX9_belts_L79
    rw [if_pos le36']
  | succ j ih =>
    intro n c s1 hn hc hR hS
    obtain ⟨n, rfl⟩ : ∃ m, n = m + 1 := ⟨n - 1, by omega⟩
    have hc36 : c < 36 := by omega
    have es : ∀ y, crc K C P (c + 1) y = (crc K C P c y || ((C c && P c) && decide (blt K c = some y))) := fun y => by
      unfold crc
      rw [any_succ, Bool.or_assoc]
    have stay : (C c && P c) = false → ∃ s2, mX9_belts_J117 (fun vwy vtg vws vs l2 => mX9_belts_L79 n vwy vtg vws vs l2) vwy vtg vws s1 (nI c) = mX9_belts_L125 4096 vwy vtg vws s2 (0 : Int32) ∧ RSC s2 s ∧ ∀ x, x < 36 → s2 (36 + x) = (if cra K C P x then (1 : Int32) else 0) := fun q => by
      unfold mX9_belts_J117
      show ∃ s2, mX9_belts_L79 n vwy vtg vws s1 (nI c + (1 : Int32)) = _ ∧ _
      rw [nI_1]
      exact ih n (c + 1) s1 (by omega) (by omega) hR (fun x hx => by rw [es, q, Bool.false_and, Bool.or_false]; exact hS x hx)
    unfold mX9_belts_L79
    rw [if_neg (le36 hc36), if_pos (g_idx36 hc36), nI_clamp (by omega), ht c hc36]
    by_cases hp : P c = true
    · cases hb : blt K c with
      | none => exact absurd hb (hP c hc36 hp)
      | some y =>
        have hy := blt_lt hK hc36 y hb
        rw [if_pos hp, opI_some, if_neg (ne_neg1 y hy), hw c hc36]
        by_cases hC : C c = true
        · rw [if_pos hC, if_pos rfl, g_crate hy, if_pos (g_idx117 (by omega)), nI_clamp (by omega)]
          unfold mX9_belts_J117
          show ∃ s2, mX9_belts_L79 n vwy vtg vws (upd s1 (36 + y) 1) (nI c + (1 : Int32)) = _ ∧ _
          rw [nI_1]
          refine ih n (c + 1) _ (by omega) (by omega) (fun k hk => ?_) (fun x hx => ?_)
          · rw [show ∀ v, upd s1 (36 + y) v k = s1 k from fun v => if_neg (by omega)]; exact hR k hk
          · rw [es, hC, hp, hb]
            by_cases e : x = y
            · subst e
              rw [show ∀ v, upd s1 (36 + x) v (36 + x) = v from fun v => if_pos rfl]; simp
            · rw [show ∀ v, upd s1 (36 + y) v (36 + x) = s1 (36 + x) from fun v => if_neg (by omega), hS x hx]
              have : ¬ y = x := fun q => e q.symm
              simp [this]
        · rw [if_neg hC, if_neg (by decide)]
          exact stay (by rw [show C c = false by simpa using hC]; rfl)
    · rw [if_neg hp, if_pos (show opI none = (-1 : Int32) from rfl)]
      exact stay (by rw [show P c = false by simpa using hp, Bool.and_false])
theorem g_b125s {s : Nat → Int32} {vtg vws : Nat → Int32} {K : Nat → Nat} {P : Nat → Bool} (hK : ∀ x, x < 36 → K x < 7) (ht : ∀ x, x < 36 → vtg x = opI (if P x then blt K x else none)) (hP : ∀ x, x < 36 → P x = true → blt K x ≠ none) {r c : Nat} (hr : r < 2) (hc : c < 36) (hs : s (72 + 9 * r) = nI c) (n : Nat) (vwy : Nat → Int32) :
    mX9_belts_L125 (n + 1) vwy vtg vws s (nI r) = mX9_belts_L125 n (upd vwy r (nI (car K P c))) vtg vws s (nI (r + 1)) := by
  have hr2 : ¬ ((2 : Int32) ≤ nI r) := fun q => by
    have q1 : nI 2 ≤ nI r := q
    rw [pu_le (by omega) (by omega)] at q1
    omega
  have hof : mX9_of s (nI r) (0 : Int32) = some (nI c) := (g_of s (k := 0) hr (by decide)).trans (by rw [Nat.add_zero, hs])
  have e : mX9_belts_L125 (n + 1) vwy vtg vws s (nI r) = (if (2 : Int32) ≤ nI r then (bo1 (mX9_puts s (0 : Int32) (0 : Int32) (vwy (0 : Int32).toNatClampNeg)) (fun vs_10 => (bo1 (mX9_puts vs_10 (1 : Int32) (0 : Int32) (vwy (1 : Int32).toNatClampNeg)) (fun vs_12 => (some (vwy, vtg, vws, vs_12)))))) else (bo1 (mX9_of s (nI r) (0 : Int32)) (fun r_14 => (if ¬ (r_14 < 0 ∨ 36 ≤ r_14.toNatClampNeg) then (if (vtg r_14.toNatClampNeg) = (-1 : Int32) then (bo1 (mX9_of s (nI r) (0 : Int32)) (fun r_19 => (mX9_belts_J162 (fun vwy vtg vws vs l2 => mX9_belts_L125 n vwy vtg vws vs l2) vwy vtg vws s (nI r) (nI r) r_19))) else (mX9_belts_J162 (fun vwy vtg vws vs l2 => mX9_belts_L125 n vwy vtg vws vs l2) vwy vtg vws s (nI r) (nI r) (vtg r_14.toNatClampNeg))) else none)))) := rfl
  have j162 : ∀ v, mX9_belts_J162 (fun vwy vtg vws vs l2 => mX9_belts_L125 n vwy vtg vws vs l2) vwy vtg vws s (nI r) (nI r) v = mX9_belts_L125 n (upd vwy r v) vtg vws s (nI (r + 1)) := fun v => by
    unfold mX9_belts_J162
    rw [if_pos (g_idx (by omega) 2 hr), nI_clamp (by omega), nI_1]
  rw [e, if_neg hr2, hof, bo1_some, if_pos (g_idx36 hc), nI_clamp (by omega), ht c hc]
  unfold car
  by_cases hp : P c = true
  · rw [if_pos hp, if_pos hp]
    cases hb : blt K c with
    | none => exact absurd hb (hP c hc hp)
    | some y =>
      rw [opI_some, if_neg (ne_neg1 y (blt_lt hK hc y hb)), j162]; rfl
  · rw [if_neg hp, if_neg hp, if_pos (show opI none = (-1 : Int32) from rfl), bo1_some, j162]
theorem g_b125e (n : Nat) (vwy vtg vws s : Nat → Int32) : mX9_belts_L125 (n + 1) vwy vtg vws s (nI 2) = some (vwy, vtg, vws, upd (upd s 72 (vwy 0)) 81 (vwy 1)) := by
  have e : mX9_belts_L125 (n + 1) vwy vtg vws s (nI 2) = (bo1 (mX9_puts s (0 : Int32) (0 : Int32) (vwy 0)) (fun vs_10 => (bo1 (mX9_puts vs_10 (1 : Int32) (0 : Int32) (vwy 1)) (fun vs_12 => (some (vwy, vtg, vws, vs_12)))))) := rfl
  rw [e, show mX9_puts s (0 : Int32) (0 : Int32) (vwy 0) = some (upd s 72 (vwy 0)) from g_puts s (r := 0) (k := 0) (by decide) (by decide) _, bo1_some, show mX9_puts (upd s 72 (vwy 0)) (1 : Int32) (0 : Int32) (vwy 1) = some (upd (upd s 72 (vwy 0)) 81 (vwy 1)) from g_puts _ (r := 1) (k := 0) (by decide) (by decide) _]
  rfl
theorem g_belts {s : Nat → Int32} {K : Nat → Nat} {t : Th} (h : RS s K t.1 t.2.1 t.2.2) (hk : RK K t.1 t.2.1 t.2.2) (vwy vtg vws : Nat → Int32) :
    ∃ vwy' vtg' vws' s', mX9_belts vwy vtg vws s = some (vwy', vtg', vws', s') ∧ RS s' K (bl K t).1 (bl K t).2.1 (bl K t).2.2 ∧ RSE s' s := by
  have hK : ∀ x, x < 36 → K x < 7 := fun x hx => (hk.1 x hx).1
  have hP : ∀ x, x < 36 → carP K (tht t) x = true → blt K x ≠ none := fun x hx q => by
    obtain ⟨y, h, -⟩ := carP_some hx q
    rw [h]; exact fun q => by cases q
  obtain ⟨vtg1, vws1, a1, a2⟩ := g_findsTargets h hk vtg vws
  obtain ⟨vtg2, b1, b2⟩ := g_holdsBack h hk vtg1 a2
  obtain ⟨vws2, c1, c2⟩ := g_b12 (s := s) (vwy := vwy) (vtg := vtg2) 36 4096 0 vws1 (by decide) (by decide) (fun x hx => absurd hx (Nat.not_lt_zero x))
  have hw : ∀ x, x < 36 → vws2 x = (if t.1 x then (1 : Int32) else 0) := fun x hx => (c2 x hx).trans (h.1 x hx).2
  have ht : ∀ x, x < 36 → (vtg2 x = -1 ↔ carP K (tht t) x = false) := fun x hx => by
    rw [b2 x hx]
    unfold cgO
    by_cases q : carP K (tht t) x = true
    · rw [if_pos q, q]
      cases hb : blt K x with
      | none => exact absurd hb (hP x hx q)
      | some y => exact ⟨fun z => absurd z (ne_neg1 y (blt_lt hK hx y hb)), fun z => by cases z⟩
    · rw [if_neg q]
      exact ⟨fun _ => by simpa using q, fun _ => rfl⟩
  obtain ⟨s2, d1, d2, d3⟩ := g_b38 (s := s) (vwy := vwy) (P := carP K (tht t)) ht hw 36 4096 0 s (by decide) (by decide) (fun _ _ => rfl) (fun x hx => by
    rw [decide_eq_false (Nat.not_lt_zero x), Bool.and_false]
    rw [(h.1 x hx).2]
    cases t.1 x <;> rfl)
  obtain ⟨s3, e1, e2, e3⟩ := g_b79 (s := s) (vwy := vwy) (K := K) (C := t.1) (P := carP K (tht t)) hK (vtg := vtg2) (fun x hx => b2 x hx) hP hw 36 4096 0 s2 (by decide) (by decide) d2 (fun x hx => by
    rw [d3 x hx]
    unfold crc
    simp)
  have s72 : s3 72 = nI t.2.1 := (e2 72 (Or.inr (by omega))).trans h.2.1
  have s81 : s3 81 = nI t.2.2 := (e2 81 (Or.inr (by omega))).trans h.2.2
  have f0 := g_b125s (s := s3) (vtg := vtg2) (vws := vws2) (K := K) (P := carP K (tht t)) hK (fun x hx => b2 x hx) hP (r := 0) (by decide) hk.2.1 s72 4095 vwy
  have f1 := g_b125s (s := s3) (vtg := vtg2) (vws := vws2) (K := K) (P := carP K (tht t)) hK (fun x hx => b2 x hx) hP (r := 1) (by decide) hk.2.2.1 s81 4094 (upd vwy 0 (nI (car K (carP K (tht t)) t.2.1)))
  have fin : mX9_belts vwy vtg vws s = some (upd (upd vwy 0 (nI (car K (carP K (tht t)) t.2.1))) 1 (nI (car K (carP K (tht t)) t.2.2)), vtg2, vws2, upd (upd s3 72 (nI (car K (carP K (tht t)) t.2.1))) 81 (nI (car K (carP K (tht t)) t.2.2))) := by
    unfold mX9_belts
    rw [a1]
    show bo1 (mX9_holdsBack vtg1 s) _ = _
    rw [b1, bo1_some]
    exact c1.trans (d1.trans (e1.trans (f0.trans (f1.trans (g_b125e 4093 _ _ _ _)))))
  refine ⟨_, _, _, _, fin, ⟨fun x hx => ⟨?_, ?_⟩, rfl, rfl⟩, fun k hk1 h72 h81 => ?_⟩
  · rw [show ∀ v w, upd (upd s3 72 v) 81 w x = upd s3 72 v x from fun v w => if_neg (by omega), show ∀ v, upd s3 72 v x = s3 x from fun v => if_neg (by omega), e2 x (Or.inl hx)]
    exact (h.1 x hx).1
  · rw [show ∀ v w, upd (upd s3 72 v) 81 w (36 + x) = upd s3 72 v (36 + x) from fun v w => if_neg (by omega), show ∀ v, upd s3 72 v (36 + x) = s3 (36 + x) from fun v => if_neg (by omega), e3 x hx]
    rfl
  · rw [show ∀ v w, upd (upd s3 72 v) 81 w k = upd s3 72 v k from fun v w => if_neg h81, show ∀ v, upd s3 72 v k = s3 k from fun v => if_neg h72]
    exact e2 k hk1
