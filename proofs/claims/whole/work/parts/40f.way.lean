/-! The class's way of a robot as a set; both programs' clash -/
theorem rl_pe {K : Nat → Nat} {T : Nat → Bool} {d : Nat} : ∀ (f : Nat) (o : Option Nat), pe d f o = true → rl K T d (f + 1) o = rl K T d f o
  | 0, none, _ => rfl
  | 0, some x, h => by simp [pe] at h
  | f + 1, none, _ => rfl
  | f + 1, some x, h => by
    have ih := rl_pe (K := K) (T := T) f (bs x d) (by simpa [pe] using h)
    show (if T x then (rl K T d (f + 1) (bs x d)).map (· + 1) else if K x = 1 then none else some 0) = (if T x then (rl K T d f (bs x d)).map (· + 1) else if K x = 1 then none else some 0)
    rw [ih]
/-- the cells of a way, at most n, the first being o -/
def pth (d : Nat) : Nat → Option Nat → List Nat
  | 0, _ => []
  | _ + 1, none => []
  | n + 1, some x => x :: pth d n (bs x d)
theorem pth_lt {d : Nat} (hd : d < 4) : ∀ (n : Nat) (o : Option Nat), (∀ x, o = some x → x < 36) → ∀ y ∈ pth d n o, y < 36
  | 0, _, _, y, h => by simp [pth] at h
  | _ + 1, none, _, y, h => by simp [pth] at h
  | n + 1, some x, ho, y, h => by
    rcases List.mem_cons.mp h with h | h
    · exact h ▸ ho x rfl
    · exact pth_lt hd n (bs x d) (fun z hz => bs_lt x (ho x rfl) d hd z hz) y h
theorem rl_len {K : Nat → Nat} {T : Nat → Bool} {d : Nat} : ∀ (f : Nat) (o : Option Nat) (r : Nat), rl K T d f o = some r → (pth d (r + 1) o).length = r + 1 ∧ r < f
  | 0, _, r, h => by simp [rl] at h
  | f + 1, none, r, h => by simp [rl] at h
  | f + 1, some x, r, h => by
    have h : (if T x then (rl K T d f (bs x d)).map (· + 1) else if K x = 1 then none else some 0) = some r := h
    by_cases ht : T x = true
    · rw [if_pos ht] at h
      obtain ⟨r', h1, rfl⟩ := Option.map_eq_some_iff.mp h
      have ih := rl_len f (bs x d) r' h1
      exact ⟨by show (x :: pth d (r' + 1) (bs x d)).length = _; rw [List.length_cons, ih.1], by omega⟩
    · rw [if_neg ht] at h
      split at h
      · cases h
      · cases h; exact ⟨rfl, by omega⟩
/-- the class's floor: kinds, crates, belts, pits, the robots' cells -/
def RV (vj : Nat → Int64) (vk va vb : Nat → Int32) (K : Nat → Nat) (C : Nat → Bool) (c0 c1 : Nat) : Prop :=
  (∀ x, x < 36 → vk x = nI (K x)) ∧ vj 4 = sL C ∧ va 0 = nI c0 ∧ vb 0 = nI c1
theorem v_things {vj : Nat → Int64} {vk va vb : Nat → Int32} {K : Nat → Nat} {C : Nat → Bool} {c0 c1 : Nat} (h : RV vj vk va vb K C c0 c1) (h0 : c0 < 36) (h1 : c1 < 36) : mX1_things vj va vb = sL (th C c0 c1) := by
  unfold mX1_things
  rw [h.2.1, h.2.2.1, h.2.2.2, sL_set h0, sL_set h1, sL_or, sL_or]
  rfl
theorem v_kind {vk : Nat → Int32} {K : Nat → Nat} (h : ∀ x, x < 36 → vk x = nI (K x)) {x : Nat} (hx : x < 36) : mX1_kindAt vk (nI x) = nI (K x) := by
  unfold mX1_kindAt
  rw [if_neg (pu_neg (by omega)), if_neg (fun q => by
    have q1 : nI 36 ≤ nI x := q
    rw [pu_le (by omega) (by omega)] at q1
    omega), nI_clamp (by omega), h x hx]
theorem v_kindN (vk : Nat → Int32) : mX1_kindAt vk (-1) = 1 := by
  unfold mX1_kindAt
  rw [if_pos (by decide)]
theorem v_wayFrom_L {vj : Nat → Int64} {vk va vb : Nat → Int32} {K : Nat → Nat} {T : Nat → Bool} {d : Nat} (hv : ∀ x, x < 36 → vk x = nI (K x)) (hK : ∀ x, x < 36 → K x < 7) (hT : ∀ x, x < 36 → T x = true → K x ≠ 1) (hd : d < 4) :
    ∀ (f n x : Nat) (W : Nat → Bool), f < n → f ≤ 5 → x < 36 →
      mX6_wayFrom_L17 n vj vk va vb (nI d) (sL T) (sL W) (nI x) (nI (6 - f)) = some (match rl K T d f (bs x d) with | none => 0 | some r => sL (fun y => W y || decide (y ∈ pth d (r + 1) (bs x d)))) := by
  intro f
  induction f with
  | zero =>
    intro n x W hn hf hx
    obtain ⟨n, rfl⟩ : ∃ m, n = m + 1 := ⟨n - 1, by omega⟩
    unfold mX6_wayFrom_L17
    rw [if_pos (by decide +kernel)]
    rfl
  | succ f ih =>
    intro n x W hn hf hx
    obtain ⟨n, rfl⟩ : ∃ m, n = m + 1 := ⟨n - 1, by omega⟩
    unfold mX6_wayFrom_L17
    rw [if_neg (fun q => by
      have q1 : nI 6 ≤ nI (6 - (f + 1)) := q
      rw [pu_le (by omega) (by omega)] at q1
      omega), pu_beside x hx d hd]
    have hb : ∀ y, bs x d = some y → y < 36 := fun y hy => bs_lt x hx d hd y hy
    cases ho : bs x d with
    | none =>
      rw [show opI none = (-1 : Int32) from rfl, v_kindN, if_pos rfl]
      rfl
    | some y =>
      have hy := hb y ho
      have hKy := hK y hy
      have e1 : nI (K y) = (1 : Int32) ↔ K y = 1 := nI_inj (a := K y) (b := 1) (by omega) (by decide)
      rw [opI_some, v_kind hv hy]
      show _ = some (match (if T y then (rl K T d f (bs y d)).map (· + 1) else if K y = 1 then none else some 0) with | none => 0 | some r => sL (fun z => W z || decide (z ∈ pth d (r + 1) (some y))))
      by_cases hk1 : K y = 1
      · have hTy : ¬ T y = true := fun q => hT y hy q hk1
        rw [if_pos (e1.mpr hk1), if_neg hTy, if_pos hk1]
      · rw [if_neg (fun q => hk1 (e1.mp q)), sL_set hy, sL_or]
        by_cases hTy : T y = true
        · rw [if_neg (fun q => by rw [sL_holds0 hy, hTy] at q; cases q), if_pos hTy]
          have hs : nI (6 - (f + 1)) + (1 : Int32) = nI (6 - f) := by rw [nI_1]; congr 1; omega
          rw [hs, ih n y _ (by omega) (by omega) hy]
          congr 1
          cases rl K T d f (bs y d) with
          | none => rfl
          | some r =>
            apply sL_cong
            intro z hz
            show ((W z || z == y) || decide (z ∈ pth d (r + 1) (bs y d))) = (W z || decide (z ∈ y :: pth d (r + 1) (bs y d)))
            rw [Bool.or_assoc]
            congr 1
            by_cases e : z = y
            · subst e; simp
            · simp [e]
        · rw [if_pos ((sL_holds0 hy).mpr (by simpa using hTy)), if_neg hTy, if_neg hk1]
          congr 1
          apply sL_cong
          intro z hz
          show (W z || z == y) = (W z || decide (z ∈ y :: pth d 0 (bs y d)))
          congr 1
          by_cases e : z = y
          · subst e; simp
          · simp [e, pth]
theorem v_wayFrom {vj : Nat → Int64} {vk va vb : Nat → Int32} {K : Nat → Nat} {C : Nat → Bool} {c0 c1 d c : Nat} (h : RV vj vk va vb K C c0 c1) (hk : RK K C c0 c1) (hd : d < 4) (hc : c < 36) :
    mX6_wayFrom vj vk va vb (nI c) (nI d) = some (match rl K (th C c0 c1) d 6 (bs c d) with | none => 0 | some r => sL (fun y => decide (y ∈ c :: pth d (r + 1) (bs c d)))) := by
  have hT : ∀ x, x < 36 → th C c0 c1 x = true → K x ≠ 1 := by
    intro x hx ht
    unfold th at ht
    rcases Bool.or_eq_true _ _ ▸ ht with ht | ht
    · rcases Bool.or_eq_true _ _ ▸ ht with ht | ht
      · exact (hk.1 x hx).2 ht
      · rw [eq_of_beq ht]; exact hk.2.2.2.2.2.2.1
    · rw [eq_of_beq ht]; exact hk.2.2.2.2.2.2.2
  unfold mX6_wayFrom
  rw [v_things h hk.2.1 hk.2.2.1, sL_set hc, rl_pe 5 _ (pe_5 c hc d hd)]
  have := v_wayFrom_L (vj := vj) (va := va) (vb := vb) h.1 (fun x hx => (hk.1 x hx).1) hT hd 5 4096 c (fun x => x == c) (by decide) (by decide) hc
  rw [show (1 : Int32) = nI (6 - 5) from by decide +kernel, this]
  congr 1
  cases rl K (th C c0 c1) d 5 (bs c d) with
  | none => rfl
  | some r =>
    apply sL_cong
    intro z hz
    by_cases e : z = c
    · subst e; simp
    · simp [e]
