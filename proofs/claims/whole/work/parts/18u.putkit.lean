/-! Cells put back in their places, place by place (my_put's nested writes cost too much where there are many) -/
def my_ix : List Nat → va_W → Nat → (Nat × va_E) → (Nat × va_E)
  | i :: is, c :: cs, k, d => if i = k then c else my_ix is cs k d
  | [], _, _, d => d
  | _ :: _, [], _, d => d
def my_pw (is : List Nat) (cs : va_W) : Nat → va_W → va_W
  | _, [] => []
  | k, a :: ws => my_ix is cs k a :: my_pw is cs (k + 1) ws
theorem my_ix_at : ∀ (is : List Nat) (cs : va_W) (k : Nat) (d : Nat × va_E), is.length = cs.length → (∃ j : Nat, is[j]? = some k ∧ cs[j]? = some (my_ix is cs k d)) ∨ (k ∉ is ∧ my_ix is cs k d = d)
  | [], cs, k, d, _ => Or.inr ⟨List.not_mem_nil, by simp [my_ix]⟩
  | i :: is, [], k, d, h => by simp at h
  | i :: is, c :: cs, k, d, h => by
    by_cases hk : i = k
    · exact Or.inl ⟨0, by simp [hk], by simp [my_ix, hk]⟩
    · have e : my_ix (i :: is) (c :: cs) k d = my_ix is cs k d := by simp [my_ix, hk]
      rw [e]
      rcases my_ix_at is cs k d (by simpa using h) with ⟨j, h1, h2⟩ | ⟨h1, h2⟩
      · exact Or.inl ⟨j + 1, by simpa using h1, by simpa using h2⟩
      · exact Or.inr ⟨by simp [h1]; exact fun q => hk q.symm, h2⟩
theorem my_pw_at (is : List Nat) (cs : va_W) (hl : is.length = cs.length) : ∀ (ws : va_W) (k0 k : Nat) (q : Nat × va_E), (my_pw is cs k0 ws)[k]? = some q → (∃ j : Nat, is[j]? = some (k0 + k) ∧ cs[j]? = some q) ∨ (k0 + k ∉ is ∧ ws[k]? = some q)
  | [], k0, k, q, h => by simp [my_pw] at h
  | a :: ws, k0, 0, q, h => by
    have e : my_ix is cs k0 a = q := by simpa [my_pw] using h
    rcases my_ix_at is cs k0 a hl with ⟨j, h1, h2⟩ | ⟨h1, h2⟩
    · exact Or.inl ⟨j, by simpa using h1, by rw [h2, e]⟩
    · exact Or.inr ⟨by simpa using h1, by rw [← e, h2]; rfl⟩
  | a :: ws, k0, k + 1, q, h => by
    have h1 : (my_pw is cs (k0 + 1) ws)[k]? = some q := by simpa [my_pw] using h
    rcases my_pw_at is cs hl ws (k0 + 1) k q h1 with ⟨j, h2, h3⟩ | ⟨h2, h3⟩
    · exact Or.inl ⟨j, by rw [h2]; congr 1; omega, h3⟩
    · exact Or.inr ⟨by rw [show k0 + (k + 1) = k0 + 1 + k by omega]; exact h2, by simpa using h3⟩
theorem my_joinA {A0 : Nat → Prop} {D : va_G} {cl : List vw_C} {ws wc w1 ws1 : va_W} {H H1 : Heap} (hP : va_P D cl ws H) (hD : va_D A0 ws) (isC : List Nat) (hC : isC.map (fun i => ws[i]?) = wc.map some) (had : w1.map Prod.fst = wc.map Prod.fst)
    (hat : ∀ (k : Nat) (q : Nat × va_E), ws1[k]? = some q → (∃ j : Nat, isC[j]? = some k ∧ w1[j]? = some q) ∨ (k ∉ isC ∧ ws[k]? = some q))
    (hk : ∀ q : Nat, q < H.size → ¬ va_A wc H.size q → H1[q]? = H[q]?) (hP1 : va_P D cl w1 H1) : va_P D cl ws1 H1 ∧ va_D A0 ws1 := by
  have key : ∀ (k : Nat) (q : Nat × va_E), ws1[k]? = some q → ∃ q0 : Nat × va_E, ws[k]? = some q0 ∧ q0.1 = q.1 := by
    intro k q hq
    rcases hat k q hq with ⟨j, h1, h2⟩ | ⟨h1, h2⟩
    · obtain ⟨q0, h3, h4⟩ := my_map_at hC h1
      exact ⟨q0, h3, my_fst_at had h4 h2⟩
    · exact ⟨q, h2, rfl⟩
  refine ⟨fun k q hq => ?_, my_D_same hD key⟩
  rcases hat k q hq with ⟨j, h1, h2⟩ | ⟨h1, h2⟩
  · exact hP1 j q h2
  · refine (hP k q h2).kept (hk q.1 ((hP k q h2).lt) (fun hA => ?_))
    rcases hA with ⟨k2, e, h⟩ | h
    · have hk2 : ∃ i, isC[k2]? = some i ∧ ws[i]? = some (q.1, e) := by
        have h3 : (isC.map (fun i => ws[i]?))[k2]? = some (some (q.1, e)) := by rw [hC, List.getElem?_map, h]; rfl
        rw [List.getElem?_map] at h3
        cases hi : isC[k2]? with
        | none => rw [hi] at h3; cases h3
        | some i => rw [hi] at h3; exact ⟨i, rfl, Option.some.inj h3⟩
      obtain ⟨i, h5, h6⟩ := hk2
      have := hD.1 k i q (q.1, e) h2 h6 rfl
      subst this
      exact h1 (List.mem_of_getElem? h5)
    · exact absurd ((hP k q h2).lt) (Nat.not_lt.mpr h)
theorem my_len {ws wc w1 : va_W} {isC : List Nat} (hC : isC.map (fun i => ws[i]?) = wc.map some) (had : w1.map Prod.fst = wc.map Prod.fst) : isC.length = w1.length := by
  have h1 := congrArg List.length hC
  have h2 := congrArg List.length had
  simp at h1 h2
  omega
theorem my_joinP {A0 : Nat → Prop} {D : va_G} {cl : List vw_C} {ws wc w1 ws1 : va_W} {H H1 : Heap} (hP : va_P D cl ws H) (hD : va_D A0 ws) (isC : List Nat) (hC : isC.map (fun i => ws[i]?) = wc.map some) (had : w1.map Prod.fst = wc.map Prod.fst) (hset : my_pw isC w1 0 ws = ws1)
    (hk : ∀ q : Nat, q < H.size → ¬ va_A wc H.size q → H1[q]? = H[q]?) (hP1 : va_P D cl w1 H1) : va_P D cl ws1 H1 ∧ va_D A0 ws1 := by
  subst hset
  refine my_joinA hP hD isC hC had (fun k q hq => ?_) hk hP1
  have h := my_pw_at isC w1 (my_len hC had) ws 0 k q hq
  simpa using h
section MyPw
variable {p : Program} {l : Launch} {e : Env} {R : Room} {s : State} {m : MethodId} {args : Array Value} {below : List Frame} {meth : Method} {c : Code} {H : Heap} {locs : List Loc} {cells slots : Nat} {Q : State → Prop} {Γ : my_G}
variable {pc : Nat} {ls : Array Slot} {rest st0 : List Value} {A0 : Nat → Prop} {H0 : Heap} {av : Array Value}
theorem my_SS {wc ws : va_W} {T' t st₀ : State} {L : List Loc} {isC : List Nat} (hD : va_D A0 ws) (hS : va_S A0 H0 H locs) (hA : ∀ q, H0.size ≤ q → A0 q) (hC : isC.map (fun i => ws[i]?) = wc.map some) (h0 : st₀.heap = H) (e1 : T'.heap = t.heap) (hF : va_F (va_A wc H.size) st₀ t) (hL : ∀ q ∈ L, va_A wc H.size q.base) :
    va_S A0 H0 T'.heap (locs ++ L) ∧ ∀ q : Nat, q < H.size → ¬ va_A wc H.size q → T'.heap[q]? = H[q]? := by
  have hFc := va_free (wc := wc) hD hS hA isC hC
  obtain ⟨hz, hk⟩ := hF
  rw [h0] at hz hk
  exact ⟨⟨Nat.le_trans hS.1 (by rw [e1]; exact hz), fun q h1 h2 => by rw [e1, hk q (Nat.lt_of_lt_of_le h1 hS.1) (fun z => h2 (hFc q z))]; exact hS.2.1 q h1 h2, fun q hq => by
    rcases List.mem_append.mp hq with h | h
    · exact hS.2.2 q h
    · exact hFc _ (hL q h)⟩, fun q h1 h2 => by rw [e1]; exact hk q h1 h2⟩
theorem my_callPx {wc w1 ws ws1 : va_W} {res : Option Value} {mc ms : Nat} (hP : va_P (my_D Γ) vwCl ws H) (hD : va_D A0 ws) (hS : va_S A0 H0 H locs) (hA : ∀ q, H0.size ≤ q → A0 q) (isC : List Nat) (hC : isC.map (fun i => ws[i]?) = wc.map some) (had : w1.map Prod.fst = wc.map Prod.fst) (hset : my_pw isC w1 0 ws = ws1)
    (hr : va_Run p l e R s m args below meth c H locs cells slots mc ms (F0 m pc ls st0) rest (my_Q Γ (va_A wc H.size) res w1 av) (va_A wc H.size))
    (kk : ∀ (H1 : Heap) (locs1 : List Loc), va_P (my_D Γ) vwCl ws1 H1 → va_D A0 ws1 → va_S A0 H0 H1 locs1 → W p l e R s m args below meth c H1 locs1 (cells + mc) (slots + ms) Q (F0 m (pc + 3) ls (res.toList ++ rest))) : W p l e R s m args below meth c H locs cells slots Q (F0 m pc ls st0) := by
  intro T hT X
  obtain ⟨v, st₀, t, T', L, h0, X', hL, e1, e2, ⟨⟨hv, hp⟩, hF⟩, st⟩ := hr T hT X
  cases hv
  obtain ⟨hS1, hk1⟩ := my_SS hD hS hA hC h0 e1 hF hL
  obtain ⟨g1, g2⟩ := my_joinP hP hD isC hC had hset hk1 (by rw [e1]; exact hp)
  obtain ⟨t2, a1, b1⟩ := kk T'.heap (locs ++ L) g1 g2 hS1 T' rfl X'
  exact ⟨t2, st t2 a1, b1⟩
theorem my_callP1 {wc w1 ws ws1 : va_W} {v : Value} (hP : va_P (my_D Γ) vwCl ws H) (hD : va_D A0 ws) (hS : va_S A0 H0 H locs) (hA : ∀ q, H0.size ≤ q → A0 q) (isC : List Nat) (hC : isC.map (fun i => ws[i]?) = wc.map some) (had : w1.map Prod.fst = wc.map Prod.fst) (hset : my_pw isC w1 0 ws = ws1)
    (hr : va_Run p l e R s m args below meth c H locs cells slots 0 0 (F0 m pc ls st0) rest (my_Q Γ (va_A wc H.size) (some v) w1 av) (va_A wc H.size))
    (kk : ∀ (H1 : Heap) (locs1 : List Loc), va_P (my_D Γ) vwCl ws1 H1 → va_D A0 ws1 → va_S A0 H0 H1 locs1 → W p l e R s m args below meth c H1 locs1 cells slots Q (F0 m (pc + 3) ls (v :: rest))) : W p l e R s m args below meth c H locs cells slots Q (F0 m pc ls st0) := my_callPx hP hD hS hA isC hC had hset hr kk
theorem my_callP0 {wc w1 ws ws1 : va_W} (hP : va_P (my_D Γ) vwCl ws H) (hD : va_D A0 ws) (hS : va_S A0 H0 H locs) (hA : ∀ q, H0.size ≤ q → A0 q) (isC : List Nat) (hC : isC.map (fun i => ws[i]?) = wc.map some) (had : w1.map Prod.fst = wc.map Prod.fst) (hset : my_pw isC w1 0 ws = ws1)
    (hr : va_Run p l e R s m args below meth c H locs cells slots 0 0 (F0 m pc ls st0) rest (my_Q Γ (va_A wc H.size) none w1 av) (va_A wc H.size))
    (kk : ∀ (H1 : Heap) (locs1 : List Loc), va_P (my_D Γ) vwCl ws1 H1 → va_D A0 ws1 → va_S A0 H0 H1 locs1 → W p l e R s m args below meth c H1 locs1 cells slots Q (F0 m (pc + 3) ls rest)) : W p l e R s m args below meth c H locs cells slots Q (F0 m pc ls st0) := my_callPx hP hD hS hA isC hC had hset hr kk
theorem my_callPX {wc ws : va_W} {ro : my_RO} {mc ms : Nat} (hP : va_P (my_D Γ) vwCl ws H) (hD : va_D A0 ws) (hS : va_S A0 H0 H locs) (hA : ∀ q, H0.size ≤ q → A0 q) (isC : List Nat) (hC : isC.map (fun i => ws[i]?) = wc.map some) (hn : va_nd isC = true) (had : ∀ res w1, ro = Sum.inl (res, w1) → w1.map Prod.fst = wc.map Prod.fst)
    (hr : vx_Run p l e R s m args below meth c H locs cells slots mc ms (F0 m pc ls st0) rest (my_QR Γ (va_A wc H.size) ro av) (my_XC Γ (va_A wc H.size) wc ro) (va_A wc H.size))
    (kx : ∀ (E : String) (H1 : Heap) (locs1 : List Loc) (q9 : Addr) (ce : Cell), ro = Sum.inr E → va_P (my_D Γ) vwCl ws H1 → va_S A0 H0 H1 locs1 → H1[q9]? = some ce → ce.vm = .none → s.vm.findClass E = some ce.cls → vx_W p l e R s m args below meth c H1 locs1 (cells + mc) (slots + ms) Q (F0 m pc ls rest) q9)
    (kk : ∀ (res : Option Value) (w1 : va_W) (H1 : Heap) (locs1 : List Loc), ro = Sum.inl (res, w1) → va_P (my_D Γ) vwCl (my_pw isC w1 0 ws) H1 → va_D A0 (my_pw isC w1 0 ws) → va_S A0 H0 H1 locs1 → W p l e R s m args below meth c H1 locs1 (cells + mc) (slots + ms) Q (F0 m (pc + 3) ls (res.toList ++ rest))) : W p l e R s m args below meth c H locs cells slots Q (F0 m pc ls st0) := by
  intro T hT X
  rcases hr T hT X with ⟨v, st₀, t, T', L, h0, X', hL, e1, e2, ⟨res, w1, hro, ⟨hv, hp⟩, hF⟩, st⟩ | ⟨q, st₀, t, T', L, E, ce, h0, X', hL, e1, e2, ⟨hro, hp, hF⟩, hce, hcv, hcl, st⟩
  · cases hv
    obtain ⟨hS1, hk1⟩ := my_SS hD hS hA hC h0 e1 hF hL
    obtain ⟨g1, g2⟩ := my_joinP hP hD isC hC (had _ _ hro) rfl hk1 (by rw [e1]; exact hp)
    obtain ⟨t2, a1, b1⟩ := kk _ w1 T'.heap (locs ++ L) hro g1 g2 hS1 T' rfl X'
    exact ⟨t2, st t2 a1, b1⟩
  · obtain ⟨hS1, hk1⟩ := my_SS hD hS hA hC h0 e1 hF hL
    have hput : my_put ws isC wc = ws := my_put_same isC wc ws hC
    obtain ⟨g1, g2⟩ := my_join hP hD isC hC rfl hput hk1 (by rw [e1]; exact hp)
    obtain ⟨t2, a1, b1⟩ := kx E T'.heap (locs ++ L) q ce hro g1 hS1 (by rw [e1]; exact hce) hcv hcl T' rfl X'
    exact ⟨t2, st.trans a1, b1⟩
end MyPw
