/-! The class's constructor: what is made already stands as one list that is not opened -/
theorem va_nd_of : ∀ (l : List Nat), l.Nodup → va_nd l = true
  | [], _ => rfl
  | a :: l, h => by
    have h1 := List.nodup_cons.mp h
    show (decide (a ∉ l) && va_nd l) = true
    rw [va_nd_of l h1.2, decide_eq_true h1.1]
    rfl
def my_QE (Γ : my_G) (A : Nat → Prop) (F : va_W → Prop) : Array Value → State → Outcome → State → Prop := fun _ st oc t => (∃ w : va_W, oc = .returned none ∧ F w ∧ va_P (my_D Γ) vwCl w t.heap ∧ va_D A w) ∧ va_F A st t
def MnE (l : Launch) (y : MethodName) (ws : List Cond) (rm : Room) (Γ : my_G) (av : List Value) (w0 : va_W) (F : va_W → Prop) (mc ms : Nat) : Prop :=
  ∀ sz : Nat, Met l y ws rm (my_PcN Γ w0 sz av) (my_QE Γ (va_A w0 sz) F) mc ms (va_A w0 sz)
section MyNR
variable {p : Program} {l : Launch} {e : Env} {R : Room} {s : State} {m : MethodId} {args : Array Value} {below : List Frame} {meth : Method} {c : Code} {H : Heap} {locs : List Loc} {cells slots : Nat} {Q : State → Prop} {Γ : my_G}
variable {pc : Nat} {ls : Array Slot} {rest st0 : List Value} {A0 : Nat → Prop} {H0 : Heap} {av : Array Value}
theorem my_rC (wc R_ : va_W) : (List.range wc.length).map (fun i => (wc ++ R_)[i]?) = wc.map some := by
  apply List.ext_getElem
  · simp
  · intro i h1 h2
    simp only [List.length_map] at h2
    simp [List.getElem?_append_left h2, List.getElem?_eq_getElem h2]
theorem my_rR (wc R_ : va_W) : ((List.range R_.length).map (fun i => wc.length + i)).map (fun i => (wc ++ R_)[i]?) = R_.map some := by
  apply List.ext_getElem
  · simp
  · intro i h1 h2
    simp only [List.length_map] at h2
    simp [List.getElem?_append_right (Nat.le_add_right wc.length i), List.getElem?_eq_getElem h2]
theorem my_rN (wc R_ : va_W) : va_nd ((List.range R_.length).map (fun i => wc.length + i)) = true := by
  apply va_nd_of
  rw [List.nodup_iff_pairwise_ne, List.pairwise_map]
  exact (List.nodup_iff_pairwise_ne.mp List.nodup_range).imp (fun h e => h (by omega))
theorem my_rD (wc R_ : va_W) : ∀ i ∈ (List.range R_.length).map (fun i => wc.length + i), i ∉ List.range wc.length := by
  intro i hi hj
  obtain ⟨k, hk, rfl⟩ := List.mem_map.mp hi
  have := List.mem_range.mp hj
  omega
theorem my_callNR {wc R_ : va_W} {W1 : (Nat → Nat) → va_W} {mc ms : Nat} (hP : va_P (my_D Γ) vwCl (wc ++ R_) H) (hD : va_D A0 (wc ++ R_)) (hS : va_S A0 H0 H locs) (hA : ∀ q, H0.size ≤ q → A0 q)
    (hr : va_Run p l e R s m args below meth c H locs cells slots mc ms (F0 m pc ls st0) rest (my_QN Γ (va_A wc H.size) W1 av) (va_A wc H.size))
    (kk : ∀ (ad : Nat → Nat) (H1 : Heap) (locs1 : List Loc), va_P (my_D Γ) vwCl (R_ ++ W1 ad) H1 → va_D A0 (R_ ++ W1 ad) → va_S A0 H0 H1 locs1 → W p l e R s m args below meth c H1 locs1 (cells + mc) (slots + ms) Q (F0 m (pc + 3) ls rest)) : W p l e R s m args below meth c H locs cells slots Q (F0 m pc ls st0) :=
  my_callN hP hD hS hA (List.range wc.length) ((List.range R_.length).map (fun i => wc.length + i)) (my_rC wc R_) (my_rR wc R_) (my_rN wc R_) (my_rD wc R_) hr kk
theorem my_callNR2 {wc R_ : va_W} {b0 : Nat × va_E} {W1 : (Nat → Nat) → va_W} {mc ms : Nat} (hP : va_P (my_D Γ) vwCl (wc ++ ([b0] ++ R_)) H) (hD : va_D A0 (wc ++ ([b0] ++ R_))) (hS : va_S A0 H0 H locs) (hA : ∀ q, H0.size ≤ q → A0 q)
    (hr : va_Run p l e R s m args below meth c H locs cells slots mc ms (F0 m pc ls st0) rest (my_QN Γ (va_A wc H.size) W1 av) (va_A wc H.size))
    (kk : ∀ (ad : Nat → Nat) (H1 : Heap) (locs1 : List Loc) (R1 : va_W), R1 = R_ ++ W1 ad → va_P (my_D Γ) vwCl ([b0] ++ R1) H1 → va_D A0 ([b0] ++ R1) → va_S A0 H0 H1 locs1 → W p l e R s m args below meth c H1 locs1 (cells + mc) (slots + ms) Q (F0 m (pc + 3) ls rest)) : W p l e R s m args below meth c H locs cells slots Q (F0 m pc ls st0) :=
  my_callNR hP hD hS hA hr (fun ad H1 locs1 h1 h2 h3 => kk ad H1 locs1 (R_ ++ W1 ad) rfl h1 h2 h3)
theorem my_callNE {wc R_ : va_W} {F : va_W → Prop} {mc ms : Nat} (hP : va_P (my_D Γ) vwCl (wc ++ R_) H) (hD : va_D A0 (wc ++ R_)) (hS : va_S A0 H0 H locs) (hA : ∀ q, H0.size ≤ q → A0 q)
    (hr : va_Run p l e R s m args below meth c H locs cells slots mc ms (F0 m pc ls st0) rest (my_QE Γ (va_A wc H.size) F av) (va_A wc H.size))
    (kk : ∀ (w : va_W) (H1 : Heap) (locs1 : List Loc), F w → va_P (my_D Γ) vwCl (R_ ++ w) H1 → va_D A0 (R_ ++ w) → va_S A0 H0 H1 locs1 → W p l e R s m args below meth c H1 locs1 (cells + mc) (slots + ms) Q (F0 m (pc + 3) ls rest)) : W p l e R s m args below meth c H locs cells slots Q (F0 m pc ls st0) := by
  intro T hT X
  have hFc := va_free (wc := wc) hD hS hA (List.range wc.length) (my_rC wc R_)
  obtain ⟨v, st₀, t, T', L, h0, X', hL, e1, e2, ⟨⟨w, hv, hF, hp, hd⟩, hz, hk⟩, st⟩ := hr T hT X
  cases hv
  rw [h0] at hz hk
  have hk1 : ∀ q : Nat, q < H.size → ¬ va_A wc H.size q → T'.heap[q]? = H[q]? := fun q h1 h2 => by rw [e1]; exact hk q h1 h2
  obtain ⟨g1, g2⟩ := va_join hP hD (List.range wc.length) ((List.range R_.length).map (fun i => wc.length + i)) (my_rC wc R_) (my_rR wc R_) (my_rN wc R_) (my_rD wc R_) hk1 hFc (by rw [e1]; exact hp) hd
  obtain ⟨t2, a1, b1⟩ := kk w T'.heap (locs ++ L) hF g1 g2
    ⟨Nat.le_trans hS.1 (by rw [e1]; exact hz), fun q h1 h2 => by rw [e1, hk q (Nat.lt_of_lt_of_le h1 hS.1) (fun z => h2 (hFc q z))]; exact hS.2.1 q h1 h2, fun q hq => by
      rcases List.mem_append.mp hq with h | h
      · exact hS.2.2 q h
      · exact hFc _ (hL q h)⟩ T' rfl X'
  exact ⟨t2, st t2 a1, b1⟩
end MyNR
theorem my_permP {D : va_G} {cl : List vw_C} {ws ws' : va_W} {H : Heap} (h : ws.Perm ws') (hP : va_P D cl ws H) : va_P D cl ws' H := fun k q hk => by
  obtain ⟨i, hi⟩ := List.getElem?_of_mem (h.mem_iff.mpr (List.mem_of_getElem? hk))
  exact hP i q hi
theorem my_permN {A : Nat → Prop} {ws : va_W} : va_D A ws ↔ (ws.map Prod.fst).Nodup ∧ ∀ q ∈ ws, A q.1 := by
  constructor
  · intro hD
    refine ⟨List.pairwise_iff_getElem.mpr (fun i j hi hj hij e => ?_), fun q hq => ?_⟩
    · rw [List.length_map] at hi hj
      rw [List.getElem_map, List.getElem_map] at e
      have := hD.1 i j _ _ (List.getElem?_eq_getElem hi) (List.getElem?_eq_getElem hj) e
      omega
    · obtain ⟨k, hk⟩ := List.getElem?_of_mem hq
      exact hD.2 k q hk
  · intro h
    refine ⟨fun i j p q hi hj e => ?_, fun k q hk => h.2 q (List.mem_of_getElem? hk)⟩
    obtain ⟨hi1, hi2⟩ := List.getElem?_eq_some_iff.mp hi
    obtain ⟨hj1, hj2⟩ := List.getElem?_eq_some_iff.mp hj
    have hp := List.pairwise_iff_getElem.mp h.1
    rcases Nat.lt_trichotomy i j with q | q | q
    · exact absurd (by rw [List.getElem_map, List.getElem_map, hi2, hj2]; exact e) (hp i j (by rw [List.length_map]; exact hi1) (by rw [List.length_map]; exact hj1) q)
    · exact q
    · exact absurd (by rw [List.getElem_map, List.getElem_map, hi2, hj2]; exact e.symm) (hp j i (by rw [List.length_map]; exact hj1) (by rw [List.length_map]; exact hi1) q)
theorem my_permD {A : Nat → Prop} {ws ws' : va_W} (h : ws.Perm ws') (hD : va_D A ws) : va_D A ws' := by
  rw [my_permN] at hD ⊢
  exact ⟨(h.map Prod.fst).nodup_iff.mp hD.1, fun q hq => hD.2 q (h.mem_iff.mpr hq)⟩
def fX8 (Γ : my_G) (q0 : Nat) (z_i : Nat → Int32) (z_j : Nat → Int64) (z_k z_a z_b : Nat → Int32) : va_W → Prop := fun w => ∃ (q1 q3 q5 q7 q9 q11 q13 q15 q17 : Nat) (ad2 ad4 ad6 ad8 ad10 ad12 ad14 : Nat → Nat), w = [(q0, .inr (6, [.ref q1, .ref q3, .ref q5, .ref q7, .ref q9, .ref q11, .ref q13, .ref q15, .ref q17]))] ++ (((((((((([] : va_W) ++ (wText Γ (q1) (ad2 0) (fun _ => 0) (fun _ => 0))) ++ (wFloor Γ (q3) (ad4 0) (ad4 1) (ad4 2) (ad4 3) (ad4 4) (ad4 5) z_i z_j z_k (fun _ => 0) z_a (fun _ => 0) z_b (fun _ => 0))) ++ (wFloor Γ (q5) (ad6 0) (ad6 1) (ad6 2) (ad6 3) (ad6 4) (ad6 5) z_i z_j z_k (fun _ => 0) z_a (fun _ => 0) z_b (fun _ => 0))) ++ (wHist Γ (q7) (ad8 0) (fun _ => 0) (va_up (va_up (va_up (va_up (va_up (va_up (va_up (va_up (va_up (va_up (va_up (va_up (va_up (va_up (fun _ => none) 0 (some (ad8 1))) 1 (some (ad8 8))) 2 (some (ad8 15))) 3 (some (ad8 22))) 4 (some (ad8 29))) 5 (some (ad8 36))) 6 (some (ad8 43))) 7 (some (ad8 50))) 8 (some (ad8 57))) 9 (some (ad8 64))) 10 (some (ad8 71))) 11 (some (ad8 78))) 12 (some (ad8 85))) 13 (some (ad8 92))) ++ wFloor Γ (ad8 1) (ad8 2) (ad8 3) (ad8 4) (ad8 5) (ad8 6) (ad8 7) z_i z_j z_k (fun _ => 0) z_a (fun _ => 0) z_b (fun _ => 0) ++ wFloor Γ (ad8 8) (ad8 9) (ad8 10) (ad8 11) (ad8 12) (ad8 13) (ad8 14) z_i z_j z_k (fun _ => 0) z_a (fun _ => 0) z_b (fun _ => 0) ++ wFloor Γ (ad8 15) (ad8 16) (ad8 17) (ad8 18) (ad8 19) (ad8 20) (ad8 21) z_i z_j z_k (fun _ => 0) z_a (fun _ => 0) z_b (fun _ => 0) ++ wFloor Γ (ad8 22) (ad8 23) (ad8 24) (ad8 25) (ad8 26) (ad8 27) (ad8 28) z_i z_j z_k (fun _ => 0) z_a (fun _ => 0) z_b (fun _ => 0) ++ wFloor Γ (ad8 29) (ad8 30) (ad8 31) (ad8 32) (ad8 33) (ad8 34) (ad8 35) z_i z_j z_k (fun _ => 0) z_a (fun _ => 0) z_b (fun _ => 0) ++ wFloor Γ (ad8 36) (ad8 37) (ad8 38) (ad8 39) (ad8 40) (ad8 41) (ad8 42) z_i z_j z_k (fun _ => 0) z_a (fun _ => 0) z_b (fun _ => 0) ++ wFloor Γ (ad8 43) (ad8 44) (ad8 45) (ad8 46) (ad8 47) (ad8 48) (ad8 49) z_i z_j z_k (fun _ => 0) z_a (fun _ => 0) z_b (fun _ => 0) ++ wFloor Γ (ad8 50) (ad8 51) (ad8 52) (ad8 53) (ad8 54) (ad8 55) (ad8 56) z_i z_j z_k (fun _ => 0) z_a (fun _ => 0) z_b (fun _ => 0) ++ wFloor Γ (ad8 57) (ad8 58) (ad8 59) (ad8 60) (ad8 61) (ad8 62) (ad8 63) z_i z_j z_k (fun _ => 0) z_a (fun _ => 0) z_b (fun _ => 0) ++ wFloor Γ (ad8 64) (ad8 65) (ad8 66) (ad8 67) (ad8 68) (ad8 69) (ad8 70) z_i z_j z_k (fun _ => 0) z_a (fun _ => 0) z_b (fun _ => 0) ++ wFloor Γ (ad8 71) (ad8 72) (ad8 73) (ad8 74) (ad8 75) (ad8 76) (ad8 77) z_i z_j z_k (fun _ => 0) z_a (fun _ => 0) z_b (fun _ => 0) ++ wFloor Γ (ad8 78) (ad8 79) (ad8 80) (ad8 81) (ad8 82) (ad8 83) (ad8 84) z_i z_j z_k (fun _ => 0) z_a (fun _ => 0) z_b (fun _ => 0) ++ wFloor Γ (ad8 85) (ad8 86) (ad8 87) (ad8 88) (ad8 89) (ad8 90) (ad8 91) z_i z_j z_k (fun _ => 0) z_a (fun _ => 0) z_b (fun _ => 0) ++ wFloor Γ (ad8 92) (ad8 93) (ad8 94) (ad8 95) (ad8 96) (ad8 97) (ad8 98) z_i z_j z_k (fun _ => 0) z_a (fun _ => 0) z_b (fun _ => 0))) ++ (wSlot Γ (q9) (ad10 0) (fun _ => 0) ++ wFloor Γ (ad10 0) (ad10 1) (ad10 2) (ad10 3) (ad10 4) (ad10 5) (ad10 6) z_i z_j z_k (fun _ => 0) z_a (fun _ => 0) z_b (fun _ => 0))) ++ (wSlot Γ (q11) (ad12 0) (fun _ => 0) ++ wFloor Γ (ad12 0) (ad12 1) (ad12 2) (ad12 3) (ad12 4) (ad12 5) (ad12 6) z_i z_j z_k (fun _ => 0) z_a (fun _ => 0) z_b (fun _ => 0))) ++ (wFinder Γ (q13) (ad14 0) (ad14 1) (fun _ => 0) (fun _ => 0))) ++ [(q15, .inl (Γ.2.2 1, 241, .inr (.inl (fun _ => 0))))]) ++ [(q17, .inl (Γ.2.2 1, 241, .inr (.inl (fun _ => 0))))])
set_option maxHeartbeats 4000000 in
set_option maxRecDepth 100000 in
theorem nX8_init (l : Launch) (Γ : my_G) (q0 : Nat) (z_i : Nat → Int32) (z_j : Nat → Int64) (z_k z_a z_b : Nat → Int32) (hm : mX1_makeNew (fun _ => 0) (fun _ => 0) (fun _ => 0) (fun _ => 0) (fun _ => 0) = some (z_i, z_j, z_k, z_a, z_b)) : MnE l yX8_init wsX8_init ({ frames := 5, cells := 137, slots := 2571, locals := 103 } : Room) Γ [.ref q0] [(q0, .inr (6, [.null, .null, .null, .null, .null, .null, .null, .null, .null]))] (fX8 Γ q0 z_i z_j z_k z_a z_b) 137 2571 := by
  intro sz
  refine Met.ofW (cc := cX8_init) (maxL := 1) (ret := none) (by decide) rfl ?_
  intro p e s m args below meth c s₁ B hml hv
  obtain ⟨rfl, ⟨hsz, hP, hK, hD0⟩, hE⟩ := hv
  have hx := B.exec
  have hb := B.bytes
  have hr := B.returns
  have hts := atoms_spec (ws := wsX8_init) B.pre
  have hown : s.vm.findClass RX8 = some m.cls := findClass_of_methodNamed B.named
  have hlocks := B.notSynchronized
  have hin : meth.name = "<init>" := (name_of_methodNamed B.named B.method).1
  have hinX0 : ∀ w ∈ u_ws RX0 TX0 2, w ∈ wsX8_init := fun w h => List.mem_cons_of_mem _ (List.mem_append_left _ (List.mem_append_right _ h))
  have hinX1 : ∀ w ∈ u_ws RX1 TX1 12, w ∈ wsX8_init := fun w h => List.mem_cons_of_mem _ (List.mem_append_left _ (List.mem_append_left _ (List.mem_append_left _ (List.mem_append_left _ (List.mem_append_right _ h)))))
  have hinX3 : ∀ w ∈ u_ws RX3 TX3 3, w ∈ wsX8_init := fun w h => List.mem_cons_of_mem _ (List.mem_append_left _ (List.mem_append_left _ (List.mem_append_left _ (List.mem_append_right _ h))))
  have hinX4 : ∀ w ∈ u_ws RX4 TX4 10, w ∈ wsX8_init := fun w h => List.mem_cons_of_mem _ (List.mem_append_right _ h)
  have hinX5 : ∀ w ∈ u_ws RX5 TX5 2, w ∈ wsX8_init := fun w h => List.mem_cons_of_mem _ (List.mem_append_left _ (List.mem_append_left _ (List.mem_append_right _ h)))
  have hinX7 : ∀ w ∈ u_ws RX7 TX7 2, w ∈ wsX8_init := fun w h => List.mem_cons_of_mem _ (List.mem_append_left _ (List.mem_append_left _ (List.mem_append_left _ (List.mem_append_left _ (List.mem_append_left _ (List.mem_append_left _ (List.mem_append_right _ h)))))))
  have hinX8 : ∀ w ∈ u_ws RX8 TX8 9, w ∈ wsX8_init := fun w h => List.mem_cons_of_mem _ (List.mem_append_left _ (List.mem_append_left _ (List.mem_append_left _ (List.mem_append_left _ (List.mem_append_left _ (List.mem_append_right _ h))))))
  subst hsz
  have hD := hD0.self (sz := s.heap.size)
  have hA : ∀ q : Nat, s.heap.size ≤ q → va_A [(q0, .inr (6, [.null, .null, .null, .null, .null, .null, .null, .null, .null]))] s.heap.size q := fun q h => Or.inr h
  generalize va_A [(q0, .inr (6, [.null, .null, .null, .null, .null, .null, .null, .null, .null]))] s.heap.size = A at hD hA ⊢
  have hS : va_S A s.heap s.heap [] := va_S.rf
  have hl := lv_entry ([.ref q0]) (n := 1) (Nat.le_of_ble_eq_true rfl)
  rw [lg_entry_eq]
  generalize (lg_sl ([.ref q0]) ++ List.replicate (1 - (lg_sl ([.ref q0])).length) Slot.unset).toArray = ls at hl ⊢
  replace hl : lv_has ls 1 [(0, .ref q0)] := hl
  replace hP : va_P (my_D Γ) vwCl ([(q0, .inr (6, [.null, .null, .null, .null, .null, .null, .null, .null, .null]))] ++ ([] : va_W)) s.heap := hP
  replace hD : va_D A ([(q0, .inr (6, [.null, .null, .null, .null, .null, .null, .null, .null, .null]))] ++ ([] : va_W)) := hD
  refine lv_aload_n hx hb dX8_init_0 rfl (lv_at hl 0 rfl) ?_
  refine W.objInit hx hb hown (hts (.methodLink RX8 3 objectInit) (List.mem_of_getElem? (i := 1) rfl)) (hts (.instanceMethod objectInit) (List.mem_of_getElem? (i := 2) rfl)) (hts (.code objectInit ⟨#[0xb1]⟩ 1 none) (List.mem_of_getElem? (i := 3) rfl)) rfl (by rw [hml]; exact hl.1) rfl dX8_init_1 (Nat.le_of_ble_eq_true rfl) (Nat.le_of_ble_eq_true rfl) ?_
  refine lv_aload_n hx hb dX8_init_4 rfl (lv_at hl 0 rfl) ?_
  refine va_new (ci := 5) (fs := [.null, .int 0]) (C := RX7) (T := TX7) (N := 2) hx hb hts hinX7 tyX7 tyX7_ok hown (hts (.classLink RX8 9 RX7) (List.mem_of_getElem? (i := 4) rfl)) (hts (.instantiable RX7 2) (List.mem_of_getElem? (i := 5) rfl)) (hts (.initialized RX7) (List.mem_of_getElem? (i := 6) rfl)) hK hP hD hS hA rfl (fun j hj => by rcases (show j = 0 ∨ j = 1 by omega) with rfl | rfl <;> rfl) (Nat.le_of_ble_eq_true rfl) (Nat.le_of_ble_eq_true rfl) dX8_init_5 (fun q1 H hP hD hS => ?_)
  replace hP := my_permP List.perm_append_comm hP
  replace hD := my_permD List.perm_append_comm hD
  refine lv_dup hx hb dX8_init_8 rfl ?_
  refine my_callNR2 (wc := [(q1, .inr (5, [.null, .int 0]))]) (b0 := (q0, .inr (6, [.null, .null, .null, .null, .null, .null, .null, .null, .null]))) hP hD hS hA (va_runIN (As := []) (rest := [.ref q1, .ref q0]) ⟨hx, hb, hml, hown, hts⟩ (nX7_init l Γ q1  _) ⟨va_cnB 0 hts gX8_init_X7_init_n11 rfl rfl rfl hE.2.2.1 (hts (.initialized RX7) (List.mem_of_getElem? (i := 6) rfl)) (by decide +kernel) ⟨(Nat.le_of_ble_eq_true rfl), (Nat.le_of_ble_eq_true rfl)⟩, rfl, (hts (.instanceMethod yX7_init) (List.mem_of_getElem? (i := 29) rfl))⟩ (my_preN (wc := [(q1, .inr (5, [.null, .int 0]))]) [0] hK hP hD hE rfl rfl) rfl rfl hl.1 rfl (lv_room (Nat.le_of_ble_eq_true rfl)) dX8_init_9 ⟨(Nat.le_of_ble_eq_true rfl), (Nat.le_of_ble_eq_true rfl)⟩) (fun ad2 H locs R1 eR1 hP hD hS => ?_)
  refine va_putF (D := my_D Γ) (ci := 6) (v := .ref q1) (ty := tyX8 0) (C := RX8) (T := TX8) (N := 9) hx hb hts hinX8 tyX8 tyX8_ok nmX8 hown hK hP hD hS 0 rfl rfl 0 (by decide) (hts (.fieldLink RX8 12 "BeltFloor" "text" "LBeltFloor$Text;") (List.mem_of_getElem? (i := 7) rfl)) (fun _ h9 => h9) rfl hin rfl (by decide +kernel) rfl rfl (Nat.le_of_ble_eq_true rfl) dX8_init_12 (fun H locs hP hD hS => ?_)
  replace hP : va_P (my_D Γ) vwCl ([(q0, .inr (6, [.ref q1, .null, .null, .null, .null, .null, .null, .null, .null]))] ++ R1) H := hP
  replace hD : va_D A ([(q0, .inr (6, [.ref q1, .null, .null, .null, .null, .null, .null, .null, .null]))] ++ R1) := hD
  refine lv_aload_n hx hb dX8_init_15 rfl (lv_at hl 0 rfl) ?_
  refine va_new (ci := 1) (fs := [.null, .null, .null, .null, .long 0, .long 0, .long 0, .int 0, .int 0, .int 0, .int 0, .int 0]) (C := RX1) (T := TX1) (N := 12) hx hb hts hinX1 tyX1 tyX1_ok hown (hts (.classLink RX8 16 RX1) (List.mem_of_getElem? (i := 8) rfl)) (hts (.instantiable RX1 12) (List.mem_of_getElem? (i := 9) rfl)) (hts (.initialized RX1) (List.mem_of_getElem? (i := 10) rfl)) hK hP hD hS hA rfl (fun j hj => by rcases (show j = 0 ∨ j = 1 ∨ j = 2 ∨ j = 3 ∨ j = 4 ∨ j = 5 ∨ j = 6 ∨ j = 7 ∨ j = 8 ∨ j = 9 ∨ j = 10 ∨ j = 11 by omega) with rfl | rfl | rfl | rfl | rfl | rfl | rfl | rfl | rfl | rfl | rfl | rfl <;> rfl) (Nat.le_of_ble_eq_true rfl) (Nat.le_of_ble_eq_true rfl) dX8_init_16 (fun q3 H hP hD hS => ?_)
  replace hP := my_permP List.perm_append_comm hP
  replace hD := my_permD List.perm_append_comm hD
  refine lv_dup hx hb dX8_init_19 rfl ?_
  refine my_callNR2 (wc := [(q3, .inr (1, [.null, .null, .null, .null, .long 0, .long 0, .long 0, .int 0, .int 0, .int 0, .int 0, .int 0]))]) (b0 := (q0, .inr (6, [.ref q1, .null, .null, .null, .null, .null, .null, .null, .null]))) hP hD hS hA (va_runI (As := []) (rest := [.ref q3, .ref q0]) ⟨hx, hb, hml, hown, hts⟩ (nX1_init l Γ q3 z_i z_j z_k z_a z_b hm _) (cwI 0 hts gX8_init_X1_init rfl rfl rfl (hts (.initialized RX1) (List.mem_of_getElem? (i := 10) rfl)) (hts (.methodLink RX8 18 yX1_init) (List.mem_of_getElem? (i := 34) rfl)) (hts (.instanceMethod yX1_init) (List.mem_of_getElem? (i := 35) rfl)) rfl (by decide +kernel) ⟨(Nat.le_of_ble_eq_true rfl), (Nat.le_of_ble_eq_true rfl)⟩) (my_preN (wc := [(q3, .inr (1, [.null, .null, .null, .null, .long 0, .long 0, .long 0, .int 0, .int 0, .int 0, .int 0, .int 0]))]) [0] hK hP hD hE rfl rfl) rfl rfl hl.1 rfl (lv_room (Nat.le_of_ble_eq_true rfl)) dX8_init_20 ⟨(Nat.le_of_ble_eq_true rfl), (Nat.le_of_ble_eq_true rfl)⟩) (fun ad4 H locs R2 eR2 hP hD hS => ?_)
  refine va_putF (D := my_D Γ) (ci := 6) (v := .ref q3) (ty := tyX8 1) (C := RX8) (T := TX8) (N := 9) hx hb hts hinX8 tyX8 tyX8_ok nmX8 hown hK hP hD hS 0 rfl rfl 1 (by decide) (hts (.fieldLink RX8 19 "BeltFloor" "floor" "LBeltFloor$Floor;") (List.mem_of_getElem? (i := 11) rfl)) (fun _ h9 => h9) rfl hin rfl (by decide +kernel) rfl rfl (Nat.le_of_ble_eq_true rfl) dX8_init_23 (fun H locs hP hD hS => ?_)
  replace hP : va_P (my_D Γ) vwCl ([(q0, .inr (6, [.ref q1, .ref q3, .null, .null, .null, .null, .null, .null, .null]))] ++ R2) H := hP
  replace hD : va_D A ([(q0, .inr (6, [.ref q1, .ref q3, .null, .null, .null, .null, .null, .null, .null]))] ++ R2) := hD
  refine lv_aload_n hx hb dX8_init_26 rfl (lv_at hl 0 rfl) ?_
  refine va_new (ci := 1) (fs := [.null, .null, .null, .null, .long 0, .long 0, .long 0, .int 0, .int 0, .int 0, .int 0, .int 0]) (C := RX1) (T := TX1) (N := 12) hx hb hts hinX1 tyX1 tyX1_ok hown (hts (.classLink RX8 16 RX1) (List.mem_of_getElem? (i := 8) rfl)) (hts (.instantiable RX1 12) (List.mem_of_getElem? (i := 9) rfl)) (hts (.initialized RX1) (List.mem_of_getElem? (i := 10) rfl)) hK hP hD hS hA rfl (fun j hj => by rcases (show j = 0 ∨ j = 1 ∨ j = 2 ∨ j = 3 ∨ j = 4 ∨ j = 5 ∨ j = 6 ∨ j = 7 ∨ j = 8 ∨ j = 9 ∨ j = 10 ∨ j = 11 by omega) with rfl | rfl | rfl | rfl | rfl | rfl | rfl | rfl | rfl | rfl | rfl | rfl <;> rfl) (Nat.le_of_ble_eq_true rfl) (Nat.le_of_ble_eq_true rfl) dX8_init_27 (fun q5 H hP hD hS => ?_)
  replace hP := my_permP List.perm_append_comm hP
  replace hD := my_permD List.perm_append_comm hD
  refine lv_dup hx hb dX8_init_30 rfl ?_
  refine my_callNR2 (wc := [(q5, .inr (1, [.null, .null, .null, .null, .long 0, .long 0, .long 0, .int 0, .int 0, .int 0, .int 0, .int 0]))]) (b0 := (q0, .inr (6, [.ref q1, .ref q3, .null, .null, .null, .null, .null, .null, .null]))) hP hD hS hA (va_runI (As := []) (rest := [.ref q5, .ref q0]) ⟨hx, hb, hml, hown, hts⟩ (nX1_init l Γ q5 z_i z_j z_k z_a z_b hm _) (cwI 0 hts gX8_init_X1_init rfl rfl rfl (hts (.initialized RX1) (List.mem_of_getElem? (i := 10) rfl)) (hts (.methodLink RX8 18 yX1_init) (List.mem_of_getElem? (i := 34) rfl)) (hts (.instanceMethod yX1_init) (List.mem_of_getElem? (i := 35) rfl)) rfl (by decide +kernel) ⟨(Nat.le_of_ble_eq_true rfl), (Nat.le_of_ble_eq_true rfl)⟩) (my_preN (wc := [(q5, .inr (1, [.null, .null, .null, .null, .long 0, .long 0, .long 0, .int 0, .int 0, .int 0, .int 0, .int 0]))]) [0] hK hP hD hE rfl rfl) rfl rfl hl.1 rfl (lv_room (Nat.le_of_ble_eq_true rfl)) dX8_init_31 ⟨(Nat.le_of_ble_eq_true rfl), (Nat.le_of_ble_eq_true rfl)⟩) (fun ad6 H locs R3 eR3 hP hD hS => ?_)
  refine va_putF (D := my_D Γ) (ci := 6) (v := .ref q5) (ty := tyX8 2) (C := RX8) (T := TX8) (N := 9) hx hb hts hinX8 tyX8 tyX8_ok nmX8 hown hK hP hD hS 0 rfl rfl 2 (by decide) (hts (.fieldLink RX8 23 "BeltFloor" "trial" "LBeltFloor$Floor;") (List.mem_of_getElem? (i := 12) rfl)) (fun _ h9 => h9) rfl hin rfl (by decide +kernel) rfl rfl (Nat.le_of_ble_eq_true rfl) dX8_init_34 (fun H locs hP hD hS => ?_)
  replace hP : va_P (my_D Γ) vwCl ([(q0, .inr (6, [.ref q1, .ref q3, .ref q5, .null, .null, .null, .null, .null, .null]))] ++ R3) H := hP
  replace hD : va_D A ([(q0, .inr (6, [.ref q1, .ref q3, .ref q5, .null, .null, .null, .null, .null, .null]))] ++ R3) := hD
  refine lv_aload_n hx hb dX8_init_37 rfl (lv_at hl 0 rfl) ?_
  refine va_new (ci := 2) (fs := [.null, .int 0, .int 0]) (C := RX3) (T := TX3) (N := 3) hx hb hts hinX3 tyX3 tyX3_ok hown (hts (.classLink RX8 26 RX3) (List.mem_of_getElem? (i := 13) rfl)) (hts (.instantiable RX3 3) (List.mem_of_getElem? (i := 14) rfl)) (hts (.initialized RX3) (List.mem_of_getElem? (i := 15) rfl)) hK hP hD hS hA rfl (fun j hj => by rcases (show j = 0 ∨ j = 1 ∨ j = 2 by omega) with rfl | rfl | rfl <;> rfl) (Nat.le_of_ble_eq_true rfl) (Nat.le_of_ble_eq_true rfl) dX8_init_38 (fun q7 H hP hD hS => ?_)
  replace hP := my_permP List.perm_append_comm hP
  replace hD := my_permD List.perm_append_comm hD
  refine lv_dup hx hb dX8_init_41 rfl ?_
  refine my_callNR2 (wc := [(q7, .inr (2, [.null, .int 0, .int 0]))]) (b0 := (q0, .inr (6, [.ref q1, .ref q3, .ref q5, .null, .null, .null, .null, .null, .null]))) hP hD hS hA (va_runI (As := []) (rest := [.ref q7, .ref q0]) ⟨hx, hb, hml, hown, hts⟩ (nX3_init l Γ q7 z_i z_j z_k z_a z_b hm _) (cwI 0 hts gX8_init_X3_init rfl rfl rfl (hts (.initialized RX3) (List.mem_of_getElem? (i := 15) rfl)) (hts (.methodLink RX8 28 yX3_init) (List.mem_of_getElem? (i := 79) rfl)) (hts (.instanceMethod yX3_init) (List.mem_of_getElem? (i := 80) rfl)) rfl (by decide +kernel) ⟨(Nat.le_of_ble_eq_true rfl), (Nat.le_of_ble_eq_true rfl)⟩) (my_preN (wc := [(q7, .inr (2, [.null, .int 0, .int 0]))]) [0] hK hP hD hE rfl rfl) rfl rfl hl.1 rfl (lv_room (Nat.le_of_ble_eq_true rfl)) dX8_init_42 ⟨(Nat.le_of_ble_eq_true rfl), (Nat.le_of_ble_eq_true rfl)⟩) (fun ad8 H locs R4 eR4 hP hD hS => ?_)
  refine va_putF (D := my_D Γ) (ci := 6) (v := .ref q7) (ty := tyX8 3) (C := RX8) (T := TX8) (N := 9) hx hb hts hinX8 tyX8 tyX8_ok nmX8 hown hK hP hD hS 0 rfl rfl 3 (by decide) (hts (.fieldLink RX8 29 "BeltFloor" "history" "LBeltFloor$History;") (List.mem_of_getElem? (i := 16) rfl)) (fun _ h9 => h9) rfl hin rfl (by decide +kernel) rfl rfl (Nat.le_of_ble_eq_true rfl) dX8_init_45 (fun H locs hP hD hS => ?_)
  replace hP : va_P (my_D Γ) vwCl ([(q0, .inr (6, [.ref q1, .ref q3, .ref q5, .ref q7, .null, .null, .null, .null, .null]))] ++ R4) H := hP
  replace hD : va_D A ([(q0, .inr (6, [.ref q1, .ref q3, .ref q5, .ref q7, .null, .null, .null, .null, .null]))] ++ R4) := hD
  refine lv_aload_n hx hb dX8_init_48 rfl (lv_at hl 0 rfl) ?_
  refine va_new (ci := 4) (fs := [.null, .int 0]) (C := RX5) (T := TX5) (N := 2) hx hb hts hinX5 tyX5 tyX5_ok hown (hts (.classLink RX8 33 RX5) (List.mem_of_getElem? (i := 17) rfl)) (hts (.instantiable RX5 2) (List.mem_of_getElem? (i := 18) rfl)) (hts (.initialized RX5) (List.mem_of_getElem? (i := 19) rfl)) hK hP hD hS hA rfl (fun j hj => by rcases (show j = 0 ∨ j = 1 by omega) with rfl | rfl <;> rfl) (Nat.le_of_ble_eq_true rfl) (Nat.le_of_ble_eq_true rfl) dX8_init_49 (fun q9 H hP hD hS => ?_)
  replace hP := my_permP List.perm_append_comm hP
  replace hD := my_permD List.perm_append_comm hD
  refine lv_dup hx hb dX8_init_52 rfl ?_
  refine my_callNR2 (wc := [(q9, .inr (4, [.null, .int 0]))]) (b0 := (q0, .inr (6, [.ref q1, .ref q3, .ref q5, .ref q7, .null, .null, .null, .null, .null]))) hP hD hS hA (va_runIN (As := []) (rest := [.ref q9, .ref q0]) ⟨hx, hb, hml, hown, hts⟩ (nX5_init l Γ q9 z_i z_j z_k z_a z_b hm _) ⟨va_cnB 0 hts gX8_init_X5_init_n35 rfl rfl rfl hE.2.2.2.1 (hts (.initialized RX5) (List.mem_of_getElem? (i := 19) rfl)) (by decide +kernel) ⟨(Nat.le_of_ble_eq_true rfl), (Nat.le_of_ble_eq_true rfl)⟩, rfl, (hts (.instanceMethod yX5_init) (List.mem_of_getElem? (i := 86) rfl))⟩ (my_preN (wc := [(q9, .inr (4, [.null, .int 0]))]) [0] hK hP hD hE rfl rfl) rfl rfl hl.1 rfl (lv_room (Nat.le_of_ble_eq_true rfl)) dX8_init_53 ⟨(Nat.le_of_ble_eq_true rfl), (Nat.le_of_ble_eq_true rfl)⟩) (fun ad10 H locs R5 eR5 hP hD hS => ?_)
  refine va_putF (D := my_D Γ) (ci := 6) (v := .ref q9) (ty := tyX8 4) (C := RX8) (T := TX8) (N := 9) hx hb hts hinX8 tyX8 tyX8_ok nmX8 hown hK hP hD hS 0 rfl rfl 4 (by decide) (hts (.fieldLink RX8 36 "BeltFloor" "firstSlot" "LBeltFloor$Slot;") (List.mem_of_getElem? (i := 20) rfl)) (fun _ h9 => h9) rfl hin rfl (by decide +kernel) rfl rfl (Nat.le_of_ble_eq_true rfl) dX8_init_56 (fun H locs hP hD hS => ?_)
  replace hP : va_P (my_D Γ) vwCl ([(q0, .inr (6, [.ref q1, .ref q3, .ref q5, .ref q7, .ref q9, .null, .null, .null, .null]))] ++ R5) H := hP
  replace hD : va_D A ([(q0, .inr (6, [.ref q1, .ref q3, .ref q5, .ref q7, .ref q9, .null, .null, .null, .null]))] ++ R5) := hD
  refine lv_aload_n hx hb dX8_init_59 rfl (lv_at hl 0 rfl) ?_
  refine va_new (ci := 4) (fs := [.null, .int 0]) (C := RX5) (T := TX5) (N := 2) hx hb hts hinX5 tyX5 tyX5_ok hown (hts (.classLink RX8 33 RX5) (List.mem_of_getElem? (i := 17) rfl)) (hts (.instantiable RX5 2) (List.mem_of_getElem? (i := 18) rfl)) (hts (.initialized RX5) (List.mem_of_getElem? (i := 19) rfl)) hK hP hD hS hA rfl (fun j hj => by rcases (show j = 0 ∨ j = 1 by omega) with rfl | rfl <;> rfl) (Nat.le_of_ble_eq_true rfl) (Nat.le_of_ble_eq_true rfl) dX8_init_60 (fun q11 H hP hD hS => ?_)
  replace hP := my_permP List.perm_append_comm hP
  replace hD := my_permD List.perm_append_comm hD
  refine lv_dup hx hb dX8_init_63 rfl ?_
  refine my_callNR2 (wc := [(q11, .inr (4, [.null, .int 0]))]) (b0 := (q0, .inr (6, [.ref q1, .ref q3, .ref q5, .ref q7, .ref q9, .null, .null, .null, .null]))) hP hD hS hA (va_runIN (As := []) (rest := [.ref q11, .ref q0]) ⟨hx, hb, hml, hown, hts⟩ (nX5_init l Γ q11 z_i z_j z_k z_a z_b hm _) ⟨va_cnB 0 hts gX8_init_X5_init_n35 rfl rfl rfl hE.2.2.2.1 (hts (.initialized RX5) (List.mem_of_getElem? (i := 19) rfl)) (by decide +kernel) ⟨(Nat.le_of_ble_eq_true rfl), (Nat.le_of_ble_eq_true rfl)⟩, rfl, (hts (.instanceMethod yX5_init) (List.mem_of_getElem? (i := 86) rfl))⟩ (my_preN (wc := [(q11, .inr (4, [.null, .int 0]))]) [0] hK hP hD hE rfl rfl) rfl rfl hl.1 rfl (lv_room (Nat.le_of_ble_eq_true rfl)) dX8_init_64 ⟨(Nat.le_of_ble_eq_true rfl), (Nat.le_of_ble_eq_true rfl)⟩) (fun ad12 H locs R6 eR6 hP hD hS => ?_)
  refine va_putF (D := my_D Γ) (ci := 6) (v := .ref q11) (ty := tyX8 5) (C := RX8) (T := TX8) (N := 9) hx hb hts hinX8 tyX8 tyX8_ok nmX8 hown hK hP hD hS 0 rfl rfl 5 (by decide) (hts (.fieldLink RX8 40 "BeltFloor" "secondSlot" "LBeltFloor$Slot;") (List.mem_of_getElem? (i := 21) rfl)) (fun _ h9 => h9) rfl hin rfl (by decide +kernel) rfl rfl (Nat.le_of_ble_eq_true rfl) dX8_init_67 (fun H locs hP hD hS => ?_)
  replace hP : va_P (my_D Γ) vwCl ([(q0, .inr (6, [.ref q1, .ref q3, .ref q5, .ref q7, .ref q9, .ref q11, .null, .null, .null]))] ++ R6) H := hP
  replace hD : va_D A ([(q0, .inr (6, [.ref q1, .ref q3, .ref q5, .ref q7, .ref q9, .ref q11, .null, .null, .null]))] ++ R6) := hD
  refine lv_aload_n hx hb dX8_init_70 rfl (lv_at hl 0 rfl) ?_
  refine va_new (ci := 0) (fs := [.null, .null]) (C := RX0) (T := TX0) (N := 2) hx hb hts hinX0 tyX0 tyX0_ok hown (hts (.classLink RX8 43 RX0) (List.mem_of_getElem? (i := 22) rfl)) (hts (.instantiable RX0 2) (List.mem_of_getElem? (i := 23) rfl)) (hts (.initialized RX0) (List.mem_of_getElem? (i := 24) rfl)) hK hP hD hS hA rfl (fun j hj => by rcases (show j = 0 ∨ j = 1 by omega) with rfl | rfl <;> rfl) (Nat.le_of_ble_eq_true rfl) (Nat.le_of_ble_eq_true rfl) dX8_init_71 (fun q13 H hP hD hS => ?_)
  replace hP := my_permP List.perm_append_comm hP
  replace hD := my_permD List.perm_append_comm hD
  refine lv_dup hx hb dX8_init_74 rfl ?_
  refine my_callNR2 (wc := [(q13, .inr (0, [.null, .null]))]) (b0 := (q0, .inr (6, [.ref q1, .ref q3, .ref q5, .ref q7, .ref q9, .ref q11, .null, .null, .null]))) hP hD hS hA (va_runIN (As := []) (rest := [.ref q13, .ref q0]) ⟨hx, hb, hml, hown, hts⟩ (nX0_init l Γ q13  _) ⟨va_cnB 0 hts gX8_init_X0_init_n45 rfl rfl rfl hE.2.2.2.2 (hts (.initialized RX0) (List.mem_of_getElem? (i := 24) rfl)) (by decide +kernel) ⟨(Nat.le_of_ble_eq_true rfl), (Nat.le_of_ble_eq_true rfl)⟩, rfl, (hts (.instanceMethod yX0_init) (List.mem_of_getElem? (i := 92) rfl))⟩ (my_preN (wc := [(q13, .inr (0, [.null, .null]))]) [0] hK hP hD hE rfl rfl) rfl rfl hl.1 rfl (lv_room (Nat.le_of_ble_eq_true rfl)) dX8_init_75 ⟨(Nat.le_of_ble_eq_true rfl), (Nat.le_of_ble_eq_true rfl)⟩) (fun ad14 H locs R7 eR7 hP hD hS => ?_)
  refine va_putF (D := my_D Γ) (ci := 6) (v := .ref q13) (ty := tyX8 6) (C := RX8) (T := TX8) (N := 9) hx hb hts hinX8 tyX8 tyX8_ok nmX8 hown hK hP hD hS 0 rfl rfl 6 (by decide) (hts (.fieldLink RX8 46 "BeltFloor" "finder" "LBeltFloor$Finder;") (List.mem_of_getElem? (i := 25) rfl)) (fun _ h9 => h9) rfl hin rfl (by decide +kernel) rfl rfl (Nat.le_of_ble_eq_true rfl) dX8_init_78 (fun H locs hP hD hS => ?_)
  replace hP : va_P (my_D Γ) vwCl ([(q0, .inr (6, [.ref q1, .ref q3, .ref q5, .ref q7, .ref q9, .ref q11, .ref q13, .null, .null]))] ++ R7) H := hP
  replace hD : va_D A ([(q0, .inr (6, [.ref q1, .ref q3, .ref q5, .ref q7, .ref q9, .ref q11, .ref q13, .null, .null]))] ++ R7) := hD
  refine lv_aload_n hx hb dX8_init_81 rfl (lv_at hl 0 rfl) ?_
  refine lv_sipush (v := (241 : Int32)) hx hb dX8_init_82 (by decide) ?_
  refine va_newa (atype := .long) (ty := .long) (a0 := (241, .inr (.inl (fun _ => 0)))) hx hb (hts (.arrayClass .long) (List.mem_of_getElem? (i := 26) rfl)) rfl hK hP hD hS hA (fun cA => rfl) (by decide) rfl (by decide) (Nat.le_of_ble_eq_true rfl) (Nat.le_of_ble_eq_true rfl) dX8_init_85 (fun q15 cA16 H hK9 hP hD hS => ?_)
  obtain rfl : cA16 = Γ.2.2 1 := my_cls_J hK hK9
  clear hK9
  replace hP : va_P (my_D Γ) vwCl ([(q0, .inr (6, [.ref q1, .ref q3, .ref q5, .ref q7, .ref q9, .ref q11, .ref q13, .null, .null]))] ++ (R7 ++ [(q15, .inl (Γ.2.2 1, 241, .inr (.inl (fun _ => 0))))])) H := hP
  replace hD : va_D A ([(q0, .inr (6, [.ref q1, .ref q3, .ref q5, .ref q7, .ref q9, .ref q11, .ref q13, .null, .null]))] ++ (R7 ++ [(q15, .inl (Γ.2.2 1, 241, .inr (.inl (fun _ => 0))))])) := hD
  refine va_putF (D := my_D Γ) (ci := 6) (v := .ref q15) (ty := tyX8 7) (C := RX8) (T := TX8) (N := 9) hx hb hts hinX8 tyX8 tyX8_ok nmX8 hown hK hP hD hS 0 rfl rfl 7 (by decide) (hts (.fieldLink RX8 50 "BeltFloor" "keptCrates" "[J") (List.mem_of_getElem? (i := 27) rfl)) (fun _ h9 => h9) rfl hin rfl (by decide +kernel) rfl rfl (Nat.le_of_ble_eq_true rfl) dX8_init_87 (fun H locs hP hD hS => ?_)
  replace hP : va_P (my_D Γ) vwCl ([(q0, .inr (6, [.ref q1, .ref q3, .ref q5, .ref q7, .ref q9, .ref q11, .ref q13, .ref q15, .null]))] ++ (R7 ++ [(q15, .inl (Γ.2.2 1, 241, .inr (.inl (fun _ => 0))))])) H := hP
  replace hD : va_D A ([(q0, .inr (6, [.ref q1, .ref q3, .ref q5, .ref q7, .ref q9, .ref q11, .ref q13, .ref q15, .null]))] ++ (R7 ++ [(q15, .inl (Γ.2.2 1, 241, .inr (.inl (fun _ => 0))))])) := hD
  refine lv_aload_n hx hb dX8_init_90 rfl (lv_at hl 0 rfl) ?_
  refine lv_sipush (v := (241 : Int32)) hx hb dX8_init_91 (by decide) ?_
  refine va_newa (atype := .long) (ty := .long) (a0 := (241, .inr (.inl (fun _ => 0)))) hx hb (hts (.arrayClass .long) (List.mem_of_getElem? (i := 26) rfl)) rfl hK hP hD hS hA (fun cA => rfl) (by decide) rfl (by decide) (Nat.le_of_ble_eq_true rfl) (Nat.le_of_ble_eq_true rfl) dX8_init_94 (fun q17 cA18 H hK9 hP hD hS => ?_)
  obtain rfl : cA18 = Γ.2.2 1 := my_cls_J hK hK9
  clear hK9
  replace hP : va_P (my_D Γ) vwCl ([(q0, .inr (6, [.ref q1, .ref q3, .ref q5, .ref q7, .ref q9, .ref q11, .ref q13, .ref q15, .null]))] ++ ((R7 ++ [(q15, .inl (Γ.2.2 1, 241, .inr (.inl (fun _ => 0))))]) ++ [(q17, .inl (Γ.2.2 1, 241, .inr (.inl (fun _ => 0))))])) H := hP
  replace hD : va_D A ([(q0, .inr (6, [.ref q1, .ref q3, .ref q5, .ref q7, .ref q9, .ref q11, .ref q13, .ref q15, .null]))] ++ ((R7 ++ [(q15, .inl (Γ.2.2 1, 241, .inr (.inl (fun _ => 0))))]) ++ [(q17, .inl (Γ.2.2 1, 241, .inr (.inl (fun _ => 0))))])) := hD
  refine va_putF (D := my_D Γ) (ci := 6) (v := .ref q17) (ty := tyX8 8) (C := RX8) (T := TX8) (N := 9) hx hb hts hinX8 tyX8 tyX8_ok nmX8 hown hK hP hD hS 0 rfl rfl 8 (by decide) (hts (.fieldLink RX8 54 "BeltFloor" "keptRobots" "[J") (List.mem_of_getElem? (i := 28) rfl)) (fun _ h9 => h9) rfl hin rfl (by decide +kernel) rfl rfl (Nat.le_of_ble_eq_true rfl) dX8_init_96 (fun H locs hP hD hS => ?_)
  replace hP : va_P (my_D Γ) vwCl ([(q0, .inr (6, [.ref q1, .ref q3, .ref q5, .ref q7, .ref q9, .ref q11, .ref q13, .ref q15, .ref q17]))] ++ ((R7 ++ [(q15, .inl (Γ.2.2 1, 241, .inr (.inl (fun _ => 0))))]) ++ [(q17, .inl (Γ.2.2 1, 241, .inr (.inl (fun _ => 0))))])) H := hP
  replace hD : va_D A ([(q0, .inr (6, [.ref q1, .ref q3, .ref q5, .ref q7, .ref q9, .ref q11, .ref q13, .ref q15, .ref q17]))] ++ ((R7 ++ [(q15, .inl (Γ.2.2 1, 241, .inr (.inl (fun _ => 0))))]) ++ [(q17, .inl (Γ.2.2 1, 241, .inr (.inl (fun _ => 0))))])) := hD
  refine W.widen (k := 137) (n := 2571) (Nat.le_of_ble_eq_true rfl) (Nat.le_of_ble_eq_true rfl) ?_
  exact W.vret hx hb hr (fun t ht hW => ⟨⟨_, rfl, ⟨q1, q3, q5, q7, q9, q11, q13, q15, q17, ad2, ad4, ad6, ad8, ad10, ad12, ad14, by subst eR7 eR6 eR5 eR4 eR3 eR2 eR1; rfl⟩, by rw [ht]; exact hP, hD⟩, hS.F ht⟩) hS.2.2 dX8_init_99
