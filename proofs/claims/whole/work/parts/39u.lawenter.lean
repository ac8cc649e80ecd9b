/-! The law from its entry to its loop -/
theorem va_nd_of : ∀ (l : List Nat), l.Nodup → va_nd l = true
  | [], _ => rfl
  | a :: l, h => by
    have h1 := List.nodup_cons.mp h
    show (decide (a ∉ l) && va_nd l) = true
    rw [va_nd_of l h1.2, decide_eq_true h1.1]
    rfl
section MyNR
variable {p : Program} {l : Launch} {e : Env} {R : Room} {s : State} {m : MethodId} {args : Array Value} {below : List Frame} {meth : Method} {c : Code} {H : Heap} {locs : List Loc} {cells slots : Nat} {Q : State → Prop} {Γ : my_G}
variable {pc : Nat} {ls : Array Slot} {rest st0 : List Value} {A0 : Nat → Prop} {H0 : Heap} {av : Array Value}
theorem my_callNR {wc R_ : va_W} {W1 : (Nat → Nat) → va_W} {mc ms : Nat} (hP : va_P (my_D Γ) vwCl (wc ++ R_) H) (hD : va_D A0 (wc ++ R_)) (hS : va_S A0 H0 H locs) (hA : ∀ q, H0.size ≤ q → A0 q)
    (hr : va_Run p l e R s m args below meth c H locs cells slots mc ms (F0 m pc ls st0) rest (my_QN Γ (va_A wc H.size) W1 av) (va_A wc H.size))
    (kk : ∀ (ad : Nat → Nat) (H1 : Heap) (locs1 : List Loc), va_P (my_D Γ) vwCl (R_ ++ W1 ad) H1 → va_D A0 (R_ ++ W1 ad) → va_S A0 H0 H1 locs1 → W p l e R s m args below meth c H1 locs1 (cells + mc) (slots + ms) Q (F0 m (pc + 3) ls rest)) : W p l e R s m args below meth c H locs cells slots Q (F0 m pc ls st0) := by
  refine my_callN hP hD hS hA (List.range wc.length) ((List.range R_.length).map (fun i => wc.length + i)) ?_ ?_ ?_ ?_ hr kk
  · apply List.ext_getElem
    · simp
    · intro i h1 h2
      simp only [List.length_map] at h2
      simp [List.getElem?_append_left h2, List.getElem?_eq_getElem h2]
  · apply List.ext_getElem
    · simp
    · intro i h1 h2
      simp only [List.length_map] at h2
      simp [List.getElem?_append_right (Nat.le_add_right wc.length i), List.getElem?_eq_getElem h2]
  · apply va_nd_of
    rw [List.nodup_iff_pairwise_ne, List.pairwise_map]
    exact (List.nodup_iff_pairwise_ne.mp List.nodup_range).imp (fun h e => h (by omega))
  · intro i hi hj
    obtain ⟨k, hk, rfl⟩ := List.mem_map.mp hi
    have := List.mem_range.mp hj
    omega
end MyNR
def ls_s0 (z_i : Nat → Int32) (z_j : Nat → Int64) (z_k z_a z_b z_n : Nat → Int32) (ad : Nat → Nat) : LSt := ((setI (setI (setI (setI (setI (setI (setI (setI (setI (setI (setI (setI (setI (setI (setI (setI (setI (fun _ _ => 0) 2 z_i) 3 z_k) 5 z_a) 7 z_b) 9 z_i) 10 z_k) 12 z_a) 14 z_b) 18 z_i) 19 z_k) 21 z_a) 23 z_b) 26 z_i) 27 z_k) 29 z_a) 31 z_b) 37 z_n), (setL (setL (setL (setL (fun _ _ => 0) 0 z_j) 1 z_j) 2 z_j) 3 z_j), (va_up (va_up (va_up (va_up (va_up (va_up (va_up (va_up (va_up (va_up (va_up (va_up (va_up (va_up (fun _ => none) 0 (some (ad 18))) 1 (some (ad 25))) 2 (some (ad 32))) 3 (some (ad 39))) 4 (some (ad 46))) 5 (some (ad 53))) 6 (some (ad 60))) 7 (some (ad 67))) 8 (some (ad 74))) 9 (some (ad 81))) 10 (some (ad 88))) 11 (some (ad 95))) 12 (some (ad 102))) 13 (some (ad 109))), (fun _ => (setI (setI (setI (setI (fun _ _ => 0) 0 z_i) 1 z_k) 3 z_a) 5 z_b)), (fun _ => z_j), (fun j k => ad (18 + 7 * j + k)))
def ls_Q (q0 qo q1 : Nat) (ad am : Nat → Nat) : Nat → Nat := fun k => ([q0, ad 0, ad 1, ad 2, ad 3, ad 4, ad 5, ad 6, ad 7, ad 8, ad 9, ad 10, ad 11, ad 12, ad 13, ad 14, ad 15, ad 16, ad 17, ad 116, ad 117, ad 118, ad 119, ad 120, ad 121, ad 122, ad 123, ad 124, ad 125, ad 126, ad 127, ad 128, ad 129, ad 130, ad 131, ad 132, ad 133, ad 134, ad 135, ad 136, qo, q1, am 0, am 1, am 2, am 3, am 4, am 5, am 6, am 7, am 8, am 9, am 10, am 11, am 12] : List Nat).getD k 0
theorem ls_w4 : ∀ w ∈ [Cond.classLink RL 8 RX8, Cond.initialized RX8, Cond.classLink RL 118 RX9, Cond.initialized RX9, Cond.methodLink RL 117 yX8_init, Cond.instanceMethod yX8_init, Cond.methodLink RL 120 yX9_init, Cond.instanceMethod yX9_init], w ∈ lw_tbl := by decide +kernel
set_option maxHeartbeats 40000000 in
set_option maxRecDepth 100000 in
theorem law_enter (l : Launch) (Γ : my_G) {p : Program} {e : Env} {s : State} {m : MethodId} {below : List Frame} {meth : Method} {c : Code} {b L : Nat} {xs : Nat → Int32} {Q9 : State → Prop} (hL : L ≤ 2048) (htb : ∀ w ∈ lw_tbl, w.before #[Value.ref b] s = true) (C : lw_Cx l Γ p s m c b L xs) (hE : my_env s) {PR : LSt → Prop} (hp : pl_all PR) (z_i : Nat → Int32) (z_j : Nat → Int64) (z_k z_a z_b z_n : Nat → Int32) (hm : mX1_makeNew (fun _ => 0) (fun _ => 0) (fun _ => 0) (fun _ => 0) (fun _ => 0) = some (z_i, z_j, z_k, z_a, z_b)) (hm9 : mX9_clear (fun _ => 0) = some z_n) (hp0 : ∀ ad : Nat → Nat, PR (ls_s0 z_i z_j z_k z_a z_b z_n ad)) (hend : ∀ (nc ns : Nat) (H : Heap) (locs : List Loc) (ls : Array Slot), nc ≤ room_1.cells → ns ≤ room_1.slots → va_S (fun q : Nat => s.heap.size ≤ q) s.heap H locs → W p l e room_1 s m #[Value.ref b] below meth c H locs nc ns Q9 (F0 m 2266 ls [])) : W p l e room_1 s m #[Value.ref b] below meth c s.heap [] 0 0 Q9 (entryFrame m ([Value.ref b] : List Value).toArray 7) := by
  have C' := C
  obtain ⟨hfl, hx, hb, hml, hown, hts, hX, hbl, hK, hZ, hstr, hnc⟩ := C'
  have hA : ∀ q : Nat, s.heap.size ≤ q → (fun q : Nat => s.heap.size ≤ q) q := fun _ h => h
  have hS : va_S (fun q : Nat => s.heap.size ≤ q) s.heap s.heap [] := va_S.rf
  have hP : va_P (my_D Γ) vwCl [] s.heap := fun k q h => by simp at h
  have hD : va_D (fun q : Nat => s.heap.size ≤ q) [] := ⟨fun i j p q h => by simp at h, fun k q h => by simp at h⟩
  have hl := lv_entry ([.ref b]) (n := 7) (Nat.le_of_ble_eq_true rfl)
  rw [lg_entry_eq]
  generalize (lg_sl ([.ref b]) ++ List.replicate (7 - (lg_sl ([.ref b])).length) Slot.unset).toArray = ls at hl ⊢
  have hl : lv_has ls 7 [(0, .ref b)] := hl
  refine va_new (ci := 6) (fs := [.null, .null, .null, .null, .null, .null, .null, .null, .null]) (C := RX8) (T := TX8) (N := 9) hx hb htb inX8 tyX8 tyX8_ok hown (htb _ (ls_w4 _ (List.mem_of_getElem? (i := 0) rfl))) (htb _ (ls_w1 _ (List.mem_of_getElem? (i := 6) rfl))) (htb _ (ls_w4 _ (List.mem_of_getElem? (i := 1) rfl))) hK hP hD hS hA rfl (fun j hj => by rcases (show j = 0 ∨ j = 1 ∨ j = 2 ∨ j = 3 ∨ j = 4 ∨ j = 5 ∨ j = 6 ∨ j = 7 ∨ j = 8 by omega) with rfl | rfl | rfl | rfl | rfl | rfl | rfl | rfl | rfl <;> rfl) (Nat.le_of_ble_eq_true rfl) (Nat.le_of_ble_eq_true rfl) dL_law_0 (fun q0 H hP hD hS => ?_)
  replace hP : va_P (my_D Γ) vwCl ([(q0, .inr (6, [.null, .null, .null, .null, .null, .null, .null, .null, .null]))] ++ []) H := hP
  replace hD : va_D (fun q : Nat => s.heap.size ≤ q) ([(q0, .inr (6, [.null, .null, .null, .null, .null, .null, .null, .null, .null]))] ++ []) := hD
  refine lv_dup hx hb dL_law_3 rfl ?_
  refine my_callNR (wc := [(q0, .inr (6, [.null, .null, .null, .null, .null, .null, .null, .null, .null]))]) (R_ := []) hP hD hS hA (va_runI (As := []) (rest := [.ref q0]) ⟨hx, hb, hml, hown, hts⟩ (nX8_init l Γ q0 z_i z_j z_k z_a z_b hm _) (cwI 0 hts gL_law_X8_init rfl rfl rfl (htb _ (ls_w4 _ (List.mem_of_getElem? (i := 1) rfl))) (htb _ (ls_w4 _ (List.mem_of_getElem? (i := 4) rfl))) (htb _ (ls_w4 _ (List.mem_of_getElem? (i := 5) rfl))) rfl (by decide +kernel) ⟨(Nat.le_of_ble_eq_true rfl), (Nat.le_of_ble_eq_true rfl)⟩) (my_preN (wc := [(q0, .inr (6, [.null, .null, .null, .null, .null, .null, .null, .null, .null]))]) [0] hK hP hD hE rfl rfl) rfl rfl hl.1 rfl (lv_room (Nat.le_of_ble_eq_true rfl)) dL_law_4 ⟨(Nat.le_of_ble_eq_true rfl), (Nat.le_of_ble_eq_true rfl)⟩) (fun ad H locs hP hD hS => ?_)
  refine lv_astore_n (lv' := [(1, .ref q0), (0, .ref b)]) hx hb dL_law_7 rfl hl (by decide) rfl (fun ls hl => ?_)
  refine va_new (ci := 7) (fs := [.int 0, .null, .int 0, .null, .null, .null, .null, .int 0, .null, .null, .null, .null, .null, .null, .null, .null, .int 0, .int 0, .int 0]) (C := RX9) (T := TX9) (N := 19) hx hb htb inX9 tyX9 tyX9_ok hown (htb _ (ls_w4 _ (List.mem_of_getElem? (i := 2) rfl))) (htb _ (ls_w1 _ (List.mem_of_getElem? (i := 7) rfl))) (htb _ (ls_w4 _ (List.mem_of_getElem? (i := 3) rfl))) hK hP hD hS hA rfl (fun j hj => by rcases (show j = 0 ∨ j = 1 ∨ j = 2 ∨ j = 3 ∨ j = 4 ∨ j = 5 ∨ j = 6 ∨ j = 7 ∨ j = 8 ∨ j = 9 ∨ j = 10 ∨ j = 11 ∨ j = 12 ∨ j = 13 ∨ j = 14 ∨ j = 15 ∨ j = 16 ∨ j = 17 ∨ j = 18 by omega) with rfl | rfl | rfl | rfl | rfl | rfl | rfl | rfl | rfl | rfl | rfl | rfl | rfl | rfl | rfl | rfl | rfl | rfl | rfl <;> rfl) (Nat.le_of_ble_eq_true rfl) (Nat.le_of_ble_eq_true rfl) dL_law_8 (fun q1 H hP hD hS => ?_)
  replace hP := my_permP List.perm_append_comm hP
  replace hD := my_permD List.perm_append_comm hD
  refine lv_dup hx hb dL_law_11 rfl ?_
  refine my_callNR (wc := [(q1, .inr (7, [.int 0, .null, .int 0, .null, .null, .null, .null, .int 0, .null, .null, .null, .null, .null, .null, .null, .null, .int 0, .int 0, .int 0]))]) hP hD hS hA (va_runI (As := []) (rest := [.ref q1]) ⟨hx, hb, hml, hown, hts⟩ (nX9_init l Γ q1 z_n hm9 _) (cwI 0 hts gL_law_X9_init rfl rfl rfl (htb _ (ls_w4 _ (List.mem_of_getElem? (i := 3) rfl))) (htb _ (ls_w4 _ (List.mem_of_getElem? (i := 6) rfl))) (htb _ (ls_w4 _ (List.mem_of_getElem? (i := 7) rfl))) rfl (by decide +kernel) ⟨(Nat.le_of_ble_eq_true rfl), (Nat.le_of_ble_eq_true rfl)⟩) (my_preN (wc := [(q1, .inr (7, [.int 0, .null, .int 0, .null, .null, .null, .null, .int 0, .null, .null, .null, .null, .null, .null, .null, .null, .int 0, .int 0, .int 0]))]) [0] hK hP hD hE rfl rfl) rfl rfl hl.1 rfl (lv_room (Nat.le_of_ble_eq_true rfl)) dL_law_12 ⟨(Nat.le_of_ble_eq_true rfl), (Nat.le_of_ble_eq_true rfl)⟩) (fun am H locs hP hD hS => ?_)
  refine lv_astore_n (lv' := [(2, .ref q1), (1, .ref q0), (0, .ref b)]) hx hb dL_law_15 rfl hl (by decide) rfl (fun ls hl => ?_)
  refine lv_iconst (v := (1 : Int32)) hx hb dL_law_16 (by decide) ?_
  refine va_newa (atype := .long) (ty := .long) (a0 := (1, .inr (.inl (fun _ => 0)))) hx hb (htb _ (ls_w1 _ (List.mem_of_getElem? (i := 9) rfl))) rfl hK hP hD hS hA (fun cA => rfl) (by decide) rfl (by decide) (Nat.le_of_ble_eq_true rfl) (Nat.le_of_ble_eq_true rfl) dL_law_17 (fun qo cA H hK9 hP hD hS => ?_)
  obtain rfl : cA = Γ.2.2 1 := my_cls_J hK hK9
  clear hK9
  refine lv_astore_n (lv' := [(3, .ref qo), (2, .ref q1), (1, .ref q0), (0, .ref b)]) hx hb dL_law_19 rfl hl (by decide) rfl (fun ls hl => ?_)
  refine lv_iconst (v := (0 : Int32)) hx hb dL_law_20 (by decide) ?_
  refine lv_istore (lv' := [(4, .int (0 : Int32)), (3, .ref qo), (2, .ref q1), (1, .ref q0), (0, .ref b)]) hx hb dL_law_21 hl (by decide) rfl (fun ls hl => ?_)
  refine W.widen (k := 153) (n := 5309) (Nat.le_of_ble_eq_true rfl) (Nat.le_of_ble_eq_true rfl) ?_
  have e1 := lw_perm (lw_B Γ (ls_Q q0 qo q1 ad am) (ls_s0 z_i z_j z_k z_a z_b z_n ad)) [0, 1, 2, 3, 4, 13, 5, 6, 7, 8, 9, 10, 12, 11] 14 rfl (by decide)
  replace hP : va_P (my_D Γ) vwCl (lw_pick (lw_B Γ (ls_Q q0 qo q1 ad am) (ls_s0 z_i z_j z_k z_a z_b z_n ad)) [0, 1, 2, 3, 4, 13, 5, 6, 7, 8, 9, 10, 12, 11]) H := hP
  replace hD : va_D (fun q : Nat => s.heap.size ≤ q) (lw_pick (lw_B Γ (ls_Q q0 qo q1 ad am) (ls_s0 z_i z_j z_k z_a z_b z_n ad)) [0, 1, 2, 3, 4, 13, 5, 6, 7, 8, 9, 10, 12, 11]) := hD
  exact law_loop l Γ (ls_Q q0 qo q1 ad am) hL C hp hend (L + 1) 0 153 5309 (Nat.zero_le _) (by omega) (Nat.le_trans (show 153 + 3 * (L + 1) ≤ 6300 by omega) (Nat.le_of_ble_eq_true rfl)) (Nat.le_trans (show 5309 + 18 * (L + 1) ≤ 42191 by omega) (Nat.le_of_ble_eq_true rfl)) 0 (by decide +kernel) (ls_s0 z_i z_j z_k z_a z_b z_n ad) H _ ls (hp0 ad) (my_permP e1 hP) (my_permD e1 hD) hS (lv_sub hl [4, 3, 2, 1, 0] rfl)
