def mX4_forgetProgram (vf : Nat → Int32) : (Nat → Int32) := (upd (upd vf 7 (0 : Int32)) 8 (0 : Int32))
set_option maxHeartbeats 4000000 in
set_option maxRecDepth 100000 in
theorem kX4_forgetProgram (l : Launch) (Γ : my_G) (q_r q_rp : Nat) (vf : Nat → Int32) (vp : Nat → Int32)  (vf_z : Nat → Int32) (hm : mX4_forgetProgram vf = vf_z) : Mn l yX4_forgetProgram wsX4_forgetProgram ({ frames := 0, cells := 0, slots := 0, locals := 0 } : Room) Γ [.ref q_r] (wRobot Γ q_r q_rp vf vp) none (wRobot Γ q_r q_rp vf_z vp) := by
  intro sz
  refine Met.ofW (cc := cX4_forgetProgram) (maxL := 1) (ret := none) (by decide) rfl ?_
  intro p e s m args below meth c s₁ B hml hv
  obtain ⟨rfl, hsz, hP, hK, hD0⟩ := hv
  have hx := B.exec
  have hb := B.bytes
  have hr := B.returns
  have hts := atoms_spec (ws := wsX4_forgetProgram) B.pre
  have hown : s.vm.findClass RX4 = some m.cls := findClass_of_methodNamed B.named
  have hlocks := B.notSynchronized
  have hinX4 : ∀ w ∈ u_ws RX4 TX4 10, w ∈ wsX4_forgetProgram := fun w h => List.mem_cons_of_mem _ (List.mem_append_right _ h)
  subst hsz
  have hD := hD0.self (sz := s.heap.size)
  have hA : ∀ q : Nat, s.heap.size ≤ q → va_A (wRobot Γ q_r q_rp vf vp) s.heap.size q := fun q h => Or.inr h
  generalize va_A (wRobot Γ q_r q_rp vf vp) s.heap.size = A at hD hA ⊢
  have hS : va_S A s.heap s.heap [] := va_S.rf
  have hl := lv_entry ([.ref q_r]) (n := 1) (Nat.le_of_ble_eq_true rfl)
  rw [lg_entry_eq]
  generalize (lg_sl ([.ref q_r]) ++ List.replicate (1 - (lg_sl ([.ref q_r])).length) Slot.unset).toArray = ls at hl ⊢
  replace hl : lv_has ls 1 [(0, .ref q_r)] := hl
  unfold mX4_forgetProgram at hm
  refine lv_aload_n hx hb dX4_forgetProgram_0 rfl (lv_at hl 0 rfl) ?_
  refine lv_iconst (v := (0 : Int32)) hx hb dX4_forgetProgram_1 (by decide) ?_
  refine va_put (D := my_D Γ) (ci := 3) (v := .int (0 : Int32)) (ty := .int) (C := RX4) (T := TX4) (N := 10) hx hb hts hinX4 tyX4 tyX4_ok nmX4 hown hK hP hD hS 0 rfl rfl 7 (by decide) (hts (.fieldLink RX4 42 "BeltFloor$Robot" "place" "I") (List.mem_of_getElem? (i := 1) rfl)) (fun _ h9 => h9) rfl (by decide +kernel) rfl rfl (Nat.le_of_ble_eq_true rfl) dX4_forgetProgram_2 (fun H locs hP hD hS => ?_)
  replace hP : va_P (my_D Γ) vwCl (wRobot Γ q_r q_rp (upd vf 7 (0 : Int32)) vp) H := hP
  replace hD : va_D A (wRobot Γ q_r q_rp (upd vf 7 (0 : Int32)) vp) := hD
  refine lv_aload_n hx hb dX4_forgetProgram_5 rfl (lv_at hl 0 rfl) ?_
  refine lv_iconst (v := (0 : Int32)) hx hb dX4_forgetProgram_6 (by decide) ?_
  refine va_put (D := my_D Γ) (ci := 3) (v := .int (0 : Int32)) (ty := .int) (C := RX4) (T := TX4) (N := 10) hx hb hts hinX4 tyX4 tyX4_ok nmX4 hown hK hP hD hS 0 rfl rfl 8 (by decide) (hts (.fieldLink RX4 45 "BeltFloor$Robot" "length" "I") (List.mem_of_getElem? (i := 2) rfl)) (fun _ h9 => h9) rfl (by decide +kernel) rfl rfl (Nat.le_of_ble_eq_true rfl) dX4_forgetProgram_7 (fun H locs hP hD hS => ?_)
  replace hP : va_P (my_D Γ) vwCl (wRobot Γ q_r q_rp (upd (upd vf 7 (0 : Int32)) 8 (0 : Int32)) vp) H := hP
  replace hD : va_D A (wRobot Γ q_r q_rp (upd (upd vf 7 (0 : Int32)) 8 (0 : Int32)) vp) := hD
  have hf0 := hm
  subst hf0
  exact W.vret hx hb hr (fun t ht hW => ⟨⟨rfl, by rw [ht]; exact hP⟩, hS.F ht⟩) hS.2.2 dX4_forgetProgram_10
def mX4_makeNew (vf : Nat → Int32) (x0 : Int32) : (Nat → Int32) := (bt1 (mX4_forgetProgram (upd (upd (upd (upd (upd (upd (upd vf 0 x0) 1 (0 : Int32)) 2 (1 : Int32)) 3 (0 : Int32)) 4 (0 : Int32)) 5 (0 : Int32)) 6 (0 : Int32))) (fun vf_1 => vf_1))
set_option maxHeartbeats 4000000 in
set_option maxRecDepth 100000 in
theorem kX4_makeNew (l : Launch) (Γ : my_G) (q_r q_rp : Nat) (vf : Nat → Int32) (vp : Nat → Int32) (x0 : Int32) (vf_z : Nat → Int32) (hm : mX4_makeNew vf x0 = vf_z) : Mn l yX4_makeNew wsX4_makeNew ({ frames := 1, cells := 0, slots := 0, locals := 20 } : Room) Γ [.ref q_r, .int x0] (wRobot Γ q_r q_rp vf vp) none (wRobot Γ q_r q_rp vf_z vp) := by
  intro sz
  refine Met.ofW (cc := cX4_makeNew) (maxL := 2) (ret := none) (by decide) rfl ?_
  intro p e s m args below meth c s₁ B hml hv
  obtain ⟨rfl, hsz, hP, hK, hD0⟩ := hv
  have hx := B.exec
  have hb := B.bytes
  have hr := B.returns
  have hts := atoms_spec (ws := wsX4_makeNew) B.pre
  have hown : s.vm.findClass RX4 = some m.cls := findClass_of_methodNamed B.named
  have hlocks := B.notSynchronized
  have hinX4 : ∀ w ∈ u_ws RX4 TX4 10, w ∈ wsX4_makeNew := fun w h => List.mem_cons_of_mem _ (List.mem_append_right _ h)
  subst hsz
  have hD := hD0.self (sz := s.heap.size)
  have hA : ∀ q : Nat, s.heap.size ≤ q → va_A (wRobot Γ q_r q_rp vf vp) s.heap.size q := fun q h => Or.inr h
  generalize va_A (wRobot Γ q_r q_rp vf vp) s.heap.size = A at hD hA ⊢
  have hS : va_S A s.heap s.heap [] := va_S.rf
  have hl := lv_entry ([.ref q_r, .int x0]) (n := 2) (Nat.le_of_ble_eq_true rfl)
  rw [lg_entry_eq]
  generalize (lg_sl ([.ref q_r, .int x0]) ++ List.replicate (2 - (lg_sl ([.ref q_r, .int x0])).length) Slot.unset).toArray = ls at hl ⊢
  replace hl : lv_has ls 2 [(0, .ref q_r), (1, .int x0)] := hl
  unfold mX4_makeNew at hm
  refine lv_aload_n hx hb dX4_makeNew_0 rfl (lv_at hl 0 rfl) ?_
  refine lv_iload_n hx hb dX4_makeNew_1 rfl (lv_at hl 1 rfl) ?_
  refine va_put (D := my_D Γ) (ci := 3) (v := .int x0) (ty := .int) (C := RX4) (T := TX4) (N := 10) hx hb hts hinX4 tyX4 tyX4_ok nmX4 hown hK hP hD hS 0 rfl rfl 0 (by decide) (hts (.fieldLink RX4 15 "BeltFloor$Robot" "cell" "I") (List.mem_of_getElem? (i := 1) rfl)) (fun _ h9 => h9) rfl (by decide +kernel) rfl rfl (Nat.le_of_ble_eq_true rfl) dX4_makeNew_2 (fun H locs hP hD hS => ?_)
  replace hP : va_P (my_D Γ) vwCl (wRobot Γ q_r q_rp (upd vf 0 x0) vp) H := hP
  replace hD : va_D A (wRobot Γ q_r q_rp (upd vf 0 x0) vp) := hD
  refine lv_aload_n hx hb dX4_makeNew_5 rfl (lv_at hl 0 rfl) ?_
  refine lv_iconst (v := (0 : Int32)) hx hb dX4_makeNew_6 (by decide) ?_
  refine va_put (D := my_D Γ) (ci := 3) (v := .int (0 : Int32)) (ty := .int) (C := RX4) (T := TX4) (N := 10) hx hb hts hinX4 tyX4 tyX4_ok nmX4 hown hK hP hD hS 0 rfl rfl 1 (by decide) (hts (.fieldLink RX4 21 "BeltFloor$Robot" "facing" "I") (List.mem_of_getElem? (i := 2) rfl)) (fun _ h9 => h9) rfl (by decide +kernel) rfl rfl (Nat.le_of_ble_eq_true rfl) dX4_makeNew_7 (fun H locs hP hD hS => ?_)
  replace hP : va_P (my_D Γ) vwCl (wRobot Γ q_r q_rp (upd (upd vf 0 x0) 1 (0 : Int32)) vp) H := hP
  replace hD : va_D A (wRobot Γ q_r q_rp (upd (upd vf 0 x0) 1 (0 : Int32)) vp) := hD
  refine lv_aload_n hx hb dX4_makeNew_10 rfl (lv_at hl 0 rfl) ?_
  refine lv_iconst (v := (1 : Int32)) hx hb dX4_makeNew_11 (by decide) ?_
  refine va_put (D := my_D Γ) (ci := 3) (v := .int (1 : Int32)) (ty := .int) (C := RX4) (T := TX4) (N := 10) hx hb hts hinX4 tyX4 tyX4_ok nmX4 hown hK hP hD hS 0 rfl rfl 2 (by decide) (hts (.fieldLink RX4 24 "BeltFloor$Robot" "next" "I") (List.mem_of_getElem? (i := 3) rfl)) (fun _ h9 => h9) rfl (by decide +kernel) rfl rfl (Nat.le_of_ble_eq_true rfl) dX4_makeNew_12 (fun H locs hP hD hS => ?_)
  replace hP : va_P (my_D Γ) vwCl (wRobot Γ q_r q_rp (upd (upd (upd vf 0 x0) 1 (0 : Int32)) 2 (1 : Int32)) vp) H := hP
  replace hD : va_D A (wRobot Γ q_r q_rp (upd (upd (upd vf 0 x0) 1 (0 : Int32)) 2 (1 : Int32)) vp) := hD
  refine lv_aload_n hx hb dX4_makeNew_15 rfl (lv_at hl 0 rfl) ?_
  refine lv_iconst (v := (0 : Int32)) hx hb dX4_makeNew_16 (by decide) ?_
  refine va_put (D := my_D Γ) (ci := 3) (v := .int (0 : Int32)) (ty := .int) (C := RX4) (T := TX4) (N := 10) hx hb hts hinX4 tyX4 tyX4_ok nmX4 hown hK hP hD hS 0 rfl rfl 3 (by decide) (hts (.fieldLink RX4 27 "BeltFloor$Robot" "moves" "I") (List.mem_of_getElem? (i := 4) rfl)) (fun _ h9 => h9) rfl (by decide +kernel) rfl rfl (Nat.le_of_ble_eq_true rfl) dX4_makeNew_17 (fun H locs hP hD hS => ?_)
  replace hP : va_P (my_D Γ) vwCl (wRobot Γ q_r q_rp (upd (upd (upd (upd vf 0 x0) 1 (0 : Int32)) 2 (1 : Int32)) 3 (0 : Int32)) vp) H := hP
  replace hD : va_D A (wRobot Γ q_r q_rp (upd (upd (upd (upd vf 0 x0) 1 (0 : Int32)) 2 (1 : Int32)) 3 (0 : Int32)) vp) := hD
  refine lv_aload_n hx hb dX4_makeNew_20 rfl (lv_at hl 0 rfl) ?_
  refine lv_iconst (v := (0 : Int32)) hx hb dX4_makeNew_21 (by decide) ?_
  refine va_put (D := my_D Γ) (ci := 3) (v := .int (0 : Int32)) (ty := .int) (C := RX4) (T := TX4) (N := 10) hx hb hts hinX4 tyX4 tyX4_ok nmX4 hown hK hP hD hS 0 rfl rfl 4 (by decide) (hts (.fieldLink RX4 30 "BeltFloor$Robot" "bumps" "I") (List.mem_of_getElem? (i := 5) rfl)) (fun _ h9 => h9) rfl (by decide +kernel) rfl rfl (Nat.le_of_ble_eq_true rfl) dX4_makeNew_22 (fun H locs hP hD hS => ?_)
  replace hP : va_P (my_D Γ) vwCl (wRobot Γ q_r q_rp (upd (upd (upd (upd (upd vf 0 x0) 1 (0 : Int32)) 2 (1 : Int32)) 3 (0 : Int32)) 4 (0 : Int32)) vp) H := hP
  replace hD : va_D A (wRobot Γ q_r q_rp (upd (upd (upd (upd (upd vf 0 x0) 1 (0 : Int32)) 2 (1 : Int32)) 3 (0 : Int32)) 4 (0 : Int32)) vp) := hD
  refine lv_aload_n hx hb dX4_makeNew_25 rfl (lv_at hl 0 rfl) ?_
  refine lv_iconst (v := (0 : Int32)) hx hb dX4_makeNew_26 (by decide) ?_
  refine va_put (D := my_D Γ) (ci := 3) (v := .int (0 : Int32)) (ty := .int) (C := RX4) (T := TX4) (N := 10) hx hb hts hinX4 tyX4 tyX4_ok nmX4 hown hK hP hD hS 0 rfl rfl 5 (by decide) (hts (.fieldLink RX4 33 "BeltFloor$Robot" "pushes" "I") (List.mem_of_getElem? (i := 6) rfl)) (fun _ h9 => h9) rfl (by decide +kernel) rfl rfl (Nat.le_of_ble_eq_true rfl) dX4_makeNew_27 (fun H locs hP hD hS => ?_)
  replace hP : va_P (my_D Γ) vwCl (wRobot Γ q_r q_rp (upd (upd (upd (upd (upd (upd vf 0 x0) 1 (0 : Int32)) 2 (1 : Int32)) 3 (0 : Int32)) 4 (0 : Int32)) 5 (0 : Int32)) vp) H := hP
  replace hD : va_D A (wRobot Γ q_r q_rp (upd (upd (upd (upd (upd (upd vf 0 x0) 1 (0 : Int32)) 2 (1 : Int32)) 3 (0 : Int32)) 4 (0 : Int32)) 5 (0 : Int32)) vp) := hD
  refine lv_aload_n hx hb dX4_makeNew_30 rfl (lv_at hl 0 rfl) ?_
  refine lv_iconst (v := (0 : Int32)) hx hb dX4_makeNew_31 (by decide) ?_
  refine va_put (D := my_D Γ) (ci := 3) (v := .int (0 : Int32)) (ty := .int) (C := RX4) (T := TX4) (N := 10) hx hb hts hinX4 tyX4 tyX4_ok nmX4 hown hK hP hD hS 0 rfl rfl 6 (by decide) (hts (.fieldLink RX4 36 "BeltFloor$Robot" "falls" "I") (List.mem_of_getElem? (i := 7) rfl)) (fun _ h9 => h9) rfl (by decide +kernel) rfl rfl (Nat.le_of_ble_eq_true rfl) dX4_makeNew_32 (fun H locs hP hD hS => ?_)
  replace hP : va_P (my_D Γ) vwCl (wRobot Γ q_r q_rp (upd (upd (upd (upd (upd (upd (upd vf 0 x0) 1 (0 : Int32)) 2 (1 : Int32)) 3 (0 : Int32)) 4 (0 : Int32)) 5 (0 : Int32)) 6 (0 : Int32)) vp) H := hP
  replace hD : va_D A (wRobot Γ q_r q_rp (upd (upd (upd (upd (upd (upd (upd vf 0 x0) 1 (0 : Int32)) 2 (1 : Int32)) 3 (0 : Int32)) 4 (0 : Int32)) 5 (0 : Int32)) 6 (0 : Int32)) vp) := hD
  refine lv_aload_n hx hb dX4_makeNew_35 rfl (lv_at hl 0 rfl) ?_
  obtain ⟨vf_1, hc_2, hm⟩ := bt1_s hm
  refine my_call0 (wc := (wRobot Γ q_r q_rp (upd (upd (upd (upd (upd (upd (upd vf 0 x0) 1 (0 : Int32)) 2 (1 : Int32)) 3 (0 : Int32)) 4 (0 : Int32)) 5 (0 : Int32)) 6 (0 : Int32)) vp)) (w1 := (wRobot Γ q_r q_rp vf_1 vp)) (ws1 := (wRobot Γ q_r q_rp vf_1 vp)) hP hD hS hA [0, 1] rfl rfl rfl (va_runV (As := []) (rest := []) ⟨hx, hb, hml, hown, hts⟩ (kX4_forgetProgram l Γ q_r q_rp (upd (upd (upd (upd (upd (upd (upd vf 0 x0) 1 (0 : Int32)) 2 (1 : Int32)) 3 (0 : Int32)) 4 (0 : Int32)) 5 (0 : Int32)) 6 (0 : Int32)) vp vf_1 hc_2 _) (cwV 0 hts gX4_makeNew_X4_forgetProgram rfl rfl rfl (by decide +kernel) ⟨Nat.le_of_ble_eq_true rfl, Nat.le_of_ble_eq_true rfl⟩) (my_preV (wc := (wRobot Γ q_r q_rp (upd (upd (upd (upd (upd (upd (upd vf 0 x0) 1 (0 : Int32)) 2 (1 : Int32)) 3 (0 : Int32)) 4 (0 : Int32)) 5 (0 : Int32)) 6 (0 : Int32)) vp)) (ci := 3) (q0 := 0) [0, 1] hK hP hD rfl rfl rfl rfl) rfl rfl hl.1 rfl (lv_room (Nat.le_of_ble_eq_true rfl)) dX4_makeNew_36 ⟨Nat.le_of_ble_eq_true rfl, Nat.le_of_ble_eq_true rfl⟩) (fun H locs hP hD hS => ?_)
  have hf0 := hm
  subst hf0
  exact W.vret hx hb hr (fun t ht hW => ⟨⟨rfl, by rw [ht]; exact hP⟩, hS.F ht⟩) hS.2.2 dX4_makeNew_39
def mX4_learn (vf : Nat → Int32) (vp : Nat → Int32) (x0 : Int32) : Int32 × (Nat → Int32) × (Nat → Int32) := (if (vf 8) < 0 then ((0 : Int32), vf, vp) else (if (vf 8) < (10 : Int32) then ((1 : Int32), (upd vf 8 ((vf 8) + (1 : Int32))), (upd vp (vf 8).toNatClampNeg x0)) else ((0 : Int32), vf, vp)))
set_option maxHeartbeats 4000000 in
set_option maxRecDepth 100000 in
theorem kX4_learn (l : Launch) (Γ : my_G) (q_r q_rp : Nat) (vf : Nat → Int32) (vp : Nat → Int32) (x0 : Int32) (rr : Int32) (vf_z : Nat → Int32) (vp_z : Nat → Int32) (hm : mX4_learn vf vp x0 = (rr, vf_z, vp_z)) : Mn l yX4_learn wsX4_learn ({ frames := 0, cells := 0, slots := 0, locals := 0 } : Room) Γ [.ref q_r, .int x0] (wRobot Γ q_r q_rp vf vp) (some (.int rr)) (wRobot Γ q_r q_rp vf_z vp_z) := by
  intro sz
  refine Met.ofW (cc := cX4_learn) (maxL := 2) (ret := (some .boolean)) (by decide) rfl ?_
  intro p e s m args below meth c s₁ B hml hv
  obtain ⟨rfl, hsz, hP, hK, hD0⟩ := hv
  have hx := B.exec
  have hb := B.bytes
  have hr := B.returns
  have hts := atoms_spec (ws := wsX4_learn) B.pre
  have hown : s.vm.findClass RX4 = some m.cls := findClass_of_methodNamed B.named
  have hlocks := B.notSynchronized
  have hinX4 : ∀ w ∈ u_ws RX4 TX4 10, w ∈ wsX4_learn := fun w h => List.mem_cons_of_mem _ (List.mem_append_right _ h)
  subst hsz
  have hD := hD0.self (sz := s.heap.size)
  have hA : ∀ q : Nat, s.heap.size ≤ q → va_A (wRobot Γ q_r q_rp vf vp) s.heap.size q := fun q h => Or.inr h
  generalize va_A (wRobot Γ q_r q_rp vf vp) s.heap.size = A at hD hA ⊢
  have hS : va_S A s.heap s.heap [] := va_S.rf
  have hl := lv_entry ([.ref q_r, .int x0]) (n := 2) (Nat.le_of_ble_eq_true rfl)
  rw [lg_entry_eq]
  generalize (lg_sl ([.ref q_r, .int x0]) ++ List.replicate (2 - (lg_sl ([.ref q_r, .int x0])).length) Slot.unset).toArray = ls at hl ⊢
  replace hl : lv_has ls 2 [(0, .ref q_r), (1, .int x0)] := hl
  unfold mX4_learn at hm
  refine lv_aload_n hx hb dX4_learn_0 rfl (lv_at hl 0 rfl) ?_
  refine va_get (D := my_D Γ) (ci := 3) (v := .int (vf 8)) (C := RX4) (T := TX4) (N := 10) hx hb hts hinX4 hown hK hP 0 rfl rfl 8 (by decide) (hts (.fieldLink RX4 45 "BeltFloor$Robot" "length" "I") (List.mem_of_getElem? (i := 1) rfl)) (fun _ h9 => h9) rfl dX4_learn_1 ?_
  refine lv_if_lt (tgt := 19) hx hb dX4_learn_4 (by decide) (fun c_1 => ?_) (fun c_1 => ?_)
  · replace hm := if_s hm c_1
    refine lv_iconst (v := (0 : Int32)) hx hb dX4_learn_19 (by decide) ?_
    obtain ⟨hf0, hf1, hf2⟩ := ti3 hm
    subst hf0
    subst hf1
    subst hf2
    exact W.zret (v := (0 : Int32)) hx hb hr rfl (fun t ht hW => ⟨⟨rfl, by rw [ht]; exact hP⟩, hS.F ht⟩) hS.2.2 dX4_learn_20
  · replace hm := if_f hm c_1
    refine lv_aload_n hx hb dX4_learn_7 rfl (lv_at hl 0 rfl) ?_
    refine va_get (D := my_D Γ) (ci := 3) (v := .int (vf 8)) (C := RX4) (T := TX4) (N := 10) hx hb hts hinX4 hown hK hP 0 rfl rfl 8 (by decide) (hts (.fieldLink RX4 45 "BeltFloor$Robot" "length" "I") (List.mem_of_getElem? (i := 1) rfl)) (fun _ h9 => h9) rfl dX4_learn_8 ?_
    refine lv_aload_n hx hb dX4_learn_11 rfl (lv_at hl 0 rfl) ?_
    refine va_get (D := my_D Γ) (ci := 3) (v := .ref q_rp) (C := RX4) (T := TX4) (N := 10) hx hb hts hinX4 hown hK hP 0 rfl rfl 9 (by decide) (hts (.fieldLink RX4 9 "BeltFloor$Robot" "program" "[I") (List.mem_of_getElem? (i := 2) rfl)) (fun _ h9 => h9) rfl dX4_learn_12 ?_
    refine va_alen hx hb hK hP 1 0 rfl rfl (v := (10 : Int32)) rfl dX4_learn_15 ?_
    refine lv_icmp_lt (tgt := 21) hx hb dX4_learn_16 (by decide) (fun c_2 => ?_) (fun c_2 => ?_)
    · replace hm := if_s hm c_2
      refine lv_aload_n hx hb dX4_learn_21 rfl (lv_at hl 0 rfl) ?_
      refine va_get (D := my_D Γ) (ci := 3) (v := .ref q_rp) (C := RX4) (T := TX4) (N := 10) hx hb hts hinX4 hown hK hP 0 rfl rfl 9 (by decide) (hts (.fieldLink RX4 9 "BeltFloor$Robot" "program" "[I") (List.mem_of_getElem? (i := 2) rfl)) (fun _ h9 => h9) rfl dX4_learn_22 ?_
      refine lv_aload_n hx hb dX4_learn_25 rfl (lv_at hl 0 rfl) ?_
      refine va_get (D := my_D Γ) (ci := 3) (v := .int (vf 8)) (C := RX4) (T := TX4) (N := 10) hx hb hts hinX4 hown hK hP 0 rfl rfl 8 (by decide) (hts (.fieldLink RX4 45 "BeltFloor$Robot" "length" "I") (List.mem_of_getElem? (i := 1) rfl)) (fun _ h9 => h9) rfl dX4_learn_26 ?_
      refine lv_iload_n hx hb dX4_learn_29 rfl (lv_at hl 1 rfl) ?_
      refine va_iast hx hb hK hP hD hS 1 0 rfl rfl (my_in c_1 c_2 rfl) dX4_learn_30 (fun H locs hP hD hS => ?_)
      replace hP : va_P (my_D Γ) vwCl (wRobot Γ q_r q_rp vf (upd vp (vf 8).toNatClampNeg x0)) H := hP
      replace hD : va_D A (wRobot Γ q_r q_rp vf (upd vp (vf 8).toNatClampNeg x0)) := hD
      refine lv_aload_n hx hb dX4_learn_31 rfl (lv_at hl 0 rfl) ?_
      refine lv_dup hx hb dX4_learn_32 rfl ?_
      refine va_get (D := my_D Γ) (ci := 3) (v := .int (vf 8)) (C := RX4) (T := TX4) (N := 10) hx hb hts hinX4 hown hK hP 0 rfl rfl 8 (by decide) (hts (.fieldLink RX4 45 "BeltFloor$Robot" "length" "I") (List.mem_of_getElem? (i := 1) rfl)) (fun _ h9 => h9) rfl dX4_learn_33 ?_
      refine lv_iconst (v := (1 : Int32)) hx hb dX4_learn_36 (by decide) ?_
      refine lv_iadd hx hb dX4_learn_37 ?_
      refine lv_topi (fun y_3 ey_3 => ?_)
      refine va_put (D := my_D Γ) (ci := 3) (v := .int y_3) (ty := .int) (C := RX4) (T := TX4) (N := 10) hx hb hts hinX4 tyX4 tyX4_ok nmX4 hown hK hP hD hS 0 rfl rfl 8 (by decide) (hts (.fieldLink RX4 45 "BeltFloor$Robot" "length" "I") (List.mem_of_getElem? (i := 1) rfl)) (fun _ h9 => h9) rfl (by decide +kernel) rfl rfl (Nat.le_of_ble_eq_true rfl) dX4_learn_38 (fun H locs hP hD hS => ?_)
      replace hP : va_P (my_D Γ) vwCl (wRobot Γ q_r q_rp (upd vf 8 y_3) (upd vp (vf 8).toNatClampNeg x0)) H := hP
      replace hD : va_D A (wRobot Γ q_r q_rp (upd vf 8 y_3) (upd vp (vf 8).toNatClampNeg x0)) := hD
      subst ey_3
      refine lv_iconst (v := (1 : Int32)) hx hb dX4_learn_41 (by decide) ?_
      obtain ⟨hf0, hf1, hf2⟩ := ti3 hm
      subst hf0
      subst hf1
      subst hf2
      exact W.zret (v := (1 : Int32)) hx hb hr rfl (fun t ht hW => ⟨⟨rfl, by rw [ht]; exact hP⟩, hS.F ht⟩) hS.2.2 dX4_learn_42
    · replace hm := if_f hm c_2
      refine lv_iconst (v := (0 : Int32)) hx hb dX4_learn_19 (by decide) ?_
      obtain ⟨hf0, hf1, hf2⟩ := ti3 hm
      subst hf0
      subst hf1
      subst hf2
      exact W.zret (v := (0 : Int32)) hx hb hr rfl (fun t ht hW => ⟨⟨rfl, by rw [ht]; exact hP⟩, hS.F ht⟩) hS.2.2 dX4_learn_20
def mX4_instruction (vf : Nat → Int32) (vp : Nat → Int32) (x0 : Int32) : Int32 := (if x0 < 0 then (-1 : Int32) else (if (vf 8) ≤ x0 then (-1 : Int32) else (if (10 : Int32) ≤ x0 then (-1 : Int32) else (vp x0.toNatClampNeg))))
set_option maxHeartbeats 4000000 in
set_option maxRecDepth 100000 in
theorem kX4_instruction (l : Launch) (Γ : my_G) (q_r q_rp : Nat) (vf : Nat → Int32) (vp : Nat → Int32) (x0 : Int32) (rr : Int32) (hm : mX4_instruction vf vp x0 = rr) : Mn l yX4_instruction wsX4_instruction ({ frames := 0, cells := 0, slots := 0, locals := 0 } : Room) Γ [.ref q_r, .int x0] (wRobot Γ q_r q_rp vf vp) (some (.int rr)) (wRobot Γ q_r q_rp vf vp) := by
  intro sz
  refine Met.ofW (cc := cX4_instruction) (maxL := 2) (ret := (some .int)) (by decide) rfl ?_
  intro p e s m args below meth c s₁ B hml hv
  obtain ⟨rfl, hsz, hP, hK, hD0⟩ := hv
  have hx := B.exec
  have hb := B.bytes
  have hr := B.returns
  have hts := atoms_spec (ws := wsX4_instruction) B.pre
  have hown : s.vm.findClass RX4 = some m.cls := findClass_of_methodNamed B.named
  have hlocks := B.notSynchronized
  have hinX4 : ∀ w ∈ u_ws RX4 TX4 10, w ∈ wsX4_instruction := fun w h => List.mem_cons_of_mem _ (List.mem_append_right _ h)
  subst hsz
  have hD := hD0.self (sz := s.heap.size)
  have hA : ∀ q : Nat, s.heap.size ≤ q → va_A (wRobot Γ q_r q_rp vf vp) s.heap.size q := fun q h => Or.inr h
  generalize va_A (wRobot Γ q_r q_rp vf vp) s.heap.size = A at hD hA ⊢
  have hS : va_S A s.heap s.heap [] := va_S.rf
  have hl := lv_entry ([.ref q_r, .int x0]) (n := 2) (Nat.le_of_ble_eq_true rfl)
  rw [lg_entry_eq]
  generalize (lg_sl ([.ref q_r, .int x0]) ++ List.replicate (2 - (lg_sl ([.ref q_r, .int x0])).length) Slot.unset).toArray = ls at hl ⊢
  replace hl : lv_has ls 2 [(0, .ref q_r), (1, .int x0)] := hl
  unfold mX4_instruction at hm
  refine lv_iload_n hx hb dX4_instruction_0 rfl (lv_at hl 1 rfl) ?_
  refine lv_if_lt (tgt := 30) hx hb dX4_instruction_1 (by decide) (fun c_1 => ?_) (fun c_1 => ?_)
  · replace hm := if_s hm c_1
    refine lv_iconst (v := (-1 : Int32)) hx hb dX4_instruction_30 (by decide) ?_
    have hf0 := hm
    subst hf0
    exact W.iret (v := (-1 : Int32)) hx hb hr (fun t ht hW => ⟨⟨rfl, by rw [ht]; exact hP⟩, hS.F ht⟩) hS.2.2 dX4_instruction_31
  · replace hm := if_f hm c_1
    refine lv_iload_n hx hb dX4_instruction_4 rfl (lv_at hl 1 rfl) ?_
    refine lv_aload_n hx hb dX4_instruction_5 rfl (lv_at hl 0 rfl) ?_
    refine va_get (D := my_D Γ) (ci := 3) (v := .int (vf 8)) (C := RX4) (T := TX4) (N := 10) hx hb hts hinX4 hown hK hP 0 rfl rfl 8 (by decide) (hts (.fieldLink RX4 45 "BeltFloor$Robot" "length" "I") (List.mem_of_getElem? (i := 1) rfl)) (fun _ h9 => h9) rfl dX4_instruction_6 ?_
    refine lv_icmp_ge (tgt := 30) hx hb dX4_instruction_9 (by decide) (fun c_2 => ?_) (fun c_2 => ?_)
    · replace hm := if_s hm c_2
      refine lv_iconst (v := (-1 : Int32)) hx hb dX4_instruction_30 (by decide) ?_
      have hf0 := hm
      subst hf0
      exact W.iret (v := (-1 : Int32)) hx hb hr (fun t ht hW => ⟨⟨rfl, by rw [ht]; exact hP⟩, hS.F ht⟩) hS.2.2 dX4_instruction_31
    · replace hm := if_f hm c_2
      refine lv_iload_n hx hb dX4_instruction_12 rfl (lv_at hl 1 rfl) ?_
      refine lv_aload_n hx hb dX4_instruction_13 rfl (lv_at hl 0 rfl) ?_
      refine va_get (D := my_D Γ) (ci := 3) (v := .ref q_rp) (C := RX4) (T := TX4) (N := 10) hx hb hts hinX4 hown hK hP 0 rfl rfl 9 (by decide) (hts (.fieldLink RX4 9 "BeltFloor$Robot" "program" "[I") (List.mem_of_getElem? (i := 2) rfl)) (fun _ h9 => h9) rfl dX4_instruction_14 ?_
      refine va_alen hx hb hK hP 1 0 rfl rfl (v := (10 : Int32)) rfl dX4_instruction_17 ?_
      refine lv_icmp_ge (tgt := 30) hx hb dX4_instruction_18 (by decide) (fun c_3 => ?_) (fun c_3 => ?_)
      · replace hm := if_s hm c_3
        refine lv_iconst (v := (-1 : Int32)) hx hb dX4_instruction_30 (by decide) ?_
        have hf0 := hm
        subst hf0
        exact W.iret (v := (-1 : Int32)) hx hb hr (fun t ht hW => ⟨⟨rfl, by rw [ht]; exact hP⟩, hS.F ht⟩) hS.2.2 dX4_instruction_31
      · replace hm := if_f hm c_3
        refine lv_aload_n hx hb dX4_instruction_21 rfl (lv_at hl 0 rfl) ?_
        refine va_get (D := my_D Γ) (ci := 3) (v := .ref q_rp) (C := RX4) (T := TX4) (N := 10) hx hb hts hinX4 hown hK hP 0 rfl rfl 9 (by decide) (hts (.fieldLink RX4 9 "BeltFloor$Robot" "program" "[I") (List.mem_of_getElem? (i := 2) rfl)) (fun _ h9 => h9) rfl dX4_instruction_22 ?_
        refine lv_iload_n hx hb dX4_instruction_25 rfl (lv_at hl 1 rfl) ?_
        refine va_iald hx hb hK hP 1 0 rfl rfl (my_inN c_1 c_3 rfl) dX4_instruction_26 ?_
        refine lv_goto (tgt := 31) hx hb dX4_instruction_27 (by decide) ?_
        have hf0 := hm
        subst hf0
        exact W.iret (v := (vp x0.toNatClampNeg)) hx hb hr (fun t ht hW => ⟨⟨rfl, by rw [ht]; exact hP⟩, hS.F ht⟩) hS.2.2 dX4_instruction_31
def mX4_instructionNow (vf : Nat → Int32) (vp : Nat → Int32) : Int32 := (if (vf 8) = 0 then (5 : Int32) else (mX4_instruction vf vp (vf 7)))
set_option maxHeartbeats 4000000 in
set_option maxRecDepth 100000 in
theorem kX4_instructionNow (l : Launch) (Γ : my_G) (q_r q_rp : Nat) (vf : Nat → Int32) (vp : Nat → Int32)  (rr : Int32) (hm : mX4_instructionNow vf vp = rr) : Mn l yX4_instructionNow wsX4_instructionNow ({ frames := 1, cells := 0, slots := 0, locals := 21 } : Room) Γ [.ref q_r] (wRobot Γ q_r q_rp vf vp) (some (.int rr)) (wRobot Γ q_r q_rp vf vp) := by
  intro sz
  refine Met.ofW (cc := cX4_instructionNow) (maxL := 1) (ret := (some .int)) (by decide) rfl ?_
  intro p e s m args below meth c s₁ B hml hv
  obtain ⟨rfl, hsz, hP, hK, hD0⟩ := hv
  have hx := B.exec
  have hb := B.bytes
  have hr := B.returns
  have hts := atoms_spec (ws := wsX4_instructionNow) B.pre
  have hown : s.vm.findClass RX4 = some m.cls := findClass_of_methodNamed B.named
  have hlocks := B.notSynchronized
  have hinX4 : ∀ w ∈ u_ws RX4 TX4 10, w ∈ wsX4_instructionNow := fun w h => List.mem_cons_of_mem _ (List.mem_append_right _ h)
  subst hsz
  have hD := hD0.self (sz := s.heap.size)
  have hA : ∀ q : Nat, s.heap.size ≤ q → va_A (wRobot Γ q_r q_rp vf vp) s.heap.size q := fun q h => Or.inr h
  generalize va_A (wRobot Γ q_r q_rp vf vp) s.heap.size = A at hD hA ⊢
  have hS : va_S A s.heap s.heap [] := va_S.rf
  have hl := lv_entry ([.ref q_r]) (n := 1) (Nat.le_of_ble_eq_true rfl)
  rw [lg_entry_eq]
  generalize (lg_sl ([.ref q_r]) ++ List.replicate (1 - (lg_sl ([.ref q_r])).length) Slot.unset).toArray = ls at hl ⊢
  replace hl : lv_has ls 1 [(0, .ref q_r)] := hl
  unfold mX4_instructionNow at hm
  refine lv_aload_n hx hb dX4_instructionNow_0 rfl (lv_at hl 0 rfl) ?_
  refine va_get (D := my_D Γ) (ci := 3) (v := .int (vf 8)) (C := RX4) (T := TX4) (N := 10) hx hb hts hinX4 hown hK hP 0 rfl rfl 8 (by decide) (hts (.fieldLink RX4 45 "BeltFloor$Robot" "length" "I") (List.mem_of_getElem? (i := 1) rfl)) (fun _ h9 => h9) rfl dX4_instructionNow_1 ?_
  refine lv_if_ne (tgt := 11) hx hb dX4_instructionNow_4 (by decide) (fun c_1 => ?_) (fun c_1 => ?_)
  · replace hm := if_f hm c_1
    refine lv_aload_n hx hb dX4_instructionNow_11 rfl (lv_at hl 0 rfl) ?_
    refine lv_aload_n hx hb dX4_instructionNow_12 rfl (lv_at hl 0 rfl) ?_
    refine va_get (D := my_D Γ) (ci := 3) (v := .int (vf 7)) (C := RX4) (T := TX4) (N := 10) hx hb hts hinX4 hown hK hP 0 rfl rfl 7 (by decide) (hts (.fieldLink RX4 42 "BeltFloor$Robot" "place" "I") (List.mem_of_getElem? (i := 2) rfl)) (fun _ h9 => h9) rfl dX4_instructionNow_13 ?_
    refine my_call1 (wc := (wRobot Γ q_r q_rp vf vp)) (w1 := (wRobot Γ q_r q_rp vf vp)) (ws1 := (wRobot Γ q_r q_rp vf vp)) hP hD hS hA [0, 1] rfl rfl rfl (va_runV (As := [.int (vf 7)]) (rest := []) ⟨hx, hb, hml, hown, hts⟩ (kX4_instruction l Γ q_r q_rp vf vp (vf 7) (mX4_instruction vf vp (vf 7)) rfl _) (cwV 1 hts gX4_instructionNow_X4_instruction rfl rfl rfl (by decide +kernel) ⟨Nat.le_of_ble_eq_true rfl, Nat.le_of_ble_eq_true rfl⟩) (my_preV (wc := (wRobot Γ q_r q_rp vf vp)) (ci := 3) (q0 := 0) [0, 1] hK hP hD rfl rfl rfl rfl) rfl rfl hl.1 rfl (lv_room (Nat.le_of_ble_eq_true rfl)) dX4_instructionNow_16 ⟨Nat.le_of_ble_eq_true rfl, Nat.le_of_ble_eq_true rfl⟩) (fun H locs hP hD hS => ?_)
    have hf0 := hm
    subst hf0
    exact W.iret (v := (mX4_instruction vf vp (vf 7))) hx hb hr (fun t ht hW => ⟨⟨rfl, by rw [ht]; exact hP⟩, hS.F ht⟩) hS.2.2 dX4_instructionNow_19
  · replace hm := if_s hm c_1
    refine lv_iconst (v := (5 : Int32)) hx hb dX4_instructionNow_7 (by decide) ?_
    refine lv_goto (tgt := 19) hx hb dX4_instructionNow_8 (by decide) ?_
    have hf0 := hm
    subst hf0
    exact W.iret (v := (5 : Int32)) hx hb hr (fun t ht hW => ⟨⟨rfl, by rw [ht]; exact hP⟩, hS.F ht⟩) hS.2.2 dX4_instructionNow_19
def mX4_wantedDirection (vf : Nat → Int32) (vp : Nat → Int32) : Int32 := (if (mX4_instructionNow vf vp) = (0 : Int32) then (vf 1) else (if (mX4_instructionNow vf vp) = (1 : Int32) then (mX2_turned (vf 1) (2 : Int32)) else (-1 : Int32)))
set_option maxHeartbeats 4000000 in
set_option maxRecDepth 100000 in
theorem kX4_wantedDirection (l : Launch) (Γ : my_G) (q_r q_rp : Nat) (vf : Nat → Int32) (vp : Nat → Int32)  (rr : Int32) (hm : mX4_wantedDirection vf vp = rr) : Mn l yX4_wantedDirection wsX4_wantedDirection ({ frames := 2, cells := 0, slots := 0, locals := 41 } : Room) Γ [.ref q_r] (wRobot Γ q_r q_rp vf vp) (some (.int rr)) (wRobot Γ q_r q_rp vf vp) := by
  intro sz
  refine Met.ofW (cc := cX4_wantedDirection) (maxL := 1) (ret := (some .int)) (by decide) rfl ?_
  intro p e s m args below meth c s₁ B hml hv
  obtain ⟨rfl, hsz, hP, hK, hD0⟩ := hv
  have hx := B.exec
  have hb := B.bytes
  have hr := B.returns
  have hts := atoms_spec (ws := wsX4_wantedDirection) B.pre
  have hown : s.vm.findClass RX4 = some m.cls := findClass_of_methodNamed B.named
  have hlocks := B.notSynchronized
  have hinX4 : ∀ w ∈ u_ws RX4 TX4 10, w ∈ wsX4_wantedDirection := fun w h => List.mem_cons_of_mem _ (List.mem_append_right _ h)
  subst hsz
  have hD := hD0.self (sz := s.heap.size)
  have hA : ∀ q : Nat, s.heap.size ≤ q → va_A (wRobot Γ q_r q_rp vf vp) s.heap.size q := fun q h => Or.inr h
  generalize va_A (wRobot Γ q_r q_rp vf vp) s.heap.size = A at hD hA ⊢
  have hS : va_S A s.heap s.heap [] := va_S.rf
  have hl := lv_entry ([.ref q_r]) (n := 1) (Nat.le_of_ble_eq_true rfl)
  rw [lg_entry_eq]
  generalize (lg_sl ([.ref q_r]) ++ List.replicate (1 - (lg_sl ([.ref q_r])).length) Slot.unset).toArray = ls at hl ⊢
  replace hl : lv_has ls 1 [(0, .ref q_r)] := hl
  unfold mX4_wantedDirection at hm
  refine lv_aload_n hx hb dX4_wantedDirection_0 rfl (lv_at hl 0 rfl) ?_
  refine my_call1 (wc := (wRobot Γ q_r q_rp vf vp)) (w1 := (wRobot Γ q_r q_rp vf vp)) (ws1 := (wRobot Γ q_r q_rp vf vp)) hP hD hS hA [0, 1] rfl rfl rfl (va_runV (As := []) (rest := []) ⟨hx, hb, hml, hown, hts⟩ (kX4_instructionNow l Γ q_r q_rp vf vp (mX4_instructionNow vf vp) rfl _) (cwV 0 hts gX4_wantedDirection_X4_instructionNow rfl rfl rfl (by decide +kernel) ⟨Nat.le_of_ble_eq_true rfl, Nat.le_of_ble_eq_true rfl⟩) (my_preV (wc := (wRobot Γ q_r q_rp vf vp)) (ci := 3) (q0 := 0) [0, 1] hK hP hD rfl rfl rfl rfl) rfl rfl hl.1 rfl (lv_room (Nat.le_of_ble_eq_true rfl)) dX4_wantedDirection_1 ⟨Nat.le_of_ble_eq_true rfl, Nat.le_of_ble_eq_true rfl⟩) (fun H locs hP hD hS => ?_)
  by_cases c_1 : (mX4_instructionNow vf vp) = (0 : Int32)
  · replace hm := if_s hm c_1
    refine lv_lookup (off := 28) (tgt := 32) hx hb dX4_wantedDirection_4 (by decide) (by rw [c_1]; rfl) (by decide) ?_
    refine lv_aload_n hx hb dX4_wantedDirection_32 rfl (lv_at hl 0 rfl) ?_
    refine va_get (D := my_D Γ) (ci := 3) (v := .int (vf 1)) (C := RX4) (T := TX4) (N := 10) hx hb hts hinX4 hown hK hP 0 rfl rfl 1 (by decide) (hts (.fieldLink RX4 21 "BeltFloor$Robot" "facing" "I") (List.mem_of_getElem? (i := 1) rfl)) (fun _ h9 => h9) rfl dX4_wantedDirection_33 ?_
    have hf0 := hm
    subst hf0
    exact W.iret (v := (vf 1)) hx hb hr (fun t ht hW => ⟨⟨rfl, by rw [ht]; exact hP⟩, hS.F ht⟩) hS.2.2 dX4_wantedDirection_36
  · replace hm := if_f hm c_1
    by_cases c_2 : (mX4_instructionNow vf vp) = (1 : Int32)
    · replace hm := if_s hm c_2
      refine lv_lookup (off := 33) (tgt := 37) hx hb dX4_wantedDirection_4 (by decide) (by rw [c_2]; rfl) (by decide) ?_
      refine lv_aload_n hx hb dX4_wantedDirection_37 rfl (lv_at hl 0 rfl) ?_
      refine va_get (D := my_D Γ) (ci := 3) (v := .int (vf 1)) (C := RX4) (T := TX4) (N := 10) hx hb hts hinX4 hown hK hP 0 rfl rfl 1 (by decide) (hts (.fieldLink RX4 21 "BeltFloor$Robot" "facing" "I") (List.mem_of_getElem? (i := 1) rfl)) (fun _ h9 => h9) rfl dX4_wantedDirection_38 ?_
      refine lv_iconst (v := (2 : Int32)) hx hb dX4_wantedDirection_41 (by decide) ?_
      refine my_call1 (wc := ([] : va_W)) (w1 := ([] : va_W)) (ws1 := (wRobot Γ q_r q_rp vf vp)) hP hD hS hA [] rfl rfl rfl (va_runS (As := [.int (vf 1), .int (2 : Int32)]) (rest := []) ⟨hx, hb, hml, hown, hts⟩ (kX2_turned l Γ (vf 1) (2 : Int32) (mX2_turned (vf 1) (2 : Int32)) rfl _) (va_cwS 2 hts gX4_wantedDirection_X2_turned rfl rfl rfl (by decide +kernel) ⟨Nat.le_of_ble_eq_true rfl, Nat.le_of_ble_eq_true rfl⟩) (my_preS (wc := ([] : va_W)) [] hK hP hD rfl rfl) rfl rfl hl.1 rfl (lv_room (Nat.le_of_ble_eq_true rfl)) dX4_wantedDirection_42 ⟨Nat.le_of_ble_eq_true rfl, Nat.le_of_ble_eq_true rfl⟩) (fun H locs hP hD hS => ?_)
      have hf0 := hm
      subst hf0
      exact W.iret (v := (mX2_turned (vf 1) (2 : Int32))) hx hb hr (fun t ht hW => ⟨⟨rfl, by rw [ht]; exact hP⟩, hS.F ht⟩) hS.2.2 dX4_wantedDirection_45
    · replace hm := if_f hm c_2
      refine lv_lookup (off := 42) (tgt := 46) hx hb dX4_wantedDirection_4 (by decide) ((lv_osw c_1 rfl).trans ((lv_osw c_2 rfl).trans rfl)) (by decide) ?_
      refine lv_iconst (v := (-1 : Int32)) hx hb dX4_wantedDirection_46 (by decide) ?_
      have hf0 := hm
      subst hf0
      exact W.iret (v := (-1 : Int32)) hx hb hr (fun t ht hW => ⟨⟨rfl, by rw [ht]; exact hP⟩, hS.F ht⟩) hS.2.2 dX4_wantedDirection_47
def mX4_turn (vf : Nat → Int32) (vp : Nat → Int32) : (Nat → Int32) := (if (mX4_instructionNow vf vp) = (2 : Int32) then (upd vf 1 (mX2_turned (vf 1) (3 : Int32))) else (if (mX4_instructionNow vf vp) = (3 : Int32) then (upd vf 1 (mX2_turned (vf 1) (1 : Int32))) else (if (mX4_instructionNow vf vp) = (4 : Int32) then (upd vf 1 (mX2_turned (vf 1) (2 : Int32))) else vf)))
set_option maxHeartbeats 4000000 in
set_option maxRecDepth 100000 in
theorem kX4_turn (l : Launch) (Γ : my_G) (q_r q_rp : Nat) (vf : Nat → Int32) (vp : Nat → Int32)  (vf_z : Nat → Int32) (hm : mX4_turn vf vp = vf_z) : Mn l yX4_turn wsX4_turn ({ frames := 2, cells := 0, slots := 0, locals := 41 } : Room) Γ [.ref q_r] (wRobot Γ q_r q_rp vf vp) none (wRobot Γ q_r q_rp vf_z vp) := by
  intro sz
  refine Met.ofW (cc := cX4_turn) (maxL := 1) (ret := none) (by decide) rfl ?_
  intro p e s m args below meth c s₁ B hml hv
  obtain ⟨rfl, hsz, hP, hK, hD0⟩ := hv
  have hx := B.exec
  have hb := B.bytes
  have hr := B.returns
  have hts := atoms_spec (ws := wsX4_turn) B.pre
  have hown : s.vm.findClass RX4 = some m.cls := findClass_of_methodNamed B.named
  have hlocks := B.notSynchronized
  have hinX4 : ∀ w ∈ u_ws RX4 TX4 10, w ∈ wsX4_turn := fun w h => List.mem_cons_of_mem _ (List.mem_append_right _ h)
  subst hsz
  have hD := hD0.self (sz := s.heap.size)
  have hA : ∀ q : Nat, s.heap.size ≤ q → va_A (wRobot Γ q_r q_rp vf vp) s.heap.size q := fun q h => Or.inr h
  generalize va_A (wRobot Γ q_r q_rp vf vp) s.heap.size = A at hD hA ⊢
  have hS : va_S A s.heap s.heap [] := va_S.rf
  have hl := lv_entry ([.ref q_r]) (n := 1) (Nat.le_of_ble_eq_true rfl)
  rw [lg_entry_eq]
  generalize (lg_sl ([.ref q_r]) ++ List.replicate (1 - (lg_sl ([.ref q_r])).length) Slot.unset).toArray = ls at hl ⊢
  replace hl : lv_has ls 1 [(0, .ref q_r)] := hl
  unfold mX4_turn at hm
  refine lv_aload_n hx hb dX4_turn_0 rfl (lv_at hl 0 rfl) ?_
  refine my_call1 (wc := (wRobot Γ q_r q_rp vf vp)) (w1 := (wRobot Γ q_r q_rp vf vp)) (ws1 := (wRobot Γ q_r q_rp vf vp)) hP hD hS hA [0, 1] rfl rfl rfl (va_runV (As := []) (rest := []) ⟨hx, hb, hml, hown, hts⟩ (kX4_instructionNow l Γ q_r q_rp vf vp (mX4_instructionNow vf vp) rfl _) (cwV 0 hts gX4_turn_X4_instructionNow rfl rfl rfl (by decide +kernel) ⟨Nat.le_of_ble_eq_true rfl, Nat.le_of_ble_eq_true rfl⟩) (my_preV (wc := (wRobot Γ q_r q_rp vf vp)) (ci := 3) (q0 := 0) [0, 1] hK hP hD rfl rfl rfl rfl) rfl rfl hl.1 rfl (lv_room (Nat.le_of_ble_eq_true rfl)) dX4_turn_1 ⟨Nat.le_of_ble_eq_true rfl, Nat.le_of_ble_eq_true rfl⟩) (fun H locs hP hD hS => ?_)
  by_cases c_1 : (mX4_instructionNow vf vp) = (2 : Int32)
  · replace hm := if_s hm c_1
    refine lv_tableIn (off := 28) (tgt := 32) hx hb dX4_turn_4 (by rw [c_1]; decide) (by rw [c_1]; decide) (by rw [c_1]; rfl) (by decide) ?_
    refine lv_aload_n hx hb dX4_turn_32 rfl (lv_at hl 0 rfl) ?_
    refine lv_aload_n hx hb dX4_turn_33 rfl (lv_at hl 0 rfl) ?_
    refine va_get (D := my_D Γ) (ci := 3) (v := .int (vf 1)) (C := RX4) (T := TX4) (N := 10) hx hb hts hinX4 hown hK hP 0 rfl rfl 1 (by decide) (hts (.fieldLink RX4 21 "BeltFloor$Robot" "facing" "I") (List.mem_of_getElem? (i := 1) rfl)) (fun _ h9 => h9) rfl dX4_turn_34 ?_
    refine lv_iconst (v := (3 : Int32)) hx hb dX4_turn_37 (by decide) ?_
    refine my_call1 (wc := ([] : va_W)) (w1 := ([] : va_W)) (ws1 := (wRobot Γ q_r q_rp vf vp)) hP hD hS hA [] rfl rfl rfl (va_runS (As := [.int (vf 1), .int (3 : Int32)]) (rest := [.ref q_r]) ⟨hx, hb, hml, hown, hts⟩ (kX2_turned l Γ (vf 1) (3 : Int32) (mX2_turned (vf 1) (3 : Int32)) rfl _) (va_cwS 2 hts gX4_turn_X2_turned rfl rfl rfl (by decide +kernel) ⟨Nat.le_of_ble_eq_true rfl, Nat.le_of_ble_eq_true rfl⟩) (my_preS (wc := ([] : va_W)) [] hK hP hD rfl rfl) rfl rfl hl.1 rfl (lv_room (Nat.le_of_ble_eq_true rfl)) dX4_turn_38 ⟨Nat.le_of_ble_eq_true rfl, Nat.le_of_ble_eq_true rfl⟩) (fun H locs hP hD hS => ?_)
    refine lv_topi (fun y_2 ey_2 => ?_)
    refine va_put (D := my_D Γ) (ci := 3) (v := .int y_2) (ty := .int) (C := RX4) (T := TX4) (N := 10) hx hb hts hinX4 tyX4 tyX4_ok nmX4 hown hK hP hD hS 0 rfl rfl 1 (by decide) (hts (.fieldLink RX4 21 "BeltFloor$Robot" "facing" "I") (List.mem_of_getElem? (i := 1) rfl)) (fun _ h9 => h9) rfl (by decide +kernel) rfl rfl (Nat.le_of_ble_eq_true rfl) dX4_turn_41 (fun H locs hP hD hS => ?_)
    replace hP : va_P (my_D Γ) vwCl (wRobot Γ q_r q_rp (upd vf 1 y_2) vp) H := hP
    replace hD : va_D A (wRobot Γ q_r q_rp (upd vf 1 y_2) vp) := hD
    subst ey_2
    refine lv_goto (tgt := 77) hx hb dX4_turn_44 (by decide) ?_
    have hf0 := hm
    subst hf0
    exact W.vret hx hb hr (fun t ht hW => ⟨⟨rfl, by rw [ht]; exact hP⟩, hS.F ht⟩) hS.2.2 dX4_turn_77
  · replace hm := if_f hm c_1
    by_cases c_3 : (mX4_instructionNow vf vp) = (3 : Int32)
    · replace hm := if_s hm c_3
      refine lv_tableIn (off := 43) (tgt := 47) hx hb dX4_turn_4 (by rw [c_3]; decide) (by rw [c_3]; decide) (by rw [c_3]; rfl) (by decide) ?_
      refine lv_aload_n hx hb dX4_turn_47 rfl (lv_at hl 0 rfl) ?_
      refine lv_aload_n hx hb dX4_turn_48 rfl (lv_at hl 0 rfl) ?_
      refine va_get (D := my_D Γ) (ci := 3) (v := .int (vf 1)) (C := RX4) (T := TX4) (N := 10) hx hb hts hinX4 hown hK hP 0 rfl rfl 1 (by decide) (hts (.fieldLink RX4 21 "BeltFloor$Robot" "facing" "I") (List.mem_of_getElem? (i := 1) rfl)) (fun _ h9 => h9) rfl dX4_turn_49 ?_
      refine lv_iconst (v := (1 : Int32)) hx hb dX4_turn_52 (by decide) ?_
      refine my_call1 (wc := ([] : va_W)) (w1 := ([] : va_W)) (ws1 := (wRobot Γ q_r q_rp vf vp)) hP hD hS hA [] rfl rfl rfl (va_runS (As := [.int (vf 1), .int (1 : Int32)]) (rest := [.ref q_r]) ⟨hx, hb, hml, hown, hts⟩ (kX2_turned l Γ (vf 1) (1 : Int32) (mX2_turned (vf 1) (1 : Int32)) rfl _) (va_cwS 2 hts gX4_turn_X2_turned rfl rfl rfl (by decide +kernel) ⟨Nat.le_of_ble_eq_true rfl, Nat.le_of_ble_eq_true rfl⟩) (my_preS (wc := ([] : va_W)) [] hK hP hD rfl rfl) rfl rfl hl.1 rfl (lv_room (Nat.le_of_ble_eq_true rfl)) dX4_turn_53 ⟨Nat.le_of_ble_eq_true rfl, Nat.le_of_ble_eq_true rfl⟩) (fun H locs hP hD hS => ?_)
      refine lv_topi (fun y_4 ey_4 => ?_)
      refine va_put (D := my_D Γ) (ci := 3) (v := .int y_4) (ty := .int) (C := RX4) (T := TX4) (N := 10) hx hb hts hinX4 tyX4 tyX4_ok nmX4 hown hK hP hD hS 0 rfl rfl 1 (by decide) (hts (.fieldLink RX4 21 "BeltFloor$Robot" "facing" "I") (List.mem_of_getElem? (i := 1) rfl)) (fun _ h9 => h9) rfl (by decide +kernel) rfl rfl (Nat.le_of_ble_eq_true rfl) dX4_turn_56 (fun H locs hP hD hS => ?_)
      replace hP : va_P (my_D Γ) vwCl (wRobot Γ q_r q_rp (upd vf 1 y_4) vp) H := hP
      replace hD : va_D A (wRobot Γ q_r q_rp (upd vf 1 y_4) vp) := hD
      subst ey_4
      refine lv_goto (tgt := 77) hx hb dX4_turn_59 (by decide) ?_
      have hf0 := hm
      subst hf0
      exact W.vret hx hb hr (fun t ht hW => ⟨⟨rfl, by rw [ht]; exact hP⟩, hS.F ht⟩) hS.2.2 dX4_turn_77
    · replace hm := if_f hm c_3
      by_cases c_5 : (mX4_instructionNow vf vp) = (4 : Int32)
      · replace hm := if_s hm c_5
        refine lv_tableIn (off := 58) (tgt := 62) hx hb dX4_turn_4 (by rw [c_5]; decide) (by rw [c_5]; decide) (by rw [c_5]; rfl) (by decide) ?_
        refine lv_aload_n hx hb dX4_turn_62 rfl (lv_at hl 0 rfl) ?_
        refine lv_aload_n hx hb dX4_turn_63 rfl (lv_at hl 0 rfl) ?_
        refine va_get (D := my_D Γ) (ci := 3) (v := .int (vf 1)) (C := RX4) (T := TX4) (N := 10) hx hb hts hinX4 hown hK hP 0 rfl rfl 1 (by decide) (hts (.fieldLink RX4 21 "BeltFloor$Robot" "facing" "I") (List.mem_of_getElem? (i := 1) rfl)) (fun _ h9 => h9) rfl dX4_turn_64 ?_
        refine lv_iconst (v := (2 : Int32)) hx hb dX4_turn_67 (by decide) ?_
        refine my_call1 (wc := ([] : va_W)) (w1 := ([] : va_W)) (ws1 := (wRobot Γ q_r q_rp vf vp)) hP hD hS hA [] rfl rfl rfl (va_runS (As := [.int (vf 1), .int (2 : Int32)]) (rest := [.ref q_r]) ⟨hx, hb, hml, hown, hts⟩ (kX2_turned l Γ (vf 1) (2 : Int32) (mX2_turned (vf 1) (2 : Int32)) rfl _) (va_cwS 2 hts gX4_turn_X2_turned rfl rfl rfl (by decide +kernel) ⟨Nat.le_of_ble_eq_true rfl, Nat.le_of_ble_eq_true rfl⟩) (my_preS (wc := ([] : va_W)) [] hK hP hD rfl rfl) rfl rfl hl.1 rfl (lv_room (Nat.le_of_ble_eq_true rfl)) dX4_turn_68 ⟨Nat.le_of_ble_eq_true rfl, Nat.le_of_ble_eq_true rfl⟩) (fun H locs hP hD hS => ?_)
        refine lv_topi (fun y_6 ey_6 => ?_)
        refine va_put (D := my_D Γ) (ci := 3) (v := .int y_6) (ty := .int) (C := RX4) (T := TX4) (N := 10) hx hb hts hinX4 tyX4 tyX4_ok nmX4 hown hK hP hD hS 0 rfl rfl 1 (by decide) (hts (.fieldLink RX4 21 "BeltFloor$Robot" "facing" "I") (List.mem_of_getElem? (i := 1) rfl)) (fun _ h9 => h9) rfl (by decide +kernel) rfl rfl (Nat.le_of_ble_eq_true rfl) dX4_turn_71 (fun H locs hP hD hS => ?_)
        replace hP : va_P (my_D Γ) vwCl (wRobot Γ q_r q_rp (upd vf 1 y_6) vp) H := hP
        replace hD : va_D A (wRobot Γ q_r q_rp (upd vf 1 y_6) vp) := hD
        subst ey_6
        refine lv_goto (tgt := 77) hx hb dX4_turn_74 (by decide) ?_
        have hf0 := hm
        subst hf0
        exact W.vret hx hb hr (fun t ht hW => ⟨⟨rfl, by rw [ht]; exact hP⟩, hS.F ht⟩) hS.2.2 dX4_turn_77
      · replace hm := if_f hm c_5
        have c_1_t := lv_neT (a := 2) c_1 rfl
        have c_3_t := lv_neT (a := 3) c_3 rfl
        have c_5_t := lv_neT (a := 4) c_5 rfl
        refine lv_tableOut (tgt := 77) hx hb dX4_turn_4 (by omega) (by decide) ?_
        have hf0 := hm
        subst hf0
        exact W.vret hx hb hr (fun t ht hW => ⟨⟨rfl, by rw [ht]; exact hP⟩, hS.F ht⟩) hS.2.2 dX4_turn_77
def mX4_comeToNextPlace (vf : Nat → Int32) : (Nat → Int32) := (if (vf 8) ≤ ((vf 7) + (1 : Int32)) then (upd vf 7 (0 : Int32)) else (upd vf 7 ((vf 7) + (1 : Int32))))
set_option maxHeartbeats 4000000 in
set_option maxRecDepth 100000 in
theorem kX4_comeToNextPlace (l : Launch) (Γ : my_G) (q_r q_rp : Nat) (vf : Nat → Int32) (vp : Nat → Int32)  (vf_z : Nat → Int32) (hm : mX4_comeToNextPlace vf = vf_z) : Mn l yX4_comeToNextPlace wsX4_comeToNextPlace ({ frames := 0, cells := 0, slots := 0, locals := 0 } : Room) Γ [.ref q_r] (wRobot Γ q_r q_rp vf vp) none (wRobot Γ q_r q_rp vf_z vp) := by
  intro sz
  refine Met.ofW (cc := cX4_comeToNextPlace) (maxL := 1) (ret := none) (by decide) rfl ?_
  intro p e s m args below meth c s₁ B hml hv
  obtain ⟨rfl, hsz, hP, hK, hD0⟩ := hv
  have hx := B.exec
  have hb := B.bytes
  have hr := B.returns
  have hts := atoms_spec (ws := wsX4_comeToNextPlace) B.pre
  have hown : s.vm.findClass RX4 = some m.cls := findClass_of_methodNamed B.named
  have hlocks := B.notSynchronized
  have hinX4 : ∀ w ∈ u_ws RX4 TX4 10, w ∈ wsX4_comeToNextPlace := fun w h => List.mem_cons_of_mem _ (List.mem_append_right _ h)
  subst hsz
  have hD := hD0.self (sz := s.heap.size)
  have hA : ∀ q : Nat, s.heap.size ≤ q → va_A (wRobot Γ q_r q_rp vf vp) s.heap.size q := fun q h => Or.inr h
  generalize va_A (wRobot Γ q_r q_rp vf vp) s.heap.size = A at hD hA ⊢
  have hS : va_S A s.heap s.heap [] := va_S.rf
  have hl := lv_entry ([.ref q_r]) (n := 1) (Nat.le_of_ble_eq_true rfl)
  rw [lg_entry_eq]
  generalize (lg_sl ([.ref q_r]) ++ List.replicate (1 - (lg_sl ([.ref q_r])).length) Slot.unset).toArray = ls at hl ⊢
  replace hl : lv_has ls 1 [(0, .ref q_r)] := hl
  unfold mX4_comeToNextPlace at hm
  refine lv_aload_n hx hb dX4_comeToNextPlace_0 rfl (lv_at hl 0 rfl) ?_
  refine lv_aload_n hx hb dX4_comeToNextPlace_1 rfl (lv_at hl 0 rfl) ?_
  refine va_get (D := my_D Γ) (ci := 3) (v := .int (vf 7)) (C := RX4) (T := TX4) (N := 10) hx hb hts hinX4 hown hK hP 0 rfl rfl 7 (by decide) (hts (.fieldLink RX4 42 "BeltFloor$Robot" "place" "I") (List.mem_of_getElem? (i := 1) rfl)) (fun _ h9 => h9) rfl dX4_comeToNextPlace_2 ?_
  refine lv_iconst (v := (1 : Int32)) hx hb dX4_comeToNextPlace_5 (by decide) ?_
  refine lv_iadd hx hb dX4_comeToNextPlace_6 ?_
  refine lv_aload_n hx hb dX4_comeToNextPlace_7 rfl (lv_at hl 0 rfl) ?_
  refine va_get (D := my_D Γ) (ci := 3) (v := .int (vf 8)) (C := RX4) (T := TX4) (N := 10) hx hb hts hinX4 hown hK hP 0 rfl rfl 8 (by decide) (hts (.fieldLink RX4 45 "BeltFloor$Robot" "length" "I") (List.mem_of_getElem? (i := 2) rfl)) (fun _ h9 => h9) rfl dX4_comeToNextPlace_8 ?_
  refine lv_icmp_ge (tgt := 23) hx hb dX4_comeToNextPlace_11 (by decide) (fun c_1 => ?_) (fun c_1 => ?_)
  · replace hm := if_s hm c_1
    refine lv_iconst (v := (0 : Int32)) hx hb dX4_comeToNextPlace_23 (by decide) ?_
    refine va_put (D := my_D Γ) (ci := 3) (v := .int (0 : Int32)) (ty := .int) (C := RX4) (T := TX4) (N := 10) hx hb hts hinX4 tyX4 tyX4_ok nmX4 hown hK hP hD hS 0 rfl rfl 7 (by decide) (hts (.fieldLink RX4 42 "BeltFloor$Robot" "place" "I") (List.mem_of_getElem? (i := 1) rfl)) (fun _ h9 => h9) rfl (by decide +kernel) rfl rfl (Nat.le_of_ble_eq_true rfl) dX4_comeToNextPlace_24 (fun H locs hP hD hS => ?_)
    replace hP : va_P (my_D Γ) vwCl (wRobot Γ q_r q_rp (upd vf 7 (0 : Int32)) vp) H := hP
    replace hD : va_D A (wRobot Γ q_r q_rp (upd vf 7 (0 : Int32)) vp) := hD
    have hf0 := hm
    subst hf0
    exact W.vret hx hb hr (fun t ht hW => ⟨⟨rfl, by rw [ht]; exact hP⟩, hS.F ht⟩) hS.2.2 dX4_comeToNextPlace_27
  · replace hm := if_f hm c_1
    refine lv_aload_n hx hb dX4_comeToNextPlace_14 rfl (lv_at hl 0 rfl) ?_
    refine va_get (D := my_D Γ) (ci := 3) (v := .int (vf 7)) (C := RX4) (T := TX4) (N := 10) hx hb hts hinX4 hown hK hP 0 rfl rfl 7 (by decide) (hts (.fieldLink RX4 42 "BeltFloor$Robot" "place" "I") (List.mem_of_getElem? (i := 1) rfl)) (fun _ h9 => h9) rfl dX4_comeToNextPlace_15 ?_
    refine lv_iconst (v := (1 : Int32)) hx hb dX4_comeToNextPlace_18 (by decide) ?_
    refine lv_iadd hx hb dX4_comeToNextPlace_19 ?_
    refine lv_goto (tgt := 24) hx hb dX4_comeToNextPlace_20 (by decide) ?_
    refine lv_topi (fun y_2 ey_2 => ?_)
    refine va_put (D := my_D Γ) (ci := 3) (v := .int y_2) (ty := .int) (C := RX4) (T := TX4) (N := 10) hx hb hts hinX4 tyX4 tyX4_ok nmX4 hown hK hP hD hS 0 rfl rfl 7 (by decide) (hts (.fieldLink RX4 42 "BeltFloor$Robot" "place" "I") (List.mem_of_getElem? (i := 1) rfl)) (fun _ h9 => h9) rfl (by decide +kernel) rfl rfl (Nat.le_of_ble_eq_true rfl) dX4_comeToNextPlace_24 (fun H locs hP hD hS => ?_)
    replace hP : va_P (my_D Γ) vwCl (wRobot Γ q_r q_rp (upd vf 7 y_2) vp) H := hP
    replace hD : va_D A (wRobot Γ q_r q_rp (upd vf 7 y_2) vp) := hD
    subst ey_2
    have hf0 := hm
    subst hf0
    exact W.vret hx hb hr (fun t ht hW => ⟨⟨rfl, by rw [ht]; exact hP⟩, hS.F ht⟩) hS.2.2 dX4_comeToNextPlace_27
def mX4_copyFrom_L74  : Nat → (Nat → Int32) → (Nat → Int32) → (Nat → Int32) → (Nat → Int32) → Int32 → Option ((Nat → Int32) × (Nat → Int32))
  | 0, _, _, _, _, _ => none
  | n + 1, vf, vp, vf2, vp2, l2 => (if (10 : Int32) ≤ l2 then (some (vf, vp)) else (if (10 : Int32) ≤ l2 then (some (vf, vp)) else (if ¬ (l2 < 0 ∨ 10 ≤ l2.toNatClampNeg) then (mX4_copyFrom_L74 n vf (upd vp l2.toNatClampNeg (vp2 l2.toNatClampNeg)) vf2 vp2 (l2 + (1 : Int32))) else none)))
def mX4_copyFrom (vf : Nat → Int32) (vp : Nat → Int32) (vf2 : Nat → Int32) (vp2 : Nat → Int32) : Option ((Nat → Int32) × (Nat → Int32)) := (mX4_copyFrom_L74 4096 (upd (upd (upd (upd (upd (upd (upd (upd (upd vf 0 (vf2 0)) 1 (vf2 1)) 2 (vf2 2)) 3 (vf2 3)) 4 (vf2 4)) 5 (vf2 5)) 6 (vf2 6)) 7 (vf2 7)) 8 (vf2 8)) vp vf2 vp2 (0 : Int32))
set_option maxHeartbeats 4000000 in
set_option maxRecDepth 100000 in
theorem kX4_copyFrom (l : Launch) (Γ : my_G) (q_r q_rp q_r2 q_rp2 : Nat) (vf : Nat → Int32) (vp : Nat → Int32) (vf2 : Nat → Int32) (vp2 : Nat → Int32)  (vf_z : Nat → Int32) (vp_z : Nat → Int32) (hm : mX4_copyFrom vf vp vf2 vp2 = (some (vf_z, vp_z))) : Mn l yX4_copyFrom wsX4_copyFrom ({ frames := 0, cells := 0, slots := 0, locals := 0 } : Room) Γ [.ref q_r, .ref q_r2] (wRobot Γ q_r q_rp vf vp ++ wRobot Γ q_r2 q_rp2 vf2 vp2) none (wRobot Γ q_r q_rp vf_z vp_z ++ wRobot Γ q_r2 q_rp2 vf2 vp2) := by
  intro sz
  refine Met.ofW (cc := cX4_copyFrom) (maxL := 3) (ret := none) (by decide) rfl ?_
  intro p e s m args below meth c s₁ B hml hv
  obtain ⟨rfl, hsz, hP, hK, hD0⟩ := hv
  have hx := B.exec
  have hb := B.bytes
  have hr := B.returns
  have hts := atoms_spec (ws := wsX4_copyFrom) B.pre
  have hown : s.vm.findClass RX4 = some m.cls := findClass_of_methodNamed B.named
  have hlocks := B.notSynchronized
  have hinX4 : ∀ w ∈ u_ws RX4 TX4 10, w ∈ wsX4_copyFrom := fun w h => List.mem_cons_of_mem _ (List.mem_append_right _ h)
  subst hsz
  have hD := hD0.self (sz := s.heap.size)
  have hA : ∀ q : Nat, s.heap.size ≤ q → va_A (wRobot Γ q_r q_rp vf vp ++ wRobot Γ q_r2 q_rp2 vf2 vp2) s.heap.size q := fun q h => Or.inr h
  generalize va_A (wRobot Γ q_r q_rp vf vp ++ wRobot Γ q_r2 q_rp2 vf2 vp2) s.heap.size = A at hD hA ⊢
  have hS : va_S A s.heap s.heap [] := va_S.rf
  have hl := lv_entry ([.ref q_r, .ref q_r2]) (n := 3) (Nat.le_of_ble_eq_true rfl)
  rw [lg_entry_eq]
  generalize (lg_sl ([.ref q_r, .ref q_r2]) ++ List.replicate (3 - (lg_sl ([.ref q_r, .ref q_r2])).length) Slot.unset).toArray = ls at hl ⊢
  replace hl : lv_has ls 3 [(0, .ref q_r), (1, .ref q_r2)] := hl
  have J_74 : ∀ n : Nat, ∀ (vf : Nat → Int32) (vp : Nat → Int32) (vf2 : Nat → Int32) (vp2 : Nat → Int32) (l2 : Int32) (H : Heap) (locs : List Loc) (ls : Array Slot), va_P (my_D Γ) vwCl (wRobot Γ q_r q_rp vf vp ++ wRobot Γ q_r2 q_rp2 vf2 vp2) H → va_D A (wRobot Γ q_r q_rp vf vp ++ wRobot Γ q_r2 q_rp2 vf2 vp2) → va_S A s.heap H locs → lv_has ls 3 [(0, .ref q_r), (1, .ref q_r2), (2, .int l2)] → mX4_copyFrom_L74 n vf vp vf2 vp2 l2 = (some (vf_z, vp_z)) → W p l e (headSpec wsX4_copyFrom ({ frames := 0, cells := 0, slots := 0, locals := 0 } : Room)).room s m ([.ref q_r, .ref q_r2] : List Value).toArray below meth c H locs 0 0 (MQ below (my_Q Γ A none (wRobot Γ q_r q_rp vf_z vp_z ++ wRobot Γ q_r2 q_rp2 vf2 vp2)) ([.ref q_r, .ref q_r2] : List Value).toArray s 0 0 A) (F0 m 74 ls []) := by
    intro  n
    induction n with
    | zero => intro vf vp vf2 vp2 l2 H locs ls hP hD hS hl hm; cases hm
    | succ n ih =>
      intro vf vp vf2 vp2 l2 H locs ls hP hD hS hl hm
      unfold mX4_copyFrom_L74 at hm
      refine lv_iload_n hx hb dX4_copyFrom_74 rfl (lv_at hl 2 rfl) ?_
      refine lv_aload_n hx hb dX4_copyFrom_75 rfl (lv_at hl 0 rfl) ?_
      refine va_get (D := my_D Γ) (ci := 3) (v := .ref q_rp) (C := RX4) (T := TX4) (N := 10) hx hb hts hinX4 hown hK hP 0 rfl rfl 9 (by decide) (hts (.fieldLink RX4 9 "BeltFloor$Robot" "program" "[I") (List.mem_of_getElem? (i := 10) rfl)) (fun _ h9 => h9) rfl dX4_copyFrom_76 ?_
      refine va_alen hx hb hK hP 1 0 rfl rfl (v := (10 : Int32)) rfl dX4_copyFrom_79 ?_
      refine lv_icmp_ge (tgt := 110) hx hb dX4_copyFrom_80 (by decide) (fun c_10 => ?_) (fun c_10 => ?_)
      · replace hm := if_s hm c_10
        obtain ⟨hf0, hf1⟩ := si2 hm
        subst hf0
        subst hf1
        exact W.vret hx hb hr (fun t ht hW => ⟨⟨rfl, by rw [ht]; exact hP⟩, hS.F ht⟩) hS.2.2 dX4_copyFrom_110
      · replace hm := if_f hm c_10
        refine lv_iload_n hx hb dX4_copyFrom_83 rfl (lv_at hl 2 rfl) ?_
        refine lv_aload_n hx hb dX4_copyFrom_84 rfl (lv_at hl 1 rfl) ?_
        refine va_get (D := my_D Γ) (ci := 3) (v := .ref q_rp2) (C := RX4) (T := TX4) (N := 10) hx hb hts hinX4 hown hK hP 2 rfl rfl 9 (by decide) (hts (.fieldLink RX4 9 "BeltFloor$Robot" "program" "[I") (List.mem_of_getElem? (i := 10) rfl)) (fun _ h9 => h9) rfl dX4_copyFrom_85 ?_
        refine va_alen hx hb hK hP 3 0 rfl rfl (v := (10 : Int32)) rfl dX4_copyFrom_88 ?_
        refine lv_icmp_ge (tgt := 110) hx hb dX4_copyFrom_89 (by decide) (fun c_11 => ?_) (fun c_11 => ?_)
        · replace hm := if_s hm c_11
          obtain ⟨hf0, hf1⟩ := si2 hm
          subst hf0
          subst hf1
          exact W.vret hx hb hr (fun t ht hW => ⟨⟨rfl, by rw [ht]; exact hP⟩, hS.F ht⟩) hS.2.2 dX4_copyFrom_110
        · replace hm := if_f hm c_11
          refine lv_aload_n hx hb dX4_copyFrom_92 rfl (lv_at hl 0 rfl) ?_
          refine va_get (D := my_D Γ) (ci := 3) (v := .ref q_rp) (C := RX4) (T := TX4) (N := 10) hx hb hts hinX4 hown hK hP 0 rfl rfl 9 (by decide) (hts (.fieldLink RX4 9 "BeltFloor$Robot" "program" "[I") (List.mem_of_getElem? (i := 10) rfl)) (fun _ h9 => h9) rfl dX4_copyFrom_93 ?_
          refine lv_iload_n hx hb dX4_copyFrom_96 rfl (lv_at hl 2 rfl) ?_
          refine lv_aload_n hx hb dX4_copyFrom_97 rfl (lv_at hl 1 rfl) ?_
          refine va_get (D := my_D Γ) (ci := 3) (v := .ref q_rp2) (C := RX4) (T := TX4) (N := 10) hx hb hts hinX4 hown hK hP 2 rfl rfl 9 (by decide) (hts (.fieldLink RX4 9 "BeltFloor$Robot" "program" "[I") (List.mem_of_getElem? (i := 10) rfl)) (fun _ h9 => h9) rfl dX4_copyFrom_98 ?_
          refine lv_iload_n hx hb dX4_copyFrom_101 rfl (lv_at hl 2 rfl) ?_
          obtain ⟨hi_12, hm⟩ := if_in hm
          refine va_iald hx hb hK hP 3 0 rfl rfl hi_12 dX4_copyFrom_102 ?_
          refine lv_topi (fun y_13 ey_13 => ?_)
          refine va_iast hx hb hK hP hD hS 1 0 rfl rfl hi_12 dX4_copyFrom_103 (fun H locs hP hD hS => ?_)
          replace hP : va_P (my_D Γ) vwCl (wRobot Γ q_r q_rp vf (upd vp l2.toNatClampNeg y_13) ++ wRobot Γ q_r2 q_rp2 vf2 vp2) H := hP
          replace hD : va_D A (wRobot Γ q_r q_rp vf (upd vp l2.toNatClampNeg y_13) ++ wRobot Γ q_r2 q_rp2 vf2 vp2) := hD
          subst ey_13
          refine lv_iinc (v := (l2 + (1 : Int32))) (lv' := [(2, .int (l2 + (1 : Int32))), (0, .ref q_r), (1, .ref q_r2)]) hx hb dX4_copyFrom_104 hl (k := 2) rfl rfl (by decide) rfl (fun ls hl => ?_)
          refine lv_goto (tgt := 74) hx hb dX4_copyFrom_107 (by decide) ?_
          exact ih vf (upd vp l2.toNatClampNeg (vp2 l2.toNatClampNeg)) vf2 vp2 (l2 + (1 : Int32)) _ _ _ hP hD hS (lv_sub hl [1, 2, 0] rfl) hm
  unfold mX4_copyFrom at hm
  refine lv_aload_n hx hb dX4_copyFrom_0 rfl (lv_at hl 0 rfl) ?_
  refine lv_aload_n hx hb dX4_copyFrom_1 rfl (lv_at hl 1 rfl) ?_
  refine va_get (D := my_D Γ) (ci := 3) (v := .int (vf2 0)) (C := RX4) (T := TX4) (N := 10) hx hb hts hinX4 hown hK hP 2 rfl rfl 0 (by decide) (hts (.fieldLink RX4 15 "BeltFloor$Robot" "cell" "I") (List.mem_of_getElem? (i := 1) rfl)) (fun _ h9 => h9) rfl dX4_copyFrom_2 ?_
  refine lv_topi (fun y_1 ey_1 => ?_)
  refine va_put (D := my_D Γ) (ci := 3) (v := .int y_1) (ty := .int) (C := RX4) (T := TX4) (N := 10) hx hb hts hinX4 tyX4 tyX4_ok nmX4 hown hK hP hD hS 0 rfl rfl 0 (by decide) (hts (.fieldLink RX4 15 "BeltFloor$Robot" "cell" "I") (List.mem_of_getElem? (i := 1) rfl)) (fun _ h9 => h9) rfl (by decide +kernel) rfl rfl (Nat.le_of_ble_eq_true rfl) dX4_copyFrom_5 (fun H locs hP hD hS => ?_)
  replace hP : va_P (my_D Γ) vwCl (wRobot Γ q_r q_rp (upd vf 0 y_1) vp ++ wRobot Γ q_r2 q_rp2 vf2 vp2) H := hP
  replace hD : va_D A (wRobot Γ q_r q_rp (upd vf 0 y_1) vp ++ wRobot Γ q_r2 q_rp2 vf2 vp2) := hD
  subst ey_1
  refine lv_aload_n hx hb dX4_copyFrom_8 rfl (lv_at hl 0 rfl) ?_
  refine lv_aload_n hx hb dX4_copyFrom_9 rfl (lv_at hl 1 rfl) ?_
  refine va_get (D := my_D Γ) (ci := 3) (v := .int (vf2 1)) (C := RX4) (T := TX4) (N := 10) hx hb hts hinX4 hown hK hP 2 rfl rfl 1 (by decide) (hts (.fieldLink RX4 21 "BeltFloor$Robot" "facing" "I") (List.mem_of_getElem? (i := 2) rfl)) (fun _ h9 => h9) rfl dX4_copyFrom_10 ?_
  refine lv_topi (fun y_2 ey_2 => ?_)
  refine va_put (D := my_D Γ) (ci := 3) (v := .int y_2) (ty := .int) (C := RX4) (T := TX4) (N := 10) hx hb hts hinX4 tyX4 tyX4_ok nmX4 hown hK hP hD hS 0 rfl rfl 1 (by decide) (hts (.fieldLink RX4 21 "BeltFloor$Robot" "facing" "I") (List.mem_of_getElem? (i := 2) rfl)) (fun _ h9 => h9) rfl (by decide +kernel) rfl rfl (Nat.le_of_ble_eq_true rfl) dX4_copyFrom_13 (fun H locs hP hD hS => ?_)
  replace hP : va_P (my_D Γ) vwCl (wRobot Γ q_r q_rp (upd (upd vf 0 (vf2 0)) 1 y_2) vp ++ wRobot Γ q_r2 q_rp2 vf2 vp2) H := hP
  replace hD : va_D A (wRobot Γ q_r q_rp (upd (upd vf 0 (vf2 0)) 1 y_2) vp ++ wRobot Γ q_r2 q_rp2 vf2 vp2) := hD
  subst ey_2
  refine lv_aload_n hx hb dX4_copyFrom_16 rfl (lv_at hl 0 rfl) ?_
  refine lv_aload_n hx hb dX4_copyFrom_17 rfl (lv_at hl 1 rfl) ?_
  refine va_get (D := my_D Γ) (ci := 3) (v := .int (vf2 2)) (C := RX4) (T := TX4) (N := 10) hx hb hts hinX4 hown hK hP 2 rfl rfl 2 (by decide) (hts (.fieldLink RX4 24 "BeltFloor$Robot" "next" "I") (List.mem_of_getElem? (i := 3) rfl)) (fun _ h9 => h9) rfl dX4_copyFrom_18 ?_
  refine lv_topi (fun y_3 ey_3 => ?_)
  refine va_put (D := my_D Γ) (ci := 3) (v := .int y_3) (ty := .int) (C := RX4) (T := TX4) (N := 10) hx hb hts hinX4 tyX4 tyX4_ok nmX4 hown hK hP hD hS 0 rfl rfl 2 (by decide) (hts (.fieldLink RX4 24 "BeltFloor$Robot" "next" "I") (List.mem_of_getElem? (i := 3) rfl)) (fun _ h9 => h9) rfl (by decide +kernel) rfl rfl (Nat.le_of_ble_eq_true rfl) dX4_copyFrom_21 (fun H locs hP hD hS => ?_)
  replace hP : va_P (my_D Γ) vwCl (wRobot Γ q_r q_rp (upd (upd (upd vf 0 (vf2 0)) 1 (vf2 1)) 2 y_3) vp ++ wRobot Γ q_r2 q_rp2 vf2 vp2) H := hP
  replace hD : va_D A (wRobot Γ q_r q_rp (upd (upd (upd vf 0 (vf2 0)) 1 (vf2 1)) 2 y_3) vp ++ wRobot Γ q_r2 q_rp2 vf2 vp2) := hD
  subst ey_3
  refine lv_aload_n hx hb dX4_copyFrom_24 rfl (lv_at hl 0 rfl) ?_
  refine lv_aload_n hx hb dX4_copyFrom_25 rfl (lv_at hl 1 rfl) ?_
  refine va_get (D := my_D Γ) (ci := 3) (v := .int (vf2 3)) (C := RX4) (T := TX4) (N := 10) hx hb hts hinX4 hown hK hP 2 rfl rfl 3 (by decide) (hts (.fieldLink RX4 27 "BeltFloor$Robot" "moves" "I") (List.mem_of_getElem? (i := 4) rfl)) (fun _ h9 => h9) rfl dX4_copyFrom_26 ?_
  refine lv_topi (fun y_4 ey_4 => ?_)
  refine va_put (D := my_D Γ) (ci := 3) (v := .int y_4) (ty := .int) (C := RX4) (T := TX4) (N := 10) hx hb hts hinX4 tyX4 tyX4_ok nmX4 hown hK hP hD hS 0 rfl rfl 3 (by decide) (hts (.fieldLink RX4 27 "BeltFloor$Robot" "moves" "I") (List.mem_of_getElem? (i := 4) rfl)) (fun _ h9 => h9) rfl (by decide +kernel) rfl rfl (Nat.le_of_ble_eq_true rfl) dX4_copyFrom_29 (fun H locs hP hD hS => ?_)
  replace hP : va_P (my_D Γ) vwCl (wRobot Γ q_r q_rp (upd (upd (upd (upd vf 0 (vf2 0)) 1 (vf2 1)) 2 (vf2 2)) 3 y_4) vp ++ wRobot Γ q_r2 q_rp2 vf2 vp2) H := hP
  replace hD : va_D A (wRobot Γ q_r q_rp (upd (upd (upd (upd vf 0 (vf2 0)) 1 (vf2 1)) 2 (vf2 2)) 3 y_4) vp ++ wRobot Γ q_r2 q_rp2 vf2 vp2) := hD
  subst ey_4
  refine lv_aload_n hx hb dX4_copyFrom_32 rfl (lv_at hl 0 rfl) ?_
  refine lv_aload_n hx hb dX4_copyFrom_33 rfl (lv_at hl 1 rfl) ?_
  refine va_get (D := my_D Γ) (ci := 3) (v := .int (vf2 4)) (C := RX4) (T := TX4) (N := 10) hx hb hts hinX4 hown hK hP 2 rfl rfl 4 (by decide) (hts (.fieldLink RX4 30 "BeltFloor$Robot" "bumps" "I") (List.mem_of_getElem? (i := 5) rfl)) (fun _ h9 => h9) rfl dX4_copyFrom_34 ?_
  refine lv_topi (fun y_5 ey_5 => ?_)
  refine va_put (D := my_D Γ) (ci := 3) (v := .int y_5) (ty := .int) (C := RX4) (T := TX4) (N := 10) hx hb hts hinX4 tyX4 tyX4_ok nmX4 hown hK hP hD hS 0 rfl rfl 4 (by decide) (hts (.fieldLink RX4 30 "BeltFloor$Robot" "bumps" "I") (List.mem_of_getElem? (i := 5) rfl)) (fun _ h9 => h9) rfl (by decide +kernel) rfl rfl (Nat.le_of_ble_eq_true rfl) dX4_copyFrom_37 (fun H locs hP hD hS => ?_)
  replace hP : va_P (my_D Γ) vwCl (wRobot Γ q_r q_rp (upd (upd (upd (upd (upd vf 0 (vf2 0)) 1 (vf2 1)) 2 (vf2 2)) 3 (vf2 3)) 4 y_5) vp ++ wRobot Γ q_r2 q_rp2 vf2 vp2) H := hP
  replace hD : va_D A (wRobot Γ q_r q_rp (upd (upd (upd (upd (upd vf 0 (vf2 0)) 1 (vf2 1)) 2 (vf2 2)) 3 (vf2 3)) 4 y_5) vp ++ wRobot Γ q_r2 q_rp2 vf2 vp2) := hD
  subst ey_5
  refine lv_aload_n hx hb dX4_copyFrom_40 rfl (lv_at hl 0 rfl) ?_
  refine lv_aload_n hx hb dX4_copyFrom_41 rfl (lv_at hl 1 rfl) ?_
  refine va_get (D := my_D Γ) (ci := 3) (v := .int (vf2 5)) (C := RX4) (T := TX4) (N := 10) hx hb hts hinX4 hown hK hP 2 rfl rfl 5 (by decide) (hts (.fieldLink RX4 33 "BeltFloor$Robot" "pushes" "I") (List.mem_of_getElem? (i := 6) rfl)) (fun _ h9 => h9) rfl dX4_copyFrom_42 ?_
  refine lv_topi (fun y_6 ey_6 => ?_)
  refine va_put (D := my_D Γ) (ci := 3) (v := .int y_6) (ty := .int) (C := RX4) (T := TX4) (N := 10) hx hb hts hinX4 tyX4 tyX4_ok nmX4 hown hK hP hD hS 0 rfl rfl 5 (by decide) (hts (.fieldLink RX4 33 "BeltFloor$Robot" "pushes" "I") (List.mem_of_getElem? (i := 6) rfl)) (fun _ h9 => h9) rfl (by decide +kernel) rfl rfl (Nat.le_of_ble_eq_true rfl) dX4_copyFrom_45 (fun H locs hP hD hS => ?_)
  replace hP : va_P (my_D Γ) vwCl (wRobot Γ q_r q_rp (upd (upd (upd (upd (upd (upd vf 0 (vf2 0)) 1 (vf2 1)) 2 (vf2 2)) 3 (vf2 3)) 4 (vf2 4)) 5 y_6) vp ++ wRobot Γ q_r2 q_rp2 vf2 vp2) H := hP
  replace hD : va_D A (wRobot Γ q_r q_rp (upd (upd (upd (upd (upd (upd vf 0 (vf2 0)) 1 (vf2 1)) 2 (vf2 2)) 3 (vf2 3)) 4 (vf2 4)) 5 y_6) vp ++ wRobot Γ q_r2 q_rp2 vf2 vp2) := hD
  subst ey_6
  refine lv_aload_n hx hb dX4_copyFrom_48 rfl (lv_at hl 0 rfl) ?_
  refine lv_aload_n hx hb dX4_copyFrom_49 rfl (lv_at hl 1 rfl) ?_
  refine va_get (D := my_D Γ) (ci := 3) (v := .int (vf2 6)) (C := RX4) (T := TX4) (N := 10) hx hb hts hinX4 hown hK hP 2 rfl rfl 6 (by decide) (hts (.fieldLink RX4 36 "BeltFloor$Robot" "falls" "I") (List.mem_of_getElem? (i := 7) rfl)) (fun _ h9 => h9) rfl dX4_copyFrom_50 ?_
  refine lv_topi (fun y_7 ey_7 => ?_)
  refine va_put (D := my_D Γ) (ci := 3) (v := .int y_7) (ty := .int) (C := RX4) (T := TX4) (N := 10) hx hb hts hinX4 tyX4 tyX4_ok nmX4 hown hK hP hD hS 0 rfl rfl 6 (by decide) (hts (.fieldLink RX4 36 "BeltFloor$Robot" "falls" "I") (List.mem_of_getElem? (i := 7) rfl)) (fun _ h9 => h9) rfl (by decide +kernel) rfl rfl (Nat.le_of_ble_eq_true rfl) dX4_copyFrom_53 (fun H locs hP hD hS => ?_)
  replace hP : va_P (my_D Γ) vwCl (wRobot Γ q_r q_rp (upd (upd (upd (upd (upd (upd (upd vf 0 (vf2 0)) 1 (vf2 1)) 2 (vf2 2)) 3 (vf2 3)) 4 (vf2 4)) 5 (vf2 5)) 6 y_7) vp ++ wRobot Γ q_r2 q_rp2 vf2 vp2) H := hP
  replace hD : va_D A (wRobot Γ q_r q_rp (upd (upd (upd (upd (upd (upd (upd vf 0 (vf2 0)) 1 (vf2 1)) 2 (vf2 2)) 3 (vf2 3)) 4 (vf2 4)) 5 (vf2 5)) 6 y_7) vp ++ wRobot Γ q_r2 q_rp2 vf2 vp2) := hD
  subst ey_7
  refine lv_aload_n hx hb dX4_copyFrom_56 rfl (lv_at hl 0 rfl) ?_
  refine lv_aload_n hx hb dX4_copyFrom_57 rfl (lv_at hl 1 rfl) ?_
  refine va_get (D := my_D Γ) (ci := 3) (v := .int (vf2 7)) (C := RX4) (T := TX4) (N := 10) hx hb hts hinX4 hown hK hP 2 rfl rfl 7 (by decide) (hts (.fieldLink RX4 42 "BeltFloor$Robot" "place" "I") (List.mem_of_getElem? (i := 8) rfl)) (fun _ h9 => h9) rfl dX4_copyFrom_58 ?_
  refine lv_topi (fun y_8 ey_8 => ?_)
  refine va_put (D := my_D Γ) (ci := 3) (v := .int y_8) (ty := .int) (C := RX4) (T := TX4) (N := 10) hx hb hts hinX4 tyX4 tyX4_ok nmX4 hown hK hP hD hS 0 rfl rfl 7 (by decide) (hts (.fieldLink RX4 42 "BeltFloor$Robot" "place" "I") (List.mem_of_getElem? (i := 8) rfl)) (fun _ h9 => h9) rfl (by decide +kernel) rfl rfl (Nat.le_of_ble_eq_true rfl) dX4_copyFrom_61 (fun H locs hP hD hS => ?_)
  replace hP : va_P (my_D Γ) vwCl (wRobot Γ q_r q_rp (upd (upd (upd (upd (upd (upd (upd (upd vf 0 (vf2 0)) 1 (vf2 1)) 2 (vf2 2)) 3 (vf2 3)) 4 (vf2 4)) 5 (vf2 5)) 6 (vf2 6)) 7 y_8) vp ++ wRobot Γ q_r2 q_rp2 vf2 vp2) H := hP
  replace hD : va_D A (wRobot Γ q_r q_rp (upd (upd (upd (upd (upd (upd (upd (upd vf 0 (vf2 0)) 1 (vf2 1)) 2 (vf2 2)) 3 (vf2 3)) 4 (vf2 4)) 5 (vf2 5)) 6 (vf2 6)) 7 y_8) vp ++ wRobot Γ q_r2 q_rp2 vf2 vp2) := hD
  subst ey_8
  refine lv_aload_n hx hb dX4_copyFrom_64 rfl (lv_at hl 0 rfl) ?_
  refine lv_aload_n hx hb dX4_copyFrom_65 rfl (lv_at hl 1 rfl) ?_
  refine va_get (D := my_D Γ) (ci := 3) (v := .int (vf2 8)) (C := RX4) (T := TX4) (N := 10) hx hb hts hinX4 hown hK hP 2 rfl rfl 8 (by decide) (hts (.fieldLink RX4 45 "BeltFloor$Robot" "length" "I") (List.mem_of_getElem? (i := 9) rfl)) (fun _ h9 => h9) rfl dX4_copyFrom_66 ?_
  refine lv_topi (fun y_9 ey_9 => ?_)
  refine va_put (D := my_D Γ) (ci := 3) (v := .int y_9) (ty := .int) (C := RX4) (T := TX4) (N := 10) hx hb hts hinX4 tyX4 tyX4_ok nmX4 hown hK hP hD hS 0 rfl rfl 8 (by decide) (hts (.fieldLink RX4 45 "BeltFloor$Robot" "length" "I") (List.mem_of_getElem? (i := 9) rfl)) (fun _ h9 => h9) rfl (by decide +kernel) rfl rfl (Nat.le_of_ble_eq_true rfl) dX4_copyFrom_69 (fun H locs hP hD hS => ?_)
  replace hP : va_P (my_D Γ) vwCl (wRobot Γ q_r q_rp (upd (upd (upd (upd (upd (upd (upd (upd (upd vf 0 (vf2 0)) 1 (vf2 1)) 2 (vf2 2)) 3 (vf2 3)) 4 (vf2 4)) 5 (vf2 5)) 6 (vf2 6)) 7 (vf2 7)) 8 y_9) vp ++ wRobot Γ q_r2 q_rp2 vf2 vp2) H := hP
  replace hD : va_D A (wRobot Γ q_r q_rp (upd (upd (upd (upd (upd (upd (upd (upd (upd vf 0 (vf2 0)) 1 (vf2 1)) 2 (vf2 2)) 3 (vf2 3)) 4 (vf2 4)) 5 (vf2 5)) 6 (vf2 6)) 7 (vf2 7)) 8 y_9) vp ++ wRobot Γ q_r2 q_rp2 vf2 vp2) := hD
  subst ey_9
  refine lv_iconst (v := (0 : Int32)) hx hb dX4_copyFrom_72 (by decide) ?_
  refine lv_istore_n (lv' := [(2, .int (0 : Int32)), (0, .ref q_r), (1, .ref q_r2)]) hx hb dX4_copyFrom_73 rfl hl (by decide) rfl (fun ls hl => ?_)
  exact J_74 4096 (upd (upd (upd (upd (upd (upd (upd (upd (upd vf 0 (vf2 0)) 1 (vf2 1)) 2 (vf2 2)) 3 (vf2 3)) 4 (vf2 4)) 5 (vf2 5)) 6 (vf2 6)) 7 (vf2 7)) 8 (vf2 8)) vp vf2 vp2 (0 : Int32) _ _ _ hP hD hS (lv_sub hl [1, 2, 0] rfl) hm
