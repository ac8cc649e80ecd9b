set_option maxHeartbeats 4000000 in
set_option maxRecDepth 100000 in
theorem kX1_robot_0 (l : Launch) (Γ : my_G) (q_fl q_k q_c q_a q_pa q_b q_pb : Nat) (vi : Nat → Int32) (vj : Nat → Int64) (vk : Nat → Int32) (vc : Nat → Int32) (va : Nat → Int32) (vpa : Nat → Int32) (vb : Nat → Int32) (vpb : Nat → Int32) (x0 : Int32) (h :  x0 = 0) : Mn l yX1_robot wsX1_robot ({ frames := 0, cells := 0, slots := 0, locals := 0 } : Room) Γ [.ref q_fl, .int x0] (wFloor Γ q_fl q_k q_c q_a q_pa q_b q_pb vi vj vk vc va vpa vb vpb) (some (.ref q_a)) (wFloor Γ q_fl q_k q_c q_a q_pa q_b q_pb vi vj vk vc va vpa vb vpb) := by
  intro sz
  refine Met.ofW (cc := cX1_robot) (maxL := 2) (ret := (some (.object "BeltFloor$Robot"))) (by decide) rfl ?_
  intro p e s m args below meth c s₁ B hml hv
  obtain ⟨rfl, hsz, hP, hK, hD0⟩ := hv
  have hx := B.exec
  have hb := B.bytes
  have hr := B.returns
  have hts := atoms_spec (ws := wsX1_robot) B.pre
  have hown : s.vm.findClass RX1 = some m.cls := findClass_of_methodNamed B.named
  have hlocks := B.notSynchronized
  have hin0 : ∀ w ∈ u_ws RX1 TX1 12, w ∈ wsX1_robot := fun w h => List.mem_cons_of_mem _ (List.mem_append_right _ h)
  subst hsz
  have hD := hD0.self (sz := s.heap.size)
  generalize va_A (wFloor Γ q_fl q_k q_c q_a q_pa q_b q_pb vi vj vk vc va vpa vb vpb) s.heap.size = A at hD ⊢
  have hS : va_S A s.heap s.heap [] := va_S.rf
  have hl := lv_entry ([.ref q_fl, .int x0]) (n := 2) (Nat.le_of_ble_eq_true rfl)
  rw [lg_entry_eq]
  generalize (lg_sl ([.ref q_fl, .int x0]) ++ List.replicate (2 - (lg_sl ([.ref q_fl, .int x0])).length) Slot.unset).toArray = ls at hl ⊢
  replace hl : lv_has ls 2 [(0, .ref q_fl), (1, .int x0)] := hl
  refine lv_iload_n hx hb dX1_robot_0 rfl (lv_at hl 1 rfl) ?_
  refine lv_if_ne (tgt := 11) hx hb dX1_robot_1 (by decide) (fun c_ => absurd h c_) (fun c_ => ?_)
  refine lv_aload_n hx hb dX1_robot_4 rfl (lv_at hl 0 rfl) ?_
  refine va_get (D := my_D Γ) (ci := 1) (v := .ref q_a) (C := RX1) (T := TX1) (N := 12) hx hb hts hin0 hown hK hP 0 rfl rfl 2 (by decide) (hts (.fieldLink RX1 21 "BeltFloor$Floor" "first" "LBeltFloor$Robot;") (List.mem_of_getElem? (i := 1) rfl)) (fun _ h9 => h9) rfl dX1_robot_5 ?_
  refine lv_goto (tgt := 15) hx hb dX1_robot_8 (by decide) ?_
  exact W.aret (v := .ref q_a) hx hb hr (Or.inl ⟨_, rfl⟩) (Or.inr ⟨_, rfl⟩) (fun t ht hW => ⟨⟨rfl, by rw [ht]; exact hP⟩, hS.F ht⟩) hS.2.2 dX1_robot_15
set_option maxHeartbeats 4000000 in
set_option maxRecDepth 100000 in
theorem kX1_robot_1 (l : Launch) (Γ : my_G) (q_fl q_k q_c q_a q_pa q_b q_pb : Nat) (vi : Nat → Int32) (vj : Nat → Int64) (vk : Nat → Int32) (vc : Nat → Int32) (va : Nat → Int32) (vpa : Nat → Int32) (vb : Nat → Int32) (vpb : Nat → Int32) (x0 : Int32) (h : ¬ x0 = 0) : Mn l yX1_robot wsX1_robot ({ frames := 0, cells := 0, slots := 0, locals := 0 } : Room) Γ [.ref q_fl, .int x0] (wFloor Γ q_fl q_k q_c q_a q_pa q_b q_pb vi vj vk vc va vpa vb vpb) (some (.ref q_b)) (wFloor Γ q_fl q_k q_c q_a q_pa q_b q_pb vi vj vk vc va vpa vb vpb) := by
  intro sz
  refine Met.ofW (cc := cX1_robot) (maxL := 2) (ret := (some (.object "BeltFloor$Robot"))) (by decide) rfl ?_
  intro p e s m args below meth c s₁ B hml hv
  obtain ⟨rfl, hsz, hP, hK, hD0⟩ := hv
  have hx := B.exec
  have hb := B.bytes
  have hr := B.returns
  have hts := atoms_spec (ws := wsX1_robot) B.pre
  have hown : s.vm.findClass RX1 = some m.cls := findClass_of_methodNamed B.named
  have hlocks := B.notSynchronized
  have hin0 : ∀ w ∈ u_ws RX1 TX1 12, w ∈ wsX1_robot := fun w h => List.mem_cons_of_mem _ (List.mem_append_right _ h)
  subst hsz
  have hD := hD0.self (sz := s.heap.size)
  generalize va_A (wFloor Γ q_fl q_k q_c q_a q_pa q_b q_pb vi vj vk vc va vpa vb vpb) s.heap.size = A at hD ⊢
  have hS : va_S A s.heap s.heap [] := va_S.rf
  have hl := lv_entry ([.ref q_fl, .int x0]) (n := 2) (Nat.le_of_ble_eq_true rfl)
  rw [lg_entry_eq]
  generalize (lg_sl ([.ref q_fl, .int x0]) ++ List.replicate (2 - (lg_sl ([.ref q_fl, .int x0])).length) Slot.unset).toArray = ls at hl ⊢
  replace hl : lv_has ls 2 [(0, .ref q_fl), (1, .int x0)] := hl
  refine lv_iload_n hx hb dX1_robot_0 rfl (lv_at hl 1 rfl) ?_
  refine lv_if_ne (tgt := 11) hx hb dX1_robot_1 (by decide) (fun c_ => ?_) (fun c_ => absurd c_ h)
  refine lv_aload_n hx hb dX1_robot_11 rfl (lv_at hl 0 rfl) ?_
  refine va_get (D := my_D Γ) (ci := 1) (v := .ref q_b) (C := RX1) (T := TX1) (N := 12) hx hb hts hin0 hown hK hP 0 rfl rfl 3 (by decide) (hts (.fieldLink RX1 25 "BeltFloor$Floor" "second" "LBeltFloor$Robot;") (List.mem_of_getElem? (i := 2) rfl)) (fun _ h9 => h9) rfl dX1_robot_12 ?_
  exact W.aret (v := .ref q_b) hx hb hr (Or.inl ⟨_, rfl⟩) (Or.inr ⟨_, rfl⟩) (fun t ht hW => ⟨⟨rfl, by rw [ht]; exact hP⟩, hS.F ht⟩) hS.2.2 dX1_robot_15
def mX1_kindAt (vk : Nat → Int32) (x0 : Int32) : Int32 := (if x0 < 0 then (1 : Int32) else (if (36 : Int32) ≤ x0 then (1 : Int32) else (vk x0.toNatClampNeg)))
set_option maxHeartbeats 4000000 in
set_option maxRecDepth 100000 in
theorem kX1_kindAt (l : Launch) (Γ : my_G) (q_fl q_k q_c q_a q_pa q_b q_pb : Nat) (vi : Nat → Int32) (vj : Nat → Int64) (vk : Nat → Int32) (vc : Nat → Int32) (va : Nat → Int32) (vpa : Nat → Int32) (vb : Nat → Int32) (vpb : Nat → Int32) (x0 : Int32) (rr : Int32) (hm : mX1_kindAt vk x0 = rr) : Mn l yX1_kindAt wsX1_kindAt ({ frames := 0, cells := 0, slots := 0, locals := 0 } : Room) Γ [.ref q_fl, .int x0] (wFloor Γ q_fl q_k q_c q_a q_pa q_b q_pb vi vj vk vc va vpa vb vpb) (some (.int rr)) (wFloor Γ q_fl q_k q_c q_a q_pa q_b q_pb vi vj vk vc va vpa vb vpb) := by
  intro sz
  refine Met.ofW (cc := cX1_kindAt) (maxL := 2) (ret := (some .int)) (by decide) rfl ?_
  intro p e s m args below meth c s₁ B hml hv
  obtain ⟨rfl, hsz, hP, hK, hD0⟩ := hv
  have hx := B.exec
  have hb := B.bytes
  have hr := B.returns
  have hts := atoms_spec (ws := wsX1_kindAt) B.pre
  have hown : s.vm.findClass RX1 = some m.cls := findClass_of_methodNamed B.named
  have hlocks := B.notSynchronized
  have hinX1 : ∀ w ∈ u_ws RX1 TX1 12, w ∈ wsX1_kindAt := fun w h => List.mem_cons_of_mem _ (List.mem_append_right _ h)
  subst hsz
  have hD := hD0.self (sz := s.heap.size)
  have hA : ∀ q : Nat, s.heap.size ≤ q → va_A (wFloor Γ q_fl q_k q_c q_a q_pa q_b q_pb vi vj vk vc va vpa vb vpb) s.heap.size q := fun q h => Or.inr h
  generalize va_A (wFloor Γ q_fl q_k q_c q_a q_pa q_b q_pb vi vj vk vc va vpa vb vpb) s.heap.size = A at hD hA ⊢
  have hS : va_S A s.heap s.heap [] := va_S.rf
  have hl := lv_entry ([.ref q_fl, .int x0]) (n := 2) (Nat.le_of_ble_eq_true rfl)
  rw [lg_entry_eq]
  generalize (lg_sl ([.ref q_fl, .int x0]) ++ List.replicate (2 - (lg_sl ([.ref q_fl, .int x0])).length) Slot.unset).toArray = ls at hl ⊢
  replace hl : lv_has ls 2 [(0, .ref q_fl), (1, .int x0)] := hl
  unfold mX1_kindAt at hm
  refine lv_iload_n hx hb dX1_kindAt_0 rfl (lv_at hl 1 rfl) ?_
  refine lv_if_lt (tgt := 22) hx hb dX1_kindAt_1 (by decide) (fun c_1 => ?_) (fun c_1 => ?_)
  · replace hm := if_s hm c_1
    refine lv_iconst (v := (1 : Int32)) hx hb dX1_kindAt_22 (by decide) ?_
    have hf0 := hm
    subst hf0
    exact W.iret (v := (1 : Int32)) hx hb hr (fun t ht hW => ⟨⟨rfl, by rw [ht]; exact hP⟩, hS.F ht⟩) hS.2.2 dX1_kindAt_23
  · replace hm := if_f hm c_1
    refine lv_iload_n hx hb dX1_kindAt_4 rfl (lv_at hl 1 rfl) ?_
    refine lv_aload_n hx hb dX1_kindAt_5 rfl (lv_at hl 0 rfl) ?_
    refine va_get (D := my_D Γ) (ci := 1) (v := .ref q_k) (C := RX1) (T := TX1) (N := 12) hx hb hts hinX1 hown hK hP 0 rfl rfl 0 (by decide) (hts (.fieldLink RX1 9 "BeltFloor$Floor" "kinds" "[I") (List.mem_of_getElem? (i := 1) rfl)) (fun _ h9 => h9) rfl dX1_kindAt_6 ?_
    refine va_alen hx hb hK hP 1 0 rfl rfl (v := (36 : Int32)) rfl dX1_kindAt_9 ?_
    refine lv_icmp_ge (tgt := 22) hx hb dX1_kindAt_10 (by decide) (fun c_2 => ?_) (fun c_2 => ?_)
    · replace hm := if_s hm c_2
      refine lv_iconst (v := (1 : Int32)) hx hb dX1_kindAt_22 (by decide) ?_
      have hf0 := hm
      subst hf0
      exact W.iret (v := (1 : Int32)) hx hb hr (fun t ht hW => ⟨⟨rfl, by rw [ht]; exact hP⟩, hS.F ht⟩) hS.2.2 dX1_kindAt_23
    · replace hm := if_f hm c_2
      refine lv_aload_n hx hb dX1_kindAt_13 rfl (lv_at hl 0 rfl) ?_
      refine va_get (D := my_D Γ) (ci := 1) (v := .ref q_k) (C := RX1) (T := TX1) (N := 12) hx hb hts hinX1 hown hK hP 0 rfl rfl 0 (by decide) (hts (.fieldLink RX1 9 "BeltFloor$Floor" "kinds" "[I") (List.mem_of_getElem? (i := 1) rfl)) (fun _ h9 => h9) rfl dX1_kindAt_14 ?_
      refine lv_iload_n hx hb dX1_kindAt_17 rfl (lv_at hl 1 rfl) ?_
      refine va_iald hx hb hK hP 1 0 rfl rfl (my_inN c_1 c_2 rfl) dX1_kindAt_18 ?_
      refine lv_goto (tgt := 23) hx hb dX1_kindAt_19 (by decide) ?_
      have hf0 := hm
      subst hf0
      exact W.iret (v := (vk x0.toNatClampNeg)) hx hb hr (fun t ht hW => ⟨⟨rfl, by rw [ht]; exact hP⟩, hS.F ht⟩) hS.2.2 dX1_kindAt_23
def mX1_crateCount (vj : Nat → Int64) : Int32 := (mJ13_bitCount_95d88 (vj 4))
set_option maxHeartbeats 4000000 in
set_option maxRecDepth 100000 in
theorem kX1_crateCount (l : Launch) (Γ : my_G) (q_fl q_k q_c q_a q_pa q_b q_pb : Nat) (vi : Nat → Int32) (vj : Nat → Int64) (vk : Nat → Int32) (vc : Nat → Int32) (va : Nat → Int32) (vpa : Nat → Int32) (vb : Nat → Int32) (vpb : Nat → Int32)  (rr : Int32) (hm : mX1_crateCount vj = rr) : Mn l yX1_crateCount wsX1_crateCount ({ frames := 1, cells := 0, slots := 0, locals := 21 } : Room) Γ [.ref q_fl] (wFloor Γ q_fl q_k q_c q_a q_pa q_b q_pb vi vj vk vc va vpa vb vpb) (some (.int rr)) (wFloor Γ q_fl q_k q_c q_a q_pa q_b q_pb vi vj vk vc va vpa vb vpb) := by
  intro sz
  refine Met.ofW (cc := cX1_crateCount) (maxL := 1) (ret := (some .int)) (by decide) rfl ?_
  intro p e s m args below meth c s₁ B hml hv
  obtain ⟨rfl, hsz, hP, hK, hD0⟩ := hv
  have hx := B.exec
  have hb := B.bytes
  have hr := B.returns
  have hts := atoms_spec (ws := wsX1_crateCount) B.pre
  have hown : s.vm.findClass RX1 = some m.cls := findClass_of_methodNamed B.named
  have hlocks := B.notSynchronized
  have hinX1 : ∀ w ∈ u_ws RX1 TX1 12, w ∈ wsX1_crateCount := fun w h => List.mem_cons_of_mem _ (List.mem_append_right _ h)
  subst hsz
  have hD := hD0.self (sz := s.heap.size)
  have hA : ∀ q : Nat, s.heap.size ≤ q → va_A (wFloor Γ q_fl q_k q_c q_a q_pa q_b q_pb vi vj vk vc va vpa vb vpb) s.heap.size q := fun q h => Or.inr h
  generalize va_A (wFloor Γ q_fl q_k q_c q_a q_pa q_b q_pb vi vj vk vc va vpa vb vpb) s.heap.size = A at hD hA ⊢
  have hS : va_S A s.heap s.heap [] := va_S.rf
  have hl := lv_entry ([.ref q_fl]) (n := 1) (Nat.le_of_ble_eq_true rfl)
  rw [lg_entry_eq]
  generalize (lg_sl ([.ref q_fl]) ++ List.replicate (1 - (lg_sl ([.ref q_fl])).length) Slot.unset).toArray = ls at hl ⊢
  replace hl : lv_has ls 1 [(0, .ref q_fl)] := hl
  unfold mX1_crateCount at hm
  refine lv_aload_n hx hb dX1_crateCount_0 rfl (lv_at hl 0 rfl) ?_
  refine va_get (D := my_D Γ) (ci := 1) (v := .long (vj 4)) (C := RX1) (T := TX1) (N := 12) hx hb hts hinX1 hown hK hP 0 rfl rfl 4 (by decide) (hts (.fieldLink RX1 34 "BeltFloor$Floor" "crates" "J") (List.mem_of_getElem? (i := 1) rfl)) (fun _ h9 => h9) rfl dX1_crateCount_1 ?_
  refine my_call1 (wc := ([] : va_W)) (w1 := ([] : va_W)) (ws1 := (wFloor Γ q_fl q_k q_c q_a q_pa q_b q_pb vi vj vk vc va vpa vb vpb)) hP hD hS hA [] rfl rfl rfl (va_runS (As := [.long (vj 4)]) (rest := []) ⟨hx, hb, hml, hown, hts⟩ (kJ13_bitCount_95d88 l Γ (vj 4) (mJ13_bitCount_95d88 (vj 4)) rfl _) (va_cwS 1 hts gX1_crateCount_J13_bitCount_95d88 rfl rfl rfl (by decide +kernel) ⟨Nat.le_of_ble_eq_true rfl, Nat.le_of_ble_eq_true rfl⟩) (my_preS (wc := ([] : va_W)) [] hK hP hD rfl rfl) rfl rfl hl.1 rfl (lv_room (Nat.le_of_ble_eq_true rfl)) dX1_crateCount_4 ⟨Nat.le_of_ble_eq_true rfl, Nat.le_of_ble_eq_true rfl⟩) (fun H locs hP hD hS => ?_)
  have hf0 := hm
  subst hf0
  exact W.iret (v := (mJ13_bitCount_95d88 (vj 4))) hx hb hr (fun t ht hW => ⟨⟨rfl, by rw [ht]; exact hP⟩, hS.F ht⟩) hS.2.2 dX1_crateCount_7
def mX1_things (vj : Nat → Int64) (va : Nat → Int32) (vb : Nat → Int32) : Int64 := (((vj 4) ||| (mX2_setOf (va 0))) ||| (mX2_setOf (vb 0)))
set_option maxHeartbeats 4000000 in
set_option maxRecDepth 100000 in
theorem kX1_things (l : Launch) (Γ : my_G) (q_fl q_k q_c q_a q_pa q_b q_pb : Nat) (vi : Nat → Int32) (vj : Nat → Int64) (vk : Nat → Int32) (vc : Nat → Int32) (va : Nat → Int32) (vpa : Nat → Int32) (vb : Nat → Int32) (vpb : Nat → Int32)  (rr : Int64) (hm : mX1_things vj va vb = rr) : Mn l yX1_things wsX1_things ({ frames := 1, cells := 0, slots := 0, locals := 20 } : Room) Γ [.ref q_fl] (wFloor Γ q_fl q_k q_c q_a q_pa q_b q_pb vi vj vk vc va vpa vb vpb) (some (.long rr)) (wFloor Γ q_fl q_k q_c q_a q_pa q_b q_pb vi vj vk vc va vpa vb vpb) := by
  intro sz
  refine Met.ofW (cc := cX1_things) (maxL := 1) (ret := (some .long)) (by decide) rfl ?_
  intro p e s m args below meth c s₁ B hml hv
  obtain ⟨rfl, hsz, hP, hK, hD0⟩ := hv
  have hx := B.exec
  have hb := B.bytes
  have hr := B.returns
  have hts := atoms_spec (ws := wsX1_things) B.pre
  have hown : s.vm.findClass RX1 = some m.cls := findClass_of_methodNamed B.named
  have hlocks := B.notSynchronized
  have hinX1 : ∀ w ∈ u_ws RX1 TX1 12, w ∈ wsX1_things := fun w h => List.mem_cons_of_mem _ (List.mem_append_left _ (List.mem_append_right _ h))
  have hinX4 : ∀ w ∈ u_ws RX4 TX4 10, w ∈ wsX1_things := fun w h => List.mem_cons_of_mem _ (List.mem_append_right _ h)
  subst hsz
  have hD := hD0.self (sz := s.heap.size)
  have hA : ∀ q : Nat, s.heap.size ≤ q → va_A (wFloor Γ q_fl q_k q_c q_a q_pa q_b q_pb vi vj vk vc va vpa vb vpb) s.heap.size q := fun q h => Or.inr h
  generalize va_A (wFloor Γ q_fl q_k q_c q_a q_pa q_b q_pb vi vj vk vc va vpa vb vpb) s.heap.size = A at hD hA ⊢
  have hS : va_S A s.heap s.heap [] := va_S.rf
  have hl := lv_entry ([.ref q_fl]) (n := 1) (Nat.le_of_ble_eq_true rfl)
  rw [lg_entry_eq]
  generalize (lg_sl ([.ref q_fl]) ++ List.replicate (1 - (lg_sl ([.ref q_fl])).length) Slot.unset).toArray = ls at hl ⊢
  replace hl : lv_has ls 1 [(0, .ref q_fl)] := hl
  unfold mX1_things at hm
  refine lv_aload_n hx hb dX1_things_0 rfl (lv_at hl 0 rfl) ?_
  refine va_get (D := my_D Γ) (ci := 1) (v := .long (vj 4)) (C := RX1) (T := TX1) (N := 12) hx hb hts hinX1 hown hK hP 0 rfl rfl 4 (by decide) (hts (.fieldLink RX1 34 "BeltFloor$Floor" "crates" "J") (List.mem_of_getElem? (i := 1) rfl)) (fun _ h9 => h9) rfl dX1_things_1 ?_
  refine lv_aload_n hx hb dX1_things_4 rfl (lv_at hl 0 rfl) ?_
  refine va_get (D := my_D Γ) (ci := 1) (v := .ref q_a) (C := RX1) (T := TX1) (N := 12) hx hb hts hinX1 hown hK hP 0 rfl rfl 2 (by decide) (hts (.fieldLink RX1 21 "BeltFloor$Floor" "first" "LBeltFloor$Robot;") (List.mem_of_getElem? (i := 2) rfl)) (fun _ h9 => h9) rfl dX1_things_5 ?_
  refine va_get (D := my_D Γ) (ci := 3) (v := .int (va 0)) (C := RX4) (T := TX4) (N := 10) hx hb hts hinX4 hown hK hP 3 rfl rfl 0 (by decide) (hts (.fieldLink RX1 70 "BeltFloor$Robot" "cell" "I") (List.mem_of_getElem? (i := 3) rfl)) (fun _ h9 => h9) rfl dX1_things_8 ?_
  refine my_call1 (wc := ([] : va_W)) (w1 := ([] : va_W)) (ws1 := (wFloor Γ q_fl q_k q_c q_a q_pa q_b q_pb vi vj vk vc va vpa vb vpb)) hP hD hS hA [] rfl rfl rfl (va_runS (As := [.int (va 0)]) (rest := [.long (vj 4)]) ⟨hx, hb, hml, hown, hts⟩ (kX2_setOf l Γ (va 0) (mX2_setOf (va 0)) rfl _) (va_cwS 1 hts gX1_things_X2_setOf rfl rfl rfl (by decide +kernel) ⟨Nat.le_of_ble_eq_true rfl, Nat.le_of_ble_eq_true rfl⟩) (my_preS (wc := ([] : va_W)) [] hK hP hD rfl rfl) rfl rfl hl.1 rfl (lv_room (Nat.le_of_ble_eq_true rfl)) dX1_things_11 ⟨Nat.le_of_ble_eq_true rfl, Nat.le_of_ble_eq_true rfl⟩) (fun H locs hP hD hS => ?_)
  refine lv_lor hx hb dX1_things_14 ?_
  refine lv_aload_n hx hb dX1_things_15 rfl (lv_at hl 0 rfl) ?_
  refine va_get (D := my_D Γ) (ci := 1) (v := .ref q_b) (C := RX1) (T := TX1) (N := 12) hx hb hts hinX1 hown hK hP 0 rfl rfl 3 (by decide) (hts (.fieldLink RX1 25 "BeltFloor$Floor" "second" "LBeltFloor$Robot;") (List.mem_of_getElem? (i := 4) rfl)) (fun _ h9 => h9) rfl dX1_things_16 ?_
  refine va_get (D := my_D Γ) (ci := 3) (v := .int (vb 0)) (C := RX4) (T := TX4) (N := 10) hx hb hts hinX4 hown hK hP 5 rfl rfl 0 (by decide) (hts (.fieldLink RX1 70 "BeltFloor$Robot" "cell" "I") (List.mem_of_getElem? (i := 3) rfl)) (fun _ h9 => h9) rfl dX1_things_19 ?_
  refine my_call1 (wc := ([] : va_W)) (w1 := ([] : va_W)) (ws1 := (wFloor Γ q_fl q_k q_c q_a q_pa q_b q_pb vi vj vk vc va vpa vb vpb)) hP hD hS hA [] rfl rfl rfl (va_runS (As := [.int (vb 0)]) (rest := [.long ((vj 4) ||| (mX2_setOf (va 0)))]) ⟨hx, hb, hml, hown, hts⟩ (kX2_setOf l Γ (vb 0) (mX2_setOf (vb 0)) rfl _) (va_cwS 1 hts gX1_things_X2_setOf rfl rfl rfl (by decide +kernel) ⟨Nat.le_of_ble_eq_true rfl, Nat.le_of_ble_eq_true rfl⟩) (my_preS (wc := ([] : va_W)) [] hK hP hD rfl rfl) rfl rfl hl.1 rfl (lv_room (Nat.le_of_ble_eq_true rfl)) dX1_things_22 ⟨Nat.le_of_ble_eq_true rfl, Nat.le_of_ble_eq_true rfl⟩) (fun H locs hP hD hS => ?_)
  refine lv_lor hx hb dX1_things_25 ?_
  have hf0 := hm
  subst hf0
  exact W.lret (v := (((vj 4) ||| (mX2_setOf (va 0))) ||| (mX2_setOf (vb 0)))) hx hb hr (fun t ht hW => ⟨⟨rfl, by rw [ht]; exact hP⟩, hS.F ht⟩) hS.2.2 dX1_things_26
def mX1_checkpointCell (vi : Nat → Int32) (vc : Nat → Int32) (x0 : Int32) : Option (Int32) := (if x0 < (1 : Int32) then (some (-1 : Int32)) else (if (vi 7) ≤ (x0 - (1 : Int32)) then (some (-1 : Int32)) else (if (4 : Int32) ≤ (x0 - (1 : Int32)) then (some (-1 : Int32)) else (if ¬ ((x0 - (1 : Int32)) < 0 ∨ 4 ≤ (x0 - (1 : Int32)).toNatClampNeg) then (some (vc (x0 - (1 : Int32)).toNatClampNeg)) else none))))
set_option maxHeartbeats 4000000 in
set_option maxRecDepth 100000 in
theorem kX1_checkpointCell (l : Launch) (Γ : my_G) (q_fl q_k q_c q_a q_pa q_b q_pb : Nat) (vi : Nat → Int32) (vj : Nat → Int64) (vk : Nat → Int32) (vc : Nat → Int32) (va : Nat → Int32) (vpa : Nat → Int32) (vb : Nat → Int32) (vpb : Nat → Int32) (x0 : Int32) (rr : Int32) (hm : mX1_checkpointCell vi vc x0 = (some rr)) : Mn l yX1_checkpointCell wsX1_checkpointCell ({ frames := 0, cells := 0, slots := 0, locals := 0 } : Room) Γ [.ref q_fl, .int x0] (wFloor Γ q_fl q_k q_c q_a q_pa q_b q_pb vi vj vk vc va vpa vb vpb) (some (.int rr)) (wFloor Γ q_fl q_k q_c q_a q_pa q_b q_pb vi vj vk vc va vpa vb vpb) := by
  intro sz
  refine Met.ofW (cc := cX1_checkpointCell) (maxL := 3) (ret := (some .int)) (by decide) rfl ?_
  intro p e s m args below meth c s₁ B hml hv
  obtain ⟨rfl, hsz, hP, hK, hD0⟩ := hv
  have hx := B.exec
  have hb := B.bytes
  have hr := B.returns
  have hts := atoms_spec (ws := wsX1_checkpointCell) B.pre
  have hown : s.vm.findClass RX1 = some m.cls := findClass_of_methodNamed B.named
  have hlocks := B.notSynchronized
  have hinX1 : ∀ w ∈ u_ws RX1 TX1 12, w ∈ wsX1_checkpointCell := fun w h => List.mem_cons_of_mem _ (List.mem_append_right _ h)
  subst hsz
  have hD := hD0.self (sz := s.heap.size)
  have hA : ∀ q : Nat, s.heap.size ≤ q → va_A (wFloor Γ q_fl q_k q_c q_a q_pa q_b q_pb vi vj vk vc va vpa vb vpb) s.heap.size q := fun q h => Or.inr h
  generalize va_A (wFloor Γ q_fl q_k q_c q_a q_pa q_b q_pb vi vj vk vc va vpa vb vpb) s.heap.size = A at hD hA ⊢
  have hS : va_S A s.heap s.heap [] := va_S.rf
  have hl := lv_entry ([.ref q_fl, .int x0]) (n := 3) (Nat.le_of_ble_eq_true rfl)
  rw [lg_entry_eq]
  generalize (lg_sl ([.ref q_fl, .int x0]) ++ List.replicate (3 - (lg_sl ([.ref q_fl, .int x0])).length) Slot.unset).toArray = ls at hl ⊢
  replace hl : lv_has ls 3 [(0, .ref q_fl), (1, .int x0)] := hl
  unfold mX1_checkpointCell at hm
  refine lv_iload_n hx hb dX1_checkpointCell_0 rfl (lv_at hl 1 rfl) ?_
  refine lv_iconst (v := (1 : Int32)) hx hb dX1_checkpointCell_1 (by decide) ?_
  refine lv_isub hx hb dX1_checkpointCell_2 ?_
  refine lv_istore_n (lv' := [(2, .int (x0 - (1 : Int32))), (0, .ref q_fl), (1, .int x0)]) hx hb dX1_checkpointCell_3 rfl hl (by decide) rfl (fun ls hl => ?_)
  refine lv_iload_n hx hb dX1_checkpointCell_4 rfl (lv_at hl 2 rfl) ?_
  refine lv_iconst (v := (1 : Int32)) hx hb dX1_checkpointCell_5 (by decide) ?_
  refine lv_icmp_lt (tgt := 35) hx hb dX1_checkpointCell_6 (by decide) (fun c_1 => ?_) (fun c_1 => ?_)
  · replace hm := if_s hm c_1
    refine lv_iconst (v := (-1 : Int32)) hx hb dX1_checkpointCell_35 (by decide) ?_
    obtain hf0 := Option.some.inj hm
    subst hf0
    exact W.iret (v := (-1 : Int32)) hx hb hr (fun t ht hW => ⟨⟨rfl, by rw [ht]; exact hP⟩, hS.F ht⟩) hS.2.2 dX1_checkpointCell_36
  · replace hm := if_f hm c_1
    refine lv_iload_n hx hb dX1_checkpointCell_9 rfl (lv_at hl 0 rfl) ?_
    refine lv_aload_n hx hb dX1_checkpointCell_10 rfl (lv_at hl 1 rfl) ?_
    refine va_get (D := my_D Γ) (ci := 1) (v := .int (vi 7)) (C := RX1) (T := TX1) (N := 12) hx hb hts hinX1 hown hK hP 0 rfl rfl 7 (by decide) (hts (.fieldLink RX1 44 "BeltFloor$Floor" "checkpointCount" "I") (List.mem_of_getElem? (i := 1) rfl)) (fun _ h9 => h9) rfl dX1_checkpointCell_11 ?_
    refine lv_icmp_ge (tgt := 35) hx hb dX1_checkpointCell_14 (by decide) (fun c_2 => ?_) (fun c_2 => ?_)
    · replace hm := if_s hm c_2
      refine lv_iconst (v := (-1 : Int32)) hx hb dX1_checkpointCell_35 (by decide) ?_
      obtain hf0 := Option.some.inj hm
      subst hf0
      exact W.iret (v := (-1 : Int32)) hx hb hr (fun t ht hW => ⟨⟨rfl, by rw [ht]; exact hP⟩, hS.F ht⟩) hS.2.2 dX1_checkpointCell_36
    · replace hm := if_f hm c_2
      refine lv_iload_n hx hb dX1_checkpointCell_17 rfl (lv_at hl 0 rfl) ?_
      refine lv_aload_n hx hb dX1_checkpointCell_18 rfl (lv_at hl 1 rfl) ?_
      refine va_get (D := my_D Γ) (ci := 1) (v := .ref q_c) (C := RX1) (T := TX1) (N := 12) hx hb hts hinX1 hown hK hP 0 rfl rfl 1 (by decide) (hts (.fieldLink RX1 15 "BeltFloor$Floor" "checkpointCells" "[I") (List.mem_of_getElem? (i := 2) rfl)) (fun _ h9 => h9) rfl dX1_checkpointCell_19 ?_
      refine va_alen hx hb hK hP 2 0 rfl rfl (v := (4 : Int32)) rfl dX1_checkpointCell_22 ?_
      refine lv_icmp_ge (tgt := 35) hx hb dX1_checkpointCell_23 (by decide) (fun c_3 => ?_) (fun c_3 => ?_)
      · replace hm := if_s hm c_3
        refine lv_iconst (v := (-1 : Int32)) hx hb dX1_checkpointCell_35 (by decide) ?_
        obtain hf0 := Option.some.inj hm
        subst hf0
        exact W.iret (v := (-1 : Int32)) hx hb hr (fun t ht hW => ⟨⟨rfl, by rw [ht]; exact hP⟩, hS.F ht⟩) hS.2.2 dX1_checkpointCell_36
      · replace hm := if_f hm c_3
        refine lv_aload_n hx hb dX1_checkpointCell_26 rfl (lv_at hl 1 rfl) ?_
        refine va_get (D := my_D Γ) (ci := 1) (v := .ref q_c) (C := RX1) (T := TX1) (N := 12) hx hb hts hinX1 hown hK hP 0 rfl rfl 1 (by decide) (hts (.fieldLink RX1 15 "BeltFloor$Floor" "checkpointCells" "[I") (List.mem_of_getElem? (i := 2) rfl)) (fun _ h9 => h9) rfl dX1_checkpointCell_27 ?_
        refine lv_iload_n hx hb dX1_checkpointCell_30 rfl (lv_at hl 0 rfl) ?_
        obtain ⟨hi_4, hm⟩ := if_in hm
        refine va_iald hx hb hK hP 2 0 rfl rfl hi_4 dX1_checkpointCell_31 ?_
        refine lv_goto (tgt := 36) hx hb dX1_checkpointCell_32 (by decide) ?_
        obtain hf0 := Option.some.inj hm
        subst hf0
        exact W.iret (v := (vc (x0 - (1 : Int32)).toNatClampNeg)) hx hb hr (fun t ht hW => ⟨⟨rfl, by rw [ht]; exact hP⟩, hS.F ht⟩) hS.2.2 dX1_checkpointCell_36
def mX1_isCheckpoint_L2  : Nat → (Nat → Int32) → (Nat → Int32) → Int32 → Int32 → Option (Int32)
  | 0, _, _, _, _ => none
  | n + 1, vi, vc, l1, l2 => (if (vi 7) < l2 then (some (0 : Int32)) else (bo1 (mX1_checkpointCell vi vc l2) (fun r_2 => (if r_2 = l1 then (some (1 : Int32)) else (mX1_isCheckpoint_L2 n vi vc l1 (l2 + (1 : Int32)))))))
def mX1_isCheckpoint (vi : Nat → Int32) (vc : Nat → Int32) (x0 : Int32) : Option (Int32) := (mX1_isCheckpoint_L2 4096 vi vc x0 (1 : Int32))
set_option maxHeartbeats 4000000 in
set_option maxRecDepth 100000 in
theorem kX1_isCheckpoint (l : Launch) (Γ : my_G) (q_fl q_k q_c q_a q_pa q_b q_pb : Nat) (vi : Nat → Int32) (vj : Nat → Int64) (vk : Nat → Int32) (vc : Nat → Int32) (va : Nat → Int32) (vpa : Nat → Int32) (vb : Nat → Int32) (vpb : Nat → Int32) (x0 : Int32) (rr : Int32) (hm : mX1_isCheckpoint vi vc x0 = (some rr)) : Mn l yX1_isCheckpoint wsX1_isCheckpoint ({ frames := 1, cells := 0, slots := 0, locals := 22 } : Room) Γ [.ref q_fl, .int x0] (wFloor Γ q_fl q_k q_c q_a q_pa q_b q_pb vi vj vk vc va vpa vb vpb) (some (.int rr)) (wFloor Γ q_fl q_k q_c q_a q_pa q_b q_pb vi vj vk vc va vpa vb vpb) := by
  intro sz
  refine Met.ofW (cc := cX1_isCheckpoint) (maxL := 3) (ret := (some .boolean)) (by decide) rfl ?_
  intro p e s m args below meth c s₁ B hml hv
  obtain ⟨rfl, hsz, hP, hK, hD0⟩ := hv
  have hx := B.exec
  have hb := B.bytes
  have hr := B.returns
  have hts := atoms_spec (ws := wsX1_isCheckpoint) B.pre
  have hown : s.vm.findClass RX1 = some m.cls := findClass_of_methodNamed B.named
  have hlocks := B.notSynchronized
  have hinX1 : ∀ w ∈ u_ws RX1 TX1 12, w ∈ wsX1_isCheckpoint := fun w h => List.mem_cons_of_mem _ (List.mem_append_right _ h)
  subst hsz
  have hD := hD0.self (sz := s.heap.size)
  have hA : ∀ q : Nat, s.heap.size ≤ q → va_A (wFloor Γ q_fl q_k q_c q_a q_pa q_b q_pb vi vj vk vc va vpa vb vpb) s.heap.size q := fun q h => Or.inr h
  generalize va_A (wFloor Γ q_fl q_k q_c q_a q_pa q_b q_pb vi vj vk vc va vpa vb vpb) s.heap.size = A at hD hA ⊢
  have hS : va_S A s.heap s.heap [] := va_S.rf
  have hl := lv_entry ([.ref q_fl, .int x0]) (n := 3) (Nat.le_of_ble_eq_true rfl)
  rw [lg_entry_eq]
  generalize (lg_sl ([.ref q_fl, .int x0]) ++ List.replicate (3 - (lg_sl ([.ref q_fl, .int x0])).length) Slot.unset).toArray = ls at hl ⊢
  replace hl : lv_has ls 3 [(0, .ref q_fl), (1, .int x0)] := hl
  have J_2 : ∀ n : Nat, ∀ (vi : Nat → Int32) (vc : Nat → Int32) (l1 : Int32) (l2 : Int32) (H : Heap) (locs : List Loc) (ls : Array Slot), va_P (my_D Γ) vwCl (wFloor Γ q_fl q_k q_c q_a q_pa q_b q_pb vi vj vk vc va vpa vb vpb) H → va_D A (wFloor Γ q_fl q_k q_c q_a q_pa q_b q_pb vi vj vk vc va vpa vb vpb) → va_S A s.heap H locs → lv_has ls 3 [(0, .ref q_fl), (1, .int l1), (2, .int l2)] → mX1_isCheckpoint_L2 n vi vc l1 l2 = (some rr) → W p l e (headSpec wsX1_isCheckpoint ({ frames := 1, cells := 0, slots := 0, locals := 22 } : Room)).room s m ([.ref q_fl, .int x0] : List Value).toArray below meth c H locs 0 0 (MQ below (my_Q Γ A (some (.int rr)) (wFloor Γ q_fl q_k q_c q_a q_pa q_b q_pb vi vj vk vc va vpa vb vpb)) ([.ref q_fl, .int x0] : List Value).toArray s 0 0 A) (F0 m 2 ls []) := by
    intro  n
    induction n with
    | zero => intro vi vc l1 l2 H locs ls hP hD hS hl hm; cases hm
    | succ n ih =>
      intro vi vc l1 l2 H locs ls hP hD hS hl hm
      unfold mX1_isCheckpoint_L2 at hm
      refine lv_iload_n hx hb dX1_isCheckpoint_2 rfl (lv_at hl 2 rfl) ?_
      refine lv_aload_n hx hb dX1_isCheckpoint_3 rfl (lv_at hl 0 rfl) ?_
      refine va_get (D := my_D Γ) (ci := 1) (v := .int (vi 7)) (C := RX1) (T := TX1) (N := 12) hx hb hts hinX1 hown hK hP 0 rfl rfl 7 (by decide) (hts (.fieldLink RX1 44 "BeltFloor$Floor" "checkpointCount" "I") (List.mem_of_getElem? (i := 1) rfl)) (fun _ h9 => h9) rfl dX1_isCheckpoint_4 ?_
      refine lv_icmp_gt (tgt := 27) hx hb dX1_isCheckpoint_7 (by decide) (fun c_1 => ?_) (fun c_1 => ?_)
      · replace hm := if_s hm c_1
        refine lv_iconst (v := (0 : Int32)) hx hb dX1_isCheckpoint_27 (by decide) ?_
        obtain hf0 := Option.some.inj hm
        subst hf0
        exact W.zret (v := (0 : Int32)) hx hb hr rfl (fun t ht hW => ⟨⟨rfl, by rw [ht]; exact hP⟩, hS.F ht⟩) hS.2.2 dX1_isCheckpoint_28
      · replace hm := if_f hm c_1
        refine lv_aload_n hx hb dX1_isCheckpoint_10 rfl (lv_at hl 0 rfl) ?_
        refine lv_iload_n hx hb dX1_isCheckpoint_11 rfl (lv_at hl 2 rfl) ?_
        obtain ⟨r_2, hc_3, hm⟩ := bo1_s hm
        refine my_call1 (wc := (wFloor Γ q_fl q_k q_c q_a q_pa q_b q_pb vi vj vk vc va vpa vb vpb)) (w1 := (wFloor Γ q_fl q_k q_c q_a q_pa q_b q_pb vi vj vk vc va vpa vb vpb)) (ws1 := (wFloor Γ q_fl q_k q_c q_a q_pa q_b q_pb vi vj vk vc va vpa vb vpb)) hP hD hS hA [0, 1, 2, 3, 4, 5, 6] rfl rfl rfl (va_runV (As := [.int l2]) (rest := []) ⟨hx, hb, hml, hown, hts⟩ (kX1_checkpointCell l Γ q_fl q_k q_c q_a q_pa q_b q_pb vi vj vk vc va vpa vb vpb l2 r_2 hc_3 _) (cwV 1 hts gX1_isCheckpoint_X1_checkpointCell rfl rfl rfl (by decide +kernel) ⟨Nat.le_of_ble_eq_true rfl, Nat.le_of_ble_eq_true rfl⟩) (my_preV (wc := (wFloor Γ q_fl q_k q_c q_a q_pa q_b q_pb vi vj vk vc va vpa vb vpb)) (ci := 1) (q0 := 0) [0, 1, 2, 3, 4, 5, 6] hK hP hD rfl rfl rfl rfl) rfl rfl hl.1 rfl (lv_room (Nat.le_of_ble_eq_true rfl)) dX1_isCheckpoint_12 ⟨Nat.le_of_ble_eq_true rfl, Nat.le_of_ble_eq_true rfl⟩) (fun H locs hP hD hS => ?_)
        refine lv_iload_n hx hb dX1_isCheckpoint_15 rfl (lv_at hl 1 rfl) ?_
        refine lv_icmp_ne (tgt := 21) hx hb dX1_isCheckpoint_16 (by decide) (fun c_4 => ?_) (fun c_4 => ?_)
        · replace hm := if_f hm c_4
          refine lv_iinc (v := (l2 + (1 : Int32))) (lv' := [(2, .int (l2 + (1 : Int32))), (0, .ref q_fl), (1, .int l1)]) hx hb dX1_isCheckpoint_21 hl (k := 2) rfl rfl (by decide) rfl (fun ls hl => ?_)
          refine lv_goto (tgt := 2) hx hb dX1_isCheckpoint_24 (by decide) ?_
          exact ih vi vc l1 (l2 + (1 : Int32)) _ _ _ hP hD hS (lv_sub hl [1, 2, 0] rfl) hm
        · replace hm := if_s hm c_4
          refine lv_iconst (v := (1 : Int32)) hx hb dX1_isCheckpoint_19 (by decide) ?_
          obtain hf0 := Option.some.inj hm
          subst hf0
          exact W.zret (v := (1 : Int32)) hx hb hr rfl (fun t ht hW => ⟨⟨rfl, by rw [ht]; exact hP⟩, hS.F ht⟩) hS.2.2 dX1_isCheckpoint_20
  unfold mX1_isCheckpoint at hm
  refine lv_iconst (v := (1 : Int32)) hx hb dX1_isCheckpoint_0 (by decide) ?_
  refine lv_istore_n (lv' := [(2, .int (1 : Int32)), (0, .ref q_fl), (1, .int x0)]) hx hb dX1_isCheckpoint_1 rfl hl (by decide) rfl (fun ls hl => ?_)
  exact J_2 4096 vi vc x0 (1 : Int32) _ _ _ hP hD hS (lv_sub hl [1, 2, 0] rfl) hm
def mX1_isBlockOrPit (vk : Nat → Int32) (x0 : Int32) : Int32 := (if (mX1_kindAt vk x0) = (1 : Int32) then (1 : Int32) else (if (mX1_kindAt vk x0) = (2 : Int32) then (1 : Int32) else (0 : Int32)))
theorem nbX1_isBlockOrPit (vk : Nat → Int32) (x0 : Int32) : narrow .boolean (.int (mX1_isBlockOrPit vk x0)) = .int (mX1_isBlockOrPit vk x0) := by
  unfold mX1_isBlockOrPit
  repeat' split
  all_goals rfl
set_option maxHeartbeats 4000000 in
set_option maxRecDepth 100000 in
theorem kX1_isBlockOrPit (l : Launch) (Γ : my_G) (q_fl q_k q_c q_a q_pa q_b q_pb : Nat) (vi : Nat → Int32) (vj : Nat → Int64) (vk : Nat → Int32) (vc : Nat → Int32) (va : Nat → Int32) (vpa : Nat → Int32) (vb : Nat → Int32) (vpb : Nat → Int32) (x0 : Int32) (rr : Int32) (hm : mX1_isBlockOrPit vk x0 = rr) : Mn l yX1_isBlockOrPit wsX1_isBlockOrPit ({ frames := 1, cells := 0, slots := 0, locals := 21 } : Room) Γ [.ref q_fl, .int x0] (wFloor Γ q_fl q_k q_c q_a q_pa q_b q_pb vi vj vk vc va vpa vb vpb) (some (.int rr)) (wFloor Γ q_fl q_k q_c q_a q_pa q_b q_pb vi vj vk vc va vpa vb vpb) := by
  intro sz
  refine Met.ofW (cc := cX1_isBlockOrPit) (maxL := 2) (ret := (some .boolean)) (by decide) rfl ?_
  intro p e s m args below meth c s₁ B hml hv
  obtain ⟨rfl, hsz, hP, hK, hD0⟩ := hv
  have hx := B.exec
  have hb := B.bytes
  have hr := B.returns
  have hts := atoms_spec (ws := wsX1_isBlockOrPit) B.pre
  have hown : s.vm.findClass RX1 = some m.cls := findClass_of_methodNamed B.named
  have hlocks := B.notSynchronized
  have hinX1 : ∀ w ∈ u_ws RX1 TX1 12, w ∈ wsX1_isBlockOrPit := fun w h => List.mem_cons_of_mem _ (List.mem_append_right _ h)
  subst hsz
  have hD := hD0.self (sz := s.heap.size)
  have hA : ∀ q : Nat, s.heap.size ≤ q → va_A (wFloor Γ q_fl q_k q_c q_a q_pa q_b q_pb vi vj vk vc va vpa vb vpb) s.heap.size q := fun q h => Or.inr h
  generalize va_A (wFloor Γ q_fl q_k q_c q_a q_pa q_b q_pb vi vj vk vc va vpa vb vpb) s.heap.size = A at hD hA ⊢
  have hS : va_S A s.heap s.heap [] := va_S.rf
  have hl := lv_entry ([.ref q_fl, .int x0]) (n := 2) (Nat.le_of_ble_eq_true rfl)
  rw [lg_entry_eq]
  generalize (lg_sl ([.ref q_fl, .int x0]) ++ List.replicate (2 - (lg_sl ([.ref q_fl, .int x0])).length) Slot.unset).toArray = ls at hl ⊢
  replace hl : lv_has ls 2 [(0, .ref q_fl), (1, .int x0)] := hl
  unfold mX1_isBlockOrPit at hm
  refine lv_aload_n hx hb dX1_isBlockOrPit_0 rfl (lv_at hl 0 rfl) ?_
  refine lv_iload_n hx hb dX1_isBlockOrPit_1 rfl (lv_at hl 1 rfl) ?_
  refine my_call1 (wc := (wFloor Γ q_fl q_k q_c q_a q_pa q_b q_pb vi vj vk vc va vpa vb vpb)) (w1 := (wFloor Γ q_fl q_k q_c q_a q_pa q_b q_pb vi vj vk vc va vpa vb vpb)) (ws1 := (wFloor Γ q_fl q_k q_c q_a q_pa q_b q_pb vi vj vk vc va vpa vb vpb)) hP hD hS hA [0, 1, 2, 3, 4, 5, 6] rfl rfl rfl (va_runV (As := [.int x0]) (rest := []) ⟨hx, hb, hml, hown, hts⟩ (kX1_kindAt l Γ q_fl q_k q_c q_a q_pa q_b q_pb vi vj vk vc va vpa vb vpb x0 (mX1_kindAt vk x0) rfl _) (cwV 1 hts gX1_isBlockOrPit_X1_kindAt rfl rfl rfl (by decide +kernel) ⟨Nat.le_of_ble_eq_true rfl, Nat.le_of_ble_eq_true rfl⟩) (my_preV (wc := (wFloor Γ q_fl q_k q_c q_a q_pa q_b q_pb vi vj vk vc va vpa vb vpb)) (ci := 1) (q0 := 0) [0, 1, 2, 3, 4, 5, 6] hK hP hD rfl rfl rfl rfl) rfl rfl hl.1 rfl (lv_room (Nat.le_of_ble_eq_true rfl)) dX1_isBlockOrPit_2 ⟨Nat.le_of_ble_eq_true rfl, Nat.le_of_ble_eq_true rfl⟩) (fun H locs hP hD hS => ?_)
  refine lv_iconst (v := (1 : Int32)) hx hb dX1_isBlockOrPit_5 (by decide) ?_
  refine lv_icmp_eq (tgt := 18) hx hb dX1_isBlockOrPit_6 (by decide) (fun c_1 => ?_) (fun c_1 => ?_)
  · replace hm := if_s hm c_1
    refine lv_iconst (v := (1 : Int32)) hx hb dX1_isBlockOrPit_18 (by decide) ?_
    refine lv_goto (tgt := 23) hx hb dX1_isBlockOrPit_19 (by decide) ?_
    have hf0 := hm
    subst hf0
    exact W.zret (v := (1 : Int32)) hx hb hr rfl (fun t ht hW => ⟨⟨rfl, by rw [ht]; exact hP⟩, hS.F ht⟩) hS.2.2 dX1_isBlockOrPit_23
  · replace hm := if_f hm c_1
    refine lv_aload_n hx hb dX1_isBlockOrPit_9 rfl (lv_at hl 0 rfl) ?_
    refine lv_iload_n hx hb dX1_isBlockOrPit_10 rfl (lv_at hl 1 rfl) ?_
    refine my_call1 (wc := (wFloor Γ q_fl q_k q_c q_a q_pa q_b q_pb vi vj vk vc va vpa vb vpb)) (w1 := (wFloor Γ q_fl q_k q_c q_a q_pa q_b q_pb vi vj vk vc va vpa vb vpb)) (ws1 := (wFloor Γ q_fl q_k q_c q_a q_pa q_b q_pb vi vj vk vc va vpa vb vpb)) hP hD hS hA [0, 1, 2, 3, 4, 5, 6] rfl rfl rfl (va_runV (As := [.int x0]) (rest := []) ⟨hx, hb, hml, hown, hts⟩ (kX1_kindAt l Γ q_fl q_k q_c q_a q_pa q_b q_pb vi vj vk vc va vpa vb vpb x0 (mX1_kindAt vk x0) rfl _) (cwV 1 hts gX1_isBlockOrPit_X1_kindAt rfl rfl rfl (by decide +kernel) ⟨Nat.le_of_ble_eq_true rfl, Nat.le_of_ble_eq_true rfl⟩) (my_preV (wc := (wFloor Γ q_fl q_k q_c q_a q_pa q_b q_pb vi vj vk vc va vpa vb vpb)) (ci := 1) (q0 := 0) [0, 1, 2, 3, 4, 5, 6] hK hP hD rfl rfl rfl rfl) rfl rfl hl.1 rfl (lv_room (Nat.le_of_ble_eq_true rfl)) dX1_isBlockOrPit_11 ⟨Nat.le_of_ble_eq_true rfl, Nat.le_of_ble_eq_true rfl⟩) (fun H locs hP hD hS => ?_)
    refine lv_iconst (v := (2 : Int32)) hx hb dX1_isBlockOrPit_14 (by decide) ?_
    refine lv_icmp_ne (tgt := 22) hx hb dX1_isBlockOrPit_15 (by decide) (fun c_2 => ?_) (fun c_2 => ?_)
    · replace hm := if_f hm c_2
      refine lv_iconst (v := (0 : Int32)) hx hb dX1_isBlockOrPit_22 (by decide) ?_
      have hf0 := hm
      subst hf0
      exact W.zret (v := (0 : Int32)) hx hb hr rfl (fun t ht hW => ⟨⟨rfl, by rw [ht]; exact hP⟩, hS.F ht⟩) hS.2.2 dX1_isBlockOrPit_23
    · replace hm := if_s hm c_2
      refine lv_iconst (v := (1 : Int32)) hx hb dX1_isBlockOrPit_18 (by decide) ?_
      refine lv_goto (tgt := 23) hx hb dX1_isBlockOrPit_19 (by decide) ?_
      have hf0 := hm
      subst hf0
      exact W.zret (v := (1 : Int32)) hx hb hr rfl (fun t ht hW => ⟨⟨rfl, by rw [ht]; exact hP⟩, hS.F ht⟩) hS.2.2 dX1_isBlockOrPit_23
def mX1_refusesKind_J10  (vi : Nat → Int32) (vj : Nat → Int64) (vc : Nat → Int32) (va : Nat → Int32) (vb : Nat → Int32) (l1 : Int32) : Option (Int32) := (if (mX2_holds (mX1_things vj va vb) l1) = 0 then (bo1 (mX1_isCheckpoint vi vc l1) (fun r_3 => (if r_3 = 0 then (some (0 : Int32)) else (some (1 : Int32))))) else (some (1 : Int32)))
def mX1_refusesKind (vi : Nat → Int32) (vj : Nat → Int64) (vc : Nat → Int32) (va : Nat → Int32) (vb : Nat → Int32) (x0 : Int32) (x1 : Int32) : Option (Int32) := (if x1 = (1 : Int32) then (mX1_refusesKind_J10 vi vj vc va vb x0) else (if x1 = (2 : Int32) then (mX1_refusesKind_J10 vi vj vc va vb x0) else (some (0 : Int32))))
set_option maxHeartbeats 4000000 in
set_option maxRecDepth 100000 in
theorem kX1_refusesKind (l : Launch) (Γ : my_G) (q_fl q_k q_c q_a q_pa q_b q_pb : Nat) (vi : Nat → Int32) (vj : Nat → Int64) (vk : Nat → Int32) (vc : Nat → Int32) (va : Nat → Int32) (vpa : Nat → Int32) (vb : Nat → Int32) (vpb : Nat → Int32) (x0 : Int32) (x1 : Int32) (rr : Int32) (hm : mX1_refusesKind vi vj vc va vb x0 x1 = (some rr)) : Mn l yX1_refusesKind wsX1_refusesKind ({ frames := 2, cells := 0, slots := 0, locals := 44 } : Room) Γ [.ref q_fl, .int x0, .int x1] (wFloor Γ q_fl q_k q_c q_a q_pa q_b q_pb vi vj vk vc va vpa vb vpb) (some (.int rr)) (wFloor Γ q_fl q_k q_c q_a q_pa q_b q_pb vi vj vk vc va vpa vb vpb) := by
  intro sz
  refine Met.ofW (cc := cX1_refusesKind) (maxL := 3) (ret := (some .boolean)) (by decide) rfl ?_
  intro p e s m args below meth c s₁ B hml hv
  obtain ⟨rfl, hsz, hP, hK, hD0⟩ := hv
  have hx := B.exec
  have hb := B.bytes
  have hr := B.returns
  have hts := atoms_spec (ws := wsX1_refusesKind) B.pre
  have hown : s.vm.findClass RX1 = some m.cls := findClass_of_methodNamed B.named
  have hlocks := B.notSynchronized
  have hinX1 : ∀ w ∈ u_ws RX1 TX1 12, w ∈ wsX1_refusesKind := fun w h => List.mem_cons_of_mem _ (List.mem_append_left _ (List.mem_append_right _ h))
  have hinX4 : ∀ w ∈ u_ws RX4 TX4 10, w ∈ wsX1_refusesKind := fun w h => List.mem_cons_of_mem _ (List.mem_append_right _ h)
  subst hsz
  have hD := hD0.self (sz := s.heap.size)
  have hA : ∀ q : Nat, s.heap.size ≤ q → va_A (wFloor Γ q_fl q_k q_c q_a q_pa q_b q_pb vi vj vk vc va vpa vb vpb) s.heap.size q := fun q h => Or.inr h
  generalize va_A (wFloor Γ q_fl q_k q_c q_a q_pa q_b q_pb vi vj vk vc va vpa vb vpb) s.heap.size = A at hD hA ⊢
  have hS : va_S A s.heap s.heap [] := va_S.rf
  have hl := lv_entry ([.ref q_fl, .int x0, .int x1]) (n := 3) (Nat.le_of_ble_eq_true rfl)
  rw [lg_entry_eq]
  generalize (lg_sl ([.ref q_fl, .int x0, .int x1]) ++ List.replicate (3 - (lg_sl ([.ref q_fl, .int x0, .int x1])).length) Slot.unset).toArray = ls at hl ⊢
  replace hl : lv_has ls 3 [(0, .ref q_fl), (1, .int x0), (2, .int x1)] := hl
  have J_10 : ∀ (vi : Nat → Int32) (vj : Nat → Int64) (vc : Nat → Int32) (va : Nat → Int32) (vb : Nat → Int32) (l1 : Int32) (H : Heap) (locs : List Loc) (ls : Array Slot), va_P (my_D Γ) vwCl (wFloor Γ q_fl q_k q_c q_a q_pa q_b q_pb vi vj vk vc va vpa vb vpb) H → va_D A (wFloor Γ q_fl q_k q_c q_a q_pa q_b q_pb vi vj vk vc va vpa vb vpb) → va_S A s.heap H locs → lv_has ls 3 [(0, .ref q_fl), (1, .int l1)] → mX1_refusesKind_J10 vi vj vc va vb l1 = (some rr) → W p l e (headSpec wsX1_refusesKind ({ frames := 2, cells := 0, slots := 0, locals := 44 } : Room)).room s m ([.ref q_fl, .int x0, .int x1] : List Value).toArray below meth c H locs 0 0 (MQ below (my_Q Γ A (some (.int rr)) (wFloor Γ q_fl q_k q_c q_a q_pa q_b q_pb vi vj vk vc va vpa vb vpb)) ([.ref q_fl, .int x0, .int x1] : List Value).toArray s 0 0 A) (F0 m 10 ls []) := by
    intro  vi vj vc va vb l1 H locs ls hP hD hS hl hm
    unfold mX1_refusesKind_J10 at hm
    refine lv_aload_n hx hb dX1_refusesKind_10 rfl (lv_at hl 0 rfl) ?_
    refine my_call1 (wc := (wFloor Γ q_fl q_k q_c q_a q_pa q_b q_pb vi vj vk vc va vpa vb vpb)) (w1 := (wFloor Γ q_fl q_k q_c q_a q_pa q_b q_pb vi vj vk vc va vpa vb vpb)) (ws1 := (wFloor Γ q_fl q_k q_c q_a q_pa q_b q_pb vi vj vk vc va vpa vb vpb)) hP hD hS hA [0, 1, 2, 3, 4, 5, 6] rfl rfl rfl (va_runV (As := []) (rest := []) ⟨hx, hb, hml, hown, hts⟩ (kX1_things l Γ q_fl q_k q_c q_a q_pa q_b q_pb vi vj vk vc va vpa vb vpb (mX1_things vj va vb) rfl _) (cwV 0 hts gX1_refusesKind_X1_things rfl rfl rfl (by decide +kernel) ⟨Nat.le_of_ble_eq_true rfl, Nat.le_of_ble_eq_true rfl⟩) (my_preV (wc := (wFloor Γ q_fl q_k q_c q_a q_pa q_b q_pb vi vj vk vc va vpa vb vpb)) (ci := 1) (q0 := 0) [0, 1, 2, 3, 4, 5, 6] hK hP hD rfl rfl rfl rfl) rfl rfl hl.1 rfl (lv_room (Nat.le_of_ble_eq_true rfl)) dX1_refusesKind_11 ⟨Nat.le_of_ble_eq_true rfl, Nat.le_of_ble_eq_true rfl⟩) (fun H locs hP hD hS => ?_)
    refine lv_iload_n hx hb dX1_refusesKind_14 rfl (lv_at hl 1 rfl) ?_
    refine my_call1 (wc := ([] : va_W)) (w1 := ([] : va_W)) (ws1 := (wFloor Γ q_fl q_k q_c q_a q_pa q_b q_pb vi vj vk vc va vpa vb vpb)) hP hD hS hA [] rfl rfl rfl (va_runS (As := [.long (mX1_things vj va vb), .int l1]) (rest := []) ⟨hx, hb, hml, hown, hts⟩ (kX2_holds l Γ (mX1_things vj va vb) l1 (mX2_holds (mX1_things vj va vb) l1) rfl _) (va_cwS 2 hts gX1_refusesKind_X2_holds rfl rfl rfl (by decide +kernel) ⟨Nat.le_of_ble_eq_true rfl, Nat.le_of_ble_eq_true rfl⟩) (my_preS (wc := ([] : va_W)) [] hK hP hD rfl rfl) rfl rfl hl.1 rfl (lv_room (Nat.le_of_ble_eq_true rfl)) dX1_refusesKind_15 ⟨Nat.le_of_ble_eq_true rfl, Nat.le_of_ble_eq_true rfl⟩) (fun H locs hP hD hS => ?_)
    refine lv_if_ne (tgt := 29) hx hb dX1_refusesKind_18 (by decide) (fun c_2 => ?_) (fun c_2 => ?_)
    · replace hm := if_f hm c_2
      refine lv_iconst (v := (1 : Int32)) hx hb dX1_refusesKind_29 (by decide) ?_
      refine lv_goto (tgt := 34) hx hb dX1_refusesKind_30 (by decide) ?_
      obtain hf0 := Option.some.inj hm
      subst hf0
      exact W.zret (v := (1 : Int32)) hx hb hr rfl (fun t ht hW => ⟨⟨rfl, by rw [ht]; exact hP⟩, hS.F ht⟩) hS.2.2 dX1_refusesKind_34
    · replace hm := if_s hm c_2
      refine lv_aload_n hx hb dX1_refusesKind_21 rfl (lv_at hl 0 rfl) ?_
      refine lv_iload_n hx hb dX1_refusesKind_22 rfl (lv_at hl 1 rfl) ?_
      obtain ⟨r_3, hc_4, hm⟩ := bo1_s hm
      refine my_call1 (wc := (wFloor Γ q_fl q_k q_c q_a q_pa q_b q_pb vi vj vk vc va vpa vb vpb)) (w1 := (wFloor Γ q_fl q_k q_c q_a q_pa q_b q_pb vi vj vk vc va vpa vb vpb)) (ws1 := (wFloor Γ q_fl q_k q_c q_a q_pa q_b q_pb vi vj vk vc va vpa vb vpb)) hP hD hS hA [0, 1, 2, 3, 4, 5, 6] rfl rfl rfl (va_runV (As := [.int l1]) (rest := []) ⟨hx, hb, hml, hown, hts⟩ (kX1_isCheckpoint l Γ q_fl q_k q_c q_a q_pa q_b q_pb vi vj vk vc va vpa vb vpb l1 r_3 hc_4 _) (cwV 1 hts gX1_refusesKind_X1_isCheckpoint rfl rfl rfl (by decide +kernel) ⟨Nat.le_of_ble_eq_true rfl, Nat.le_of_ble_eq_true rfl⟩) (my_preV (wc := (wFloor Γ q_fl q_k q_c q_a q_pa q_b q_pb vi vj vk vc va vpa vb vpb)) (ci := 1) (q0 := 0) [0, 1, 2, 3, 4, 5, 6] hK hP hD rfl rfl rfl rfl) rfl rfl hl.1 rfl (lv_room (Nat.le_of_ble_eq_true rfl)) dX1_refusesKind_23 ⟨Nat.le_of_ble_eq_true rfl, Nat.le_of_ble_eq_true rfl⟩) (fun H locs hP hD hS => ?_)
      refine lv_if_eq (tgt := 33) hx hb dX1_refusesKind_26 (by decide) (fun c_5 => ?_) (fun c_5 => ?_)
      · replace hm := if_s hm c_5
        refine lv_iconst (v := (0 : Int32)) hx hb dX1_refusesKind_33 (by decide) ?_
        obtain hf0 := Option.some.inj hm
        subst hf0
        exact W.zret (v := (0 : Int32)) hx hb hr rfl (fun t ht hW => ⟨⟨rfl, by rw [ht]; exact hP⟩, hS.F ht⟩) hS.2.2 dX1_refusesKind_34
      · replace hm := if_f hm c_5
        refine lv_iconst (v := (1 : Int32)) hx hb dX1_refusesKind_29 (by decide) ?_
        refine lv_goto (tgt := 34) hx hb dX1_refusesKind_30 (by decide) ?_
        obtain hf0 := Option.some.inj hm
        subst hf0
        exact W.zret (v := (1 : Int32)) hx hb hr rfl (fun t ht hW => ⟨⟨rfl, by rw [ht]; exact hP⟩, hS.F ht⟩) hS.2.2 dX1_refusesKind_34
  unfold mX1_refusesKind at hm
  refine lv_iload_n hx hb dX1_refusesKind_0 rfl (lv_at hl 2 rfl) ?_
  refine lv_iconst (v := (1 : Int32)) hx hb dX1_refusesKind_1 (by decide) ?_
  refine lv_icmp_eq (tgt := 10) hx hb dX1_refusesKind_2 (by decide) (fun c_1 => ?_) (fun c_1 => ?_)
  · replace hm := if_s hm c_1
    exact J_10 vi vj vc va vb x0 _ _ _ hP hD hS (lv_sub hl [0, 1] rfl) hm
  · replace hm := if_f hm c_1
    refine lv_iload_n hx hb dX1_refusesKind_5 rfl (lv_at hl 2 rfl) ?_
    refine lv_iconst (v := (2 : Int32)) hx hb dX1_refusesKind_6 (by decide) ?_
    refine lv_icmp_ne (tgt := 33) hx hb dX1_refusesKind_7 (by decide) (fun c_6 => ?_) (fun c_6 => ?_)
    · replace hm := if_f hm c_6
      refine lv_iconst (v := (0 : Int32)) hx hb dX1_refusesKind_33 (by decide) ?_
      obtain hf0 := Option.some.inj hm
      subst hf0
      exact W.zret (v := (0 : Int32)) hx hb hr rfl (fun t ht hW => ⟨⟨rfl, by rw [ht]; exact hP⟩, hS.F ht⟩) hS.2.2 dX1_refusesKind_34
    · replace hm := if_s hm c_6
      exact J_10 vi vj vc va vb x0 _ _ _ hP hD hS (lv_sub hl [0, 1] rfl) hm
def mX1_refusesCrate (vj : Nat → Int64) (vk : Nat → Int32) (va : Nat → Int32) (vb : Nat → Int32) (x0 : Int32) : Int32 := (if (mX1_isBlockOrPit vk x0) = 0 then (if (mX2_holds (mX1_things vj va vb) x0) = 0 then (if (mX1_crateCount vj) < (8 : Int32) then (0 : Int32) else (1 : Int32)) else (1 : Int32)) else (1 : Int32))
theorem nbX1_refusesCrate (vj : Nat → Int64) (vk : Nat → Int32) (va : Nat → Int32) (vb : Nat → Int32) (x0 : Int32) : narrow .boolean (.int (mX1_refusesCrate vj vk va vb x0)) = .int (mX1_refusesCrate vj vk va vb x0) := by
  unfold mX1_refusesCrate
  repeat' split
  all_goals rfl
set_option maxHeartbeats 4000000 in
set_option maxRecDepth 100000 in
theorem kX1_refusesCrate (l : Launch) (Γ : my_G) (q_fl q_k q_c q_a q_pa q_b q_pb : Nat) (vi : Nat → Int32) (vj : Nat → Int64) (vk : Nat → Int32) (vc : Nat → Int32) (va : Nat → Int32) (vpa : Nat → Int32) (vb : Nat → Int32) (vpb : Nat → Int32) (x0 : Int32) (rr : Int32) (hm : mX1_refusesCrate vj vk va vb x0 = rr) : Mn l yX1_refusesCrate wsX1_refusesCrate ({ frames := 2, cells := 0, slots := 0, locals := 42 } : Room) Γ [.ref q_fl, .int x0] (wFloor Γ q_fl q_k q_c q_a q_pa q_b q_pb vi vj vk vc va vpa vb vpb) (some (.int rr)) (wFloor Γ q_fl q_k q_c q_a q_pa q_b q_pb vi vj vk vc va vpa vb vpb) := by
  intro sz
  refine Met.ofW (cc := cX1_refusesCrate) (maxL := 2) (ret := (some .boolean)) (by decide) rfl ?_
  intro p e s m args below meth c s₁ B hml hv
  obtain ⟨rfl, hsz, hP, hK, hD0⟩ := hv
  have hx := B.exec
  have hb := B.bytes
  have hr := B.returns
  have hts := atoms_spec (ws := wsX1_refusesCrate) B.pre
  have hown : s.vm.findClass RX1 = some m.cls := findClass_of_methodNamed B.named
  have hlocks := B.notSynchronized
  have hinX1 : ∀ w ∈ u_ws RX1 TX1 12, w ∈ wsX1_refusesCrate := fun w h => List.mem_cons_of_mem _ (List.mem_append_left _ (List.mem_append_right _ h))
  have hinX4 : ∀ w ∈ u_ws RX4 TX4 10, w ∈ wsX1_refusesCrate := fun w h => List.mem_cons_of_mem _ (List.mem_append_right _ h)
  subst hsz
  have hD := hD0.self (sz := s.heap.size)
  have hA : ∀ q : Nat, s.heap.size ≤ q → va_A (wFloor Γ q_fl q_k q_c q_a q_pa q_b q_pb vi vj vk vc va vpa vb vpb) s.heap.size q := fun q h => Or.inr h
  generalize va_A (wFloor Γ q_fl q_k q_c q_a q_pa q_b q_pb vi vj vk vc va vpa vb vpb) s.heap.size = A at hD hA ⊢
  have hS : va_S A s.heap s.heap [] := va_S.rf
  have hl := lv_entry ([.ref q_fl, .int x0]) (n := 2) (Nat.le_of_ble_eq_true rfl)
  rw [lg_entry_eq]
  generalize (lg_sl ([.ref q_fl, .int x0]) ++ List.replicate (2 - (lg_sl ([.ref q_fl, .int x0])).length) Slot.unset).toArray = ls at hl ⊢
  replace hl : lv_has ls 2 [(0, .ref q_fl), (1, .int x0)] := hl
  unfold mX1_refusesCrate at hm
  refine lv_aload_n hx hb dX1_refusesCrate_0 rfl (lv_at hl 0 rfl) ?_
  refine lv_iload_n hx hb dX1_refusesCrate_1 rfl (lv_at hl 1 rfl) ?_
  refine my_call1 (wc := (wFloor Γ q_fl q_k q_c q_a q_pa q_b q_pb vi vj vk vc va vpa vb vpb)) (w1 := (wFloor Γ q_fl q_k q_c q_a q_pa q_b q_pb vi vj vk vc va vpa vb vpb)) (ws1 := (wFloor Γ q_fl q_k q_c q_a q_pa q_b q_pb vi vj vk vc va vpa vb vpb)) hP hD hS hA [0, 1, 2, 3, 4, 5, 6] rfl rfl rfl (va_runV (As := [.int x0]) (rest := []) ⟨hx, hb, hml, hown, hts⟩ (kX1_isBlockOrPit l Γ q_fl q_k q_c q_a q_pa q_b q_pb vi vj vk vc va vpa vb vpb x0 (mX1_isBlockOrPit vk x0) rfl _) (cwV 1 hts gX1_refusesCrate_X1_isBlockOrPit rfl rfl rfl (by decide +kernel) ⟨Nat.le_of_ble_eq_true rfl, Nat.le_of_ble_eq_true rfl⟩) (my_preV (wc := (wFloor Γ q_fl q_k q_c q_a q_pa q_b q_pb vi vj vk vc va vpa vb vpb)) (ci := 1) (q0 := 0) [0, 1, 2, 3, 4, 5, 6] hK hP hD rfl rfl rfl rfl) rfl rfl hl.1 rfl (lv_room (Nat.le_of_ble_eq_true rfl)) dX1_refusesCrate_2 ⟨Nat.le_of_ble_eq_true rfl, Nat.le_of_ble_eq_true rfl⟩) (fun H locs hP hD hS => ?_)
  refine lv_if_ne (tgt := 28) hx hb dX1_refusesCrate_5 (by decide) (fun c_1 => ?_) (fun c_1 => ?_)
  · replace hm := if_f hm c_1
    refine lv_iconst (v := (1 : Int32)) hx hb dX1_refusesCrate_28 (by decide) ?_
    refine lv_goto (tgt := 33) hx hb dX1_refusesCrate_29 (by decide) ?_
    have hf0 := hm
    subst hf0
    exact W.zret (v := (1 : Int32)) hx hb hr rfl (fun t ht hW => ⟨⟨rfl, by rw [ht]; exact hP⟩, hS.F ht⟩) hS.2.2 dX1_refusesCrate_33
  · replace hm := if_s hm c_1
    refine lv_aload_n hx hb dX1_refusesCrate_8 rfl (lv_at hl 0 rfl) ?_
    refine my_call1 (wc := (wFloor Γ q_fl q_k q_c q_a q_pa q_b q_pb vi vj vk vc va vpa vb vpb)) (w1 := (wFloor Γ q_fl q_k q_c q_a q_pa q_b q_pb vi vj vk vc va vpa vb vpb)) (ws1 := (wFloor Γ q_fl q_k q_c q_a q_pa q_b q_pb vi vj vk vc va vpa vb vpb)) hP hD hS hA [0, 1, 2, 3, 4, 5, 6] rfl rfl rfl (va_runV (As := []) (rest := []) ⟨hx, hb, hml, hown, hts⟩ (kX1_things l Γ q_fl q_k q_c q_a q_pa q_b q_pb vi vj vk vc va vpa vb vpb (mX1_things vj va vb) rfl _) (cwV 0 hts gX1_refusesCrate_X1_things rfl rfl rfl (by decide +kernel) ⟨Nat.le_of_ble_eq_true rfl, Nat.le_of_ble_eq_true rfl⟩) (my_preV (wc := (wFloor Γ q_fl q_k q_c q_a q_pa q_b q_pb vi vj vk vc va vpa vb vpb)) (ci := 1) (q0 := 0) [0, 1, 2, 3, 4, 5, 6] hK hP hD rfl rfl rfl rfl) rfl rfl hl.1 rfl (lv_room (Nat.le_of_ble_eq_true rfl)) dX1_refusesCrate_9 ⟨Nat.le_of_ble_eq_true rfl, Nat.le_of_ble_eq_true rfl⟩) (fun H locs hP hD hS => ?_)
    refine lv_iload_n hx hb dX1_refusesCrate_12 rfl (lv_at hl 1 rfl) ?_
    refine my_call1 (wc := ([] : va_W)) (w1 := ([] : va_W)) (ws1 := (wFloor Γ q_fl q_k q_c q_a q_pa q_b q_pb vi vj vk vc va vpa vb vpb)) hP hD hS hA [] rfl rfl rfl (va_runS (As := [.long (mX1_things vj va vb), .int x0]) (rest := []) ⟨hx, hb, hml, hown, hts⟩ (kX2_holds l Γ (mX1_things vj va vb) x0 (mX2_holds (mX1_things vj va vb) x0) rfl _) (va_cwS 2 hts gX1_refusesCrate_X2_holds rfl rfl rfl (by decide +kernel) ⟨Nat.le_of_ble_eq_true rfl, Nat.le_of_ble_eq_true rfl⟩) (my_preS (wc := ([] : va_W)) [] hK hP hD rfl rfl) rfl rfl hl.1 rfl (lv_room (Nat.le_of_ble_eq_true rfl)) dX1_refusesCrate_13 ⟨Nat.le_of_ble_eq_true rfl, Nat.le_of_ble_eq_true rfl⟩) (fun H locs hP hD hS => ?_)
    refine lv_if_ne (tgt := 28) hx hb dX1_refusesCrate_16 (by decide) (fun c_2 => ?_) (fun c_2 => ?_)
    · replace hm := if_f hm c_2
      refine lv_iconst (v := (1 : Int32)) hx hb dX1_refusesCrate_28 (by decide) ?_
      refine lv_goto (tgt := 33) hx hb dX1_refusesCrate_29 (by decide) ?_
      have hf0 := hm
      subst hf0
      exact W.zret (v := (1 : Int32)) hx hb hr rfl (fun t ht hW => ⟨⟨rfl, by rw [ht]; exact hP⟩, hS.F ht⟩) hS.2.2 dX1_refusesCrate_33
    · replace hm := if_s hm c_2
      refine lv_aload_n hx hb dX1_refusesCrate_19 rfl (lv_at hl 0 rfl) ?_
      refine my_call1 (wc := (wFloor Γ q_fl q_k q_c q_a q_pa q_b q_pb vi vj vk vc va vpa vb vpb)) (w1 := (wFloor Γ q_fl q_k q_c q_a q_pa q_b q_pb vi vj vk vc va vpa vb vpb)) (ws1 := (wFloor Γ q_fl q_k q_c q_a q_pa q_b q_pb vi vj vk vc va vpa vb vpb)) hP hD hS hA [0, 1, 2, 3, 4, 5, 6] rfl rfl rfl (va_runV (As := []) (rest := []) ⟨hx, hb, hml, hown, hts⟩ (kX1_crateCount l Γ q_fl q_k q_c q_a q_pa q_b q_pb vi vj vk vc va vpa vb vpb (mX1_crateCount vj) rfl _) (cwV 0 hts gX1_refusesCrate_X1_crateCount rfl rfl rfl (by decide +kernel) ⟨Nat.le_of_ble_eq_true rfl, Nat.le_of_ble_eq_true rfl⟩) (my_preV (wc := (wFloor Γ q_fl q_k q_c q_a q_pa q_b q_pb vi vj vk vc va vpa vb vpb)) (ci := 1) (q0 := 0) [0, 1, 2, 3, 4, 5, 6] hK hP hD rfl rfl rfl rfl) rfl rfl hl.1 rfl (lv_room (Nat.le_of_ble_eq_true rfl)) dX1_refusesCrate_20 ⟨Nat.le_of_ble_eq_true rfl, Nat.le_of_ble_eq_true rfl⟩) (fun H locs hP hD hS => ?_)
      refine lv_bipush (v := (8 : Int32)) hx hb dX1_refusesCrate_23 (by decide) ?_
      refine lv_icmp_lt (tgt := 32) hx hb dX1_refusesCrate_25 (by decide) (fun c_3 => ?_) (fun c_3 => ?_)
      · replace hm := if_s hm c_3
        refine lv_iconst (v := (0 : Int32)) hx hb dX1_refusesCrate_32 (by decide) ?_
        have hf0 := hm
        subst hf0
        exact W.zret (v := (0 : Int32)) hx hb hr rfl (fun t ht hW => ⟨⟨rfl, by rw [ht]; exact hP⟩, hS.F ht⟩) hS.2.2 dX1_refusesCrate_33
      · replace hm := if_f hm c_3
        refine lv_iconst (v := (1 : Int32)) hx hb dX1_refusesCrate_28 (by decide) ?_
        refine lv_goto (tgt := 33) hx hb dX1_refusesCrate_29 (by decide) ?_
        have hf0 := hm
        subst hf0
        exact W.zret (v := (1 : Int32)) hx hb hr rfl (fun t ht hW => ⟨⟨rfl, by rw [ht]; exact hP⟩, hS.F ht⟩) hS.2.2 dX1_refusesCrate_33
def mX1_refusesCheckpoint (vi : Nat → Int32) (vk : Nat → Int32) (vc : Nat → Int32) (x0 : Int32) : Option (Int32) := (if (mX1_isBlockOrPit vk x0) = 0 then (bo1 (mX1_isCheckpoint vi vc x0) (fun r_2 => (if r_2 = 0 then (if (vi 7) < (4 : Int32) then (some (0 : Int32)) else (some (1 : Int32))) else (some (1 : Int32))))) else (some (1 : Int32)))
set_option maxHeartbeats 4000000 in
set_option maxRecDepth 100000 in
theorem kX1_refusesCheckpoint (l : Launch) (Γ : my_G) (q_fl q_k q_c q_a q_pa q_b q_pb : Nat) (vi : Nat → Int32) (vj : Nat → Int64) (vk : Nat → Int32) (vc : Nat → Int32) (va : Nat → Int32) (vpa : Nat → Int32) (vb : Nat → Int32) (vpb : Nat → Int32) (x0 : Int32) (rr : Int32) (hm : mX1_refusesCheckpoint vi vk vc x0 = (some rr)) : Mn l yX1_refusesCheckpoint wsX1_refusesCheckpoint ({ frames := 2, cells := 0, slots := 0, locals := 44 } : Room) Γ [.ref q_fl, .int x0] (wFloor Γ q_fl q_k q_c q_a q_pa q_b q_pb vi vj vk vc va vpa vb vpb) (some (.int rr)) (wFloor Γ q_fl q_k q_c q_a q_pa q_b q_pb vi vj vk vc va vpa vb vpb) := by
  intro sz
  refine Met.ofW (cc := cX1_refusesCheckpoint) (maxL := 2) (ret := (some .boolean)) (by decide) rfl ?_
  intro p e s m args below meth c s₁ B hml hv
  obtain ⟨rfl, hsz, hP, hK, hD0⟩ := hv
  have hx := B.exec
  have hb := B.bytes
  have hr := B.returns
  have hts := atoms_spec (ws := wsX1_refusesCheckpoint) B.pre
  have hown : s.vm.findClass RX1 = some m.cls := findClass_of_methodNamed B.named
  have hlocks := B.notSynchronized
  have hinX1 : ∀ w ∈ u_ws RX1 TX1 12, w ∈ wsX1_refusesCheckpoint := fun w h => List.mem_cons_of_mem _ (List.mem_append_right _ h)
  subst hsz
  have hD := hD0.self (sz := s.heap.size)
  have hA : ∀ q : Nat, s.heap.size ≤ q → va_A (wFloor Γ q_fl q_k q_c q_a q_pa q_b q_pb vi vj vk vc va vpa vb vpb) s.heap.size q := fun q h => Or.inr h
  generalize va_A (wFloor Γ q_fl q_k q_c q_a q_pa q_b q_pb vi vj vk vc va vpa vb vpb) s.heap.size = A at hD hA ⊢
  have hS : va_S A s.heap s.heap [] := va_S.rf
  have hl := lv_entry ([.ref q_fl, .int x0]) (n := 2) (Nat.le_of_ble_eq_true rfl)
  rw [lg_entry_eq]
  generalize (lg_sl ([.ref q_fl, .int x0]) ++ List.replicate (2 - (lg_sl ([.ref q_fl, .int x0])).length) Slot.unset).toArray = ls at hl ⊢
  replace hl : lv_has ls 2 [(0, .ref q_fl), (1, .int x0)] := hl
  unfold mX1_refusesCheckpoint at hm
  refine lv_aload_n hx hb dX1_refusesCheckpoint_0 rfl (lv_at hl 0 rfl) ?_
  refine lv_iload_n hx hb dX1_refusesCheckpoint_1 rfl (lv_at hl 1 rfl) ?_
  refine my_call1 (wc := (wFloor Γ q_fl q_k q_c q_a q_pa q_b q_pb vi vj vk vc va vpa vb vpb)) (w1 := (wFloor Γ q_fl q_k q_c q_a q_pa q_b q_pb vi vj vk vc va vpa vb vpb)) (ws1 := (wFloor Γ q_fl q_k q_c q_a q_pa q_b q_pb vi vj vk vc va vpa vb vpb)) hP hD hS hA [0, 1, 2, 3, 4, 5, 6] rfl rfl rfl (va_runV (As := [.int x0]) (rest := []) ⟨hx, hb, hml, hown, hts⟩ (kX1_isBlockOrPit l Γ q_fl q_k q_c q_a q_pa q_b q_pb vi vj vk vc va vpa vb vpb x0 (mX1_isBlockOrPit vk x0) rfl _) (cwV 1 hts gX1_refusesCheckpoint_X1_isBlockOrPit rfl rfl rfl (by decide +kernel) ⟨Nat.le_of_ble_eq_true rfl, Nat.le_of_ble_eq_true rfl⟩) (my_preV (wc := (wFloor Γ q_fl q_k q_c q_a q_pa q_b q_pb vi vj vk vc va vpa vb vpb)) (ci := 1) (q0 := 0) [0, 1, 2, 3, 4, 5, 6] hK hP hD rfl rfl rfl rfl) rfl rfl hl.1 rfl (lv_room (Nat.le_of_ble_eq_true rfl)) dX1_refusesCheckpoint_2 ⟨Nat.le_of_ble_eq_true rfl, Nat.le_of_ble_eq_true rfl⟩) (fun H locs hP hD hS => ?_)
  refine lv_if_ne (tgt := 28) hx hb dX1_refusesCheckpoint_5 (by decide) (fun c_1 => ?_) (fun c_1 => ?_)
  · replace hm := if_f hm c_1
    refine lv_iconst (v := (1 : Int32)) hx hb dX1_refusesCheckpoint_28 (by decide) ?_
    refine lv_goto (tgt := 33) hx hb dX1_refusesCheckpoint_29 (by decide) ?_
    obtain hf0 := Option.some.inj hm
    subst hf0
    exact W.zret (v := (1 : Int32)) hx hb hr rfl (fun t ht hW => ⟨⟨rfl, by rw [ht]; exact hP⟩, hS.F ht⟩) hS.2.2 dX1_refusesCheckpoint_33
  · replace hm := if_s hm c_1
    refine lv_aload_n hx hb dX1_refusesCheckpoint_8 rfl (lv_at hl 0 rfl) ?_
    refine lv_iload_n hx hb dX1_refusesCheckpoint_9 rfl (lv_at hl 1 rfl) ?_
    obtain ⟨r_2, hc_3, hm⟩ := bo1_s hm
    refine my_call1 (wc := (wFloor Γ q_fl q_k q_c q_a q_pa q_b q_pb vi vj vk vc va vpa vb vpb)) (w1 := (wFloor Γ q_fl q_k q_c q_a q_pa q_b q_pb vi vj vk vc va vpa vb vpb)) (ws1 := (wFloor Γ q_fl q_k q_c q_a q_pa q_b q_pb vi vj vk vc va vpa vb vpb)) hP hD hS hA [0, 1, 2, 3, 4, 5, 6] rfl rfl rfl (va_runV (As := [.int x0]) (rest := []) ⟨hx, hb, hml, hown, hts⟩ (kX1_isCheckpoint l Γ q_fl q_k q_c q_a q_pa q_b q_pb vi vj vk vc va vpa vb vpb x0 r_2 hc_3 _) (cwV 1 hts gX1_refusesCheckpoint_X1_isCheckpoint rfl rfl rfl (by decide +kernel) ⟨Nat.le_of_ble_eq_true rfl, Nat.le_of_ble_eq_true rfl⟩) (my_preV (wc := (wFloor Γ q_fl q_k q_c q_a q_pa q_b q_pb vi vj vk vc va vpa vb vpb)) (ci := 1) (q0 := 0) [0, 1, 2, 3, 4, 5, 6] hK hP hD rfl rfl rfl rfl) rfl rfl hl.1 rfl (lv_room (Nat.le_of_ble_eq_true rfl)) dX1_refusesCheckpoint_10 ⟨Nat.le_of_ble_eq_true rfl, Nat.le_of_ble_eq_true rfl⟩) (fun H locs hP hD hS => ?_)
    refine lv_if_ne (tgt := 28) hx hb dX1_refusesCheckpoint_13 (by decide) (fun c_4 => ?_) (fun c_4 => ?_)
    · replace hm := if_f hm c_4
      refine lv_iconst (v := (1 : Int32)) hx hb dX1_refusesCheckpoint_28 (by decide) ?_
      refine lv_goto (tgt := 33) hx hb dX1_refusesCheckpoint_29 (by decide) ?_
      obtain hf0 := Option.some.inj hm
      subst hf0
      exact W.zret (v := (1 : Int32)) hx hb hr rfl (fun t ht hW => ⟨⟨rfl, by rw [ht]; exact hP⟩, hS.F ht⟩) hS.2.2 dX1_refusesCheckpoint_33
    · replace hm := if_s hm c_4
      refine lv_aload_n hx hb dX1_refusesCheckpoint_16 rfl (lv_at hl 0 rfl) ?_
      refine va_get (D := my_D Γ) (ci := 1) (v := .int (vi 7)) (C := RX1) (T := TX1) (N := 12) hx hb hts hinX1 hown hK hP 0 rfl rfl 7 (by decide) (hts (.fieldLink RX1 44 "BeltFloor$Floor" "checkpointCount" "I") (List.mem_of_getElem? (i := 1) rfl)) (fun _ h9 => h9) rfl dX1_refusesCheckpoint_17 ?_
      refine lv_aload_n hx hb dX1_refusesCheckpoint_20 rfl (lv_at hl 0 rfl) ?_
      refine va_get (D := my_D Γ) (ci := 1) (v := .ref q_c) (C := RX1) (T := TX1) (N := 12) hx hb hts hinX1 hown hK hP 0 rfl rfl 1 (by decide) (hts (.fieldLink RX1 15 "BeltFloor$Floor" "checkpointCells" "[I") (List.mem_of_getElem? (i := 2) rfl)) (fun _ h9 => h9) rfl dX1_refusesCheckpoint_21 ?_
      refine va_alen hx hb hK hP 2 0 rfl rfl (v := (4 : Int32)) rfl dX1_refusesCheckpoint_24 ?_
      refine lv_icmp_lt (tgt := 32) hx hb dX1_refusesCheckpoint_25 (by decide) (fun c_5 => ?_) (fun c_5 => ?_)
      · replace hm := if_s hm c_5
        refine lv_iconst (v := (0 : Int32)) hx hb dX1_refusesCheckpoint_32 (by decide) ?_
        obtain hf0 := Option.some.inj hm
        subst hf0
        exact W.zret (v := (0 : Int32)) hx hb hr rfl (fun t ht hW => ⟨⟨rfl, by rw [ht]; exact hP⟩, hS.F ht⟩) hS.2.2 dX1_refusesCheckpoint_33
      · replace hm := if_f hm c_5
        refine lv_iconst (v := (1 : Int32)) hx hb dX1_refusesCheckpoint_28 (by decide) ?_
        refine lv_goto (tgt := 33) hx hb dX1_refusesCheckpoint_29 (by decide) ?_
        obtain hf0 := Option.some.inj hm
        subst hf0
        exact W.zret (v := (1 : Int32)) hx hb hr rfl (fun t ht hW => ⟨⟨rfl, by rw [ht]; exact hP⟩, hS.F ht⟩) hS.2.2 dX1_refusesCheckpoint_33
def mX1_refusesRobot (vj : Nat → Int64) (vk : Nat → Int32) (va : Nat → Int32) (vb : Nat → Int32) (x0 : Int32) (x1 : Int32) : Int32 := (if (mX1_isBlockOrPit vk x1) = 0 then (if (mX2_holds (vj 4) x1) = 0 then (if ((1 : Int32) - x0) = 0 then (if (va 0) = x1 then (1 : Int32) else (0 : Int32)) else (if (vb 0) = x1 then (1 : Int32) else (0 : Int32))) else (1 : Int32)) else (1 : Int32))
theorem nbX1_refusesRobot (vj : Nat → Int64) (vk : Nat → Int32) (va : Nat → Int32) (vb : Nat → Int32) (x0 : Int32) (x1 : Int32) : narrow .boolean (.int (mX1_refusesRobot vj vk va vb x0 x1)) = .int (mX1_refusesRobot vj vk va vb x0 x1) := by
  unfold mX1_refusesRobot
  repeat' split
  all_goals rfl
set_option maxHeartbeats 4000000 in
set_option maxRecDepth 100000 in
theorem kX1_refusesRobot (l : Launch) (Γ : my_G) (q_fl q_k q_c q_a q_pa q_b q_pb : Nat) (vi : Nat → Int32) (vj : Nat → Int64) (vk : Nat → Int32) (vc : Nat → Int32) (va : Nat → Int32) (vpa : Nat → Int32) (vb : Nat → Int32) (vpb : Nat → Int32) (x0 : Int32) (x1 : Int32) (rr : Int32) (hm : mX1_refusesRobot vj vk va vb x0 x1 = rr) : Mn l yX1_refusesRobot wsX1_refusesRobot ({ frames := 2, cells := 0, slots := 0, locals := 42 } : Room) Γ [.ref q_fl, .int x0, .int x1] (wFloor Γ q_fl q_k q_c q_a q_pa q_b q_pb vi vj vk vc va vpa vb vpb) (some (.int rr)) (wFloor Γ q_fl q_k q_c q_a q_pa q_b q_pb vi vj vk vc va vpa vb vpb) := by
  intro sz
  refine Met.ofW (cc := cX1_refusesRobot) (maxL := 3) (ret := (some .boolean)) (by decide) rfl ?_
  intro p e s m args below meth c s₁ B hml hv
  obtain ⟨rfl, hsz, hP, hK, hD0⟩ := hv
  have hx := B.exec
  have hb := B.bytes
  have hr := B.returns
  have hts := atoms_spec (ws := wsX1_refusesRobot) B.pre
  have hown : s.vm.findClass RX1 = some m.cls := findClass_of_methodNamed B.named
  have hlocks := B.notSynchronized
  have hinX1 : ∀ w ∈ u_ws RX1 TX1 12, w ∈ wsX1_refusesRobot := fun w h => List.mem_cons_of_mem _ (List.mem_append_left _ (List.mem_append_right _ h))
  have hinX4 : ∀ w ∈ u_ws RX4 TX4 10, w ∈ wsX1_refusesRobot := fun w h => List.mem_cons_of_mem _ (List.mem_append_right _ h)
  subst hsz
  have hD := hD0.self (sz := s.heap.size)
  have hA : ∀ q : Nat, s.heap.size ≤ q → va_A (wFloor Γ q_fl q_k q_c q_a q_pa q_b q_pb vi vj vk vc va vpa vb vpb) s.heap.size q := fun q h => Or.inr h
  generalize va_A (wFloor Γ q_fl q_k q_c q_a q_pa q_b q_pb vi vj vk vc va vpa vb vpb) s.heap.size = A at hD hA ⊢
  have hS : va_S A s.heap s.heap [] := va_S.rf
  have hl := lv_entry ([.ref q_fl, .int x0, .int x1]) (n := 3) (Nat.le_of_ble_eq_true rfl)
  rw [lg_entry_eq]
  generalize (lg_sl ([.ref q_fl, .int x0, .int x1]) ++ List.replicate (3 - (lg_sl ([.ref q_fl, .int x0, .int x1])).length) Slot.unset).toArray = ls at hl ⊢
  replace hl : lv_has ls 3 [(0, .ref q_fl), (1, .int x0), (2, .int x1)] := hl
  unfold mX1_refusesRobot at hm
  refine lv_aload_n hx hb dX1_refusesRobot_0 rfl (lv_at hl 0 rfl) ?_
  refine lv_iload_n hx hb dX1_refusesRobot_1 rfl (lv_at hl 2 rfl) ?_
  refine my_call1 (wc := (wFloor Γ q_fl q_k q_c q_a q_pa q_b q_pb vi vj vk vc va vpa vb vpb)) (w1 := (wFloor Γ q_fl q_k q_c q_a q_pa q_b q_pb vi vj vk vc va vpa vb vpb)) (ws1 := (wFloor Γ q_fl q_k q_c q_a q_pa q_b q_pb vi vj vk vc va vpa vb vpb)) hP hD hS hA [0, 1, 2, 3, 4, 5, 6] rfl rfl rfl (va_runV (As := [.int x1]) (rest := []) ⟨hx, hb, hml, hown, hts⟩ (kX1_isBlockOrPit l Γ q_fl q_k q_c q_a q_pa q_b q_pb vi vj vk vc va vpa vb vpb x1 (mX1_isBlockOrPit vk x1) rfl _) (cwV 1 hts gX1_refusesRobot_X1_isBlockOrPit rfl rfl rfl (by decide +kernel) ⟨Nat.le_of_ble_eq_true rfl, Nat.le_of_ble_eq_true rfl⟩) (my_preV (wc := (wFloor Γ q_fl q_k q_c q_a q_pa q_b q_pb vi vj vk vc va vpa vb vpb)) (ci := 1) (q0 := 0) [0, 1, 2, 3, 4, 5, 6] hK hP hD rfl rfl rfl rfl) rfl rfl hl.1 rfl (lv_room (Nat.le_of_ble_eq_true rfl)) dX1_refusesRobot_2 ⟨Nat.le_of_ble_eq_true rfl, Nat.le_of_ble_eq_true rfl⟩) (fun H locs hP hD hS => ?_)
  refine lv_if_ne (tgt := 33) hx hb dX1_refusesRobot_5 (by decide) (fun c_1 => ?_) (fun c_1 => ?_)
  · replace hm := if_f hm c_1
    refine lv_iconst (v := (1 : Int32)) hx hb dX1_refusesRobot_33 (by decide) ?_
    refine lv_goto (tgt := 38) hx hb dX1_refusesRobot_34 (by decide) ?_
    have hf0 := hm
    subst hf0
    exact W.zret (v := (1 : Int32)) hx hb hr rfl (fun t ht hW => ⟨⟨rfl, by rw [ht]; exact hP⟩, hS.F ht⟩) hS.2.2 dX1_refusesRobot_38
  · replace hm := if_s hm c_1
    refine lv_aload_n hx hb dX1_refusesRobot_8 rfl (lv_at hl 0 rfl) ?_
    refine va_get (D := my_D Γ) (ci := 1) (v := .long (vj 4)) (C := RX1) (T := TX1) (N := 12) hx hb hts hinX1 hown hK hP 0 rfl rfl 4 (by decide) (hts (.fieldLink RX1 34 "BeltFloor$Floor" "crates" "J") (List.mem_of_getElem? (i := 1) rfl)) (fun _ h9 => h9) rfl dX1_refusesRobot_9 ?_
    refine lv_iload_n hx hb dX1_refusesRobot_12 rfl (lv_at hl 2 rfl) ?_
    refine my_call1 (wc := ([] : va_W)) (w1 := ([] : va_W)) (ws1 := (wFloor Γ q_fl q_k q_c q_a q_pa q_b q_pb vi vj vk vc va vpa vb vpb)) hP hD hS hA [] rfl rfl rfl (va_runS (As := [.long (vj 4), .int x1]) (rest := []) ⟨hx, hb, hml, hown, hts⟩ (kX2_holds l Γ (vj 4) x1 (mX2_holds (vj 4) x1) rfl _) (va_cwS 2 hts gX1_refusesRobot_X2_holds rfl rfl rfl (by decide +kernel) ⟨Nat.le_of_ble_eq_true rfl, Nat.le_of_ble_eq_true rfl⟩) (my_preS (wc := ([] : va_W)) [] hK hP hD rfl rfl) rfl rfl hl.1 rfl (lv_room (Nat.le_of_ble_eq_true rfl)) dX1_refusesRobot_13 ⟨Nat.le_of_ble_eq_true rfl, Nat.le_of_ble_eq_true rfl⟩) (fun H locs hP hD hS => ?_)
    refine lv_if_ne (tgt := 33) hx hb dX1_refusesRobot_16 (by decide) (fun c_2 => ?_) (fun c_2 => ?_)
    · replace hm := if_f hm c_2
      refine lv_iconst (v := (1 : Int32)) hx hb dX1_refusesRobot_33 (by decide) ?_
      refine lv_goto (tgt := 38) hx hb dX1_refusesRobot_34 (by decide) ?_
      have hf0 := hm
      subst hf0
      exact W.zret (v := (1 : Int32)) hx hb hr rfl (fun t ht hW => ⟨⟨rfl, by rw [ht]; exact hP⟩, hS.F ht⟩) hS.2.2 dX1_refusesRobot_38
    · replace hm := if_s hm c_2
      refine lv_aload_n hx hb dX1_refusesRobot_19 rfl (lv_at hl 0 rfl) ?_
      refine lv_iconst (v := (1 : Int32)) hx hb dX1_refusesRobot_20 (by decide) ?_
      refine lv_iload_n hx hb dX1_refusesRobot_21 rfl (lv_at hl 1 rfl) ?_
      refine lv_isub hx hb dX1_refusesRobot_22 ?_
      by_cases c_3 : ((1 : Int32) - x0) = 0
      · replace hm := if_s hm c_3
        refine my_call1 (wc := (wFloor Γ q_fl q_k q_c q_a q_pa q_b q_pb vi vj vk vc va vpa vb vpb)) (w1 := (wFloor Γ q_fl q_k q_c q_a q_pa q_b q_pb vi vj vk vc va vpa vb vpb)) (ws1 := (wFloor Γ q_fl q_k q_c q_a q_pa q_b q_pb vi vj vk vc va vpa vb vpb)) hP hD hS hA [0, 1, 2, 3, 4, 5, 6] rfl rfl rfl (va_runV (As := [.int ((1 : Int32) - x0)]) (rest := []) ⟨hx, hb, hml, hown, hts⟩ (kX1_robot_0 l Γ q_fl q_k q_c q_a q_pa q_b q_pb vi vj vk vc va vpa vb vpb ((1 : Int32) - x0) c_3 _) (cwV 1 hts gX1_refusesRobot_X1_robot rfl rfl rfl (by decide +kernel) ⟨Nat.le_of_ble_eq_true rfl, Nat.le_of_ble_eq_true rfl⟩) (my_preV (wc := (wFloor Γ q_fl q_k q_c q_a q_pa q_b q_pb vi vj vk vc va vpa vb vpb)) (ci := 1) (q0 := 0) [0, 1, 2, 3, 4, 5, 6] hK hP hD rfl rfl rfl rfl) rfl rfl hl.1 rfl (lv_room (Nat.le_of_ble_eq_true rfl)) dX1_refusesRobot_23 ⟨Nat.le_of_ble_eq_true rfl, Nat.le_of_ble_eq_true rfl⟩) (fun H locs hP hD hS => ?_)
        refine va_get (D := my_D Γ) (ci := 3) (v := .int (va 0)) (C := RX4) (T := TX4) (N := 10) hx hb hts hinX4 hown hK hP 3 rfl rfl 0 (by decide) (hts (.fieldLink RX1 70 "BeltFloor$Robot" "cell" "I") (List.mem_of_getElem? (i := 2) rfl)) (fun _ h9 => h9) rfl dX1_refusesRobot_26 ?_
        refine lv_iload_n hx hb dX1_refusesRobot_29 rfl (lv_at hl 2 rfl) ?_
        refine lv_icmp_ne (tgt := 37) hx hb dX1_refusesRobot_30 (by decide) (fun c_4 => ?_) (fun c_4 => ?_)
        · replace hm := if_f hm c_4
          refine lv_iconst (v := (0 : Int32)) hx hb dX1_refusesRobot_37 (by decide) ?_
          have hf0 := hm
          subst hf0
          exact W.zret (v := (0 : Int32)) hx hb hr rfl (fun t ht hW => ⟨⟨rfl, by rw [ht]; exact hP⟩, hS.F ht⟩) hS.2.2 dX1_refusesRobot_38
        · replace hm := if_s hm c_4
          refine lv_iconst (v := (1 : Int32)) hx hb dX1_refusesRobot_33 (by decide) ?_
          refine lv_goto (tgt := 38) hx hb dX1_refusesRobot_34 (by decide) ?_
          have hf0 := hm
          subst hf0
          exact W.zret (v := (1 : Int32)) hx hb hr rfl (fun t ht hW => ⟨⟨rfl, by rw [ht]; exact hP⟩, hS.F ht⟩) hS.2.2 dX1_refusesRobot_38
      · replace hm := if_f hm c_3
        refine my_call1 (wc := (wFloor Γ q_fl q_k q_c q_a q_pa q_b q_pb vi vj vk vc va vpa vb vpb)) (w1 := (wFloor Γ q_fl q_k q_c q_a q_pa q_b q_pb vi vj vk vc va vpa vb vpb)) (ws1 := (wFloor Γ q_fl q_k q_c q_a q_pa q_b q_pb vi vj vk vc va vpa vb vpb)) hP hD hS hA [0, 1, 2, 3, 4, 5, 6] rfl rfl rfl (va_runV (As := [.int ((1 : Int32) - x0)]) (rest := []) ⟨hx, hb, hml, hown, hts⟩ (kX1_robot_1 l Γ q_fl q_k q_c q_a q_pa q_b q_pb vi vj vk vc va vpa vb vpb ((1 : Int32) - x0) c_3 _) (cwV 1 hts gX1_refusesRobot_X1_robot rfl rfl rfl (by decide +kernel) ⟨Nat.le_of_ble_eq_true rfl, Nat.le_of_ble_eq_true rfl⟩) (my_preV (wc := (wFloor Γ q_fl q_k q_c q_a q_pa q_b q_pb vi vj vk vc va vpa vb vpb)) (ci := 1) (q0 := 0) [0, 1, 2, 3, 4, 5, 6] hK hP hD rfl rfl rfl rfl) rfl rfl hl.1 rfl (lv_room (Nat.le_of_ble_eq_true rfl)) dX1_refusesRobot_23 ⟨Nat.le_of_ble_eq_true rfl, Nat.le_of_ble_eq_true rfl⟩) (fun H locs hP hD hS => ?_)
        refine va_get (D := my_D Γ) (ci := 3) (v := .int (vb 0)) (C := RX4) (T := TX4) (N := 10) hx hb hts hinX4 hown hK hP 5 rfl rfl 0 (by decide) (hts (.fieldLink RX1 70 "BeltFloor$Robot" "cell" "I") (List.mem_of_getElem? (i := 2) rfl)) (fun _ h9 => h9) rfl dX1_refusesRobot_26 ?_
        refine lv_iload_n hx hb dX1_refusesRobot_29 rfl (lv_at hl 2 rfl) ?_
        refine lv_icmp_ne (tgt := 37) hx hb dX1_refusesRobot_30 (by decide) (fun c_5 => ?_) (fun c_5 => ?_)
        · replace hm := if_f hm c_5
          refine lv_iconst (v := (0 : Int32)) hx hb dX1_refusesRobot_37 (by decide) ?_
          have hf0 := hm
          subst hf0
          exact W.zret (v := (0 : Int32)) hx hb hr rfl (fun t ht hW => ⟨⟨rfl, by rw [ht]; exact hP⟩, hS.F ht⟩) hS.2.2 dX1_refusesRobot_38
        · replace hm := if_s hm c_5
          refine lv_iconst (v := (1 : Int32)) hx hb dX1_refusesRobot_33 (by decide) ?_
          refine lv_goto (tgt := 38) hx hb dX1_refusesRobot_34 (by decide) ?_
          have hf0 := hm
          subst hf0
          exact W.zret (v := (1 : Int32)) hx hb hr rfl (fun t ht hW => ⟨⟨rfl, by rw [ht]; exact hP⟩, hS.F ht⟩) hS.2.2 dX1_refusesRobot_38
def mX1_with (x0 : Int64) (x1 : Int32) (x2 : Int32) : Int64 := (if x2 = 0 then (x0 &&& ((mX2_setOf x1) ^^^ (-1 : Int64))) else (x0 ||| (mX2_setOf x1)))
set_option maxHeartbeats 4000000 in
set_option maxRecDepth 100000 in
theorem kX1_with (l : Launch) (Γ : my_G)   (x0 : Int64) (x1 : Int32) (x2 : Int32) (rr : Int64) (hm : mX1_with x0 x1 x2 = rr) : Mn l yX1_with wsX1_with ({ frames := 1, cells := 0, slots := 0, locals := 20 } : Room) Γ [.long x0, .int x1, .int x2] ([] : va_W) (some (.long rr)) ([] : va_W) := by
  intro sz
  refine Met.ofW (cc := cX1_with) (maxL := 4) (ret := (some .long)) (by decide) rfl ?_
  intro p e s m args below meth c s₁ B hml hv
  obtain ⟨rfl, hsz, hP, hK, hD0⟩ := hv
  have hx := B.exec
  have hb := B.bytes
  have hr := B.returns
  have hts := atoms_spec (ws := wsX1_with) B.pre
  have hown : s.vm.findClass RX1 = some m.cls := findClass_of_methodNamed B.named
  have hlocks := B.notSynchronized
  subst hsz
  have hD := hD0.self (sz := s.heap.size)
  have hA : ∀ q : Nat, s.heap.size ≤ q → va_A ([] : va_W) s.heap.size q := fun q h => Or.inr h
  generalize va_A ([] : va_W) s.heap.size = A at hD hA ⊢
  have hS : va_S A s.heap s.heap [] := va_S.rf
  have hl := lv_entry ([.long x0, .int x1, .int x2]) (n := 4) (Nat.le_of_ble_eq_true rfl)
  rw [lg_entry_eq]
  generalize (lg_sl ([.long x0, .int x1, .int x2]) ++ List.replicate (4 - (lg_sl ([.long x0, .int x1, .int x2])).length) Slot.unset).toArray = ls at hl ⊢
  replace hl : lv_has ls 4 [(0, .long x0), (2, .int x1), (3, .int x2)] := hl
  unfold mX1_with at hm
  refine lv_iload_n hx hb dX1_with_0 rfl (lv_at hl 2 rfl) ?_
  refine lv_if_eq (tgt := 13) hx hb dX1_with_1 (by decide) (fun c_1 => ?_) (fun c_1 => ?_)
  · replace hm := if_s hm c_1
    refine lv_lload_n hx hb dX1_with_13 rfl (lv_at hl 0 rfl) ?_
    refine lv_iload_n hx hb dX1_with_14 rfl (lv_at hl 1 rfl) ?_
    refine my_call1 (wc := ([] : va_W)) (w1 := ([] : va_W)) (ws1 := ([] : va_W)) hP hD hS hA [] rfl rfl rfl (va_runS (As := [.int x1]) (rest := [.long x0]) ⟨hx, hb, hml, hown, hts⟩ (kX2_setOf l Γ x1 (mX2_setOf x1) rfl _) (va_cwS 1 hts gX1_with_X2_setOf rfl rfl rfl (by decide +kernel) ⟨Nat.le_of_ble_eq_true rfl, Nat.le_of_ble_eq_true rfl⟩) (my_preS (wc := ([] : va_W)) [] hK hP hD rfl rfl) rfl rfl hl.1 rfl (lv_room (Nat.le_of_ble_eq_true rfl)) dX1_with_15 ⟨Nat.le_of_ble_eq_true rfl, Nat.le_of_ble_eq_true rfl⟩) (fun H locs hP hD hS => ?_)
    refine lv_ldc2 (v := (-1 : Int64)) hx hb hown (hts (.constantLong RX1 117 (-1)) (List.mem_of_getElem? (i := 1) rfl)) dX1_with_18 ?_
    refine lv_lxor hx hb dX1_with_21 ?_
    refine lv_land hx hb dX1_with_22 ?_
    have hf0 := hm
    subst hf0
    exact W.lret (v := (x0 &&& ((mX2_setOf x1) ^^^ (-1 : Int64)))) hx hb hr (fun t ht hW => ⟨⟨rfl, by rw [ht]; exact hP⟩, hS.F ht⟩) hS.2.2 dX1_with_23
  · replace hm := if_f hm c_1
    refine lv_lload_n hx hb dX1_with_4 rfl (lv_at hl 0 rfl) ?_
    refine lv_iload_n hx hb dX1_with_5 rfl (lv_at hl 1 rfl) ?_
    refine my_call1 (wc := ([] : va_W)) (w1 := ([] : va_W)) (ws1 := ([] : va_W)) hP hD hS hA [] rfl rfl rfl (va_runS (As := [.int x1]) (rest := [.long x0]) ⟨hx, hb, hml, hown, hts⟩ (kX2_setOf l Γ x1 (mX2_setOf x1) rfl _) (va_cwS 1 hts gX1_with_X2_setOf rfl rfl rfl (by decide +kernel) ⟨Nat.le_of_ble_eq_true rfl, Nat.le_of_ble_eq_true rfl⟩) (my_preS (wc := ([] : va_W)) [] hK hP hD rfl rfl) rfl rfl hl.1 rfl (lv_room (Nat.le_of_ble_eq_true rfl)) dX1_with_6 ⟨Nat.le_of_ble_eq_true rfl, Nat.le_of_ble_eq_true rfl⟩) (fun H locs hP hD hS => ?_)
    refine lv_lor hx hb dX1_with_9 ?_
    refine lv_goto (tgt := 23) hx hb dX1_with_10 (by decide) ?_
    have hf0 := hm
    subst hf0
    exact W.lret (v := (x0 ||| (mX2_setOf x1))) hx hb hr (fun t ht hW => ⟨⟨rfl, by rw [ht]; exact hP⟩, hS.F ht⟩) hS.2.2 dX1_with_23
def mX1_giveKind_J47  (vi : Nat → Int32) (vj : Nat → Int64) (vk : Nat → Int32) (vc : Nat → Int32) (va : Nat → Int32) (vb : Nat → Int32) (l1 : Int32) (l2 : Int32) (s1 : Int64) (s2 : Int32) (s3 : Int32) : Option (Int32 × (Nat → Int64) × (Nat → Int32)) := (if l2 = (2 : Int32) then (some ((1 : Int32), (vp_updL (vp_updL vj 5 (mX1_with s1 s2 s3)) 6 (mX1_with (vj 6) l1 (1 : Int32))), vk)) else (some ((1 : Int32), (vp_updL (vp_updL vj 5 (mX1_with s1 s2 s3)) 6 (mX1_with (vj 6) l1 (0 : Int32))), vk)))
def mX1_giveKind (vi : Nat → Int32) (vj : Nat → Int64) (vk : Nat → Int32) (vc : Nat → Int32) (va : Nat → Int32) (vb : Nat → Int32) (x0 : Int32) (x1 : Int32) : Option (Int32 × (Nat → Int64) × (Nat → Int32)) := (bo1 (mX1_refusesKind vi vj vc va vb x0 x1) (fun r_1 => (if r_1 = 0 then (if x0 < 0 then (some ((0 : Int32), vj, vk)) else (if x0 < (36 : Int32) then (if x1 < (3 : Int32) then (mX1_giveKind_J47 vi vj (upd vk x0.toNatClampNeg x1) vc va vb x0 x1 (vj 5) x0 (0 : Int32)) else (mX1_giveKind_J47 vi vj (upd vk x0.toNatClampNeg x1) vc va vb x0 x1 (vj 5) x0 (1 : Int32))) else (some ((0 : Int32), vj, vk)))) else (some ((0 : Int32), vj, vk)))))
set_option maxHeartbeats 4000000 in
set_option maxRecDepth 100000 in
theorem kX1_giveKind (l : Launch) (Γ : my_G) (q_fl q_k q_c q_a q_pa q_b q_pb : Nat) (vi : Nat → Int32) (vj : Nat → Int64) (vk : Nat → Int32) (vc : Nat → Int32) (va : Nat → Int32) (vpa : Nat → Int32) (vb : Nat → Int32) (vpb : Nat → Int32) (x0 : Int32) (x1 : Int32) (rr : Int32) (vj_z : Nat → Int64) (vk_z : Nat → Int32) (hm : mX1_giveKind vi vj vk vc va vb x0 x1 = (some (rr, vj_z, vk_z))) : Mn l yX1_giveKind wsX1_giveKind ({ frames := 3, cells := 0, slots := 0, locals := 66 } : Room) Γ [.ref q_fl, .int x0, .int x1] (wFloor Γ q_fl q_k q_c q_a q_pa q_b q_pb vi vj vk vc va vpa vb vpb) (some (.int rr)) (wFloor Γ q_fl q_k q_c q_a q_pa q_b q_pb vi vj_z vk_z vc va vpa vb vpb) := by
  intro sz
  refine Met.ofW (cc := cX1_giveKind) (maxL := 3) (ret := (some .boolean)) (by decide) rfl ?_
  intro p e s m args below meth c s₁ B hml hv
  obtain ⟨rfl, hsz, hP, hK, hD0⟩ := hv
  have hx := B.exec
  have hb := B.bytes
  have hr := B.returns
  have hts := atoms_spec (ws := wsX1_giveKind) B.pre
  have hown : s.vm.findClass RX1 = some m.cls := findClass_of_methodNamed B.named
  have hlocks := B.notSynchronized
  have hinX1 : ∀ w ∈ u_ws RX1 TX1 12, w ∈ wsX1_giveKind := fun w h => List.mem_cons_of_mem _ (List.mem_append_left _ (List.mem_append_right _ h))
  have hinX4 : ∀ w ∈ u_ws RX4 TX4 10, w ∈ wsX1_giveKind := fun w h => List.mem_cons_of_mem _ (List.mem_append_right _ h)
  subst hsz
  have hD := hD0.self (sz := s.heap.size)
  have hA : ∀ q : Nat, s.heap.size ≤ q → va_A (wFloor Γ q_fl q_k q_c q_a q_pa q_b q_pb vi vj vk vc va vpa vb vpb) s.heap.size q := fun q h => Or.inr h
  generalize va_A (wFloor Γ q_fl q_k q_c q_a q_pa q_b q_pb vi vj vk vc va vpa vb vpb) s.heap.size = A at hD hA ⊢
  have hS : va_S A s.heap s.heap [] := va_S.rf
  have hl := lv_entry ([.ref q_fl, .int x0, .int x1]) (n := 3) (Nat.le_of_ble_eq_true rfl)
  rw [lg_entry_eq]
  generalize (lg_sl ([.ref q_fl, .int x0, .int x1]) ++ List.replicate (3 - (lg_sl ([.ref q_fl, .int x0, .int x1])).length) Slot.unset).toArray = ls at hl ⊢
  replace hl : lv_has ls 3 [(0, .ref q_fl), (1, .int x0), (2, .int x1)] := hl
  have J_47 : ∀ (vi : Nat → Int32) (vj : Nat → Int64) (vk : Nat → Int32) (vc : Nat → Int32) (va : Nat → Int32) (vb : Nat → Int32) (l1 : Int32) (l2 : Int32) (s1 : Int64) (s2 : Int32) (s3 : Int32) (H : Heap) (locs : List Loc) (ls : Array Slot), va_P (my_D Γ) vwCl (wFloor Γ q_fl q_k q_c q_a q_pa q_b q_pb vi vj vk vc va vpa vb vpb) H → va_D A (wFloor Γ q_fl q_k q_c q_a q_pa q_b q_pb vi vj vk vc va vpa vb vpb) → va_S A s.heap H locs → lv_has ls 3 [(0, .ref q_fl), (1, .int l1), (2, .int l2)] → mX1_giveKind_J47 vi vj vk vc va vb l1 l2 s1 s2 s3 = (some (rr, vj_z, vk_z)) → W p l e (headSpec wsX1_giveKind ({ frames := 3, cells := 0, slots := 0, locals := 66 } : Room)).room s m ([.ref q_fl, .int x0, .int x1] : List Value).toArray below meth c H locs 0 0 (MQ below (my_Q Γ A (some (.int rr)) (wFloor Γ q_fl q_k q_c q_a q_pa q_b q_pb vi vj_z vk_z vc va vpa vb vpb)) ([.ref q_fl, .int x0, .int x1] : List Value).toArray s 0 0 A) (F0 m 47 ls [.int s3, .int s2, .long s1, .ref q_fl]) := by
    intro  vi vj vk vc va vb l1 l2 s1 s2 s3 H locs ls hP hD hS hl hm
    unfold mX1_giveKind_J47 at hm
    refine my_call1 (wc := ([] : va_W)) (w1 := ([] : va_W)) (ws1 := (wFloor Γ q_fl q_k q_c q_a q_pa q_b q_pb vi vj vk vc va vpa vb vpb)) hP hD hS hA [] rfl rfl rfl (va_runS (As := [.long s1, .int s2, .int s3]) (rest := [.ref q_fl]) ⟨hx, hb, hml, hown, hts⟩ (kX1_with l Γ s1 s2 s3 (mX1_with s1 s2 s3) rfl _) (va_cwS 3 hts gX1_giveKind_X1_with rfl rfl rfl (by decide +kernel) ⟨Nat.le_of_ble_eq_true rfl, Nat.le_of_ble_eq_true rfl⟩) (my_preS (wc := ([] : va_W)) [] hK hP hD rfl rfl) rfl rfl hl.1 rfl (lv_room (Nat.le_of_ble_eq_true rfl)) dX1_giveKind_47 ⟨Nat.le_of_ble_eq_true rfl, Nat.le_of_ble_eq_true rfl⟩) (fun H locs hP hD hS => ?_)
    refine lv_topl (fun y_7 ey_7 => ?_)
    refine va_put (D := my_D Γ) (ci := 1) (v := .long y_7) (ty := .long) (C := RX1) (T := TX1) (N := 12) hx hb hts hinX1 tyX1 tyX1_ok nmX1 hown hK hP hD hS 0 rfl rfl 5 (by decide) (hts (.fieldLink RX1 38 "BeltFloor$Floor" "belts" "J") (List.mem_of_getElem? (i := 2) rfl)) (fun _ h9 => h9) rfl (by decide +kernel) rfl rfl (Nat.le_of_ble_eq_true rfl) dX1_giveKind_50 (fun H locs hP hD hS => ?_)
    replace hP : va_P (my_D Γ) vwCl (wFloor Γ q_fl q_k q_c q_a q_pa q_b q_pb vi (vp_updL vj 5 y_7) vk vc va vpa vb vpb) H := hP
    replace hD : va_D A (wFloor Γ q_fl q_k q_c q_a q_pa q_b q_pb vi (vp_updL vj 5 y_7) vk vc va vpa vb vpb) := hD
    subst ey_7
    refine lv_aload_n hx hb dX1_giveKind_53 rfl (lv_at hl 0 rfl) ?_
    refine lv_aload_n hx hb dX1_giveKind_54 rfl (lv_at hl 0 rfl) ?_
    refine va_get (D := my_D Γ) (ci := 1) (v := .long (vj 6)) (C := RX1) (T := TX1) (N := 12) hx hb hts hinX1 hown hK hP 0 rfl rfl 6 (by decide) (hts (.fieldLink RX1 41 "BeltFloor$Floor" "pits" "J") (List.mem_of_getElem? (i := 3) rfl)) (fun _ h9 => h9) rfl dX1_giveKind_55 ?_
    refine lv_iload_n hx hb dX1_giveKind_58 rfl (lv_at hl 1 rfl) ?_
    refine lv_iload_n hx hb dX1_giveKind_59 rfl (lv_at hl 2 rfl) ?_
    refine lv_iconst (v := (2 : Int32)) hx hb dX1_giveKind_60 (by decide) ?_
    refine lv_icmp_ne (tgt := 68) hx hb dX1_giveKind_61 (by decide) (fun c_8 => ?_) (fun c_8 => ?_)
    · replace hm := if_f hm c_8
      refine lv_iconst (v := (0 : Int32)) hx hb dX1_giveKind_68 (by decide) ?_
      refine my_call1 (wc := ([] : va_W)) (w1 := ([] : va_W)) (ws1 := (wFloor Γ q_fl q_k q_c q_a q_pa q_b q_pb vi (vp_updL vj 5 (mX1_with s1 s2 s3)) vk vc va vpa vb vpb)) hP hD hS hA [] rfl rfl rfl (va_runS (As := [.long (vj 6), .int l1, .int (0 : Int32)]) (rest := [.ref q_fl]) ⟨hx, hb, hml, hown, hts⟩ (kX1_with l Γ (vj 6) l1 (0 : Int32) (mX1_with (vj 6) l1 (0 : Int32)) rfl _) (va_cwS 3 hts gX1_giveKind_X1_with rfl rfl rfl (by decide +kernel) ⟨Nat.le_of_ble_eq_true rfl, Nat.le_of_ble_eq_true rfl⟩) (my_preS (wc := ([] : va_W)) [] hK hP hD rfl rfl) rfl rfl hl.1 rfl (lv_room (Nat.le_of_ble_eq_true rfl)) dX1_giveKind_69 ⟨Nat.le_of_ble_eq_true rfl, Nat.le_of_ble_eq_true rfl⟩) (fun H locs hP hD hS => ?_)
      refine lv_topl (fun y_9 ey_9 => ?_)
      refine va_put (D := my_D Γ) (ci := 1) (v := .long y_9) (ty := .long) (C := RX1) (T := TX1) (N := 12) hx hb hts hinX1 tyX1 tyX1_ok nmX1 hown hK hP hD hS 0 rfl rfl 6 (by decide) (hts (.fieldLink RX1 41 "BeltFloor$Floor" "pits" "J") (List.mem_of_getElem? (i := 3) rfl)) (fun _ h9 => h9) rfl (by decide +kernel) rfl rfl (Nat.le_of_ble_eq_true rfl) dX1_giveKind_72 (fun H locs hP hD hS => ?_)
      replace hP : va_P (my_D Γ) vwCl (wFloor Γ q_fl q_k q_c q_a q_pa q_b q_pb vi (vp_updL (vp_updL vj 5 (mX1_with s1 s2 s3)) 6 y_9) vk vc va vpa vb vpb) H := hP
      replace hD : va_D A (wFloor Γ q_fl q_k q_c q_a q_pa q_b q_pb vi (vp_updL (vp_updL vj 5 (mX1_with s1 s2 s3)) 6 y_9) vk vc va vpa vb vpb) := hD
      subst ey_9
      refine lv_iconst (v := (1 : Int32)) hx hb dX1_giveKind_75 (by decide) ?_
      obtain ⟨hf0, hf1, hf2⟩ := si3 hm
      subst hf0
      subst hf1
      subst hf2
      exact W.zret (v := (1 : Int32)) hx hb hr rfl (fun t ht hW => ⟨⟨rfl, by rw [ht]; exact hP⟩, hS.F ht⟩) hS.2.2 dX1_giveKind_76
    · replace hm := if_s hm c_8
      refine lv_iconst (v := (1 : Int32)) hx hb dX1_giveKind_64 (by decide) ?_
      refine lv_goto (tgt := 69) hx hb dX1_giveKind_65 (by decide) ?_
      refine my_call1 (wc := ([] : va_W)) (w1 := ([] : va_W)) (ws1 := (wFloor Γ q_fl q_k q_c q_a q_pa q_b q_pb vi (vp_updL vj 5 (mX1_with s1 s2 s3)) vk vc va vpa vb vpb)) hP hD hS hA [] rfl rfl rfl (va_runS (As := [.long (vj 6), .int l1, .int (1 : Int32)]) (rest := [.ref q_fl]) ⟨hx, hb, hml, hown, hts⟩ (kX1_with l Γ (vj 6) l1 (1 : Int32) (mX1_with (vj 6) l1 (1 : Int32)) rfl _) (va_cwS 3 hts gX1_giveKind_X1_with rfl rfl rfl (by decide +kernel) ⟨Nat.le_of_ble_eq_true rfl, Nat.le_of_ble_eq_true rfl⟩) (my_preS (wc := ([] : va_W)) [] hK hP hD rfl rfl) rfl rfl hl.1 rfl (lv_room (Nat.le_of_ble_eq_true rfl)) dX1_giveKind_69 ⟨Nat.le_of_ble_eq_true rfl, Nat.le_of_ble_eq_true rfl⟩) (fun H locs hP hD hS => ?_)
      refine lv_topl (fun y_10 ey_10 => ?_)
      refine va_put (D := my_D Γ) (ci := 1) (v := .long y_10) (ty := .long) (C := RX1) (T := TX1) (N := 12) hx hb hts hinX1 tyX1 tyX1_ok nmX1 hown hK hP hD hS 0 rfl rfl 6 (by decide) (hts (.fieldLink RX1 41 "BeltFloor$Floor" "pits" "J") (List.mem_of_getElem? (i := 3) rfl)) (fun _ h9 => h9) rfl (by decide +kernel) rfl rfl (Nat.le_of_ble_eq_true rfl) dX1_giveKind_72 (fun H locs hP hD hS => ?_)
      replace hP : va_P (my_D Γ) vwCl (wFloor Γ q_fl q_k q_c q_a q_pa q_b q_pb vi (vp_updL (vp_updL vj 5 (mX1_with s1 s2 s3)) 6 y_10) vk vc va vpa vb vpb) H := hP
      replace hD : va_D A (wFloor Γ q_fl q_k q_c q_a q_pa q_b q_pb vi (vp_updL (vp_updL vj 5 (mX1_with s1 s2 s3)) 6 y_10) vk vc va vpa vb vpb) := hD
      subst ey_10
      refine lv_iconst (v := (1 : Int32)) hx hb dX1_giveKind_75 (by decide) ?_
      obtain ⟨hf0, hf1, hf2⟩ := si3 hm
      subst hf0
      subst hf1
      subst hf2
      exact W.zret (v := (1 : Int32)) hx hb hr rfl (fun t ht hW => ⟨⟨rfl, by rw [ht]; exact hP⟩, hS.F ht⟩) hS.2.2 dX1_giveKind_76
  unfold mX1_giveKind at hm
  refine lv_aload_n hx hb dX1_giveKind_0 rfl (lv_at hl 0 rfl) ?_
  refine lv_iload_n hx hb dX1_giveKind_1 rfl (lv_at hl 1 rfl) ?_
  refine lv_iload_n hx hb dX1_giveKind_2 rfl (lv_at hl 2 rfl) ?_
  obtain ⟨r_1, hc_2, hm⟩ := bo1_s hm
  refine my_call1 (wc := (wFloor Γ q_fl q_k q_c q_a q_pa q_b q_pb vi vj vk vc va vpa vb vpb)) (w1 := (wFloor Γ q_fl q_k q_c q_a q_pa q_b q_pb vi vj vk vc va vpa vb vpb)) (ws1 := (wFloor Γ q_fl q_k q_c q_a q_pa q_b q_pb vi vj vk vc va vpa vb vpb)) hP hD hS hA [0, 1, 2, 3, 4, 5, 6] rfl rfl rfl (va_runV (As := [.int x0, .int x1]) (rest := []) ⟨hx, hb, hml, hown, hts⟩ (kX1_refusesKind l Γ q_fl q_k q_c q_a q_pa q_b q_pb vi vj vk vc va vpa vb vpb x0 x1 r_1 hc_2 _) (cwV 2 hts gX1_giveKind_X1_refusesKind rfl rfl rfl (by decide +kernel) ⟨Nat.le_of_ble_eq_true rfl, Nat.le_of_ble_eq_true rfl⟩) (my_preV (wc := (wFloor Γ q_fl q_k q_c q_a q_pa q_b q_pb vi vj vk vc va vpa vb vpb)) (ci := 1) (q0 := 0) [0, 1, 2, 3, 4, 5, 6] hK hP hD rfl rfl rfl rfl) rfl rfl hl.1 rfl (lv_room (Nat.le_of_ble_eq_true rfl)) dX1_giveKind_3 ⟨Nat.le_of_ble_eq_true rfl, Nat.le_of_ble_eq_true rfl⟩) (fun H locs hP hD hS => ?_)
  refine lv_if_ne (tgt := 22) hx hb dX1_giveKind_6 (by decide) (fun c_3 => ?_) (fun c_3 => ?_)
  · replace hm := if_f hm c_3
    refine lv_iconst (v := (0 : Int32)) hx hb dX1_giveKind_22 (by decide) ?_
    obtain ⟨hf0, hf1, hf2⟩ := si3 hm
    subst hf0
    subst hf1
    subst hf2
    exact W.zret (v := (0 : Int32)) hx hb hr rfl (fun t ht hW => ⟨⟨rfl, by rw [ht]; exact hP⟩, hS.F ht⟩) hS.2.2 dX1_giveKind_23
  · replace hm := if_s hm c_3
    refine lv_iload_n hx hb dX1_giveKind_9 rfl (lv_at hl 1 rfl) ?_
    refine lv_if_lt (tgt := 22) hx hb dX1_giveKind_10 (by decide) (fun c_4 => ?_) (fun c_4 => ?_)
    · replace hm := if_s hm c_4
      refine lv_iconst (v := (0 : Int32)) hx hb dX1_giveKind_22 (by decide) ?_
      obtain ⟨hf0, hf1, hf2⟩ := si3 hm
      subst hf0
      subst hf1
      subst hf2
      exact W.zret (v := (0 : Int32)) hx hb hr rfl (fun t ht hW => ⟨⟨rfl, by rw [ht]; exact hP⟩, hS.F ht⟩) hS.2.2 dX1_giveKind_23
    · replace hm := if_f hm c_4
      refine lv_iload_n hx hb dX1_giveKind_13 rfl (lv_at hl 1 rfl) ?_
      refine lv_aload_n hx hb dX1_giveKind_14 rfl (lv_at hl 0 rfl) ?_
      refine va_get (D := my_D Γ) (ci := 1) (v := .ref q_k) (C := RX1) (T := TX1) (N := 12) hx hb hts hinX1 hown hK hP 0 rfl rfl 0 (by decide) (hts (.fieldLink RX1 9 "BeltFloor$Floor" "kinds" "[I") (List.mem_of_getElem? (i := 1) rfl)) (fun _ h9 => h9) rfl dX1_giveKind_15 ?_
      refine va_alen hx hb hK hP 1 0 rfl rfl (v := (36 : Int32)) rfl dX1_giveKind_18 ?_
      refine lv_icmp_lt (tgt := 24) hx hb dX1_giveKind_19 (by decide) (fun c_5 => ?_) (fun c_5 => ?_)
      · replace hm := if_s hm c_5
        refine lv_aload_n hx hb dX1_giveKind_24 rfl (lv_at hl 0 rfl) ?_
        refine va_get (D := my_D Γ) (ci := 1) (v := .ref q_k) (C := RX1) (T := TX1) (N := 12) hx hb hts hinX1 hown hK hP 0 rfl rfl 0 (by decide) (hts (.fieldLink RX1 9 "BeltFloor$Floor" "kinds" "[I") (List.mem_of_getElem? (i := 1) rfl)) (fun _ h9 => h9) rfl dX1_giveKind_25 ?_
        refine lv_iload_n hx hb dX1_giveKind_28 rfl (lv_at hl 1 rfl) ?_
        refine lv_iload_n hx hb dX1_giveKind_29 rfl (lv_at hl 2 rfl) ?_
        refine va_iast hx hb hK hP hD hS 1 0 rfl rfl (my_in c_4 c_5 rfl) dX1_giveKind_30 (fun H locs hP hD hS => ?_)
        replace hP : va_P (my_D Γ) vwCl (wFloor Γ q_fl q_k q_c q_a q_pa q_b q_pb vi vj (upd vk x0.toNatClampNeg x1) vc va vpa vb vpb) H := hP
        replace hD : va_D A (wFloor Γ q_fl q_k q_c q_a q_pa q_b q_pb vi vj (upd vk x0.toNatClampNeg x1) vc va vpa vb vpb) := hD
        refine lv_aload_n hx hb dX1_giveKind_31 rfl (lv_at hl 0 rfl) ?_
        refine lv_aload_n hx hb dX1_giveKind_32 rfl (lv_at hl 0 rfl) ?_
        refine va_get (D := my_D Γ) (ci := 1) (v := .long (vj 5)) (C := RX1) (T := TX1) (N := 12) hx hb hts hinX1 hown hK hP 0 rfl rfl 5 (by decide) (hts (.fieldLink RX1 38 "BeltFloor$Floor" "belts" "J") (List.mem_of_getElem? (i := 2) rfl)) (fun _ h9 => h9) rfl dX1_giveKind_33 ?_
        refine lv_iload_n hx hb dX1_giveKind_36 rfl (lv_at hl 1 rfl) ?_
        refine lv_iload_n hx hb dX1_giveKind_37 rfl (lv_at hl 2 rfl) ?_
        refine lv_iconst (v := (3 : Int32)) hx hb dX1_giveKind_38 (by decide) ?_
        refine lv_icmp_lt (tgt := 46) hx hb dX1_giveKind_39 (by decide) (fun c_6 => ?_) (fun c_6 => ?_)
        · replace hm := if_s hm c_6
          refine lv_iconst (v := (0 : Int32)) hx hb dX1_giveKind_46 (by decide) ?_
          exact J_47 vi vj (upd vk x0.toNatClampNeg x1) vc va vb x0 x1 (vj 5) x0 (0 : Int32) _ _ _ hP hD hS (lv_sub hl [0, 1, 2] rfl) hm
        · replace hm := if_f hm c_6
          refine lv_iconst (v := (1 : Int32)) hx hb dX1_giveKind_42 (by decide) ?_
          refine lv_goto (tgt := 47) hx hb dX1_giveKind_43 (by decide) ?_
          exact J_47 vi vj (upd vk x0.toNatClampNeg x1) vc va vb x0 x1 (vj 5) x0 (1 : Int32) _ _ _ hP hD hS (lv_sub hl [0, 1, 2] rfl) hm
      · replace hm := if_f hm c_5
        refine lv_iconst (v := (0 : Int32)) hx hb dX1_giveKind_22 (by decide) ?_
        obtain ⟨hf0, hf1, hf2⟩ := si3 hm
        subst hf0
        subst hf1
        subst hf2
        exact W.zret (v := (0 : Int32)) hx hb hr rfl (fun t ht hW => ⟨⟨rfl, by rw [ht]; exact hP⟩, hS.F ht⟩) hS.2.2 dX1_giveKind_23
def mX1_layCrate (vi : Nat → Int32) (vj : Nat → Int64) (vk : Nat → Int32) (va : Nat → Int32) (vb : Nat → Int32) (x0 : Int32) : Int32 × (Nat → Int32) × (Nat → Int64) := (if (mX1_refusesCrate vj vk va vb x0) = 0 then ((1 : Int32), (upd vi 8 ((vi 8) + (1 : Int32))), (vp_updL vj 4 ((vj 4) ||| (mX2_setOf x0)))) else ((0 : Int32), vi, vj))
set_option maxHeartbeats 4000000 in
set_option maxRecDepth 100000 in
theorem kX1_layCrate (l : Launch) (Γ : my_G) (q_fl q_k q_c q_a q_pa q_b q_pb : Nat) (vi : Nat → Int32) (vj : Nat → Int64) (vk : Nat → Int32) (vc : Nat → Int32) (va : Nat → Int32) (vpa : Nat → Int32) (vb : Nat → Int32) (vpb : Nat → Int32) (x0 : Int32) (rr : Int32) (vi_z : Nat → Int32) (vj_z : Nat → Int64) (hm : mX1_layCrate vi vj vk va vb x0 = (rr, vi_z, vj_z)) : Mn l yX1_layCrate wsX1_layCrate ({ frames := 3, cells := 0, slots := 0, locals := 63 } : Room) Γ [.ref q_fl, .int x0] (wFloor Γ q_fl q_k q_c q_a q_pa q_b q_pb vi vj vk vc va vpa vb vpb) (some (.int rr)) (wFloor Γ q_fl q_k q_c q_a q_pa q_b q_pb vi_z vj_z vk vc va vpa vb vpb) := by
  intro sz
  refine Met.ofW (cc := cX1_layCrate) (maxL := 2) (ret := (some .boolean)) (by decide) rfl ?_
  intro p e s m args below meth c s₁ B hml hv
  obtain ⟨rfl, hsz, hP, hK, hD0⟩ := hv
  have hx := B.exec
  have hb := B.bytes
  have hr := B.returns
  have hts := atoms_spec (ws := wsX1_layCrate) B.pre
  have hown : s.vm.findClass RX1 = some m.cls := findClass_of_methodNamed B.named
  have hlocks := B.notSynchronized
  have hinX1 : ∀ w ∈ u_ws RX1 TX1 12, w ∈ wsX1_layCrate := fun w h => List.mem_cons_of_mem _ (List.mem_append_left _ (List.mem_append_right _ h))
  have hinX4 : ∀ w ∈ u_ws RX4 TX4 10, w ∈ wsX1_layCrate := fun w h => List.mem_cons_of_mem _ (List.mem_append_right _ h)
  subst hsz
  have hD := hD0.self (sz := s.heap.size)
  have hA : ∀ q : Nat, s.heap.size ≤ q → va_A (wFloor Γ q_fl q_k q_c q_a q_pa q_b q_pb vi vj vk vc va vpa vb vpb) s.heap.size q := fun q h => Or.inr h
  generalize va_A (wFloor Γ q_fl q_k q_c q_a q_pa q_b q_pb vi vj vk vc va vpa vb vpb) s.heap.size = A at hD hA ⊢
  have hS : va_S A s.heap s.heap [] := va_S.rf
  have hl := lv_entry ([.ref q_fl, .int x0]) (n := 2) (Nat.le_of_ble_eq_true rfl)
  rw [lg_entry_eq]
  generalize (lg_sl ([.ref q_fl, .int x0]) ++ List.replicate (2 - (lg_sl ([.ref q_fl, .int x0])).length) Slot.unset).toArray = ls at hl ⊢
  replace hl : lv_has ls 2 [(0, .ref q_fl), (1, .int x0)] := hl
  unfold mX1_layCrate at hm
  refine lv_aload_n hx hb dX1_layCrate_0 rfl (lv_at hl 0 rfl) ?_
  refine lv_iload_n hx hb dX1_layCrate_1 rfl (lv_at hl 1 rfl) ?_
  refine my_call1 (wc := (wFloor Γ q_fl q_k q_c q_a q_pa q_b q_pb vi vj vk vc va vpa vb vpb)) (w1 := (wFloor Γ q_fl q_k q_c q_a q_pa q_b q_pb vi vj vk vc va vpa vb vpb)) (ws1 := (wFloor Γ q_fl q_k q_c q_a q_pa q_b q_pb vi vj vk vc va vpa vb vpb)) hP hD hS hA [0, 1, 2, 3, 4, 5, 6] rfl rfl rfl (va_runV (As := [.int x0]) (rest := []) ⟨hx, hb, hml, hown, hts⟩ (kX1_refusesCrate l Γ q_fl q_k q_c q_a q_pa q_b q_pb vi vj vk vc va vpa vb vpb x0 (mX1_refusesCrate vj vk va vb x0) rfl _) (cwV 1 hts gX1_layCrate_X1_refusesCrate rfl rfl rfl (by decide +kernel) ⟨Nat.le_of_ble_eq_true rfl, Nat.le_of_ble_eq_true rfl⟩) (my_preV (wc := (wFloor Γ q_fl q_k q_c q_a q_pa q_b q_pb vi vj vk vc va vpa vb vpb)) (ci := 1) (q0 := 0) [0, 1, 2, 3, 4, 5, 6] hK hP hD rfl rfl rfl rfl) rfl rfl hl.1 rfl (lv_room (Nat.le_of_ble_eq_true rfl)) dX1_layCrate_2 ⟨Nat.le_of_ble_eq_true rfl, Nat.le_of_ble_eq_true rfl⟩) (fun H locs hP hD hS => ?_)
  refine lv_if_eq (tgt := 10) hx hb dX1_layCrate_5 (by decide) (fun c_1 => ?_) (fun c_1 => ?_)
  · replace hm := if_s hm c_1
    refine lv_aload_n hx hb dX1_layCrate_10 rfl (lv_at hl 0 rfl) ?_
    refine lv_dup hx hb dX1_layCrate_11 rfl ?_
    refine va_get (D := my_D Γ) (ci := 1) (v := .long (vj 4)) (C := RX1) (T := TX1) (N := 12) hx hb hts hinX1 hown hK hP 0 rfl rfl 4 (by decide) (hts (.fieldLink RX1 34 "BeltFloor$Floor" "crates" "J") (List.mem_of_getElem? (i := 1) rfl)) (fun _ h9 => h9) rfl dX1_layCrate_12 ?_
    refine lv_iload_n hx hb dX1_layCrate_15 rfl (lv_at hl 1 rfl) ?_
    refine my_call1 (wc := ([] : va_W)) (w1 := ([] : va_W)) (ws1 := (wFloor Γ q_fl q_k q_c q_a q_pa q_b q_pb vi vj vk vc va vpa vb vpb)) hP hD hS hA [] rfl rfl rfl (va_runS (As := [.int x0]) (rest := [.long (vj 4), .ref q_fl]) ⟨hx, hb, hml, hown, hts⟩ (kX2_setOf l Γ x0 (mX2_setOf x0) rfl _) (va_cwS 1 hts gX1_layCrate_X2_setOf rfl rfl rfl (by decide +kernel) ⟨Nat.le_of_ble_eq_true rfl, Nat.le_of_ble_eq_true rfl⟩) (my_preS (wc := ([] : va_W)) [] hK hP hD rfl rfl) rfl rfl hl.1 rfl (lv_room (Nat.le_of_ble_eq_true rfl)) dX1_layCrate_16 ⟨Nat.le_of_ble_eq_true rfl, Nat.le_of_ble_eq_true rfl⟩) (fun H locs hP hD hS => ?_)
    refine lv_lor hx hb dX1_layCrate_19 ?_
    refine lv_topl (fun y_2 ey_2 => ?_)
    refine va_put (D := my_D Γ) (ci := 1) (v := .long y_2) (ty := .long) (C := RX1) (T := TX1) (N := 12) hx hb hts hinX1 tyX1 tyX1_ok nmX1 hown hK hP hD hS 0 rfl rfl 4 (by decide) (hts (.fieldLink RX1 34 "BeltFloor$Floor" "crates" "J") (List.mem_of_getElem? (i := 1) rfl)) (fun _ h9 => h9) rfl (by decide +kernel) rfl rfl (Nat.le_of_ble_eq_true rfl) dX1_layCrate_20 (fun H locs hP hD hS => ?_)
    replace hP : va_P (my_D Γ) vwCl (wFloor Γ q_fl q_k q_c q_a q_pa q_b q_pb vi (vp_updL vj 4 y_2) vk vc va vpa vb vpb) H := hP
    replace hD : va_D A (wFloor Γ q_fl q_k q_c q_a q_pa q_b q_pb vi (vp_updL vj 4 y_2) vk vc va vpa vb vpb) := hD
    subst ey_2
    refine lv_aload_n hx hb dX1_layCrate_23 rfl (lv_at hl 0 rfl) ?_
    refine lv_dup hx hb dX1_layCrate_24 rfl ?_
    refine va_get (D := my_D Γ) (ci := 1) (v := .int (vi 8)) (C := RX1) (T := TX1) (N := 12) hx hb hts hinX1 hown hK hP 0 rfl rfl 8 (by decide) (hts (.fieldLink RX1 48 "BeltFloor$Floor" "addedCrates" "I") (List.mem_of_getElem? (i := 2) rfl)) (fun _ h9 => h9) rfl dX1_layCrate_25 ?_
    refine lv_iconst (v := (1 : Int32)) hx hb dX1_layCrate_28 (by decide) ?_
    refine lv_iadd hx hb dX1_layCrate_29 ?_
    refine lv_topi (fun y_3 ey_3 => ?_)
    refine va_put (D := my_D Γ) (ci := 1) (v := .int y_3) (ty := .int) (C := RX1) (T := TX1) (N := 12) hx hb hts hinX1 tyX1 tyX1_ok nmX1 hown hK hP hD hS 0 rfl rfl 8 (by decide) (hts (.fieldLink RX1 48 "BeltFloor$Floor" "addedCrates" "I") (List.mem_of_getElem? (i := 2) rfl)) (fun _ h9 => h9) rfl (by decide +kernel) rfl rfl (Nat.le_of_ble_eq_true rfl) dX1_layCrate_30 (fun H locs hP hD hS => ?_)
    replace hP : va_P (my_D Γ) vwCl (wFloor Γ q_fl q_k q_c q_a q_pa q_b q_pb (upd vi 8 y_3) (vp_updL vj 4 ((vj 4) ||| (mX2_setOf x0))) vk vc va vpa vb vpb) H := hP
    replace hD : va_D A (wFloor Γ q_fl q_k q_c q_a q_pa q_b q_pb (upd vi 8 y_3) (vp_updL vj 4 ((vj 4) ||| (mX2_setOf x0))) vk vc va vpa vb vpb) := hD
    subst ey_3
    refine lv_iconst (v := (1 : Int32)) hx hb dX1_layCrate_33 (by decide) ?_
    obtain ⟨hf0, hf1, hf2⟩ := ti3 hm
    subst hf0
    subst hf1
    subst hf2
    exact W.zret (v := (1 : Int32)) hx hb hr rfl (fun t ht hW => ⟨⟨rfl, by rw [ht]; exact hP⟩, hS.F ht⟩) hS.2.2 dX1_layCrate_34
  · replace hm := if_f hm c_1
    refine lv_iconst (v := (0 : Int32)) hx hb dX1_layCrate_8 (by decide) ?_
    obtain ⟨hf0, hf1, hf2⟩ := ti3 hm
    subst hf0
    subst hf1
    subst hf2
    exact W.zret (v := (0 : Int32)) hx hb hr rfl (fun t ht hW => ⟨⟨rfl, by rw [ht]; exact hP⟩, hS.F ht⟩) hS.2.2 dX1_layCrate_9
def mX1_markCheckpoint (vi : Nat → Int32) (vk : Nat → Int32) (vc : Nat → Int32) (x0 : Int32) : Option (Int32 × (Nat → Int32) × (Nat → Int32)) := (bo1 (mX1_refusesCheckpoint vi vk vc x0) (fun r_1 => (if r_1 = 0 then (if (vi 7) < 0 then (some ((0 : Int32), vi, vc)) else (if (vi 7) < (4 : Int32) then (some ((1 : Int32), (upd vi 7 ((vi 7) + (1 : Int32))), (upd vc (vi 7).toNatClampNeg x0))) else (some ((0 : Int32), vi, vc)))) else (some ((0 : Int32), vi, vc)))))
set_option maxHeartbeats 4000000 in
set_option maxRecDepth 100000 in
theorem kX1_markCheckpoint (l : Launch) (Γ : my_G) (q_fl q_k q_c q_a q_pa q_b q_pb : Nat) (vi : Nat → Int32) (vj : Nat → Int64) (vk : Nat → Int32) (vc : Nat → Int32) (va : Nat → Int32) (vpa : Nat → Int32) (vb : Nat → Int32) (vpb : Nat → Int32) (x0 : Int32) (rr : Int32) (vi_z : Nat → Int32) (vc_z : Nat → Int32) (hm : mX1_markCheckpoint vi vk vc x0 = (some (rr, vi_z, vc_z))) : Mn l yX1_markCheckpoint wsX1_markCheckpoint ({ frames := 3, cells := 0, slots := 0, locals := 65 } : Room) Γ [.ref q_fl, .int x0] (wFloor Γ q_fl q_k q_c q_a q_pa q_b q_pb vi vj vk vc va vpa vb vpb) (some (.int rr)) (wFloor Γ q_fl q_k q_c q_a q_pa q_b q_pb vi_z vj vk vc_z va vpa vb vpb) := by
  intro sz
  refine Met.ofW (cc := cX1_markCheckpoint) (maxL := 2) (ret := (some .boolean)) (by decide) rfl ?_
  intro p e s m args below meth c s₁ B hml hv
  obtain ⟨rfl, hsz, hP, hK, hD0⟩ := hv
  have hx := B.exec
  have hb := B.bytes
  have hr := B.returns
  have hts := atoms_spec (ws := wsX1_markCheckpoint) B.pre
  have hown : s.vm.findClass RX1 = some m.cls := findClass_of_methodNamed B.named
  have hlocks := B.notSynchronized
  have hinX1 : ∀ w ∈ u_ws RX1 TX1 12, w ∈ wsX1_markCheckpoint := fun w h => List.mem_cons_of_mem _ (List.mem_append_right _ h)
  subst hsz
  have hD := hD0.self (sz := s.heap.size)
  have hA : ∀ q : Nat, s.heap.size ≤ q → va_A (wFloor Γ q_fl q_k q_c q_a q_pa q_b q_pb vi vj vk vc va vpa vb vpb) s.heap.size q := fun q h => Or.inr h
  generalize va_A (wFloor Γ q_fl q_k q_c q_a q_pa q_b q_pb vi vj vk vc va vpa vb vpb) s.heap.size = A at hD hA ⊢
  have hS : va_S A s.heap s.heap [] := va_S.rf
  have hl := lv_entry ([.ref q_fl, .int x0]) (n := 2) (Nat.le_of_ble_eq_true rfl)
  rw [lg_entry_eq]
  generalize (lg_sl ([.ref q_fl, .int x0]) ++ List.replicate (2 - (lg_sl ([.ref q_fl, .int x0])).length) Slot.unset).toArray = ls at hl ⊢
  replace hl : lv_has ls 2 [(0, .ref q_fl), (1, .int x0)] := hl
  unfold mX1_markCheckpoint at hm
  refine lv_aload_n hx hb dX1_markCheckpoint_0 rfl (lv_at hl 0 rfl) ?_
  refine lv_iload_n hx hb dX1_markCheckpoint_1 rfl (lv_at hl 1 rfl) ?_
  obtain ⟨r_1, hc_2, hm⟩ := bo1_s hm
  refine my_call1 (wc := (wFloor Γ q_fl q_k q_c q_a q_pa q_b q_pb vi vj vk vc va vpa vb vpb)) (w1 := (wFloor Γ q_fl q_k q_c q_a q_pa q_b q_pb vi vj vk vc va vpa vb vpb)) (ws1 := (wFloor Γ q_fl q_k q_c q_a q_pa q_b q_pb vi vj vk vc va vpa vb vpb)) hP hD hS hA [0, 1, 2, 3, 4, 5, 6] rfl rfl rfl (va_runV (As := [.int x0]) (rest := []) ⟨hx, hb, hml, hown, hts⟩ (kX1_refusesCheckpoint l Γ q_fl q_k q_c q_a q_pa q_b q_pb vi vj vk vc va vpa vb vpb x0 r_1 hc_2 _) (cwV 1 hts gX1_markCheckpoint_X1_refusesCheckpoint rfl rfl rfl (by decide +kernel) ⟨Nat.le_of_ble_eq_true rfl, Nat.le_of_ble_eq_true rfl⟩) (my_preV (wc := (wFloor Γ q_fl q_k q_c q_a q_pa q_b q_pb vi vj vk vc va vpa vb vpb)) (ci := 1) (q0 := 0) [0, 1, 2, 3, 4, 5, 6] hK hP hD rfl rfl rfl rfl) rfl rfl hl.1 rfl (lv_room (Nat.le_of_ble_eq_true rfl)) dX1_markCheckpoint_2 ⟨Nat.le_of_ble_eq_true rfl, Nat.le_of_ble_eq_true rfl⟩) (fun H locs hP hD hS => ?_)
  refine lv_if_ne (tgt := 27) hx hb dX1_markCheckpoint_5 (by decide) (fun c_3 => ?_) (fun c_3 => ?_)
  · replace hm := if_f hm c_3
    refine lv_iconst (v := (0 : Int32)) hx hb dX1_markCheckpoint_27 (by decide) ?_
    obtain ⟨hf0, hf1, hf2⟩ := si3 hm
    subst hf0
    subst hf1
    subst hf2
    exact W.zret (v := (0 : Int32)) hx hb hr rfl (fun t ht hW => ⟨⟨rfl, by rw [ht]; exact hP⟩, hS.F ht⟩) hS.2.2 dX1_markCheckpoint_28
  · replace hm := if_s hm c_3
    refine lv_aload_n hx hb dX1_markCheckpoint_8 rfl (lv_at hl 0 rfl) ?_
    refine va_get (D := my_D Γ) (ci := 1) (v := .int (vi 7)) (C := RX1) (T := TX1) (N := 12) hx hb hts hinX1 hown hK hP 0 rfl rfl 7 (by decide) (hts (.fieldLink RX1 44 "BeltFloor$Floor" "checkpointCount" "I") (List.mem_of_getElem? (i := 1) rfl)) (fun _ h9 => h9) rfl dX1_markCheckpoint_9 ?_
    refine lv_if_lt (tgt := 27) hx hb dX1_markCheckpoint_12 (by decide) (fun c_4 => ?_) (fun c_4 => ?_)
    · replace hm := if_s hm c_4
      refine lv_iconst (v := (0 : Int32)) hx hb dX1_markCheckpoint_27 (by decide) ?_
      obtain ⟨hf0, hf1, hf2⟩ := si3 hm
      subst hf0
      subst hf1
      subst hf2
      exact W.zret (v := (0 : Int32)) hx hb hr rfl (fun t ht hW => ⟨⟨rfl, by rw [ht]; exact hP⟩, hS.F ht⟩) hS.2.2 dX1_markCheckpoint_28
    · replace hm := if_f hm c_4
      refine lv_aload_n hx hb dX1_markCheckpoint_15 rfl (lv_at hl 0 rfl) ?_
      refine va_get (D := my_D Γ) (ci := 1) (v := .int (vi 7)) (C := RX1) (T := TX1) (N := 12) hx hb hts hinX1 hown hK hP 0 rfl rfl 7 (by decide) (hts (.fieldLink RX1 44 "BeltFloor$Floor" "checkpointCount" "I") (List.mem_of_getElem? (i := 1) rfl)) (fun _ h9 => h9) rfl dX1_markCheckpoint_16 ?_
      refine lv_aload_n hx hb dX1_markCheckpoint_19 rfl (lv_at hl 0 rfl) ?_
      refine va_get (D := my_D Γ) (ci := 1) (v := .ref q_c) (C := RX1) (T := TX1) (N := 12) hx hb hts hinX1 hown hK hP 0 rfl rfl 1 (by decide) (hts (.fieldLink RX1 15 "BeltFloor$Floor" "checkpointCells" "[I") (List.mem_of_getElem? (i := 2) rfl)) (fun _ h9 => h9) rfl dX1_markCheckpoint_20 ?_
      refine va_alen hx hb hK hP 2 0 rfl rfl (v := (4 : Int32)) rfl dX1_markCheckpoint_23 ?_
      refine lv_icmp_lt (tgt := 29) hx hb dX1_markCheckpoint_24 (by decide) (fun c_5 => ?_) (fun c_5 => ?_)
      · replace hm := if_s hm c_5
        refine lv_aload_n hx hb dX1_markCheckpoint_29 rfl (lv_at hl 0 rfl) ?_
        refine va_get (D := my_D Γ) (ci := 1) (v := .ref q_c) (C := RX1) (T := TX1) (N := 12) hx hb hts hinX1 hown hK hP 0 rfl rfl 1 (by decide) (hts (.fieldLink RX1 15 "BeltFloor$Floor" "checkpointCells" "[I") (List.mem_of_getElem? (i := 2) rfl)) (fun _ h9 => h9) rfl dX1_markCheckpoint_30 ?_
        refine lv_aload_n hx hb dX1_markCheckpoint_33 rfl (lv_at hl 0 rfl) ?_
        refine va_get (D := my_D Γ) (ci := 1) (v := .int (vi 7)) (C := RX1) (T := TX1) (N := 12) hx hb hts hinX1 hown hK hP 0 rfl rfl 7 (by decide) (hts (.fieldLink RX1 44 "BeltFloor$Floor" "checkpointCount" "I") (List.mem_of_getElem? (i := 1) rfl)) (fun _ h9 => h9) rfl dX1_markCheckpoint_34 ?_
        refine lv_iload_n hx hb dX1_markCheckpoint_37 rfl (lv_at hl 1 rfl) ?_
        refine va_iast hx hb hK hP hD hS 2 0 rfl rfl (my_in c_4 c_5 rfl) dX1_markCheckpoint_38 (fun H locs hP hD hS => ?_)
        replace hP : va_P (my_D Γ) vwCl (wFloor Γ q_fl q_k q_c q_a q_pa q_b q_pb vi vj vk (upd vc (vi 7).toNatClampNeg x0) va vpa vb vpb) H := hP
        replace hD : va_D A (wFloor Γ q_fl q_k q_c q_a q_pa q_b q_pb vi vj vk (upd vc (vi 7).toNatClampNeg x0) va vpa vb vpb) := hD
        refine lv_aload_n hx hb dX1_markCheckpoint_39 rfl (lv_at hl 0 rfl) ?_
        refine lv_dup hx hb dX1_markCheckpoint_40 rfl ?_
        refine va_get (D := my_D Γ) (ci := 1) (v := .int (vi 7)) (C := RX1) (T := TX1) (N := 12) hx hb hts hinX1 hown hK hP 0 rfl rfl 7 (by decide) (hts (.fieldLink RX1 44 "BeltFloor$Floor" "checkpointCount" "I") (List.mem_of_getElem? (i := 1) rfl)) (fun _ h9 => h9) rfl dX1_markCheckpoint_41 ?_
        refine lv_iconst (v := (1 : Int32)) hx hb dX1_markCheckpoint_44 (by decide) ?_
        refine lv_iadd hx hb dX1_markCheckpoint_45 ?_
        refine lv_topi (fun y_6 ey_6 => ?_)
        refine va_put (D := my_D Γ) (ci := 1) (v := .int y_6) (ty := .int) (C := RX1) (T := TX1) (N := 12) hx hb hts hinX1 tyX1 tyX1_ok nmX1 hown hK hP hD hS 0 rfl rfl 7 (by decide) (hts (.fieldLink RX1 44 "BeltFloor$Floor" "checkpointCount" "I") (List.mem_of_getElem? (i := 1) rfl)) (fun _ h9 => h9) rfl (by decide +kernel) rfl rfl (Nat.le_of_ble_eq_true rfl) dX1_markCheckpoint_46 (fun H locs hP hD hS => ?_)
        replace hP : va_P (my_D Γ) vwCl (wFloor Γ q_fl q_k q_c q_a q_pa q_b q_pb (upd vi 7 y_6) vj vk (upd vc (vi 7).toNatClampNeg x0) va vpa vb vpb) H := hP
        replace hD : va_D A (wFloor Γ q_fl q_k q_c q_a q_pa q_b q_pb (upd vi 7 y_6) vj vk (upd vc (vi 7).toNatClampNeg x0) va vpa vb vpb) := hD
        subst ey_6
        refine lv_iconst (v := (1 : Int32)) hx hb dX1_markCheckpoint_49 (by decide) ?_
        obtain ⟨hf0, hf1, hf2⟩ := si3 hm
        subst hf0
        subst hf1
        subst hf2
        exact W.zret (v := (1 : Int32)) hx hb hr rfl (fun t ht hW => ⟨⟨rfl, by rw [ht]; exact hP⟩, hS.F ht⟩) hS.2.2 dX1_markCheckpoint_50
      · replace hm := if_f hm c_5
        refine lv_iconst (v := (0 : Int32)) hx hb dX1_markCheckpoint_27 (by decide) ?_
        obtain ⟨hf0, hf1, hf2⟩ := si3 hm
        subst hf0
        subst hf1
        subst hf2
        exact W.zret (v := (0 : Int32)) hx hb hr rfl (fun t ht hW => ⟨⟨rfl, by rw [ht]; exact hP⟩, hS.F ht⟩) hS.2.2 dX1_markCheckpoint_28
def mX1_placeRobot (vj : Nat → Int64) (vk : Nat → Int32) (va : Nat → Int32) (vb : Nat → Int32) (x0 : Int32) (x1 : Int32) (x2 : Int32) : Int32 × (Nat → Int32) × (Nat → Int32) := (if (mX1_refusesRobot vj vk va vb x0 x1) = 0 then (if x0 = 0 then ((1 : Int32), (upd (upd va 0 x1) 1 x2), vb) else ((1 : Int32), va, (upd (upd vb 0 x1) 1 x2))) else ((0 : Int32), va, vb))
set_option maxHeartbeats 4000000 in
set_option maxRecDepth 100000 in
theorem kX1_placeRobot (l : Launch) (Γ : my_G) (q_fl q_k q_c q_a q_pa q_b q_pb : Nat) (vi : Nat → Int32) (vj : Nat → Int64) (vk : Nat → Int32) (vc : Nat → Int32) (va : Nat → Int32) (vpa : Nat → Int32) (vb : Nat → Int32) (vpb : Nat → Int32) (x0 : Int32) (x1 : Int32) (x2 : Int32) (rr : Int32) (va_z : Nat → Int32) (vb_z : Nat → Int32) (hm : mX1_placeRobot vj vk va vb x0 x1 x2 = (rr, va_z, vb_z)) : Mn l yX1_placeRobot wsX1_placeRobot ({ frames := 3, cells := 0, slots := 0, locals := 64 } : Room) Γ [.ref q_fl, .int x0, .int x1, .int x2] (wFloor Γ q_fl q_k q_c q_a q_pa q_b q_pb vi vj vk vc va vpa vb vpb) (some (.int rr)) (wFloor Γ q_fl q_k q_c q_a q_pa q_b q_pb vi vj vk vc va_z vpa vb_z vpb) := by
  intro sz
  refine Met.ofW (cc := cX1_placeRobot) (maxL := 4) (ret := (some .boolean)) (by decide) rfl ?_
  intro p e s m args below meth c s₁ B hml hv
  obtain ⟨rfl, hsz, hP, hK, hD0⟩ := hv
  have hx := B.exec
  have hb := B.bytes
  have hr := B.returns
  have hts := atoms_spec (ws := wsX1_placeRobot) B.pre
  have hown : s.vm.findClass RX1 = some m.cls := findClass_of_methodNamed B.named
  have hlocks := B.notSynchronized
  have hinX1 : ∀ w ∈ u_ws RX1 TX1 12, w ∈ wsX1_placeRobot := fun w h => List.mem_cons_of_mem _ (List.mem_append_right _ h)
  have hinX4 : ∀ w ∈ u_ws RX4 TX4 10, w ∈ wsX1_placeRobot := fun w h => List.mem_cons_of_mem _ (List.mem_append_left _ (List.mem_append_right _ h))
  subst hsz
  have hD := hD0.self (sz := s.heap.size)
  have hA : ∀ q : Nat, s.heap.size ≤ q → va_A (wFloor Γ q_fl q_k q_c q_a q_pa q_b q_pb vi vj vk vc va vpa vb vpb) s.heap.size q := fun q h => Or.inr h
  generalize va_A (wFloor Γ q_fl q_k q_c q_a q_pa q_b q_pb vi vj vk vc va vpa vb vpb) s.heap.size = A at hD hA ⊢
  have hS : va_S A s.heap s.heap [] := va_S.rf
  have hl := lv_entry ([.ref q_fl, .int x0, .int x1, .int x2]) (n := 4) (Nat.le_of_ble_eq_true rfl)
  rw [lg_entry_eq]
  generalize (lg_sl ([.ref q_fl, .int x0, .int x1, .int x2]) ++ List.replicate (4 - (lg_sl ([.ref q_fl, .int x0, .int x1, .int x2])).length) Slot.unset).toArray = ls at hl ⊢
  replace hl : lv_has ls 4 [(0, .ref q_fl), (1, .int x0), (2, .int x1), (3, .int x2)] := hl
  unfold mX1_placeRobot at hm
  refine lv_aload_n hx hb dX1_placeRobot_0 rfl (lv_at hl 0 rfl) ?_
  refine lv_iload_n hx hb dX1_placeRobot_1 rfl (lv_at hl 1 rfl) ?_
  refine lv_iload_n hx hb dX1_placeRobot_2 rfl (lv_at hl 2 rfl) ?_
  refine my_call1 (wc := (wFloor Γ q_fl q_k q_c q_a q_pa q_b q_pb vi vj vk vc va vpa vb vpb)) (w1 := (wFloor Γ q_fl q_k q_c q_a q_pa q_b q_pb vi vj vk vc va vpa vb vpb)) (ws1 := (wFloor Γ q_fl q_k q_c q_a q_pa q_b q_pb vi vj vk vc va vpa vb vpb)) hP hD hS hA [0, 1, 2, 3, 4, 5, 6] rfl rfl rfl (va_runV (As := [.int x0, .int x1]) (rest := []) ⟨hx, hb, hml, hown, hts⟩ (kX1_refusesRobot l Γ q_fl q_k q_c q_a q_pa q_b q_pb vi vj vk vc va vpa vb vpb x0 x1 (mX1_refusesRobot vj vk va vb x0 x1) rfl _) (cwV 2 hts gX1_placeRobot_X1_refusesRobot rfl rfl rfl (by decide +kernel) ⟨Nat.le_of_ble_eq_true rfl, Nat.le_of_ble_eq_true rfl⟩) (my_preV (wc := (wFloor Γ q_fl q_k q_c q_a q_pa q_b q_pb vi vj vk vc va vpa vb vpb)) (ci := 1) (q0 := 0) [0, 1, 2, 3, 4, 5, 6] hK hP hD rfl rfl rfl rfl) rfl rfl hl.1 rfl (lv_room (Nat.le_of_ble_eq_true rfl)) dX1_placeRobot_3 ⟨Nat.le_of_ble_eq_true rfl, Nat.le_of_ble_eq_true rfl⟩) (fun H locs hP hD hS => ?_)
  refine lv_if_eq (tgt := 11) hx hb dX1_placeRobot_6 (by decide) (fun c_1 => ?_) (fun c_1 => ?_)
  · replace hm := if_s hm c_1
    refine lv_aload_n hx hb dX1_placeRobot_11 rfl (lv_at hl 0 rfl) ?_
    refine lv_iload_n hx hb dX1_placeRobot_12 rfl (lv_at hl 1 rfl) ?_
    by_cases c_2 : x0 = 0
    · replace hm := if_s hm c_2
      refine my_call1 (wc := (wFloor Γ q_fl q_k q_c q_a q_pa q_b q_pb vi vj vk vc va vpa vb vpb)) (w1 := (wFloor Γ q_fl q_k q_c q_a q_pa q_b q_pb vi vj vk vc va vpa vb vpb)) (ws1 := (wFloor Γ q_fl q_k q_c q_a q_pa q_b q_pb vi vj vk vc va vpa vb vpb)) hP hD hS hA [0, 1, 2, 3, 4, 5, 6] rfl rfl rfl (va_runV (As := [.int x0]) (rest := []) ⟨hx, hb, hml, hown, hts⟩ (kX1_robot_0 l Γ q_fl q_k q_c q_a q_pa q_b q_pb vi vj vk vc va vpa vb vpb x0 c_2 _) (cwV 1 hts gX1_placeRobot_X1_robot rfl rfl rfl (by decide +kernel) ⟨Nat.le_of_ble_eq_true rfl, Nat.le_of_ble_eq_true rfl⟩) (my_preV (wc := (wFloor Γ q_fl q_k q_c q_a q_pa q_b q_pb vi vj vk vc va vpa vb vpb)) (ci := 1) (q0 := 0) [0, 1, 2, 3, 4, 5, 6] hK hP hD rfl rfl rfl rfl) rfl rfl hl.1 rfl (lv_room (Nat.le_of_ble_eq_true rfl)) dX1_placeRobot_13 ⟨Nat.le_of_ble_eq_true rfl, Nat.le_of_ble_eq_true rfl⟩) (fun H locs hP hD hS => ?_)
      refine lv_iload_n hx hb dX1_placeRobot_16 rfl (lv_at hl 2 rfl) ?_
      refine va_put (D := my_D Γ) (ci := 3) (v := .int x1) (ty := .int) (C := RX4) (T := TX4) (N := 10) hx hb hts hinX4 tyX4 tyX4_ok nmX4 hown hK hP hD hS 3 rfl rfl 0 (by decide) (hts (.fieldLink RX1 70 "BeltFloor$Robot" "cell" "I") (List.mem_of_getElem? (i := 1) rfl)) (fun _ h9 => h9) rfl (by decide +kernel) rfl rfl (Nat.le_of_ble_eq_true rfl) dX1_placeRobot_17 (fun H locs hP hD hS => ?_)
      replace hP : va_P (my_D Γ) vwCl (wFloor Γ q_fl q_k q_c q_a q_pa q_b q_pb vi vj vk vc (upd va 0 x1) vpa vb vpb) H := hP
      replace hD : va_D A (wFloor Γ q_fl q_k q_c q_a q_pa q_b q_pb vi vj vk vc (upd va 0 x1) vpa vb vpb) := hD
      refine lv_aload_n hx hb dX1_placeRobot_20 rfl (lv_at hl 0 rfl) ?_
      refine lv_iload_n hx hb dX1_placeRobot_21 rfl (lv_at hl 1 rfl) ?_
      refine my_call1 (wc := (wFloor Γ q_fl q_k q_c q_a q_pa q_b q_pb vi vj vk vc (upd va 0 x1) vpa vb vpb)) (w1 := (wFloor Γ q_fl q_k q_c q_a q_pa q_b q_pb vi vj vk vc (upd va 0 x1) vpa vb vpb)) (ws1 := (wFloor Γ q_fl q_k q_c q_a q_pa q_b q_pb vi vj vk vc (upd va 0 x1) vpa vb vpb)) hP hD hS hA [0, 1, 2, 3, 4, 5, 6] rfl rfl rfl (va_runV (As := [.int x0]) (rest := []) ⟨hx, hb, hml, hown, hts⟩ (kX1_robot_0 l Γ q_fl q_k q_c q_a q_pa q_b q_pb vi vj vk vc (upd va 0 x1) vpa vb vpb x0 c_2 _) (cwV 1 hts gX1_placeRobot_X1_robot rfl rfl rfl (by decide +kernel) ⟨Nat.le_of_ble_eq_true rfl, Nat.le_of_ble_eq_true rfl⟩) (my_preV (wc := (wFloor Γ q_fl q_k q_c q_a q_pa q_b q_pb vi vj vk vc (upd va 0 x1) vpa vb vpb)) (ci := 1) (q0 := 0) [0, 1, 2, 3, 4, 5, 6] hK hP hD rfl rfl rfl rfl) rfl rfl hl.1 rfl (lv_room (Nat.le_of_ble_eq_true rfl)) dX1_placeRobot_22 ⟨Nat.le_of_ble_eq_true rfl, Nat.le_of_ble_eq_true rfl⟩) (fun H locs hP hD hS => ?_)
      refine lv_iload_n hx hb dX1_placeRobot_25 rfl (lv_at hl 3 rfl) ?_
      refine va_put (D := my_D Γ) (ci := 3) (v := .int x2) (ty := .int) (C := RX4) (T := TX4) (N := 10) hx hb hts hinX4 tyX4 tyX4_ok nmX4 hown hK hP hD hS 3 rfl rfl 1 (by decide) (hts (.fieldLink RX1 128 "BeltFloor$Robot" "facing" "I") (List.mem_of_getElem? (i := 2) rfl)) (fun _ h9 => h9) rfl (by decide +kernel) rfl rfl (Nat.le_of_ble_eq_true rfl) dX1_placeRobot_26 (fun H locs hP hD hS => ?_)
      replace hP : va_P (my_D Γ) vwCl (wFloor Γ q_fl q_k q_c q_a q_pa q_b q_pb vi vj vk vc (upd (upd va 0 x1) 1 x2) vpa vb vpb) H := hP
      replace hD : va_D A (wFloor Γ q_fl q_k q_c q_a q_pa q_b q_pb vi vj vk vc (upd (upd va 0 x1) 1 x2) vpa vb vpb) := hD
      refine lv_iconst (v := (1 : Int32)) hx hb dX1_placeRobot_29 (by decide) ?_
      obtain ⟨hf0, hf1, hf2⟩ := ti3 hm
      subst hf0
      subst hf1
      subst hf2
      exact W.zret (v := (1 : Int32)) hx hb hr rfl (fun t ht hW => ⟨⟨rfl, by rw [ht]; exact hP⟩, hS.F ht⟩) hS.2.2 dX1_placeRobot_30
    · replace hm := if_f hm c_2
      refine my_call1 (wc := (wFloor Γ q_fl q_k q_c q_a q_pa q_b q_pb vi vj vk vc va vpa vb vpb)) (w1 := (wFloor Γ q_fl q_k q_c q_a q_pa q_b q_pb vi vj vk vc va vpa vb vpb)) (ws1 := (wFloor Γ q_fl q_k q_c q_a q_pa q_b q_pb vi vj vk vc va vpa vb vpb)) hP hD hS hA [0, 1, 2, 3, 4, 5, 6] rfl rfl rfl (va_runV (As := [.int x0]) (rest := []) ⟨hx, hb, hml, hown, hts⟩ (kX1_robot_1 l Γ q_fl q_k q_c q_a q_pa q_b q_pb vi vj vk vc va vpa vb vpb x0 c_2 _) (cwV 1 hts gX1_placeRobot_X1_robot rfl rfl rfl (by decide +kernel) ⟨Nat.le_of_ble_eq_true rfl, Nat.le_of_ble_eq_true rfl⟩) (my_preV (wc := (wFloor Γ q_fl q_k q_c q_a q_pa q_b q_pb vi vj vk vc va vpa vb vpb)) (ci := 1) (q0 := 0) [0, 1, 2, 3, 4, 5, 6] hK hP hD rfl rfl rfl rfl) rfl rfl hl.1 rfl (lv_room (Nat.le_of_ble_eq_true rfl)) dX1_placeRobot_13 ⟨Nat.le_of_ble_eq_true rfl, Nat.le_of_ble_eq_true rfl⟩) (fun H locs hP hD hS => ?_)
      refine lv_iload_n hx hb dX1_placeRobot_16 rfl (lv_at hl 2 rfl) ?_
      refine va_put (D := my_D Γ) (ci := 3) (v := .int x1) (ty := .int) (C := RX4) (T := TX4) (N := 10) hx hb hts hinX4 tyX4 tyX4_ok nmX4 hown hK hP hD hS 5 rfl rfl 0 (by decide) (hts (.fieldLink RX1 70 "BeltFloor$Robot" "cell" "I") (List.mem_of_getElem? (i := 1) rfl)) (fun _ h9 => h9) rfl (by decide +kernel) rfl rfl (Nat.le_of_ble_eq_true rfl) dX1_placeRobot_17 (fun H locs hP hD hS => ?_)
      replace hP : va_P (my_D Γ) vwCl (wFloor Γ q_fl q_k q_c q_a q_pa q_b q_pb vi vj vk vc va vpa (upd vb 0 x1) vpb) H := hP
      replace hD : va_D A (wFloor Γ q_fl q_k q_c q_a q_pa q_b q_pb vi vj vk vc va vpa (upd vb 0 x1) vpb) := hD
      refine lv_aload_n hx hb dX1_placeRobot_20 rfl (lv_at hl 0 rfl) ?_
      refine lv_iload_n hx hb dX1_placeRobot_21 rfl (lv_at hl 1 rfl) ?_
      refine my_call1 (wc := (wFloor Γ q_fl q_k q_c q_a q_pa q_b q_pb vi vj vk vc va vpa (upd vb 0 x1) vpb)) (w1 := (wFloor Γ q_fl q_k q_c q_a q_pa q_b q_pb vi vj vk vc va vpa (upd vb 0 x1) vpb)) (ws1 := (wFloor Γ q_fl q_k q_c q_a q_pa q_b q_pb vi vj vk vc va vpa (upd vb 0 x1) vpb)) hP hD hS hA [0, 1, 2, 3, 4, 5, 6] rfl rfl rfl (va_runV (As := [.int x0]) (rest := []) ⟨hx, hb, hml, hown, hts⟩ (kX1_robot_1 l Γ q_fl q_k q_c q_a q_pa q_b q_pb vi vj vk vc va vpa (upd vb 0 x1) vpb x0 c_2 _) (cwV 1 hts gX1_placeRobot_X1_robot rfl rfl rfl (by decide +kernel) ⟨Nat.le_of_ble_eq_true rfl, Nat.le_of_ble_eq_true rfl⟩) (my_preV (wc := (wFloor Γ q_fl q_k q_c q_a q_pa q_b q_pb vi vj vk vc va vpa (upd vb 0 x1) vpb)) (ci := 1) (q0 := 0) [0, 1, 2, 3, 4, 5, 6] hK hP hD rfl rfl rfl rfl) rfl rfl hl.1 rfl (lv_room (Nat.le_of_ble_eq_true rfl)) dX1_placeRobot_22 ⟨Nat.le_of_ble_eq_true rfl, Nat.le_of_ble_eq_true rfl⟩) (fun H locs hP hD hS => ?_)
      refine lv_iload_n hx hb dX1_placeRobot_25 rfl (lv_at hl 3 rfl) ?_
      refine va_put (D := my_D Γ) (ci := 3) (v := .int x2) (ty := .int) (C := RX4) (T := TX4) (N := 10) hx hb hts hinX4 tyX4 tyX4_ok nmX4 hown hK hP hD hS 5 rfl rfl 1 (by decide) (hts (.fieldLink RX1 128 "BeltFloor$Robot" "facing" "I") (List.mem_of_getElem? (i := 2) rfl)) (fun _ h9 => h9) rfl (by decide +kernel) rfl rfl (Nat.le_of_ble_eq_true rfl) dX1_placeRobot_26 (fun H locs hP hD hS => ?_)
      replace hP : va_P (my_D Γ) vwCl (wFloor Γ q_fl q_k q_c q_a q_pa q_b q_pb vi vj vk vc va vpa (upd (upd vb 0 x1) 1 x2) vpb) H := hP
      replace hD : va_D A (wFloor Γ q_fl q_k q_c q_a q_pa q_b q_pb vi vj vk vc va vpa (upd (upd vb 0 x1) 1 x2) vpb) := hD
      refine lv_iconst (v := (1 : Int32)) hx hb dX1_placeRobot_29 (by decide) ?_
      obtain ⟨hf0, hf1, hf2⟩ := ti3 hm
      subst hf0
      subst hf1
      subst hf2
      exact W.zret (v := (1 : Int32)) hx hb hr rfl (fun t ht hW => ⟨⟨rfl, by rw [ht]; exact hP⟩, hS.F ht⟩) hS.2.2 dX1_placeRobot_30
  · replace hm := if_f hm c_1
    refine lv_iconst (v := (0 : Int32)) hx hb dX1_placeRobot_9 (by decide) ?_
    obtain ⟨hf0, hf1, hf2⟩ := ti3 hm
    subst hf0
    subst hf1
    subst hf2
    exact W.zret (v := (0 : Int32)) hx hb hr rfl (fun t ht hW => ⟨⟨rfl, by rw [ht]; exact hP⟩, hS.F ht⟩) hS.2.2 dX1_placeRobot_10
def mX1_liftCrate (vi : Nat → Int32) (vj : Nat → Int64) (x0 : Int32) : (Nat → Int32) × (Nat → Int64) := ((upd vi 9 ((vi 9) + (1 : Int32))), (vp_updL vj 4 ((vj 4) &&& ((mX2_setOf x0) ^^^ (-1 : Int64)))))
set_option maxHeartbeats 4000000 in
set_option maxRecDepth 100000 in
theorem kX1_liftCrate (l : Launch) (Γ : my_G) (q_fl q_k q_c q_a q_pa q_b q_pb : Nat) (vi : Nat → Int32) (vj : Nat → Int64) (vk : Nat → Int32) (vc : Nat → Int32) (va : Nat → Int32) (vpa : Nat → Int32) (vb : Nat → Int32) (vpb : Nat → Int32) (x0 : Int32) (vi_z : Nat → Int32) (vj_z : Nat → Int64) (hm : mX1_liftCrate vi vj x0 = (vi_z, vj_z)) : Mn l yX1_liftCrate wsX1_liftCrate ({ frames := 1, cells := 0, slots := 0, locals := 20 } : Room) Γ [.ref q_fl, .int x0] (wFloor Γ q_fl q_k q_c q_a q_pa q_b q_pb vi vj vk vc va vpa vb vpb) none (wFloor Γ q_fl q_k q_c q_a q_pa q_b q_pb vi_z vj_z vk vc va vpa vb vpb) := by
  intro sz
  refine Met.ofW (cc := cX1_liftCrate) (maxL := 2) (ret := none) (by decide) rfl ?_
  intro p e s m args below meth c s₁ B hml hv
  obtain ⟨rfl, hsz, hP, hK, hD0⟩ := hv
  have hx := B.exec
  have hb := B.bytes
  have hr := B.returns
  have hts := atoms_spec (ws := wsX1_liftCrate) B.pre
  have hown : s.vm.findClass RX1 = some m.cls := findClass_of_methodNamed B.named
  have hlocks := B.notSynchronized
  have hinX1 : ∀ w ∈ u_ws RX1 TX1 12, w ∈ wsX1_liftCrate := fun w h => List.mem_cons_of_mem _ (List.mem_append_right _ h)
  subst hsz
  have hD := hD0.self (sz := s.heap.size)
  have hA : ∀ q : Nat, s.heap.size ≤ q → va_A (wFloor Γ q_fl q_k q_c q_a q_pa q_b q_pb vi vj vk vc va vpa vb vpb) s.heap.size q := fun q h => Or.inr h
  generalize va_A (wFloor Γ q_fl q_k q_c q_a q_pa q_b q_pb vi vj vk vc va vpa vb vpb) s.heap.size = A at hD hA ⊢
  have hS : va_S A s.heap s.heap [] := va_S.rf
  have hl := lv_entry ([.ref q_fl, .int x0]) (n := 2) (Nat.le_of_ble_eq_true rfl)
  rw [lg_entry_eq]
  generalize (lg_sl ([.ref q_fl, .int x0]) ++ List.replicate (2 - (lg_sl ([.ref q_fl, .int x0])).length) Slot.unset).toArray = ls at hl ⊢
  replace hl : lv_has ls 2 [(0, .ref q_fl), (1, .int x0)] := hl
  unfold mX1_liftCrate at hm
  refine lv_aload_n hx hb dX1_liftCrate_0 rfl (lv_at hl 0 rfl) ?_
  refine lv_dup hx hb dX1_liftCrate_1 rfl ?_
  refine va_get (D := my_D Γ) (ci := 1) (v := .long (vj 4)) (C := RX1) (T := TX1) (N := 12) hx hb hts hinX1 hown hK hP 0 rfl rfl 4 (by decide) (hts (.fieldLink RX1 34 "BeltFloor$Floor" "crates" "J") (List.mem_of_getElem? (i := 1) rfl)) (fun _ h9 => h9) rfl dX1_liftCrate_2 ?_
  refine lv_iload_n hx hb dX1_liftCrate_5 rfl (lv_at hl 1 rfl) ?_
  refine my_call1 (wc := ([] : va_W)) (w1 := ([] : va_W)) (ws1 := (wFloor Γ q_fl q_k q_c q_a q_pa q_b q_pb vi vj vk vc va vpa vb vpb)) hP hD hS hA [] rfl rfl rfl (va_runS (As := [.int x0]) (rest := [.long (vj 4), .ref q_fl]) ⟨hx, hb, hml, hown, hts⟩ (kX2_setOf l Γ x0 (mX2_setOf x0) rfl _) (va_cwS 1 hts gX1_liftCrate_X2_setOf rfl rfl rfl (by decide +kernel) ⟨Nat.le_of_ble_eq_true rfl, Nat.le_of_ble_eq_true rfl⟩) (my_preS (wc := ([] : va_W)) [] hK hP hD rfl rfl) rfl rfl hl.1 rfl (lv_room (Nat.le_of_ble_eq_true rfl)) dX1_liftCrate_6 ⟨Nat.le_of_ble_eq_true rfl, Nat.le_of_ble_eq_true rfl⟩) (fun H locs hP hD hS => ?_)
  refine lv_ldc2 (v := (-1 : Int64)) hx hb hown (hts (.constantLong RX1 117 (-1)) (List.mem_of_getElem? (i := 2) rfl)) dX1_liftCrate_9 ?_
  refine lv_lxor hx hb dX1_liftCrate_12 ?_
  refine lv_land hx hb dX1_liftCrate_13 ?_
  refine lv_topl (fun y_1 ey_1 => ?_)
  refine va_put (D := my_D Γ) (ci := 1) (v := .long y_1) (ty := .long) (C := RX1) (T := TX1) (N := 12) hx hb hts hinX1 tyX1 tyX1_ok nmX1 hown hK hP hD hS 0 rfl rfl 4 (by decide) (hts (.fieldLink RX1 34 "BeltFloor$Floor" "crates" "J") (List.mem_of_getElem? (i := 1) rfl)) (fun _ h9 => h9) rfl (by decide +kernel) rfl rfl (Nat.le_of_ble_eq_true rfl) dX1_liftCrate_14 (fun H locs hP hD hS => ?_)
  replace hP : va_P (my_D Γ) vwCl (wFloor Γ q_fl q_k q_c q_a q_pa q_b q_pb vi (vp_updL vj 4 y_1) vk vc va vpa vb vpb) H := hP
  replace hD : va_D A (wFloor Γ q_fl q_k q_c q_a q_pa q_b q_pb vi (vp_updL vj 4 y_1) vk vc va vpa vb vpb) := hD
  subst ey_1
  refine lv_aload_n hx hb dX1_liftCrate_17 rfl (lv_at hl 0 rfl) ?_
  refine lv_dup hx hb dX1_liftCrate_18 rfl ?_
  refine va_get (D := my_D Γ) (ci := 1) (v := .int (vi 9)) (C := RX1) (T := TX1) (N := 12) hx hb hts hinX1 hown hK hP 0 rfl rfl 9 (by decide) (hts (.fieldLink RX1 51 "BeltFloor$Floor" "takenCrates" "I") (List.mem_of_getElem? (i := 3) rfl)) (fun _ h9 => h9) rfl dX1_liftCrate_19 ?_
  refine lv_iconst (v := (1 : Int32)) hx hb dX1_liftCrate_22 (by decide) ?_
  refine lv_iadd hx hb dX1_liftCrate_23 ?_
  refine lv_topi (fun y_2 ey_2 => ?_)
  refine va_put (D := my_D Γ) (ci := 1) (v := .int y_2) (ty := .int) (C := RX1) (T := TX1) (N := 12) hx hb hts hinX1 tyX1 tyX1_ok nmX1 hown hK hP hD hS 0 rfl rfl 9 (by decide) (hts (.fieldLink RX1 51 "BeltFloor$Floor" "takenCrates" "I") (List.mem_of_getElem? (i := 3) rfl)) (fun _ h9 => h9) rfl (by decide +kernel) rfl rfl (Nat.le_of_ble_eq_true rfl) dX1_liftCrate_24 (fun H locs hP hD hS => ?_)
  replace hP : va_P (my_D Γ) vwCl (wFloor Γ q_fl q_k q_c q_a q_pa q_b q_pb (upd vi 9 y_2) (vp_updL vj 4 ((vj 4) &&& ((mX2_setOf x0) ^^^ (-1 : Int64)))) vk vc va vpa vb vpb) H := hP
  replace hD : va_D A (wFloor Γ q_fl q_k q_c q_a q_pa q_b q_pb (upd vi 9 y_2) (vp_updL vj 4 ((vj 4) &&& ((mX2_setOf x0) ^^^ (-1 : Int64)))) vk vc va vpa vb vpb) := hD
  subst ey_2
  obtain ⟨hf0, hf1⟩ := ti2 hm
  subst hf0
  subst hf1
  exact W.vret hx hb hr (fun t ht hW => ⟨⟨rfl, by rw [ht]; exact hP⟩, hS.F ht⟩) hS.2.2 dX1_liftCrate_27
def mX1_lowestFreeCell_J29 (k2 : (Nat → Int64) → (Nat → Int32) → (Nat → Int32) → (Nat → Int32) → Int32 → Option (Int32)) (vj : Nat → Int64) (vk : Nat → Int32) (va : Nat → Int32) (vb : Nat → Int32) (l1 : Int32) : Option (Int32) := (k2 vj vk va vb (l1 + (1 : Int32)))
def mX1_lowestFreeCell_L2  : Nat → (Nat → Int64) → (Nat → Int32) → (Nat → Int32) → (Nat → Int32) → Int32 → Option (Int32)
  | 0, _, _, _, _, _ => none
  | n + 1, vj, vk, va, vb, l1 => (if (36 : Int32) ≤ l1 then (some (-1 : Int32)) else (if (mX1_kindAt vk l1) = 0 then (if (mX2_holds (mX1_things vj va vb) l1) = 0 then (some l1) else (mX1_lowestFreeCell_J29 (fun vj vk va vb l1 => mX1_lowestFreeCell_L2 n vj vk va vb l1) vj vk va vb l1)) else (mX1_lowestFreeCell_J29 (fun vj vk va vb l1 => mX1_lowestFreeCell_L2 n vj vk va vb l1) vj vk va vb l1)))
def mX1_lowestFreeCell (vj : Nat → Int64) (vk : Nat → Int32) (va : Nat → Int32) (vb : Nat → Int32) : Option (Int32) := (mX1_lowestFreeCell_L2 4096 vj vk va vb (0 : Int32))
set_option maxHeartbeats 4000000 in
set_option maxRecDepth 100000 in
theorem kX1_lowestFreeCell (l : Launch) (Γ : my_G) (q_fl q_k q_c q_a q_pa q_b q_pb : Nat) (vi : Nat → Int32) (vj : Nat → Int64) (vk : Nat → Int32) (vc : Nat → Int32) (va : Nat → Int32) (vpa : Nat → Int32) (vb : Nat → Int32) (vpb : Nat → Int32)  (rr : Int32) (hm : mX1_lowestFreeCell vj vk va vb = (some rr)) : Mn l yX1_lowestFreeCell wsX1_lowestFreeCell ({ frames := 2, cells := 0, slots := 0, locals := 40 } : Room) Γ [.ref q_fl] (wFloor Γ q_fl q_k q_c q_a q_pa q_b q_pb vi vj vk vc va vpa vb vpb) (some (.int rr)) (wFloor Γ q_fl q_k q_c q_a q_pa q_b q_pb vi vj vk vc va vpa vb vpb) := by
  intro sz
  refine Met.ofW (cc := cX1_lowestFreeCell) (maxL := 2) (ret := (some .int)) (by decide) rfl ?_
  intro p e s m args below meth c s₁ B hml hv
  obtain ⟨rfl, hsz, hP, hK, hD0⟩ := hv
  have hx := B.exec
  have hb := B.bytes
  have hr := B.returns
  have hts := atoms_spec (ws := wsX1_lowestFreeCell) B.pre
  have hown : s.vm.findClass RX1 = some m.cls := findClass_of_methodNamed B.named
  have hlocks := B.notSynchronized
  have hinX1 : ∀ w ∈ u_ws RX1 TX1 12, w ∈ wsX1_lowestFreeCell := fun w h => List.mem_cons_of_mem _ (List.mem_append_left _ (List.mem_append_right _ h))
  have hinX4 : ∀ w ∈ u_ws RX4 TX4 10, w ∈ wsX1_lowestFreeCell := fun w h => List.mem_cons_of_mem _ (List.mem_append_right _ h)
  subst hsz
  have hD := hD0.self (sz := s.heap.size)
  have hA : ∀ q : Nat, s.heap.size ≤ q → va_A (wFloor Γ q_fl q_k q_c q_a q_pa q_b q_pb vi vj vk vc va vpa vb vpb) s.heap.size q := fun q h => Or.inr h
  generalize va_A (wFloor Γ q_fl q_k q_c q_a q_pa q_b q_pb vi vj vk vc va vpa vb vpb) s.heap.size = A at hD hA ⊢
  have hS : va_S A s.heap s.heap [] := va_S.rf
  have hl := lv_entry ([.ref q_fl]) (n := 2) (Nat.le_of_ble_eq_true rfl)
  rw [lg_entry_eq]
  generalize (lg_sl ([.ref q_fl]) ++ List.replicate (2 - (lg_sl ([.ref q_fl])).length) Slot.unset).toArray = ls at hl ⊢
  replace hl : lv_has ls 2 [(0, .ref q_fl)] := hl
  have J_29 : ∀ (k2 : (Nat → Int64) → (Nat → Int32) → (Nat → Int32) → (Nat → Int32) → Int32 → Option (Int32)), (∀ (vj : Nat → Int64) (vk : Nat → Int32) (va : Nat → Int32) (vb : Nat → Int32) (l1 : Int32) (H : Heap) (locs : List Loc) (ls : Array Slot), va_P (my_D Γ) vwCl (wFloor Γ q_fl q_k q_c q_a q_pa q_b q_pb vi vj vk vc va vpa vb vpb) H → va_D A (wFloor Γ q_fl q_k q_c q_a q_pa q_b q_pb vi vj vk vc va vpa vb vpb) → va_S A s.heap H locs → lv_has ls 2 [(0, .ref q_fl), (1, .int l1)] → k2 vj vk va vb l1 = (some rr) → W p l e (headSpec wsX1_lowestFreeCell ({ frames := 2, cells := 0, slots := 0, locals := 40 } : Room)).room s m ([.ref q_fl] : List Value).toArray below meth c H locs 0 0 (MQ below (my_Q Γ A (some (.int rr)) (wFloor Γ q_fl q_k q_c q_a q_pa q_b q_pb vi vj vk vc va vpa vb vpb)) ([.ref q_fl] : List Value).toArray s 0 0 A) (F0 m 2 ls [])) → ∀ (vj : Nat → Int64) (vk : Nat → Int32) (va : Nat → Int32) (vb : Nat → Int32) (l1 : Int32) (H : Heap) (locs : List Loc) (ls : Array Slot), va_P (my_D Γ) vwCl (wFloor Γ q_fl q_k q_c q_a q_pa q_b q_pb vi vj vk vc va vpa vb vpb) H → va_D A (wFloor Γ q_fl q_k q_c q_a q_pa q_b q_pb vi vj vk vc va vpa vb vpb) → va_S A s.heap H locs → lv_has ls 2 [(0, .ref q_fl), (1, .int l1)] → mX1_lowestFreeCell_J29 k2 vj vk va vb l1 = (some rr) → W p l e (headSpec wsX1_lowestFreeCell ({ frames := 2, cells := 0, slots := 0, locals := 40 } : Room)).room s m ([.ref q_fl] : List Value).toArray below meth c H locs 0 0 (MQ below (my_Q Γ A (some (.int rr)) (wFloor Γ q_fl q_k q_c q_a q_pa q_b q_pb vi vj vk vc va vpa vb vpb)) ([.ref q_fl] : List Value).toArray s 0 0 A) (F0 m 29 ls []) := by
    intro k2 hk2 vj vk va vb l1 H locs ls hP hD hS hl hm
    unfold mX1_lowestFreeCell_J29 at hm
    refine lv_iinc (v := (l1 + (1 : Int32))) (lv' := [(1, .int (l1 + (1 : Int32))), (0, .ref q_fl)]) hx hb dX1_lowestFreeCell_29 hl (k := 1) rfl rfl (by decide) rfl (fun ls hl => ?_)
    refine lv_goto (tgt := 2) hx hb dX1_lowestFreeCell_32 (by decide) ?_
    exact hk2 vj vk va vb (l1 + (1 : Int32)) _ _ _ hP hD hS (lv_sub hl [1, 0] rfl) hm
  have J_2 : ∀ n : Nat, ∀ (vj : Nat → Int64) (vk : Nat → Int32) (va : Nat → Int32) (vb : Nat → Int32) (l1 : Int32) (H : Heap) (locs : List Loc) (ls : Array Slot), va_P (my_D Γ) vwCl (wFloor Γ q_fl q_k q_c q_a q_pa q_b q_pb vi vj vk vc va vpa vb vpb) H → va_D A (wFloor Γ q_fl q_k q_c q_a q_pa q_b q_pb vi vj vk vc va vpa vb vpb) → va_S A s.heap H locs → lv_has ls 2 [(0, .ref q_fl), (1, .int l1)] → mX1_lowestFreeCell_L2 n vj vk va vb l1 = (some rr) → W p l e (headSpec wsX1_lowestFreeCell ({ frames := 2, cells := 0, slots := 0, locals := 40 } : Room)).room s m ([.ref q_fl] : List Value).toArray below meth c H locs 0 0 (MQ below (my_Q Γ A (some (.int rr)) (wFloor Γ q_fl q_k q_c q_a q_pa q_b q_pb vi vj vk vc va vpa vb vpb)) ([.ref q_fl] : List Value).toArray s 0 0 A) (F0 m 2 ls []) := by
    intro  n
    induction n with
    | zero => intro vj vk va vb l1 H locs ls hP hD hS hl hm; cases hm
    | succ n ih =>
      intro vj vk va vb l1 H locs ls hP hD hS hl hm
      unfold mX1_lowestFreeCell_L2 at hm
      refine lv_iload_n hx hb dX1_lowestFreeCell_2 rfl (lv_at hl 1 rfl) ?_
      refine lv_bipush (v := (36 : Int32)) hx hb dX1_lowestFreeCell_3 (by decide) ?_
      refine lv_icmp_ge (tgt := 35) hx hb dX1_lowestFreeCell_5 (by decide) (fun c_1 => ?_) (fun c_1 => ?_)
      · replace hm := if_s hm c_1
        refine lv_iconst (v := (-1 : Int32)) hx hb dX1_lowestFreeCell_35 (by decide) ?_
        obtain hf0 := Option.some.inj hm
        subst hf0
        exact W.iret (v := (-1 : Int32)) hx hb hr (fun t ht hW => ⟨⟨rfl, by rw [ht]; exact hP⟩, hS.F ht⟩) hS.2.2 dX1_lowestFreeCell_36
      · replace hm := if_f hm c_1
        refine lv_aload_n hx hb dX1_lowestFreeCell_8 rfl (lv_at hl 0 rfl) ?_
        refine lv_iload_n hx hb dX1_lowestFreeCell_9 rfl (lv_at hl 1 rfl) ?_
        refine my_call1 (wc := (wFloor Γ q_fl q_k q_c q_a q_pa q_b q_pb vi vj vk vc va vpa vb vpb)) (w1 := (wFloor Γ q_fl q_k q_c q_a q_pa q_b q_pb vi vj vk vc va vpa vb vpb)) (ws1 := (wFloor Γ q_fl q_k q_c q_a q_pa q_b q_pb vi vj vk vc va vpa vb vpb)) hP hD hS hA [0, 1, 2, 3, 4, 5, 6] rfl rfl rfl (va_runV (As := [.int l1]) (rest := []) ⟨hx, hb, hml, hown, hts⟩ (kX1_kindAt l Γ q_fl q_k q_c q_a q_pa q_b q_pb vi vj vk vc va vpa vb vpb l1 (mX1_kindAt vk l1) rfl _) (cwV 1 hts gX1_lowestFreeCell_X1_kindAt rfl rfl rfl (by decide +kernel) ⟨Nat.le_of_ble_eq_true rfl, Nat.le_of_ble_eq_true rfl⟩) (my_preV (wc := (wFloor Γ q_fl q_k q_c q_a q_pa q_b q_pb vi vj vk vc va vpa vb vpb)) (ci := 1) (q0 := 0) [0, 1, 2, 3, 4, 5, 6] hK hP hD rfl rfl rfl rfl) rfl rfl hl.1 rfl (lv_room (Nat.le_of_ble_eq_true rfl)) dX1_lowestFreeCell_10 ⟨Nat.le_of_ble_eq_true rfl, Nat.le_of_ble_eq_true rfl⟩) (fun H locs hP hD hS => ?_)
        refine lv_if_ne (tgt := 29) hx hb dX1_lowestFreeCell_13 (by decide) (fun c_2 => ?_) (fun c_2 => ?_)
        · replace hm := if_f hm c_2
          exact J_29 (fun vj vk va vb l1 => mX1_lowestFreeCell_L2 n vj vk va vb l1) ih vj vk va vb l1 _ _ _ hP hD hS (lv_sub hl [0, 1] rfl) hm
        · replace hm := if_s hm c_2
          refine lv_aload_n hx hb dX1_lowestFreeCell_16 rfl (lv_at hl 0 rfl) ?_
          refine my_call1 (wc := (wFloor Γ q_fl q_k q_c q_a q_pa q_b q_pb vi vj vk vc va vpa vb vpb)) (w1 := (wFloor Γ q_fl q_k q_c q_a q_pa q_b q_pb vi vj vk vc va vpa vb vpb)) (ws1 := (wFloor Γ q_fl q_k q_c q_a q_pa q_b q_pb vi vj vk vc va vpa vb vpb)) hP hD hS hA [0, 1, 2, 3, 4, 5, 6] rfl rfl rfl (va_runV (As := []) (rest := []) ⟨hx, hb, hml, hown, hts⟩ (kX1_things l Γ q_fl q_k q_c q_a q_pa q_b q_pb vi vj vk vc va vpa vb vpb (mX1_things vj va vb) rfl _) (cwV 0 hts gX1_lowestFreeCell_X1_things rfl rfl rfl (by decide +kernel) ⟨Nat.le_of_ble_eq_true rfl, Nat.le_of_ble_eq_true rfl⟩) (my_preV (wc := (wFloor Γ q_fl q_k q_c q_a q_pa q_b q_pb vi vj vk vc va vpa vb vpb)) (ci := 1) (q0 := 0) [0, 1, 2, 3, 4, 5, 6] hK hP hD rfl rfl rfl rfl) rfl rfl hl.1 rfl (lv_room (Nat.le_of_ble_eq_true rfl)) dX1_lowestFreeCell_17 ⟨Nat.le_of_ble_eq_true rfl, Nat.le_of_ble_eq_true rfl⟩) (fun H locs hP hD hS => ?_)
          refine lv_iload_n hx hb dX1_lowestFreeCell_20 rfl (lv_at hl 1 rfl) ?_
          refine my_call1 (wc := ([] : va_W)) (w1 := ([] : va_W)) (ws1 := (wFloor Γ q_fl q_k q_c q_a q_pa q_b q_pb vi vj vk vc va vpa vb vpb)) hP hD hS hA [] rfl rfl rfl (va_runS (As := [.long (mX1_things vj va vb), .int l1]) (rest := []) ⟨hx, hb, hml, hown, hts⟩ (kX2_holds l Γ (mX1_things vj va vb) l1 (mX2_holds (mX1_things vj va vb) l1) rfl _) (va_cwS 2 hts gX1_lowestFreeCell_X2_holds rfl rfl rfl (by decide +kernel) ⟨Nat.le_of_ble_eq_true rfl, Nat.le_of_ble_eq_true rfl⟩) (my_preS (wc := ([] : va_W)) [] hK hP hD rfl rfl) rfl rfl hl.1 rfl (lv_room (Nat.le_of_ble_eq_true rfl)) dX1_lowestFreeCell_21 ⟨Nat.le_of_ble_eq_true rfl, Nat.le_of_ble_eq_true rfl⟩) (fun H locs hP hD hS => ?_)
          refine lv_if_ne (tgt := 29) hx hb dX1_lowestFreeCell_24 (by decide) (fun c_3 => ?_) (fun c_3 => ?_)
          · replace hm := if_f hm c_3
            exact J_29 (fun vj vk va vb l1 => mX1_lowestFreeCell_L2 n vj vk va vb l1) ih vj vk va vb l1 _ _ _ hP hD hS (lv_sub hl [0, 1] rfl) hm
          · replace hm := if_s hm c_3
            refine lv_iload_n hx hb dX1_lowestFreeCell_27 rfl (lv_at hl 1 rfl) ?_
            obtain hf0 := Option.some.inj hm
            subst hf0
            exact W.iret (v := l1) hx hb hr (fun t ht hW => ⟨⟨rfl, by rw [ht]; exact hP⟩, hS.F ht⟩) hS.2.2 dX1_lowestFreeCell_28
  unfold mX1_lowestFreeCell at hm
  refine lv_iconst (v := (0 : Int32)) hx hb dX1_lowestFreeCell_0 (by decide) ?_
  refine lv_istore_n (lv' := [(1, .int (0 : Int32)), (0, .ref q_fl)]) hx hb dX1_lowestFreeCell_1 rfl hl (by decide) rfl (fun ls hl => ?_)
  exact J_2 4096 vj vk va vb (0 : Int32) _ _ _ hP hD hS (lv_sub hl [1, 0] rfl) hm
def mX1_asNumber (vf : Nat → Int32) : Int64 := (((((vf 0) ||| (jshli (vf 1) (6 : Int32))) ||| (jshli (vf 2) (8 : Int32))) ||| (jshli (vf 7) (11 : Int32))).toInt64)
set_option maxHeartbeats 4000000 in
set_option maxRecDepth 100000 in
theorem kX1_asNumber (l : Launch) (Γ : my_G) (q_r q_rp : Nat) (vf : Nat → Int32) (vp : Nat → Int32)  (rr : Int64) (hm : mX1_asNumber vf = rr) : Mn l yX1_asNumber wsX1_asNumber ({ frames := 0, cells := 0, slots := 0, locals := 0 } : Room) Γ [.ref q_r] (wRobot Γ q_r q_rp vf vp) (some (.long rr)) (wRobot Γ q_r q_rp vf vp) := by
  intro sz
  refine Met.ofW (cc := cX1_asNumber) (maxL := 1) (ret := (some .long)) (by decide) rfl ?_
  intro p e s m args below meth c s₁ B hml hv
  obtain ⟨rfl, hsz, hP, hK, hD0⟩ := hv
  have hx := B.exec
  have hb := B.bytes
  have hr := B.returns
  have hts := atoms_spec (ws := wsX1_asNumber) B.pre
  have hown : s.vm.findClass RX1 = some m.cls := findClass_of_methodNamed B.named
  have hlocks := B.notSynchronized
  have hinX4 : ∀ w ∈ u_ws RX4 TX4 10, w ∈ wsX1_asNumber := fun w h => List.mem_cons_of_mem _ (List.mem_append_right _ h)
  subst hsz
  have hD := hD0.self (sz := s.heap.size)
  have hA : ∀ q : Nat, s.heap.size ≤ q → va_A (wRobot Γ q_r q_rp vf vp) s.heap.size q := fun q h => Or.inr h
  generalize va_A (wRobot Γ q_r q_rp vf vp) s.heap.size = A at hD hA ⊢
  have hS : va_S A s.heap s.heap [] := va_S.rf
  have hl := lv_entry ([.ref q_r]) (n := 1) (Nat.le_of_ble_eq_true rfl)
  rw [lg_entry_eq]
  generalize (lg_sl ([.ref q_r]) ++ List.replicate (1 - (lg_sl ([.ref q_r])).length) Slot.unset).toArray = ls at hl ⊢
  replace hl : lv_has ls 1 [(0, .ref q_r)] := hl
  unfold mX1_asNumber at hm
  refine lv_aload_n hx hb dX1_asNumber_0 rfl (lv_at hl 0 rfl) ?_
  refine va_get (D := my_D Γ) (ci := 3) (v := .int (vf 0)) (C := RX4) (T := TX4) (N := 10) hx hb hts hinX4 hown hK hP 0 rfl rfl 0 (by decide) (hts (.fieldLink RX1 70 "BeltFloor$Robot" "cell" "I") (List.mem_of_getElem? (i := 1) rfl)) (fun _ h9 => h9) rfl dX1_asNumber_1 ?_
  refine lv_aload_n hx hb dX1_asNumber_4 rfl (lv_at hl 0 rfl) ?_
  refine va_get (D := my_D Γ) (ci := 3) (v := .int (vf 1)) (C := RX4) (T := TX4) (N := 10) hx hb hts hinX4 hown hK hP 0 rfl rfl 1 (by decide) (hts (.fieldLink RX1 128 "BeltFloor$Robot" "facing" "I") (List.mem_of_getElem? (i := 2) rfl)) (fun _ h9 => h9) rfl dX1_asNumber_5 ?_
  refine lv_bipush (v := (6 : Int32)) hx hb dX1_asNumber_8 (by decide) ?_
  refine my_ishl hx hb dX1_asNumber_10 ?_
  refine lv_ior hx hb dX1_asNumber_11 ?_
  refine lv_aload_n hx hb dX1_asNumber_12 rfl (lv_at hl 0 rfl) ?_
  refine va_get (D := my_D Γ) (ci := 3) (v := .int (vf 2)) (C := RX4) (T := TX4) (N := 10) hx hb hts hinX4 hown hK hP 0 rfl rfl 2 (by decide) (hts (.fieldLink RX1 135 "BeltFloor$Robot" "next" "I") (List.mem_of_getElem? (i := 3) rfl)) (fun _ h9 => h9) rfl dX1_asNumber_13 ?_
  refine lv_bipush (v := (8 : Int32)) hx hb dX1_asNumber_16 (by decide) ?_
  refine my_ishl hx hb dX1_asNumber_18 ?_
  refine lv_ior hx hb dX1_asNumber_19 ?_
  refine lv_aload_n hx hb dX1_asNumber_20 rfl (lv_at hl 0 rfl) ?_
  refine va_get (D := my_D Γ) (ci := 3) (v := .int (vf 7)) (C := RX4) (T := TX4) (N := 10) hx hb hts hinX4 hown hK hP 0 rfl rfl 7 (by decide) (hts (.fieldLink RX1 138 "BeltFloor$Robot" "place" "I") (List.mem_of_getElem? (i := 4) rfl)) (fun _ h9 => h9) rfl dX1_asNumber_21 ?_
  refine lv_bipush (v := (11 : Int32)) hx hb dX1_asNumber_24 (by decide) ?_
  refine my_ishl hx hb dX1_asNumber_26 ?_
  refine lv_ior hx hb dX1_asNumber_27 ?_
  refine lv_i2l (v := ((((vf 0) ||| (jshli (vf 1) (6 : Int32))) ||| (jshli (vf 2) (8 : Int32))) ||| (jshli (vf 7) (11 : Int32))).toInt64) hx hb dX1_asNumber_28 rfl ?_
  have hf0 := hm
  subst hf0
  exact W.lret (v := (((((vf 0) ||| (jshli (vf 1) (6 : Int32))) ||| (jshli (vf 2) (8 : Int32))) ||| (jshli (vf 7) (11 : Int32))).toInt64)) hx hb hr (fun t ht hW => ⟨⟨rfl, by rw [ht]; exact hP⟩, hS.F ht⟩) hS.2.2 dX1_asNumber_29
def mX1_robotsAsNumber (va : Nat → Int32) (vb : Nat → Int32) : Int64 := ((jshll (mX1_asNumber va) (32 : Int32)) ||| (mX1_asNumber vb))
set_option maxHeartbeats 4000000 in
set_option maxRecDepth 100000 in
theorem kX1_robotsAsNumber (l : Launch) (Γ : my_G) (q_fl q_k q_c q_a q_pa q_b q_pb : Nat) (vi : Nat → Int32) (vj : Nat → Int64) (vk : Nat → Int32) (vc : Nat → Int32) (va : Nat → Int32) (vpa : Nat → Int32) (vb : Nat → Int32) (vpb : Nat → Int32)  (rr : Int64) (hm : mX1_robotsAsNumber va vb = rr) : Mn l yX1_robotsAsNumber wsX1_robotsAsNumber ({ frames := 1, cells := 0, slots := 0, locals := 20 } : Room) Γ [.ref q_fl] (wFloor Γ q_fl q_k q_c q_a q_pa q_b q_pb vi vj vk vc va vpa vb vpb) (some (.long rr)) (wFloor Γ q_fl q_k q_c q_a q_pa q_b q_pb vi vj vk vc va vpa vb vpb) := by
  intro sz
  refine Met.ofW (cc := cX1_robotsAsNumber) (maxL := 1) (ret := (some .long)) (by decide) rfl ?_
  intro p e s m args below meth c s₁ B hml hv
  obtain ⟨rfl, hsz, hP, hK, hD0⟩ := hv
  have hx := B.exec
  have hb := B.bytes
  have hr := B.returns
  have hts := atoms_spec (ws := wsX1_robotsAsNumber) B.pre
  have hown : s.vm.findClass RX1 = some m.cls := findClass_of_methodNamed B.named
  have hlocks := B.notSynchronized
  have hinX1 : ∀ w ∈ u_ws RX1 TX1 12, w ∈ wsX1_robotsAsNumber := fun w h => List.mem_cons_of_mem _ (List.mem_append_left _ (List.mem_append_right _ h))
  have hinX4 : ∀ w ∈ u_ws RX4 TX4 10, w ∈ wsX1_robotsAsNumber := fun w h => List.mem_cons_of_mem _ (List.mem_append_right _ h)
  subst hsz
  have hD := hD0.self (sz := s.heap.size)
  have hA : ∀ q : Nat, s.heap.size ≤ q → va_A (wFloor Γ q_fl q_k q_c q_a q_pa q_b q_pb vi vj vk vc va vpa vb vpb) s.heap.size q := fun q h => Or.inr h
  generalize va_A (wFloor Γ q_fl q_k q_c q_a q_pa q_b q_pb vi vj vk vc va vpa vb vpb) s.heap.size = A at hD hA ⊢
  have hS : va_S A s.heap s.heap [] := va_S.rf
  have hl := lv_entry ([.ref q_fl]) (n := 1) (Nat.le_of_ble_eq_true rfl)
  rw [lg_entry_eq]
  generalize (lg_sl ([.ref q_fl]) ++ List.replicate (1 - (lg_sl ([.ref q_fl])).length) Slot.unset).toArray = ls at hl ⊢
  replace hl : lv_has ls 1 [(0, .ref q_fl)] := hl
  unfold mX1_robotsAsNumber at hm
  refine lv_aload_n hx hb dX1_robotsAsNumber_0 rfl (lv_at hl 0 rfl) ?_
  refine va_get (D := my_D Γ) (ci := 1) (v := .ref q_a) (C := RX1) (T := TX1) (N := 12) hx hb hts hinX1 hown hK hP 0 rfl rfl 2 (by decide) (hts (.fieldLink RX1 21 "BeltFloor$Floor" "first" "LBeltFloor$Robot;") (List.mem_of_getElem? (i := 1) rfl)) (fun _ h9 => h9) rfl dX1_robotsAsNumber_1 ?_
  refine my_call1 (wc := (wRobot Γ q_a q_pa va vpa)) (w1 := (wRobot Γ q_a q_pa va vpa)) (ws1 := (wFloor Γ q_fl q_k q_c q_a q_pa q_b q_pb vi vj vk vc va vpa vb vpb)) hP hD hS hA [3, 4] rfl rfl rfl (va_runS (As := [.ref q_a]) (rest := []) ⟨hx, hb, hml, hown, hts⟩ (kX1_asNumber l Γ q_a q_pa va vpa (mX1_asNumber va) rfl _) (va_cwS 1 hts gX1_robotsAsNumber_X1_asNumber rfl rfl rfl (by decide +kernel) ⟨Nat.le_of_ble_eq_true rfl, Nat.le_of_ble_eq_true rfl⟩) (my_preS (wc := (wRobot Γ q_a q_pa va vpa)) [3, 4] hK hP hD rfl rfl) rfl rfl hl.1 rfl (lv_room (Nat.le_of_ble_eq_true rfl)) dX1_robotsAsNumber_4 ⟨Nat.le_of_ble_eq_true rfl, Nat.le_of_ble_eq_true rfl⟩) (fun H locs hP hD hS => ?_)
  refine lv_bipush (v := (32 : Int32)) hx hb dX1_robotsAsNumber_7 (by decide) ?_
  refine my_lshl hx hb dX1_robotsAsNumber_9 ?_
  refine lv_aload_n hx hb dX1_robotsAsNumber_10 rfl (lv_at hl 0 rfl) ?_
  refine va_get (D := my_D Γ) (ci := 1) (v := .ref q_b) (C := RX1) (T := TX1) (N := 12) hx hb hts hinX1 hown hK hP 0 rfl rfl 3 (by decide) (hts (.fieldLink RX1 25 "BeltFloor$Floor" "second" "LBeltFloor$Robot;") (List.mem_of_getElem? (i := 2) rfl)) (fun _ h9 => h9) rfl dX1_robotsAsNumber_11 ?_
  refine my_call1 (wc := (wRobot Γ q_b q_pb vb vpb)) (w1 := (wRobot Γ q_b q_pb vb vpb)) (ws1 := (wFloor Γ q_fl q_k q_c q_a q_pa q_b q_pb vi vj vk vc va vpa vb vpb)) hP hD hS hA [5, 6] rfl rfl rfl (va_runS (As := [.ref q_b]) (rest := [.long (jshll (mX1_asNumber va) (32 : Int32))]) ⟨hx, hb, hml, hown, hts⟩ (kX1_asNumber l Γ q_b q_pb vb vpb (mX1_asNumber vb) rfl _) (va_cwS 1 hts gX1_robotsAsNumber_X1_asNumber rfl rfl rfl (by decide +kernel) ⟨Nat.le_of_ble_eq_true rfl, Nat.le_of_ble_eq_true rfl⟩) (my_preS (wc := (wRobot Γ q_b q_pb vb vpb)) [5, 6] hK hP hD rfl rfl) rfl rfl hl.1 rfl (lv_room (Nat.le_of_ble_eq_true rfl)) dX1_robotsAsNumber_14 ⟨Nat.le_of_ble_eq_true rfl, Nat.le_of_ble_eq_true rfl⟩) (fun H locs hP hD hS => ?_)
  refine lv_lor hx hb dX1_robotsAsNumber_17 ?_
  have hf0 := hm
  subst hf0
  exact W.lret (v := ((jshll (mX1_asNumber va) (32 : Int32)) ||| (mX1_asNumber vb))) hx hb hr (fun t ht hW => ⟨⟨rfl, by rw [ht]; exact hP⟩, hS.F ht⟩) hS.2.2 dX1_robotsAsNumber_18
def mX1_makeNew_L2  : Nat → (Nat → Int32) → (Nat → Int64) → (Nat → Int32) → (Nat → Int32) → (Nat → Int32) → Int32 → Option ((Nat → Int32) × (Nat → Int64) × (Nat → Int32) × (Nat → Int32) × (Nat → Int32))
  | 0, _, _, _, _, _, _ => none
  | n + 1, vi, vj, vk, va, vb, l1 => (if (36 : Int32) ≤ l1 then (bt1 (mX4_makeNew va (30 : Int32)) (fun va_2 => (bt1 (mX4_makeNew vb (35 : Int32)) (fun vb_4 => (some ((upd (upd (upd (upd (upd vi 7 (0 : Int32)) 8 (0 : Int32)) 9 (0 : Int32)) 10 (0 : Int32)) 11 (0 : Int32)), (vp_updL (vp_updL (vp_updL vj 4 (0 : Int64)) 5 (0 : Int64)) 6 (0 : Int64)), vk, va_2, vb_4)))))) else (if ¬ (l1 < 0 ∨ 36 ≤ l1.toNatClampNeg) then (mX1_makeNew_L2 n vi vj (upd vk l1.toNatClampNeg (0 : Int32)) va vb (l1 + (1 : Int32))) else none))
def mX1_makeNew (vi : Nat → Int32) (vj : Nat → Int64) (vk : Nat → Int32) (va : Nat → Int32) (vb : Nat → Int32) : Option ((Nat → Int32) × (Nat → Int64) × (Nat → Int32) × (Nat → Int32) × (Nat → Int32)) := (mX1_makeNew_L2 4096 vi vj vk va vb (0 : Int32))
set_option maxHeartbeats 4000000 in
set_option maxRecDepth 100000 in
theorem kX1_makeNew (l : Launch) (Γ : my_G) (q_fl q_k q_c q_a q_pa q_b q_pb : Nat) (vi : Nat → Int32) (vj : Nat → Int64) (vk : Nat → Int32) (vc : Nat → Int32) (va : Nat → Int32) (vpa : Nat → Int32) (vb : Nat → Int32) (vpb : Nat → Int32)  (vi_z : Nat → Int32) (vj_z : Nat → Int64) (vk_z : Nat → Int32) (va_z : Nat → Int32) (vb_z : Nat → Int32) (hm : mX1_makeNew vi vj vk va vb = (some (vi_z, vj_z, vk_z, va_z, vb_z))) : Mn l yX1_makeNew wsX1_makeNew ({ frames := 2, cells := 0, slots := 0, locals := 41 } : Room) Γ [.ref q_fl] (wFloor Γ q_fl q_k q_c q_a q_pa q_b q_pb vi vj vk vc va vpa vb vpb) none (wFloor Γ q_fl q_k q_c q_a q_pa q_b q_pb vi_z vj_z vk_z vc va_z vpa vb_z vpb) := by
  intro sz
  refine Met.ofW (cc := cX1_makeNew) (maxL := 2) (ret := none) (by decide) rfl ?_
  intro p e s m args below meth c s₁ B hml hv
  obtain ⟨rfl, hsz, hP, hK, hD0⟩ := hv
  have hx := B.exec
  have hb := B.bytes
  have hr := B.returns
  have hts := atoms_spec (ws := wsX1_makeNew) B.pre
  have hown : s.vm.findClass RX1 = some m.cls := findClass_of_methodNamed B.named
  have hlocks := B.notSynchronized
  have hinX1 : ∀ w ∈ u_ws RX1 TX1 12, w ∈ wsX1_makeNew := fun w h => List.mem_cons_of_mem _ (List.mem_append_left _ (List.mem_append_right _ h))
  have hinX4 : ∀ w ∈ u_ws RX4 TX4 10, w ∈ wsX1_makeNew := fun w h => List.mem_cons_of_mem _ (List.mem_append_right _ h)
  subst hsz
  have hD := hD0.self (sz := s.heap.size)
  have hA : ∀ q : Nat, s.heap.size ≤ q → va_A (wFloor Γ q_fl q_k q_c q_a q_pa q_b q_pb vi vj vk vc va vpa vb vpb) s.heap.size q := fun q h => Or.inr h
  generalize va_A (wFloor Γ q_fl q_k q_c q_a q_pa q_b q_pb vi vj vk vc va vpa vb vpb) s.heap.size = A at hD hA ⊢
  have hS : va_S A s.heap s.heap [] := va_S.rf
  have hl := lv_entry ([.ref q_fl]) (n := 2) (Nat.le_of_ble_eq_true rfl)
  rw [lg_entry_eq]
  generalize (lg_sl ([.ref q_fl]) ++ List.replicate (2 - (lg_sl ([.ref q_fl])).length) Slot.unset).toArray = ls at hl ⊢
  replace hl : lv_has ls 2 [(0, .ref q_fl)] := hl
  have J_2 : ∀ n : Nat, ∀ (vi : Nat → Int32) (vj : Nat → Int64) (vk : Nat → Int32) (va : Nat → Int32) (vb : Nat → Int32) (l1 : Int32) (H : Heap) (locs : List Loc) (ls : Array Slot), va_P (my_D Γ) vwCl (wFloor Γ q_fl q_k q_c q_a q_pa q_b q_pb vi vj vk vc va vpa vb vpb) H → va_D A (wFloor Γ q_fl q_k q_c q_a q_pa q_b q_pb vi vj vk vc va vpa vb vpb) → va_S A s.heap H locs → lv_has ls 2 [(0, .ref q_fl), (1, .int l1)] → mX1_makeNew_L2 n vi vj vk va vb l1 = (some (vi_z, vj_z, vk_z, va_z, vb_z)) → W p l e (headSpec wsX1_makeNew ({ frames := 2, cells := 0, slots := 0, locals := 41 } : Room)).room s m ([.ref q_fl] : List Value).toArray below meth c H locs 0 0 (MQ below (my_Q Γ A none (wFloor Γ q_fl q_k q_c q_a q_pa q_b q_pb vi_z vj_z vk_z vc va_z vpa vb_z vpb)) ([.ref q_fl] : List Value).toArray s 0 0 A) (F0 m 2 ls []) := by
    intro  n
    induction n with
    | zero => intro vi vj vk va vb l1 H locs ls hP hD hS hl hm; cases hm
    | succ n ih =>
      intro vi vj vk va vb l1 H locs ls hP hD hS hl hm
      unfold mX1_makeNew_L2 at hm
      refine lv_iload_n hx hb dX1_makeNew_2 rfl (lv_at hl 1 rfl) ?_
      refine lv_aload_n hx hb dX1_makeNew_3 rfl (lv_at hl 0 rfl) ?_
      refine va_get (D := my_D Γ) (ci := 1) (v := .ref q_k) (C := RX1) (T := TX1) (N := 12) hx hb hts hinX1 hown hK hP 0 rfl rfl 0 (by decide) (hts (.fieldLink RX1 9 "BeltFloor$Floor" "kinds" "[I") (List.mem_of_getElem? (i := 1) rfl)) (fun _ h9 => h9) rfl dX1_makeNew_4 ?_
      refine va_alen hx hb hK hP 1 0 rfl rfl (v := (36 : Int32)) rfl dX1_makeNew_7 ?_
      refine lv_icmp_ge (tgt := 24) hx hb dX1_makeNew_8 (by decide) (fun c_1 => ?_) (fun c_1 => ?_)
      · replace hm := if_s hm c_1
        refine lv_aload_n hx hb dX1_makeNew_24 rfl (lv_at hl 0 rfl) ?_
        refine va_get (D := my_D Γ) (ci := 1) (v := .ref q_a) (C := RX1) (T := TX1) (N := 12) hx hb hts hinX1 hown hK hP 0 rfl rfl 2 (by decide) (hts (.fieldLink RX1 21 "BeltFloor$Floor" "first" "LBeltFloor$Robot;") (List.mem_of_getElem? (i := 2) rfl)) (fun _ h9 => h9) rfl dX1_makeNew_25 ?_
        refine lv_bipush (v := (30 : Int32)) hx hb dX1_makeNew_28 (by decide) ?_
        obtain ⟨va_2, hc_3, hm⟩ := bt1_s hm
        refine my_call0 (wc := (wRobot Γ q_a q_pa va vpa)) (w1 := (wRobot Γ q_a q_pa va_2 vpa)) (ws1 := (wFloor Γ q_fl q_k q_c q_a q_pa q_b q_pb vi vj vk vc va_2 vpa vb vpb)) hP hD hS hA [3, 4] rfl rfl rfl (va_runV (As := [.int (30 : Int32)]) (rest := []) ⟨hx, hb, hml, hown, hts⟩ (kX4_makeNew l Γ q_a q_pa va vpa (30 : Int32) va_2 hc_3 _) (cwV 1 hts gX1_makeNew_X4_makeNew rfl rfl rfl (by decide +kernel) ⟨Nat.le_of_ble_eq_true rfl, Nat.le_of_ble_eq_true rfl⟩) (my_preV (wc := (wRobot Γ q_a q_pa va vpa)) (ci := 3) (q0 := 3) [3, 4] hK hP hD rfl rfl rfl rfl) rfl rfl hl.1 rfl (lv_room (Nat.le_of_ble_eq_true rfl)) dX1_makeNew_30 ⟨Nat.le_of_ble_eq_true rfl, Nat.le_of_ble_eq_true rfl⟩) (fun H locs hP hD hS => ?_)
        refine lv_aload_n hx hb dX1_makeNew_33 rfl (lv_at hl 0 rfl) ?_
        refine va_get (D := my_D Γ) (ci := 1) (v := .ref q_b) (C := RX1) (T := TX1) (N := 12) hx hb hts hinX1 hown hK hP 0 rfl rfl 3 (by decide) (hts (.fieldLink RX1 25 "BeltFloor$Floor" "second" "LBeltFloor$Robot;") (List.mem_of_getElem? (i := 3) rfl)) (fun _ h9 => h9) rfl dX1_makeNew_34 ?_
        refine lv_bipush (v := (35 : Int32)) hx hb dX1_makeNew_37 (by decide) ?_
        obtain ⟨vb_4, hc_5, hm⟩ := bt1_s hm
        refine my_call0 (wc := (wRobot Γ q_b q_pb vb vpb)) (w1 := (wRobot Γ q_b q_pb vb_4 vpb)) (ws1 := (wFloor Γ q_fl q_k q_c q_a q_pa q_b q_pb vi vj vk vc va_2 vpa vb_4 vpb)) hP hD hS hA [5, 6] rfl rfl rfl (va_runV (As := [.int (35 : Int32)]) (rest := []) ⟨hx, hb, hml, hown, hts⟩ (kX4_makeNew l Γ q_b q_pb vb vpb (35 : Int32) vb_4 hc_5 _) (cwV 1 hts gX1_makeNew_X4_makeNew rfl rfl rfl (by decide +kernel) ⟨Nat.le_of_ble_eq_true rfl, Nat.le_of_ble_eq_true rfl⟩) (my_preV (wc := (wRobot Γ q_b q_pb vb vpb)) (ci := 3) (q0 := 5) [5, 6] hK hP hD rfl rfl rfl rfl) rfl rfl hl.1 rfl (lv_room (Nat.le_of_ble_eq_true rfl)) dX1_makeNew_39 ⟨Nat.le_of_ble_eq_true rfl, Nat.le_of_ble_eq_true rfl⟩) (fun H locs hP hD hS => ?_)
        refine lv_aload_n hx hb dX1_makeNew_42 rfl (lv_at hl 0 rfl) ?_
        refine lv_lconst (v := (0 : Int64)) hx hb dX1_makeNew_43 (by decide) ?_
        refine va_put (D := my_D Γ) (ci := 1) (v := .long (0 : Int64)) (ty := .long) (C := RX1) (T := TX1) (N := 12) hx hb hts hinX1 tyX1 tyX1_ok nmX1 hown hK hP hD hS 0 rfl rfl 4 (by decide) (hts (.fieldLink RX1 34 "BeltFloor$Floor" "crates" "J") (List.mem_of_getElem? (i := 4) rfl)) (fun _ h9 => h9) rfl (by decide +kernel) rfl rfl (Nat.le_of_ble_eq_true rfl) dX1_makeNew_44 (fun H locs hP hD hS => ?_)
        replace hP : va_P (my_D Γ) vwCl (wFloor Γ q_fl q_k q_c q_a q_pa q_b q_pb vi (vp_updL vj 4 (0 : Int64)) vk vc va_2 vpa vb_4 vpb) H := hP
        replace hD : va_D A (wFloor Γ q_fl q_k q_c q_a q_pa q_b q_pb vi (vp_updL vj 4 (0 : Int64)) vk vc va_2 vpa vb_4 vpb) := hD
        refine lv_aload_n hx hb dX1_makeNew_47 rfl (lv_at hl 0 rfl) ?_
        refine lv_lconst (v := (0 : Int64)) hx hb dX1_makeNew_48 (by decide) ?_
        refine va_put (D := my_D Γ) (ci := 1) (v := .long (0 : Int64)) (ty := .long) (C := RX1) (T := TX1) (N := 12) hx hb hts hinX1 tyX1 tyX1_ok nmX1 hown hK hP hD hS 0 rfl rfl 5 (by decide) (hts (.fieldLink RX1 38 "BeltFloor$Floor" "belts" "J") (List.mem_of_getElem? (i := 5) rfl)) (fun _ h9 => h9) rfl (by decide +kernel) rfl rfl (Nat.le_of_ble_eq_true rfl) dX1_makeNew_49 (fun H locs hP hD hS => ?_)
        replace hP : va_P (my_D Γ) vwCl (wFloor Γ q_fl q_k q_c q_a q_pa q_b q_pb vi (vp_updL (vp_updL vj 4 (0 : Int64)) 5 (0 : Int64)) vk vc va_2 vpa vb_4 vpb) H := hP
        replace hD : va_D A (wFloor Γ q_fl q_k q_c q_a q_pa q_b q_pb vi (vp_updL (vp_updL vj 4 (0 : Int64)) 5 (0 : Int64)) vk vc va_2 vpa vb_4 vpb) := hD
        refine lv_aload_n hx hb dX1_makeNew_52 rfl (lv_at hl 0 rfl) ?_
        refine lv_lconst (v := (0 : Int64)) hx hb dX1_makeNew_53 (by decide) ?_
        refine va_put (D := my_D Γ) (ci := 1) (v := .long (0 : Int64)) (ty := .long) (C := RX1) (T := TX1) (N := 12) hx hb hts hinX1 tyX1 tyX1_ok nmX1 hown hK hP hD hS 0 rfl rfl 6 (by decide) (hts (.fieldLink RX1 41 "BeltFloor$Floor" "pits" "J") (List.mem_of_getElem? (i := 6) rfl)) (fun _ h9 => h9) rfl (by decide +kernel) rfl rfl (Nat.le_of_ble_eq_true rfl) dX1_makeNew_54 (fun H locs hP hD hS => ?_)
        replace hP : va_P (my_D Γ) vwCl (wFloor Γ q_fl q_k q_c q_a q_pa q_b q_pb vi (vp_updL (vp_updL (vp_updL vj 4 (0 : Int64)) 5 (0 : Int64)) 6 (0 : Int64)) vk vc va_2 vpa vb_4 vpb) H := hP
        replace hD : va_D A (wFloor Γ q_fl q_k q_c q_a q_pa q_b q_pb vi (vp_updL (vp_updL (vp_updL vj 4 (0 : Int64)) 5 (0 : Int64)) 6 (0 : Int64)) vk vc va_2 vpa vb_4 vpb) := hD
        refine lv_aload_n hx hb dX1_makeNew_57 rfl (lv_at hl 0 rfl) ?_
        refine lv_iconst (v := (0 : Int32)) hx hb dX1_makeNew_58 (by decide) ?_
        refine va_put (D := my_D Γ) (ci := 1) (v := .int (0 : Int32)) (ty := .int) (C := RX1) (T := TX1) (N := 12) hx hb hts hinX1 tyX1 tyX1_ok nmX1 hown hK hP hD hS 0 rfl rfl 7 (by decide) (hts (.fieldLink RX1 44 "BeltFloor$Floor" "checkpointCount" "I") (List.mem_of_getElem? (i := 7) rfl)) (fun _ h9 => h9) rfl (by decide +kernel) rfl rfl (Nat.le_of_ble_eq_true rfl) dX1_makeNew_59 (fun H locs hP hD hS => ?_)
        replace hP : va_P (my_D Γ) vwCl (wFloor Γ q_fl q_k q_c q_a q_pa q_b q_pb (upd vi 7 (0 : Int32)) (vp_updL (vp_updL (vp_updL vj 4 (0 : Int64)) 5 (0 : Int64)) 6 (0 : Int64)) vk vc va_2 vpa vb_4 vpb) H := hP
        replace hD : va_D A (wFloor Γ q_fl q_k q_c q_a q_pa q_b q_pb (upd vi 7 (0 : Int32)) (vp_updL (vp_updL (vp_updL vj 4 (0 : Int64)) 5 (0 : Int64)) 6 (0 : Int64)) vk vc va_2 vpa vb_4 vpb) := hD
        refine lv_aload_n hx hb dX1_makeNew_62 rfl (lv_at hl 0 rfl) ?_
        refine lv_iconst (v := (0 : Int32)) hx hb dX1_makeNew_63 (by decide) ?_
        refine va_put (D := my_D Γ) (ci := 1) (v := .int (0 : Int32)) (ty := .int) (C := RX1) (T := TX1) (N := 12) hx hb hts hinX1 tyX1 tyX1_ok nmX1 hown hK hP hD hS 0 rfl rfl 8 (by decide) (hts (.fieldLink RX1 48 "BeltFloor$Floor" "addedCrates" "I") (List.mem_of_getElem? (i := 8) rfl)) (fun _ h9 => h9) rfl (by decide +kernel) rfl rfl (Nat.le_of_ble_eq_true rfl) dX1_makeNew_64 (fun H locs hP hD hS => ?_)
        replace hP : va_P (my_D Γ) vwCl (wFloor Γ q_fl q_k q_c q_a q_pa q_b q_pb (upd (upd vi 7 (0 : Int32)) 8 (0 : Int32)) (vp_updL (vp_updL (vp_updL vj 4 (0 : Int64)) 5 (0 : Int64)) 6 (0 : Int64)) vk vc va_2 vpa vb_4 vpb) H := hP
        replace hD : va_D A (wFloor Γ q_fl q_k q_c q_a q_pa q_b q_pb (upd (upd vi 7 (0 : Int32)) 8 (0 : Int32)) (vp_updL (vp_updL (vp_updL vj 4 (0 : Int64)) 5 (0 : Int64)) 6 (0 : Int64)) vk vc va_2 vpa vb_4 vpb) := hD
        refine lv_aload_n hx hb dX1_makeNew_67 rfl (lv_at hl 0 rfl) ?_
        refine lv_iconst (v := (0 : Int32)) hx hb dX1_makeNew_68 (by decide) ?_
        refine va_put (D := my_D Γ) (ci := 1) (v := .int (0 : Int32)) (ty := .int) (C := RX1) (T := TX1) (N := 12) hx hb hts hinX1 tyX1 tyX1_ok nmX1 hown hK hP hD hS 0 rfl rfl 9 (by decide) (hts (.fieldLink RX1 51 "BeltFloor$Floor" "takenCrates" "I") (List.mem_of_getElem? (i := 9) rfl)) (fun _ h9 => h9) rfl (by decide +kernel) rfl rfl (Nat.le_of_ble_eq_true rfl) dX1_makeNew_69 (fun H locs hP hD hS => ?_)
        replace hP : va_P (my_D Γ) vwCl (wFloor Γ q_fl q_k q_c q_a q_pa q_b q_pb (upd (upd (upd vi 7 (0 : Int32)) 8 (0 : Int32)) 9 (0 : Int32)) (vp_updL (vp_updL (vp_updL vj 4 (0 : Int64)) 5 (0 : Int64)) 6 (0 : Int64)) vk vc va_2 vpa vb_4 vpb) H := hP
        replace hD : va_D A (wFloor Γ q_fl q_k q_c q_a q_pa q_b q_pb (upd (upd (upd vi 7 (0 : Int32)) 8 (0 : Int32)) 9 (0 : Int32)) (vp_updL (vp_updL (vp_updL vj 4 (0 : Int64)) 5 (0 : Int64)) 6 (0 : Int64)) vk vc va_2 vpa vb_4 vpb) := hD
        refine lv_aload_n hx hb dX1_makeNew_72 rfl (lv_at hl 0 rfl) ?_
        refine lv_iconst (v := (0 : Int32)) hx hb dX1_makeNew_73 (by decide) ?_
        refine va_put (D := my_D Γ) (ci := 1) (v := .int (0 : Int32)) (ty := .int) (C := RX1) (T := TX1) (N := 12) hx hb hts hinX1 tyX1 tyX1_ok nmX1 hown hK hP hD hS 0 rfl rfl 10 (by decide) (hts (.fieldLink RX1 54 "BeltFloor$Floor" "lostCrates" "I") (List.mem_of_getElem? (i := 10) rfl)) (fun _ h9 => h9) rfl (by decide +kernel) rfl rfl (Nat.le_of_ble_eq_true rfl) dX1_makeNew_74 (fun H locs hP hD hS => ?_)
        replace hP : va_P (my_D Γ) vwCl (wFloor Γ q_fl q_k q_c q_a q_pa q_b q_pb (upd (upd (upd (upd vi 7 (0 : Int32)) 8 (0 : Int32)) 9 (0 : Int32)) 10 (0 : Int32)) (vp_updL (vp_updL (vp_updL vj 4 (0 : Int64)) 5 (0 : Int64)) 6 (0 : Int64)) vk vc va_2 vpa vb_4 vpb) H := hP
        replace hD : va_D A (wFloor Γ q_fl q_k q_c q_a q_pa q_b q_pb (upd (upd (upd (upd vi 7 (0 : Int32)) 8 (0 : Int32)) 9 (0 : Int32)) 10 (0 : Int32)) (vp_updL (vp_updL (vp_updL vj 4 (0 : Int64)) 5 (0 : Int64)) 6 (0 : Int64)) vk vc va_2 vpa vb_4 vpb) := hD
        refine lv_aload_n hx hb dX1_makeNew_77 rfl (lv_at hl 0 rfl) ?_
        refine lv_iconst (v := (0 : Int32)) hx hb dX1_makeNew_78 (by decide) ?_
        refine va_put (D := my_D Γ) (ci := 1) (v := .int (0 : Int32)) (ty := .int) (C := RX1) (T := TX1) (N := 12) hx hb hts hinX1 tyX1 tyX1_ok nmX1 hown hK hP hD hS 0 rfl rfl 11 (by decide) (hts (.fieldLink RX1 57 "BeltFloor$Floor" "stepsMade" "I") (List.mem_of_getElem? (i := 11) rfl)) (fun _ h9 => h9) rfl (by decide +kernel) rfl rfl (Nat.le_of_ble_eq_true rfl) dX1_makeNew_79 (fun H locs hP hD hS => ?_)
        replace hP : va_P (my_D Γ) vwCl (wFloor Γ q_fl q_k q_c q_a q_pa q_b q_pb (upd (upd (upd (upd (upd vi 7 (0 : Int32)) 8 (0 : Int32)) 9 (0 : Int32)) 10 (0 : Int32)) 11 (0 : Int32)) (vp_updL (vp_updL (vp_updL vj 4 (0 : Int64)) 5 (0 : Int64)) 6 (0 : Int64)) vk vc va_2 vpa vb_4 vpb) H := hP
        replace hD : va_D A (wFloor Γ q_fl q_k q_c q_a q_pa q_b q_pb (upd (upd (upd (upd (upd vi 7 (0 : Int32)) 8 (0 : Int32)) 9 (0 : Int32)) 10 (0 : Int32)) 11 (0 : Int32)) (vp_updL (vp_updL (vp_updL vj 4 (0 : Int64)) 5 (0 : Int64)) 6 (0 : Int64)) vk vc va_2 vpa vb_4 vpb) := hD
        obtain ⟨hf0, hf1, hf2, hf3, hf4⟩ := si5 hm
        subst hf0
        subst hf1
        subst hf2
        subst hf3
        subst hf4
        exact W.vret hx hb hr (fun t ht hW => ⟨⟨rfl, by rw [ht]; exact hP⟩, hS.F ht⟩) hS.2.2 dX1_makeNew_82
      · replace hm := if_f hm c_1
        refine lv_aload_n hx hb dX1_makeNew_11 rfl (lv_at hl 0 rfl) ?_
        refine va_get (D := my_D Γ) (ci := 1) (v := .ref q_k) (C := RX1) (T := TX1) (N := 12) hx hb hts hinX1 hown hK hP 0 rfl rfl 0 (by decide) (hts (.fieldLink RX1 9 "BeltFloor$Floor" "kinds" "[I") (List.mem_of_getElem? (i := 1) rfl)) (fun _ h9 => h9) rfl dX1_makeNew_12 ?_
        refine lv_iload_n hx hb dX1_makeNew_15 rfl (lv_at hl 1 rfl) ?_
        refine lv_iconst (v := (0 : Int32)) hx hb dX1_makeNew_16 (by decide) ?_
        obtain ⟨hi_6, hm⟩ := if_in hm
        refine va_iast hx hb hK hP hD hS 1 0 rfl rfl hi_6 dX1_makeNew_17 (fun H locs hP hD hS => ?_)
        replace hP : va_P (my_D Γ) vwCl (wFloor Γ q_fl q_k q_c q_a q_pa q_b q_pb vi vj (upd vk l1.toNatClampNeg (0 : Int32)) vc va vpa vb vpb) H := hP
        replace hD : va_D A (wFloor Γ q_fl q_k q_c q_a q_pa q_b q_pb vi vj (upd vk l1.toNatClampNeg (0 : Int32)) vc va vpa vb vpb) := hD
        refine lv_iinc (v := (l1 + (1 : Int32))) (lv' := [(1, .int (l1 + (1 : Int32))), (0, .ref q_fl)]) hx hb dX1_makeNew_18 hl (k := 1) rfl rfl (by decide) rfl (fun ls hl => ?_)
        refine lv_goto (tgt := 2) hx hb dX1_makeNew_21 (by decide) ?_
        exact ih vi vj (upd vk l1.toNatClampNeg (0 : Int32)) va vb (l1 + (1 : Int32)) _ _ _ hP hD hS (lv_sub hl [1, 0] rfl) hm
  unfold mX1_makeNew at hm
  refine lv_iconst (v := (0 : Int32)) hx hb dX1_makeNew_0 (by decide) ?_
  refine lv_istore_n (lv' := [(1, .int (0 : Int32)), (0, .ref q_fl)]) hx hb dX1_makeNew_1 rfl hl (by decide) rfl (fun ls hl => ?_)
  exact J_2 4096 vi vj vk va vb (0 : Int32) _ _ _ hP hD hS (lv_sub hl [1, 0] rfl) hm
def mX1_copyFrom_J76  (vi : Nat → Int32) (vj : Nat → Int64) (vk : Nat → Int32) (vc : Nat → Int32) (va : Nat → Int32) (vpa : Nat → Int32) (vb : Nat → Int32) (vpb : Nat → Int32) (vi2 : Nat → Int32) (vj2 : Nat → Int64) (vk2 : Nat → Int32) (vc2 : Nat → Int32) (va2 : Nat → Int32) (vpa2 : Nat → Int32) (vb2 : Nat → Int32) (vpb2 : Nat → Int32)  : Option ((Nat → Int32) × (Nat → Int64) × (Nat → Int32) × (Nat → Int32) × (Nat → Int32) × (Nat → Int32) × (Nat → Int32) × (Nat → Int32)) := (bo2 (mX4_copyFrom va vpa va2 vpa2) (fun va_3 vpa_4 => (bo2 (mX4_copyFrom vb vpb vb2 vpb2) (fun vb_6 vpb_7 => (some ((upd (upd (upd (upd (upd vi 7 (vi2 7)) 8 (vi2 8)) 9 (vi2 9)) 10 (vi2 10)) 11 (vi2 11)), (vp_updL (vp_updL (vp_updL vj 4 (vj2 4)) 5 (vj2 5)) 6 (vj2 6)), vk, vc, va_3, vpa_4, vb_6, vpb_7))))))
def mX1_copyFrom_L40  : Nat → (Nat → Int32) → (Nat → Int64) → (Nat → Int32) → (Nat → Int32) → (Nat → Int32) → (Nat → Int32) → (Nat → Int32) → (Nat → Int32) → (Nat → Int32) → (Nat → Int64) → (Nat → Int32) → (Nat → Int32) → (Nat → Int32) → (Nat → Int32) → (Nat → Int32) → (Nat → Int32) → Int32 → Option ((Nat → Int32) × (Nat → Int64) × (Nat → Int32) × (Nat → Int32) × (Nat → Int32) × (Nat → Int32) × (Nat → Int32) × (Nat → Int32))
  | 0, _, _, _, _, _, _, _, _, _, _, _, _, _, _, _, _, _ => none
  | n + 1, vi, vj, vk, vc, va, vpa, vb, vpb, vi2, vj2, vk2, vc2, va2, vpa2, vb2, vpb2, l2 => (if (4 : Int32) ≤ l2 then (mX1_copyFrom_J76 vi vj vk vc va vpa vb vpb vi2 vj2 vk2 vc2 va2 vpa2 vb2 vpb2) else (if (4 : Int32) ≤ l2 then (mX1_copyFrom_J76 vi vj vk vc va vpa vb vpb vi2 vj2 vk2 vc2 va2 vpa2 vb2 vpb2) else (if ¬ (l2 < 0 ∨ 4 ≤ l2.toNatClampNeg) then (mX1_copyFrom_L40 n vi vj vk (upd vc l2.toNatClampNeg (vc2 l2.toNatClampNeg)) va vpa vb vpb vi2 vj2 vk2 vc2 va2 vpa2 vb2 vpb2 (l2 + (1 : Int32))) else none)))
def mX1_copyFrom_J38  (vi : Nat → Int32) (vj : Nat → Int64) (vk : Nat → Int32) (vc : Nat → Int32) (va : Nat → Int32) (vpa : Nat → Int32) (vb : Nat → Int32) (vpb : Nat → Int32) (vi2 : Nat → Int32) (vj2 : Nat → Int64) (vk2 : Nat → Int32) (vc2 : Nat → Int32) (va2 : Nat → Int32) (vpa2 : Nat → Int32) (vb2 : Nat → Int32) (vpb2 : Nat → Int32)  : Option ((Nat → Int32) × (Nat → Int64) × (Nat → Int32) × (Nat → Int32) × (Nat → Int32) × (Nat → Int32) × (Nat → Int32) × (Nat → Int32)) := (mX1_copyFrom_L40 4096 vi vj vk vc va vpa vb vpb vi2 vj2 vk2 vc2 va2 vpa2 vb2 vpb2 (0 : Int32))
def mX1_copyFrom_L2  : Nat → (Nat → Int32) → (Nat → Int64) → (Nat → Int32) → (Nat → Int32) → (Nat → Int32) → (Nat → Int32) → (Nat → Int32) → (Nat → Int32) → (Nat → Int32) → (Nat → Int64) → (Nat → Int32) → (Nat → Int32) → (Nat → Int32) → (Nat → Int32) → (Nat → Int32) → (Nat → Int32) → Int32 → Option ((Nat → Int32) × (Nat → Int64) × (Nat → Int32) × (Nat → Int32) × (Nat → Int32) × (Nat → Int32) × (Nat → Int32) × (Nat → Int32))
  | 0, _, _, _, _, _, _, _, _, _, _, _, _, _, _, _, _, _ => none
  | n + 1, vi, vj, vk, vc, va, vpa, vb, vpb, vi2, vj2, vk2, vc2, va2, vpa2, vb2, vpb2, l2 => (if (36 : Int32) ≤ l2 then (mX1_copyFrom_J38 vi vj vk vc va vpa vb vpb vi2 vj2 vk2 vc2 va2 vpa2 vb2 vpb2) else (if (36 : Int32) ≤ l2 then (mX1_copyFrom_J38 vi vj vk vc va vpa vb vpb vi2 vj2 vk2 vc2 va2 vpa2 vb2 vpb2) else (if ¬ (l2 < 0 ∨ 36 ≤ l2.toNatClampNeg) then (mX1_copyFrom_L2 n vi vj (upd vk l2.toNatClampNeg (vk2 l2.toNatClampNeg)) vc va vpa vb vpb vi2 vj2 vk2 vc2 va2 vpa2 vb2 vpb2 (l2 + (1 : Int32))) else none)))
def mX1_copyFrom (vi : Nat → Int32) (vj : Nat → Int64) (vk : Nat → Int32) (vc : Nat → Int32) (va : Nat → Int32) (vpa : Nat → Int32) (vb : Nat → Int32) (vpb : Nat → Int32) (vi2 : Nat → Int32) (vj2 : Nat → Int64) (vk2 : Nat → Int32) (vc2 : Nat → Int32) (va2 : Nat → Int32) (vpa2 : Nat → Int32) (vb2 : Nat → Int32) (vpb2 : Nat → Int32) : Option ((Nat → Int32) × (Nat → Int64) × (Nat → Int32) × (Nat → Int32) × (Nat → Int32) × (Nat → Int32) × (Nat → Int32) × (Nat → Int32)) := (mX1_copyFrom_L2 4096 vi vj vk vc va vpa vb vpb vi2 vj2 vk2 vc2 va2 vpa2 vb2 vpb2 (0 : Int32))
set_option maxHeartbeats 4000000 in
set_option maxRecDepth 100000 in
theorem kX1_copyFrom (l : Launch) (Γ : my_G) (q_fl q_k q_c q_a q_pa q_b q_pb q_fl2 q_k2 q_c2 q_a2 q_pa2 q_b2 q_pb2 : Nat) (vi : Nat → Int32) (vj : Nat → Int64) (vk : Nat → Int32) (vc : Nat → Int32) (va : Nat → Int32) (vpa : Nat → Int32) (vb : Nat → Int32) (vpb : Nat → Int32) (vi2 : Nat → Int32) (vj2 : Nat → Int64) (vk2 : Nat → Int32) (vc2 : Nat → Int32) (va2 : Nat → Int32) (vpa2 : Nat → Int32) (vb2 : Nat → Int32) (vpb2 : Nat → Int32)  (vi_z : Nat → Int32) (vj_z : Nat → Int64) (vk_z : Nat → Int32) (vc_z : Nat → Int32) (va_z : Nat → Int32) (vpa_z : Nat → Int32) (vb_z : Nat → Int32) (vpb_z : Nat → Int32) (hm : mX1_copyFrom vi vj vk vc va vpa vb vpb vi2 vj2 vk2 vc2 va2 vpa2 vb2 vpb2 = (some (vi_z, vj_z, vk_z, vc_z, va_z, vpa_z, vb_z, vpb_z))) : Mn l yX1_copyFrom wsX1_copyFrom ({ frames := 1, cells := 0, slots := 0, locals := 22 } : Room) Γ [.ref q_fl, .ref q_fl2] (wFloor Γ q_fl q_k q_c q_a q_pa q_b q_pb vi vj vk vc va vpa vb vpb ++ wFloor Γ q_fl2 q_k2 q_c2 q_a2 q_pa2 q_b2 q_pb2 vi2 vj2 vk2 vc2 va2 vpa2 vb2 vpb2) none (wFloor Γ q_fl q_k q_c q_a q_pa q_b q_pb vi_z vj_z vk_z vc_z va_z vpa_z vb_z vpb_z ++ wFloor Γ q_fl2 q_k2 q_c2 q_a2 q_pa2 q_b2 q_pb2 vi2 vj2 vk2 vc2 va2 vpa2 vb2 vpb2) := by
  intro sz
  refine Met.ofW (cc := cX1_copyFrom) (maxL := 3) (ret := none) (by decide) rfl ?_
  intro p e s m args below meth c s₁ B hml hv
  obtain ⟨rfl, hsz, hP, hK, hD0⟩ := hv
  have hx := B.exec
  have hb := B.bytes
  have hr := B.returns
  have hts := atoms_spec (ws := wsX1_copyFrom) B.pre
  have hown : s.vm.findClass RX1 = some m.cls := findClass_of_methodNamed B.named
  have hlocks := B.notSynchronized
  have hinX1 : ∀ w ∈ u_ws RX1 TX1 12, w ∈ wsX1_copyFrom := fun w h => List.mem_cons_of_mem _ (List.mem_append_left _ (List.mem_append_right _ h))
  have hinX4 : ∀ w ∈ u_ws RX4 TX4 10, w ∈ wsX1_copyFrom := fun w h => List.mem_cons_of_mem _ (List.mem_append_right _ h)
  subst hsz
  have hD := hD0.self (sz := s.heap.size)
  have hA : ∀ q : Nat, s.heap.size ≤ q → va_A (wFloor Γ q_fl q_k q_c q_a q_pa q_b q_pb vi vj vk vc va vpa vb vpb ++ wFloor Γ q_fl2 q_k2 q_c2 q_a2 q_pa2 q_b2 q_pb2 vi2 vj2 vk2 vc2 va2 vpa2 vb2 vpb2) s.heap.size q := fun q h => Or.inr h
  generalize va_A (wFloor Γ q_fl q_k q_c q_a q_pa q_b q_pb vi vj vk vc va vpa vb vpb ++ wFloor Γ q_fl2 q_k2 q_c2 q_a2 q_pa2 q_b2 q_pb2 vi2 vj2 vk2 vc2 va2 vpa2 vb2 vpb2) s.heap.size = A at hD hA ⊢
  have hS : va_S A s.heap s.heap [] := va_S.rf
  have hl := lv_entry ([.ref q_fl, .ref q_fl2]) (n := 3) (Nat.le_of_ble_eq_true rfl)
  rw [lg_entry_eq]
  generalize (lg_sl ([.ref q_fl, .ref q_fl2]) ++ List.replicate (3 - (lg_sl ([.ref q_fl, .ref q_fl2])).length) Slot.unset).toArray = ls at hl ⊢
  replace hl : lv_has ls 3 [(0, .ref q_fl), (1, .ref q_fl2)] := hl
  have J_76 : ∀ (vi : Nat → Int32) (vj : Nat → Int64) (vk : Nat → Int32) (vc : Nat → Int32) (va : Nat → Int32) (vpa : Nat → Int32) (vb : Nat → Int32) (vpb : Nat → Int32) (vi2 : Nat → Int32) (vj2 : Nat → Int64) (vk2 : Nat → Int32) (vc2 : Nat → Int32) (va2 : Nat → Int32) (vpa2 : Nat → Int32) (vb2 : Nat → Int32) (vpb2 : Nat → Int32)  (H : Heap) (locs : List Loc) (ls : Array Slot), va_P (my_D Γ) vwCl (wFloor Γ q_fl q_k q_c q_a q_pa q_b q_pb vi vj vk vc va vpa vb vpb ++ wFloor Γ q_fl2 q_k2 q_c2 q_a2 q_pa2 q_b2 q_pb2 vi2 vj2 vk2 vc2 va2 vpa2 vb2 vpb2) H → va_D A (wFloor Γ q_fl q_k q_c q_a q_pa q_b q_pb vi vj vk vc va vpa vb vpb ++ wFloor Γ q_fl2 q_k2 q_c2 q_a2 q_pa2 q_b2 q_pb2 vi2 vj2 vk2 vc2 va2 vpa2 vb2 vpb2) → va_S A s.heap H locs → lv_has ls 3 [(0, .ref q_fl), (1, .ref q_fl2)] → mX1_copyFrom_J76 vi vj vk vc va vpa vb vpb vi2 vj2 vk2 vc2 va2 vpa2 vb2 vpb2 = (some (vi_z, vj_z, vk_z, vc_z, va_z, vpa_z, vb_z, vpb_z)) → W p l e (headSpec wsX1_copyFrom ({ frames := 1, cells := 0, slots := 0, locals := 22 } : Room)).room s m ([.ref q_fl, .ref q_fl2] : List Value).toArray below meth c H locs 0 0 (MQ below (my_Q Γ A none (wFloor Γ q_fl q_k q_c q_a q_pa q_b q_pb vi_z vj_z vk_z vc_z va_z vpa_z vb_z vpb_z ++ wFloor Γ q_fl2 q_k2 q_c2 q_a2 q_pa2 q_b2 q_pb2 vi2 vj2 vk2 vc2 va2 vpa2 vb2 vpb2)) ([.ref q_fl, .ref q_fl2] : List Value).toArray s 0 0 A) (F0 m 76 ls []) := by
    intro  vi vj vk vc va vpa vb vpb vi2 vj2 vk2 vc2 va2 vpa2 vb2 vpb2 H locs ls hP hD hS hl hm
    unfold mX1_copyFrom_J76 at hm
    refine lv_aload_n hx hb dX1_copyFrom_76 rfl (lv_at hl 0 rfl) ?_
    refine va_get (D := my_D Γ) (ci := 1) (v := .ref q_a) (C := RX1) (T := TX1) (N := 12) hx hb hts hinX1 hown hK hP 0 rfl rfl 2 (by decide) (hts (.fieldLink RX1 21 "BeltFloor$Floor" "first" "LBeltFloor$Robot;") (List.mem_of_getElem? (i := 3) rfl)) (fun _ h9 => h9) rfl dX1_copyFrom_77 ?_
    refine lv_aload_n hx hb dX1_copyFrom_80 rfl (lv_at hl 1 rfl) ?_
    refine va_get (D := my_D Γ) (ci := 1) (v := .ref q_a2) (C := RX1) (T := TX1) (N := 12) hx hb hts hinX1 hown hK hP 7 rfl rfl 2 (by decide) (hts (.fieldLink RX1 21 "BeltFloor$Floor" "first" "LBeltFloor$Robot;") (List.mem_of_getElem? (i := 3) rfl)) (fun _ h9 => h9) rfl dX1_copyFrom_81 ?_
    obtain ⟨va_3, vpa_4, hc_5, hm⟩ := bo2_s hm
    refine my_call0 (wc := (wRobot Γ q_a q_pa va vpa ++ wRobot Γ q_a2 q_pa2 va2 vpa2)) (w1 := (wRobot Γ q_a q_pa va_3 vpa_4 ++ wRobot Γ q_a2 q_pa2 va2 vpa2)) (ws1 := (wFloor Γ q_fl q_k q_c q_a q_pa q_b q_pb vi vj vk vc va_3 vpa_4 vb vpb ++ wFloor Γ q_fl2 q_k2 q_c2 q_a2 q_pa2 q_b2 q_pb2 vi2 vj2 vk2 vc2 va2 vpa2 vb2 vpb2)) hP hD hS hA [3, 4, 10, 11] rfl rfl rfl (va_runV (As := [.ref q_a2]) (rest := []) ⟨hx, hb, hml, hown, hts⟩ (kX4_copyFrom l Γ q_a q_pa q_a2 q_pa2 va vpa va2 vpa2 va_3 vpa_4 hc_5 _) (cwV 1 hts gX1_copyFrom_X4_copyFrom rfl rfl rfl (by decide +kernel) ⟨Nat.le_of_ble_eq_true rfl, Nat.le_of_ble_eq_true rfl⟩) (my_preV (wc := (wRobot Γ q_a q_pa va vpa ++ wRobot Γ q_a2 q_pa2 va2 vpa2)) (ci := 3) (q0 := 3) [3, 4, 10, 11] hK hP hD rfl rfl rfl rfl) rfl rfl hl.1 rfl (lv_room (Nat.le_of_ble_eq_true rfl)) dX1_copyFrom_84 ⟨Nat.le_of_ble_eq_true rfl, Nat.le_of_ble_eq_true rfl⟩) (fun H locs hP hD hS => ?_)
    refine lv_aload_n hx hb dX1_copyFrom_87 rfl (lv_at hl 0 rfl) ?_
    refine va_get (D := my_D Γ) (ci := 1) (v := .ref q_b) (C := RX1) (T := TX1) (N := 12) hx hb hts hinX1 hown hK hP 0 rfl rfl 3 (by decide) (hts (.fieldLink RX1 25 "BeltFloor$Floor" "second" "LBeltFloor$Robot;") (List.mem_of_getElem? (i := 4) rfl)) (fun _ h9 => h9) rfl dX1_copyFrom_88 ?_
    refine lv_aload_n hx hb dX1_copyFrom_91 rfl (lv_at hl 1 rfl) ?_
    refine va_get (D := my_D Γ) (ci := 1) (v := .ref q_b2) (C := RX1) (T := TX1) (N := 12) hx hb hts hinX1 hown hK hP 7 rfl rfl 3 (by decide) (hts (.fieldLink RX1 25 "BeltFloor$Floor" "second" "LBeltFloor$Robot;") (List.mem_of_getElem? (i := 4) rfl)) (fun _ h9 => h9) rfl dX1_copyFrom_92 ?_
    obtain ⟨vb_6, vpb_7, hc_8, hm⟩ := bo2_s hm
    refine my_call0 (wc := (wRobot Γ q_b q_pb vb vpb ++ wRobot Γ q_b2 q_pb2 vb2 vpb2)) (w1 := (wRobot Γ q_b q_pb vb_6 vpb_7 ++ wRobot Γ q_b2 q_pb2 vb2 vpb2)) (ws1 := (wFloor Γ q_fl q_k q_c q_a q_pa q_b q_pb vi vj vk vc va_3 vpa_4 vb_6 vpb_7 ++ wFloor Γ q_fl2 q_k2 q_c2 q_a2 q_pa2 q_b2 q_pb2 vi2 vj2 vk2 vc2 va2 vpa2 vb2 vpb2)) hP hD hS hA [5, 6, 12, 13] rfl rfl rfl (va_runV (As := [.ref q_b2]) (rest := []) ⟨hx, hb, hml, hown, hts⟩ (kX4_copyFrom l Γ q_b q_pb q_b2 q_pb2 vb vpb vb2 vpb2 vb_6 vpb_7 hc_8 _) (cwV 1 hts gX1_copyFrom_X4_copyFrom rfl rfl rfl (by decide +kernel) ⟨Nat.le_of_ble_eq_true rfl, Nat.le_of_ble_eq_true rfl⟩) (my_preV (wc := (wRobot Γ q_b q_pb vb vpb ++ wRobot Γ q_b2 q_pb2 vb2 vpb2)) (ci := 3) (q0 := 5) [5, 6, 12, 13] hK hP hD rfl rfl rfl rfl) rfl rfl hl.1 rfl (lv_room (Nat.le_of_ble_eq_true rfl)) dX1_copyFrom_95 ⟨Nat.le_of_ble_eq_true rfl, Nat.le_of_ble_eq_true rfl⟩) (fun H locs hP hD hS => ?_)
    refine lv_aload_n hx hb dX1_copyFrom_98 rfl (lv_at hl 0 rfl) ?_
    refine lv_aload_n hx hb dX1_copyFrom_99 rfl (lv_at hl 1 rfl) ?_
    refine va_get (D := my_D Γ) (ci := 1) (v := .long (vj2 4)) (C := RX1) (T := TX1) (N := 12) hx hb hts hinX1 hown hK hP 7 rfl rfl 4 (by decide) (hts (.fieldLink RX1 34 "BeltFloor$Floor" "crates" "J") (List.mem_of_getElem? (i := 5) rfl)) (fun _ h9 => h9) rfl dX1_copyFrom_100 ?_
    refine lv_topl (fun y_9 ey_9 => ?_)
    refine va_put (D := my_D Γ) (ci := 1) (v := .long y_9) (ty := .long) (C := RX1) (T := TX1) (N := 12) hx hb hts hinX1 tyX1 tyX1_ok nmX1 hown hK hP hD hS 0 rfl rfl 4 (by decide) (hts (.fieldLink RX1 34 "BeltFloor$Floor" "crates" "J") (List.mem_of_getElem? (i := 5) rfl)) (fun _ h9 => h9) rfl (by decide +kernel) rfl rfl (Nat.le_of_ble_eq_true rfl) dX1_copyFrom_103 (fun H locs hP hD hS => ?_)
    replace hP : va_P (my_D Γ) vwCl (wFloor Γ q_fl q_k q_c q_a q_pa q_b q_pb vi (vp_updL vj 4 y_9) vk vc va_3 vpa_4 vb_6 vpb_7 ++ wFloor Γ q_fl2 q_k2 q_c2 q_a2 q_pa2 q_b2 q_pb2 vi2 vj2 vk2 vc2 va2 vpa2 vb2 vpb2) H := hP
    replace hD : va_D A (wFloor Γ q_fl q_k q_c q_a q_pa q_b q_pb vi (vp_updL vj 4 y_9) vk vc va_3 vpa_4 vb_6 vpb_7 ++ wFloor Γ q_fl2 q_k2 q_c2 q_a2 q_pa2 q_b2 q_pb2 vi2 vj2 vk2 vc2 va2 vpa2 vb2 vpb2) := hD
    subst ey_9
    refine lv_aload_n hx hb dX1_copyFrom_106 rfl (lv_at hl 0 rfl) ?_
    refine lv_aload_n hx hb dX1_copyFrom_107 rfl (lv_at hl 1 rfl) ?_
    refine va_get (D := my_D Γ) (ci := 1) (v := .long (vj2 5)) (C := RX1) (T := TX1) (N := 12) hx hb hts hinX1 hown hK hP 7 rfl rfl 5 (by decide) (hts (.fieldLink RX1 38 "BeltFloor$Floor" "belts" "J") (List.mem_of_getElem? (i := 6) rfl)) (fun _ h9 => h9) rfl dX1_copyFrom_108 ?_
    refine lv_topl (fun y_10 ey_10 => ?_)
    refine va_put (D := my_D Γ) (ci := 1) (v := .long y_10) (ty := .long) (C := RX1) (T := TX1) (N := 12) hx hb hts hinX1 tyX1 tyX1_ok nmX1 hown hK hP hD hS 0 rfl rfl 5 (by decide) (hts (.fieldLink RX1 38 "BeltFloor$Floor" "belts" "J") (List.mem_of_getElem? (i := 6) rfl)) (fun _ h9 => h9) rfl (by decide +kernel) rfl rfl (Nat.le_of_ble_eq_true rfl) dX1_copyFrom_111 (fun H locs hP hD hS => ?_)
    replace hP : va_P (my_D Γ) vwCl (wFloor Γ q_fl q_k q_c q_a q_pa q_b q_pb vi (vp_updL (vp_updL vj 4 (vj2 4)) 5 y_10) vk vc va_3 vpa_4 vb_6 vpb_7 ++ wFloor Γ q_fl2 q_k2 q_c2 q_a2 q_pa2 q_b2 q_pb2 vi2 vj2 vk2 vc2 va2 vpa2 vb2 vpb2) H := hP
    replace hD : va_D A (wFloor Γ q_fl q_k q_c q_a q_pa q_b q_pb vi (vp_updL (vp_updL vj 4 (vj2 4)) 5 y_10) vk vc va_3 vpa_4 vb_6 vpb_7 ++ wFloor Γ q_fl2 q_k2 q_c2 q_a2 q_pa2 q_b2 q_pb2 vi2 vj2 vk2 vc2 va2 vpa2 vb2 vpb2) := hD
    subst ey_10
    refine lv_aload_n hx hb dX1_copyFrom_114 rfl (lv_at hl 0 rfl) ?_
    refine lv_aload_n hx hb dX1_copyFrom_115 rfl (lv_at hl 1 rfl) ?_
    refine va_get (D := my_D Γ) (ci := 1) (v := .long (vj2 6)) (C := RX1) (T := TX1) (N := 12) hx hb hts hinX1 hown hK hP 7 rfl rfl 6 (by decide) (hts (.fieldLink RX1 41 "BeltFloor$Floor" "pits" "J") (List.mem_of_getElem? (i := 7) rfl)) (fun _ h9 => h9) rfl dX1_copyFrom_116 ?_
    refine lv_topl (fun y_11 ey_11 => ?_)
    refine va_put (D := my_D Γ) (ci := 1) (v := .long y_11) (ty := .long) (C := RX1) (T := TX1) (N := 12) hx hb hts hinX1 tyX1 tyX1_ok nmX1 hown hK hP hD hS 0 rfl rfl 6 (by decide) (hts (.fieldLink RX1 41 "BeltFloor$Floor" "pits" "J") (List.mem_of_getElem? (i := 7) rfl)) (fun _ h9 => h9) rfl (by decide +kernel) rfl rfl (Nat.le_of_ble_eq_true rfl) dX1_copyFrom_119 (fun H locs hP hD hS => ?_)
    replace hP : va_P (my_D Γ) vwCl (wFloor Γ q_fl q_k q_c q_a q_pa q_b q_pb vi (vp_updL (vp_updL (vp_updL vj 4 (vj2 4)) 5 (vj2 5)) 6 y_11) vk vc va_3 vpa_4 vb_6 vpb_7 ++ wFloor Γ q_fl2 q_k2 q_c2 q_a2 q_pa2 q_b2 q_pb2 vi2 vj2 vk2 vc2 va2 vpa2 vb2 vpb2) H := hP
    replace hD : va_D A (wFloor Γ q_fl q_k q_c q_a q_pa q_b q_pb vi (vp_updL (vp_updL (vp_updL vj 4 (vj2 4)) 5 (vj2 5)) 6 y_11) vk vc va_3 vpa_4 vb_6 vpb_7 ++ wFloor Γ q_fl2 q_k2 q_c2 q_a2 q_pa2 q_b2 q_pb2 vi2 vj2 vk2 vc2 va2 vpa2 vb2 vpb2) := hD
    subst ey_11
    refine lv_aload_n hx hb dX1_copyFrom_122 rfl (lv_at hl 0 rfl) ?_
    refine lv_aload_n hx hb dX1_copyFrom_123 rfl (lv_at hl 1 rfl) ?_
    refine va_get (D := my_D Γ) (ci := 1) (v := .int (vi2 7)) (C := RX1) (T := TX1) (N := 12) hx hb hts hinX1 hown hK hP 7 rfl rfl 7 (by decide) (hts (.fieldLink RX1 44 "BeltFloor$Floor" "checkpointCount" "I") (List.mem_of_getElem? (i := 8) rfl)) (fun _ h9 => h9) rfl dX1_copyFrom_124 ?_
    refine lv_topi (fun y_12 ey_12 => ?_)
    refine va_put (D := my_D Γ) (ci := 1) (v := .int y_12) (ty := .int) (C := RX1) (T := TX1) (N := 12) hx hb hts hinX1 tyX1 tyX1_ok nmX1 hown hK hP hD hS 0 rfl rfl 7 (by decide) (hts (.fieldLink RX1 44 "BeltFloor$Floor" "checkpointCount" "I") (List.mem_of_getElem? (i := 8) rfl)) (fun _ h9 => h9) rfl (by decide +kernel) rfl rfl (Nat.le_of_ble_eq_true rfl) dX1_copyFrom_127 (fun H locs hP hD hS => ?_)
    replace hP : va_P (my_D Γ) vwCl (wFloor Γ q_fl q_k q_c q_a q_pa q_b q_pb (upd vi 7 y_12) (vp_updL (vp_updL (vp_updL vj 4 (vj2 4)) 5 (vj2 5)) 6 (vj2 6)) vk vc va_3 vpa_4 vb_6 vpb_7 ++ wFloor Γ q_fl2 q_k2 q_c2 q_a2 q_pa2 q_b2 q_pb2 vi2 vj2 vk2 vc2 va2 vpa2 vb2 vpb2) H := hP
    replace hD : va_D A (wFloor Γ q_fl q_k q_c q_a q_pa q_b q_pb (upd vi 7 y_12) (vp_updL (vp_updL (vp_updL vj 4 (vj2 4)) 5 (vj2 5)) 6 (vj2 6)) vk vc va_3 vpa_4 vb_6 vpb_7 ++ wFloor Γ q_fl2 q_k2 q_c2 q_a2 q_pa2 q_b2 q_pb2 vi2 vj2 vk2 vc2 va2 vpa2 vb2 vpb2) := hD
    subst ey_12
    refine lv_aload_n hx hb dX1_copyFrom_130 rfl (lv_at hl 0 rfl) ?_
    refine lv_aload_n hx hb dX1_copyFrom_131 rfl (lv_at hl 1 rfl) ?_
    refine va_get (D := my_D Γ) (ci := 1) (v := .int (vi2 8)) (C := RX1) (T := TX1) (N := 12) hx hb hts hinX1 hown hK hP 7 rfl rfl 8 (by decide) (hts (.fieldLink RX1 48 "BeltFloor$Floor" "addedCrates" "I") (List.mem_of_getElem? (i := 9) rfl)) (fun _ h9 => h9) rfl dX1_copyFrom_132 ?_
    refine lv_topi (fun y_13 ey_13 => ?_)
    refine va_put (D := my_D Γ) (ci := 1) (v := .int y_13) (ty := .int) (C := RX1) (T := TX1) (N := 12) hx hb hts hinX1 tyX1 tyX1_ok nmX1 hown hK hP hD hS 0 rfl rfl 8 (by decide) (hts (.fieldLink RX1 48 "BeltFloor$Floor" "addedCrates" "I") (List.mem_of_getElem? (i := 9) rfl)) (fun _ h9 => h9) rfl (by decide +kernel) rfl rfl (Nat.le_of_ble_eq_true rfl) dX1_copyFrom_135 (fun H locs hP hD hS => ?_)
    replace hP : va_P (my_D Γ) vwCl (wFloor Γ q_fl q_k q_c q_a q_pa q_b q_pb (upd (upd vi 7 (vi2 7)) 8 y_13) (vp_updL (vp_updL (vp_updL vj 4 (vj2 4)) 5 (vj2 5)) 6 (vj2 6)) vk vc va_3 vpa_4 vb_6 vpb_7 ++ wFloor Γ q_fl2 q_k2 q_c2 q_a2 q_pa2 q_b2 q_pb2 vi2 vj2 vk2 vc2 va2 vpa2 vb2 vpb2) H := hP
    replace hD : va_D A (wFloor Γ q_fl q_k q_c q_a q_pa q_b q_pb (upd (upd vi 7 (vi2 7)) 8 y_13) (vp_updL (vp_updL (vp_updL vj 4 (vj2 4)) 5 (vj2 5)) 6 (vj2 6)) vk vc va_3 vpa_4 vb_6 vpb_7 ++ wFloor Γ q_fl2 q_k2 q_c2 q_a2 q_pa2 q_b2 q_pb2 vi2 vj2 vk2 vc2 va2 vpa2 vb2 vpb2) := hD
    subst ey_13
    refine lv_aload_n hx hb dX1_copyFrom_138 rfl (lv_at hl 0 rfl) ?_
    refine lv_aload_n hx hb dX1_copyFrom_139 rfl (lv_at hl 1 rfl) ?_
    refine va_get (D := my_D Γ) (ci := 1) (v := .int (vi2 9)) (C := RX1) (T := TX1) (N := 12) hx hb hts hinX1 hown hK hP 7 rfl rfl 9 (by decide) (hts (.fieldLink RX1 51 "BeltFloor$Floor" "takenCrates" "I") (List.mem_of_getElem? (i := 10) rfl)) (fun _ h9 => h9) rfl dX1_copyFrom_140 ?_
    refine lv_topi (fun y_14 ey_14 => ?_)
    refine va_put (D := my_D Γ) (ci := 1) (v := .int y_14) (ty := .int) (C := RX1) (T := TX1) (N := 12) hx hb hts hinX1 tyX1 tyX1_ok nmX1 hown hK hP hD hS 0 rfl rfl 9 (by decide) (hts (.fieldLink RX1 51 "BeltFloor$Floor" "takenCrates" "I") (List.mem_of_getElem? (i := 10) rfl)) (fun _ h9 => h9) rfl (by decide +kernel) rfl rfl (Nat.le_of_ble_eq_true rfl) dX1_copyFrom_143 (fun H locs hP hD hS => ?_)
    replace hP : va_P (my_D Γ) vwCl (wFloor Γ q_fl q_k q_c q_a q_pa q_b q_pb (upd (upd (upd vi 7 (vi2 7)) 8 (vi2 8)) 9 y_14) (vp_updL (vp_updL (vp_updL vj 4 (vj2 4)) 5 (vj2 5)) 6 (vj2 6)) vk vc va_3 vpa_4 vb_6 vpb_7 ++ wFloor Γ q_fl2 q_k2 q_c2 q_a2 q_pa2 q_b2 q_pb2 vi2 vj2 vk2 vc2 va2 vpa2 vb2 vpb2) H := hP
    replace hD : va_D A (wFloor Γ q_fl q_k q_c q_a q_pa q_b q_pb (upd (upd (upd vi 7 (vi2 7)) 8 (vi2 8)) 9 y_14) (vp_updL (vp_updL (vp_updL vj 4 (vj2 4)) 5 (vj2 5)) 6 (vj2 6)) vk vc va_3 vpa_4 vb_6 vpb_7 ++ wFloor Γ q_fl2 q_k2 q_c2 q_a2 q_pa2 q_b2 q_pb2 vi2 vj2 vk2 vc2 va2 vpa2 vb2 vpb2) := hD
    subst ey_14
    refine lv_aload_n hx hb dX1_copyFrom_146 rfl (lv_at hl 0 rfl) ?_
    refine lv_aload_n hx hb dX1_copyFrom_147 rfl (lv_at hl 1 rfl) ?_
    refine va_get (D := my_D Γ) (ci := 1) (v := .int (vi2 10)) (C := RX1) (T := TX1) (N := 12) hx hb hts hinX1 hown hK hP 7 rfl rfl 10 (by decide) (hts (.fieldLink RX1 54 "BeltFloor$Floor" "lostCrates" "I") (List.mem_of_getElem? (i := 11) rfl)) (fun _ h9 => h9) rfl dX1_copyFrom_148 ?_
    refine lv_topi (fun y_15 ey_15 => ?_)
    refine va_put (D := my_D Γ) (ci := 1) (v := .int y_15) (ty := .int) (C := RX1) (T := TX1) (N := 12) hx hb hts hinX1 tyX1 tyX1_ok nmX1 hown hK hP hD hS 0 rfl rfl 10 (by decide) (hts (.fieldLink RX1 54 "BeltFloor$Floor" "lostCrates" "I") (List.mem_of_getElem? (i := 11) rfl)) (fun _ h9 => h9) rfl (by decide +kernel) rfl rfl (Nat.le_of_ble_eq_true rfl) dX1_copyFrom_151 (fun H locs hP hD hS => ?_)
    replace hP : va_P (my_D Γ) vwCl (wFloor Γ q_fl q_k q_c q_a q_pa q_b q_pb (upd (upd (upd (upd vi 7 (vi2 7)) 8 (vi2 8)) 9 (vi2 9)) 10 y_15) (vp_updL (vp_updL (vp_updL vj 4 (vj2 4)) 5 (vj2 5)) 6 (vj2 6)) vk vc va_3 vpa_4 vb_6 vpb_7 ++ wFloor Γ q_fl2 q_k2 q_c2 q_a2 q_pa2 q_b2 q_pb2 vi2 vj2 vk2 vc2 va2 vpa2 vb2 vpb2) H := hP
    replace hD : va_D A (wFloor Γ q_fl q_k q_c q_a q_pa q_b q_pb (upd (upd (upd (upd vi 7 (vi2 7)) 8 (vi2 8)) 9 (vi2 9)) 10 y_15) (vp_updL (vp_updL (vp_updL vj 4 (vj2 4)) 5 (vj2 5)) 6 (vj2 6)) vk vc va_3 vpa_4 vb_6 vpb_7 ++ wFloor Γ q_fl2 q_k2 q_c2 q_a2 q_pa2 q_b2 q_pb2 vi2 vj2 vk2 vc2 va2 vpa2 vb2 vpb2) := hD
    subst ey_15
    refine lv_aload_n hx hb dX1_copyFrom_154 rfl (lv_at hl 0 rfl) ?_
    refine lv_aload_n hx hb dX1_copyFrom_155 rfl (lv_at hl 1 rfl) ?_
    refine va_get (D := my_D Γ) (ci := 1) (v := .int (vi2 11)) (C := RX1) (T := TX1) (N := 12) hx hb hts hinX1 hown hK hP 7 rfl rfl 11 (by decide) (hts (.fieldLink RX1 57 "BeltFloor$Floor" "stepsMade" "I") (List.mem_of_getElem? (i := 12) rfl)) (fun _ h9 => h9) rfl dX1_copyFrom_156 ?_
    refine lv_topi (fun y_16 ey_16 => ?_)
    refine va_put (D := my_D Γ) (ci := 1) (v := .int y_16) (ty := .int) (C := RX1) (T := TX1) (N := 12) hx hb hts hinX1 tyX1 tyX1_ok nmX1 hown hK hP hD hS 0 rfl rfl 11 (by decide) (hts (.fieldLink RX1 57 "BeltFloor$Floor" "stepsMade" "I") (List.mem_of_getElem? (i := 12) rfl)) (fun _ h9 => h9) rfl (by decide +kernel) rfl rfl (Nat.le_of_ble_eq_true rfl) dX1_copyFrom_159 (fun H locs hP hD hS => ?_)
    replace hP : va_P (my_D Γ) vwCl (wFloor Γ q_fl q_k q_c q_a q_pa q_b q_pb (upd (upd (upd (upd (upd vi 7 (vi2 7)) 8 (vi2 8)) 9 (vi2 9)) 10 (vi2 10)) 11 y_16) (vp_updL (vp_updL (vp_updL vj 4 (vj2 4)) 5 (vj2 5)) 6 (vj2 6)) vk vc va_3 vpa_4 vb_6 vpb_7 ++ wFloor Γ q_fl2 q_k2 q_c2 q_a2 q_pa2 q_b2 q_pb2 vi2 vj2 vk2 vc2 va2 vpa2 vb2 vpb2) H := hP
    replace hD : va_D A (wFloor Γ q_fl q_k q_c q_a q_pa q_b q_pb (upd (upd (upd (upd (upd vi 7 (vi2 7)) 8 (vi2 8)) 9 (vi2 9)) 10 (vi2 10)) 11 y_16) (vp_updL (vp_updL (vp_updL vj 4 (vj2 4)) 5 (vj2 5)) 6 (vj2 6)) vk vc va_3 vpa_4 vb_6 vpb_7 ++ wFloor Γ q_fl2 q_k2 q_c2 q_a2 q_pa2 q_b2 q_pb2 vi2 vj2 vk2 vc2 va2 vpa2 vb2 vpb2) := hD
    subst ey_16
    obtain ⟨hf0, hf1, hf2, hf3, hf4, hf5, hf6, hf7⟩ := si8 hm
    subst hf0
    subst hf1
    subst hf2
    subst hf3
    subst hf4
    subst hf5
    subst hf6
    subst hf7
    exact W.vret hx hb hr (fun t ht hW => ⟨⟨rfl, by rw [ht]; exact hP⟩, hS.F ht⟩) hS.2.2 dX1_copyFrom_162
  have J_40 : ∀ n : Nat, ∀ (vi : Nat → Int32) (vj : Nat → Int64) (vk : Nat → Int32) (vc : Nat → Int32) (va : Nat → Int32) (vpa : Nat → Int32) (vb : Nat → Int32) (vpb : Nat → Int32) (vi2 : Nat → Int32) (vj2 : Nat → Int64) (vk2 : Nat → Int32) (vc2 : Nat → Int32) (va2 : Nat → Int32) (vpa2 : Nat → Int32) (vb2 : Nat → Int32) (vpb2 : Nat → Int32) (l2 : Int32) (H : Heap) (locs : List Loc) (ls : Array Slot), va_P (my_D Γ) vwCl (wFloor Γ q_fl q_k q_c q_a q_pa q_b q_pb vi vj vk vc va vpa vb vpb ++ wFloor Γ q_fl2 q_k2 q_c2 q_a2 q_pa2 q_b2 q_pb2 vi2 vj2 vk2 vc2 va2 vpa2 vb2 vpb2) H → va_D A (wFloor Γ q_fl q_k q_c q_a q_pa q_b q_pb vi vj vk vc va vpa vb vpb ++ wFloor Γ q_fl2 q_k2 q_c2 q_a2 q_pa2 q_b2 q_pb2 vi2 vj2 vk2 vc2 va2 vpa2 vb2 vpb2) → va_S A s.heap H locs → lv_has ls 3 [(0, .ref q_fl), (1, .ref q_fl2), (2, .int l2)] → mX1_copyFrom_L40 n vi vj vk vc va vpa vb vpb vi2 vj2 vk2 vc2 va2 vpa2 vb2 vpb2 l2 = (some (vi_z, vj_z, vk_z, vc_z, va_z, vpa_z, vb_z, vpb_z)) → W p l e (headSpec wsX1_copyFrom ({ frames := 1, cells := 0, slots := 0, locals := 22 } : Room)).room s m ([.ref q_fl, .ref q_fl2] : List Value).toArray below meth c H locs 0 0 (MQ below (my_Q Γ A none (wFloor Γ q_fl q_k q_c q_a q_pa q_b q_pb vi_z vj_z vk_z vc_z va_z vpa_z vb_z vpb_z ++ wFloor Γ q_fl2 q_k2 q_c2 q_a2 q_pa2 q_b2 q_pb2 vi2 vj2 vk2 vc2 va2 vpa2 vb2 vpb2)) ([.ref q_fl, .ref q_fl2] : List Value).toArray s 0 0 A) (F0 m 40 ls []) := by
    intro  n
    induction n with
    | zero => intro vi vj vk vc va vpa vb vpb vi2 vj2 vk2 vc2 va2 vpa2 vb2 vpb2 l2 H locs ls hP hD hS hl hm; cases hm
    | succ n ih =>
      intro vi vj vk vc va vpa vb vpb vi2 vj2 vk2 vc2 va2 vpa2 vb2 vpb2 l2 H locs ls hP hD hS hl hm
      unfold mX1_copyFrom_L40 at hm
      refine lv_iload_n hx hb dX1_copyFrom_40 rfl (lv_at hl 2 rfl) ?_
      refine lv_aload_n hx hb dX1_copyFrom_41 rfl (lv_at hl 0 rfl) ?_
      refine va_get (D := my_D Γ) (ci := 1) (v := .ref q_c) (C := RX1) (T := TX1) (N := 12) hx hb hts hinX1 hown hK hP 0 rfl rfl 1 (by decide) (hts (.fieldLink RX1 15 "BeltFloor$Floor" "checkpointCells" "[I") (List.mem_of_getElem? (i := 2) rfl)) (fun _ h9 => h9) rfl dX1_copyFrom_42 ?_
      refine va_alen hx hb hK hP 2 0 rfl rfl (v := (4 : Int32)) rfl dX1_copyFrom_45 ?_
      refine lv_icmp_ge (tgt := 76) hx hb dX1_copyFrom_46 (by decide) (fun c_2 => ?_) (fun c_2 => ?_)
      · replace hm := if_s hm c_2
        exact J_76 vi vj vk vc va vpa vb vpb vi2 vj2 vk2 vc2 va2 vpa2 vb2 vpb2 _ _ _ hP hD hS (lv_sub hl [0, 1] rfl) hm
      · replace hm := if_f hm c_2
        refine lv_iload_n hx hb dX1_copyFrom_49 rfl (lv_at hl 2 rfl) ?_
        refine lv_aload_n hx hb dX1_copyFrom_50 rfl (lv_at hl 1 rfl) ?_
        refine va_get (D := my_D Γ) (ci := 1) (v := .ref q_c2) (C := RX1) (T := TX1) (N := 12) hx hb hts hinX1 hown hK hP 7 rfl rfl 1 (by decide) (hts (.fieldLink RX1 15 "BeltFloor$Floor" "checkpointCells" "[I") (List.mem_of_getElem? (i := 2) rfl)) (fun _ h9 => h9) rfl dX1_copyFrom_51 ?_
        refine va_alen hx hb hK hP 9 0 rfl rfl (v := (4 : Int32)) rfl dX1_copyFrom_54 ?_
        refine lv_icmp_ge (tgt := 76) hx hb dX1_copyFrom_55 (by decide) (fun c_17 => ?_) (fun c_17 => ?_)
        · replace hm := if_s hm c_17
          exact J_76 vi vj vk vc va vpa vb vpb vi2 vj2 vk2 vc2 va2 vpa2 vb2 vpb2 _ _ _ hP hD hS (lv_sub hl [0, 1] rfl) hm
        · replace hm := if_f hm c_17
          refine lv_aload_n hx hb dX1_copyFrom_58 rfl (lv_at hl 0 rfl) ?_
          refine va_get (D := my_D Γ) (ci := 1) (v := .ref q_c) (C := RX1) (T := TX1) (N := 12) hx hb hts hinX1 hown hK hP 0 rfl rfl 1 (by decide) (hts (.fieldLink RX1 15 "BeltFloor$Floor" "checkpointCells" "[I") (List.mem_of_getElem? (i := 2) rfl)) (fun _ h9 => h9) rfl dX1_copyFrom_59 ?_
          refine lv_iload_n hx hb dX1_copyFrom_62 rfl (lv_at hl 2 rfl) ?_
          refine lv_aload_n hx hb dX1_copyFrom_63 rfl (lv_at hl 1 rfl) ?_
          refine va_get (D := my_D Γ) (ci := 1) (v := .ref q_c2) (C := RX1) (T := TX1) (N := 12) hx hb hts hinX1 hown hK hP 7 rfl rfl 1 (by decide) (hts (.fieldLink RX1 15 "BeltFloor$Floor" "checkpointCells" "[I") (List.mem_of_getElem? (i := 2) rfl)) (fun _ h9 => h9) rfl dX1_copyFrom_64 ?_
          refine lv_iload_n hx hb dX1_copyFrom_67 rfl (lv_at hl 2 rfl) ?_
          obtain ⟨hi_18, hm⟩ := if_in hm
          refine va_iald hx hb hK hP 9 0 rfl rfl hi_18 dX1_copyFrom_68 ?_
          refine lv_topi (fun y_19 ey_19 => ?_)
          refine va_iast hx hb hK hP hD hS 2 0 rfl rfl hi_18 dX1_copyFrom_69 (fun H locs hP hD hS => ?_)
          replace hP : va_P (my_D Γ) vwCl (wFloor Γ q_fl q_k q_c q_a q_pa q_b q_pb vi vj vk (upd vc l2.toNatClampNeg y_19) va vpa vb vpb ++ wFloor Γ q_fl2 q_k2 q_c2 q_a2 q_pa2 q_b2 q_pb2 vi2 vj2 vk2 vc2 va2 vpa2 vb2 vpb2) H := hP
          replace hD : va_D A (wFloor Γ q_fl q_k q_c q_a q_pa q_b q_pb vi vj vk (upd vc l2.toNatClampNeg y_19) va vpa vb vpb ++ wFloor Γ q_fl2 q_k2 q_c2 q_a2 q_pa2 q_b2 q_pb2 vi2 vj2 vk2 vc2 va2 vpa2 vb2 vpb2) := hD
          subst ey_19
          refine lv_iinc (v := (l2 + (1 : Int32))) (lv' := [(2, .int (l2 + (1 : Int32))), (0, .ref q_fl), (1, .ref q_fl2)]) hx hb dX1_copyFrom_70 hl (k := 2) rfl rfl (by decide) rfl (fun ls hl => ?_)
          refine lv_goto (tgt := 40) hx hb dX1_copyFrom_73 (by decide) ?_
          exact ih vi vj vk (upd vc l2.toNatClampNeg (vc2 l2.toNatClampNeg)) va vpa vb vpb vi2 vj2 vk2 vc2 va2 vpa2 vb2 vpb2 (l2 + (1 : Int32)) _ _ _ hP hD hS (lv_sub hl [1, 2, 0] rfl) hm
  have J_38 : ∀ (vi : Nat → Int32) (vj : Nat → Int64) (vk : Nat → Int32) (vc : Nat → Int32) (va : Nat → Int32) (vpa : Nat → Int32) (vb : Nat → Int32) (vpb : Nat → Int32) (vi2 : Nat → Int32) (vj2 : Nat → Int64) (vk2 : Nat → Int32) (vc2 : Nat → Int32) (va2 : Nat → Int32) (vpa2 : Nat → Int32) (vb2 : Nat → Int32) (vpb2 : Nat → Int32)  (H : Heap) (locs : List Loc) (ls : Array Slot), va_P (my_D Γ) vwCl (wFloor Γ q_fl q_k q_c q_a q_pa q_b q_pb vi vj vk vc va vpa vb vpb ++ wFloor Γ q_fl2 q_k2 q_c2 q_a2 q_pa2 q_b2 q_pb2 vi2 vj2 vk2 vc2 va2 vpa2 vb2 vpb2) H → va_D A (wFloor Γ q_fl q_k q_c q_a q_pa q_b q_pb vi vj vk vc va vpa vb vpb ++ wFloor Γ q_fl2 q_k2 q_c2 q_a2 q_pa2 q_b2 q_pb2 vi2 vj2 vk2 vc2 va2 vpa2 vb2 vpb2) → va_S A s.heap H locs → lv_has ls 3 [(0, .ref q_fl), (1, .ref q_fl2)] → mX1_copyFrom_J38 vi vj vk vc va vpa vb vpb vi2 vj2 vk2 vc2 va2 vpa2 vb2 vpb2 = (some (vi_z, vj_z, vk_z, vc_z, va_z, vpa_z, vb_z, vpb_z)) → W p l e (headSpec wsX1_copyFrom ({ frames := 1, cells := 0, slots := 0, locals := 22 } : Room)).room s m ([.ref q_fl, .ref q_fl2] : List Value).toArray below meth c H locs 0 0 (MQ below (my_Q Γ A none (wFloor Γ q_fl q_k q_c q_a q_pa q_b q_pb vi_z vj_z vk_z vc_z va_z vpa_z vb_z vpb_z ++ wFloor Γ q_fl2 q_k2 q_c2 q_a2 q_pa2 q_b2 q_pb2 vi2 vj2 vk2 vc2 va2 vpa2 vb2 vpb2)) ([.ref q_fl, .ref q_fl2] : List Value).toArray s 0 0 A) (F0 m 38 ls []) := by
    intro  vi vj vk vc va vpa vb vpb vi2 vj2 vk2 vc2 va2 vpa2 vb2 vpb2 H locs ls hP hD hS hl hm
    unfold mX1_copyFrom_J38 at hm
    refine lv_iconst (v := (0 : Int32)) hx hb dX1_copyFrom_38 (by decide) ?_
    refine lv_istore_n (lv' := [(2, .int (0 : Int32)), (0, .ref q_fl), (1, .ref q_fl2)]) hx hb dX1_copyFrom_39 rfl hl (by decide) rfl (fun ls hl => ?_)
    exact J_40 4096 vi vj vk vc va vpa vb vpb vi2 vj2 vk2 vc2 va2 vpa2 vb2 vpb2 (0 : Int32) _ _ _ hP hD hS (lv_sub hl [1, 2, 0] rfl) hm
  have J_2 : ∀ n : Nat, ∀ (vi : Nat → Int32) (vj : Nat → Int64) (vk : Nat → Int32) (vc : Nat → Int32) (va : Nat → Int32) (vpa : Nat → Int32) (vb : Nat → Int32) (vpb : Nat → Int32) (vi2 : Nat → Int32) (vj2 : Nat → Int64) (vk2 : Nat → Int32) (vc2 : Nat → Int32) (va2 : Nat → Int32) (vpa2 : Nat → Int32) (vb2 : Nat → Int32) (vpb2 : Nat → Int32) (l2 : Int32) (H : Heap) (locs : List Loc) (ls : Array Slot), va_P (my_D Γ) vwCl (wFloor Γ q_fl q_k q_c q_a q_pa q_b q_pb vi vj vk vc va vpa vb vpb ++ wFloor Γ q_fl2 q_k2 q_c2 q_a2 q_pa2 q_b2 q_pb2 vi2 vj2 vk2 vc2 va2 vpa2 vb2 vpb2) H → va_D A (wFloor Γ q_fl q_k q_c q_a q_pa q_b q_pb vi vj vk vc va vpa vb vpb ++ wFloor Γ q_fl2 q_k2 q_c2 q_a2 q_pa2 q_b2 q_pb2 vi2 vj2 vk2 vc2 va2 vpa2 vb2 vpb2) → va_S A s.heap H locs → lv_has ls 3 [(0, .ref q_fl), (1, .ref q_fl2), (2, .int l2)] → mX1_copyFrom_L2 n vi vj vk vc va vpa vb vpb vi2 vj2 vk2 vc2 va2 vpa2 vb2 vpb2 l2 = (some (vi_z, vj_z, vk_z, vc_z, va_z, vpa_z, vb_z, vpb_z)) → W p l e (headSpec wsX1_copyFrom ({ frames := 1, cells := 0, slots := 0, locals := 22 } : Room)).room s m ([.ref q_fl, .ref q_fl2] : List Value).toArray below meth c H locs 0 0 (MQ below (my_Q Γ A none (wFloor Γ q_fl q_k q_c q_a q_pa q_b q_pb vi_z vj_z vk_z vc_z va_z vpa_z vb_z vpb_z ++ wFloor Γ q_fl2 q_k2 q_c2 q_a2 q_pa2 q_b2 q_pb2 vi2 vj2 vk2 vc2 va2 vpa2 vb2 vpb2)) ([.ref q_fl, .ref q_fl2] : List Value).toArray s 0 0 A) (F0 m 2 ls []) := by
    intro  n
    induction n with
    | zero => intro vi vj vk vc va vpa vb vpb vi2 vj2 vk2 vc2 va2 vpa2 vb2 vpb2 l2 H locs ls hP hD hS hl hm; cases hm
    | succ n ih =>
      intro vi vj vk vc va vpa vb vpb vi2 vj2 vk2 vc2 va2 vpa2 vb2 vpb2 l2 H locs ls hP hD hS hl hm
      unfold mX1_copyFrom_L2 at hm
      refine lv_iload_n hx hb dX1_copyFrom_2 rfl (lv_at hl 2 rfl) ?_
      refine lv_aload_n hx hb dX1_copyFrom_3 rfl (lv_at hl 0 rfl) ?_
      refine va_get (D := my_D Γ) (ci := 1) (v := .ref q_k) (C := RX1) (T := TX1) (N := 12) hx hb hts hinX1 hown hK hP 0 rfl rfl 0 (by decide) (hts (.fieldLink RX1 9 "BeltFloor$Floor" "kinds" "[I") (List.mem_of_getElem? (i := 1) rfl)) (fun _ h9 => h9) rfl dX1_copyFrom_4 ?_
      refine va_alen hx hb hK hP 1 0 rfl rfl (v := (36 : Int32)) rfl dX1_copyFrom_7 ?_
      refine lv_icmp_ge (tgt := 38) hx hb dX1_copyFrom_8 (by decide) (fun c_1 => ?_) (fun c_1 => ?_)
      · replace hm := if_s hm c_1
        exact J_38 vi vj vk vc va vpa vb vpb vi2 vj2 vk2 vc2 va2 vpa2 vb2 vpb2 _ _ _ hP hD hS (lv_sub hl [0, 1] rfl) hm
      · replace hm := if_f hm c_1
        refine lv_iload_n hx hb dX1_copyFrom_11 rfl (lv_at hl 2 rfl) ?_
        refine lv_aload_n hx hb dX1_copyFrom_12 rfl (lv_at hl 1 rfl) ?_
        refine va_get (D := my_D Γ) (ci := 1) (v := .ref q_k2) (C := RX1) (T := TX1) (N := 12) hx hb hts hinX1 hown hK hP 7 rfl rfl 0 (by decide) (hts (.fieldLink RX1 9 "BeltFloor$Floor" "kinds" "[I") (List.mem_of_getElem? (i := 1) rfl)) (fun _ h9 => h9) rfl dX1_copyFrom_13 ?_
        refine va_alen hx hb hK hP 8 0 rfl rfl (v := (36 : Int32)) rfl dX1_copyFrom_16 ?_
        refine lv_icmp_ge (tgt := 38) hx hb dX1_copyFrom_17 (by decide) (fun c_20 => ?_) (fun c_20 => ?_)
        · replace hm := if_s hm c_20
          exact J_38 vi vj vk vc va vpa vb vpb vi2 vj2 vk2 vc2 va2 vpa2 vb2 vpb2 _ _ _ hP hD hS (lv_sub hl [0, 1] rfl) hm
        · replace hm := if_f hm c_20
          refine lv_aload_n hx hb dX1_copyFrom_20 rfl (lv_at hl 0 rfl) ?_
          refine va_get (D := my_D Γ) (ci := 1) (v := .ref q_k) (C := RX1) (T := TX1) (N := 12) hx hb hts hinX1 hown hK hP 0 rfl rfl 0 (by decide) (hts (.fieldLink RX1 9 "BeltFloor$Floor" "kinds" "[I") (List.mem_of_getElem? (i := 1) rfl)) (fun _ h9 => h9) rfl dX1_copyFrom_21 ?_
          refine lv_iload_n hx hb dX1_copyFrom_24 rfl (lv_at hl 2 rfl) ?_
          refine lv_aload_n hx hb dX1_copyFrom_25 rfl (lv_at hl 1 rfl) ?_
          refine va_get (D := my_D Γ) (ci := 1) (v := .ref q_k2) (C := RX1) (T := TX1) (N := 12) hx hb hts hinX1 hown hK hP 7 rfl rfl 0 (by decide) (hts (.fieldLink RX1 9 "BeltFloor$Floor" "kinds" "[I") (List.mem_of_getElem? (i := 1) rfl)) (fun _ h9 => h9) rfl dX1_copyFrom_26 ?_
          refine lv_iload_n hx hb dX1_copyFrom_29 rfl (lv_at hl 2 rfl) ?_
          obtain ⟨hi_21, hm⟩ := if_in hm
          refine va_iald hx hb hK hP 8 0 rfl rfl hi_21 dX1_copyFrom_30 ?_
          refine lv_topi (fun y_22 ey_22 => ?_)
          refine va_iast hx hb hK hP hD hS 1 0 rfl rfl hi_21 dX1_copyFrom_31 (fun H locs hP hD hS => ?_)
          replace hP : va_P (my_D Γ) vwCl (wFloor Γ q_fl q_k q_c q_a q_pa q_b q_pb vi vj (upd vk l2.toNatClampNeg y_22) vc va vpa vb vpb ++ wFloor Γ q_fl2 q_k2 q_c2 q_a2 q_pa2 q_b2 q_pb2 vi2 vj2 vk2 vc2 va2 vpa2 vb2 vpb2) H := hP
          replace hD : va_D A (wFloor Γ q_fl q_k q_c q_a q_pa q_b q_pb vi vj (upd vk l2.toNatClampNeg y_22) vc va vpa vb vpb ++ wFloor Γ q_fl2 q_k2 q_c2 q_a2 q_pa2 q_b2 q_pb2 vi2 vj2 vk2 vc2 va2 vpa2 vb2 vpb2) := hD
          subst ey_22
          refine lv_iinc (v := (l2 + (1 : Int32))) (lv' := [(2, .int (l2 + (1 : Int32))), (0, .ref q_fl), (1, .ref q_fl2)]) hx hb dX1_copyFrom_32 hl (k := 2) rfl rfl (by decide) rfl (fun ls hl => ?_)
          refine lv_goto (tgt := 2) hx hb dX1_copyFrom_35 (by decide) ?_
          exact ih vi vj (upd vk l2.toNatClampNeg (vk2 l2.toNatClampNeg)) vc va vpa vb vpb vi2 vj2 vk2 vc2 va2 vpa2 vb2 vpb2 (l2 + (1 : Int32)) _ _ _ hP hD hS (lv_sub hl [1, 2, 0] rfl) hm
  unfold mX1_copyFrom at hm
  refine lv_iconst (v := (0 : Int32)) hx hb dX1_copyFrom_0 (by decide) ?_
  refine lv_istore_n (lv' := [(2, .int (0 : Int32)), (0, .ref q_fl), (1, .ref q_fl2)]) hx hb dX1_copyFrom_1 rfl hl (by decide) rfl (fun ls hl => ?_)
  exact J_2 4096 vi vj vk vc va vpa vb vpb vi2 vj2 vk2 vc2 va2 vpa2 vb2 vpb2 (0 : Int32) _ _ _ hP hD hS (lv_sub hl [1, 2, 0] rfl) hm
