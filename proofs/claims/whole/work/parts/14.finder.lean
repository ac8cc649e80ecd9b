def mX0_standOf (x0 : Int32) (x1 : Int32) : Int32 := ((x0 * (4 : Int32)) + x1)
set_option maxHeartbeats 4000000 in
set_option maxRecDepth 100000 in
theorem kX0_standOf (l : Launch) (Γ : my_G)   (x0 : Int32) (x1 : Int32) (rr : Int32) (hm : mX0_standOf x0 x1 = rr) : Mn l yX0_standOf wsX0_standOf ({ frames := 0, cells := 0, slots := 0, locals := 0 } : Room) Γ [.int x0, .int x1] ([] : va_W) (some (.int rr)) ([] : va_W) := by
  intro sz
  refine Met.ofW (cc := cX0_standOf) (maxL := 2) (ret := (some .int)) (by decide) rfl ?_
  intro p e s m args below meth c s₁ B hml hv
  obtain ⟨rfl, hsz, hP, hK, hD0⟩ := hv
  have hx := B.exec
  have hb := B.bytes
  have hr := B.returns
  have hts := atoms_spec (ws := wsX0_standOf) B.pre
  have hown : s.vm.findClass RX0 = some m.cls := findClass_of_methodNamed B.named
  have hlocks := B.notSynchronized
  subst hsz
  have hD := hD0.self (sz := s.heap.size)
  have hA : ∀ q : Nat, s.heap.size ≤ q → va_A ([] : va_W) s.heap.size q := fun q h => Or.inr h
  generalize va_A ([] : va_W) s.heap.size = A at hD hA ⊢
  have hS : va_S A s.heap s.heap [] := va_S.rf
  have hl := lv_entry ([.int x0, .int x1]) (n := 2) (Nat.le_of_ble_eq_true rfl)
  rw [lg_entry_eq]
  generalize (lg_sl ([.int x0, .int x1]) ++ List.replicate (2 - (lg_sl ([.int x0, .int x1])).length) Slot.unset).toArray = ls at hl ⊢
  replace hl : lv_has ls 2 [(0, .int x0), (1, .int x1)] := hl
  unfold mX0_standOf at hm
  refine lv_iload_n hx hb dX0_standOf_0 rfl (lv_at hl 0 rfl) ?_
  refine lv_iconst (v := (4 : Int32)) hx hb dX0_standOf_1 (by decide) ?_
  refine lv_imul hx hb dX0_standOf_2 ?_
  refine lv_iload_n hx hb dX0_standOf_3 rfl (lv_at hl 1 rfl) ?_
  refine lv_iadd hx hb dX0_standOf_4 ?_
  have hf0 := hm
  subst hf0
  exact W.iret (v := ((x0 * (4 : Int32)) + x1)) hx hb hr (fun t ht hW => ⟨⟨rfl, by rw [ht]; exact hP⟩, hS.F ht⟩) hS.2.2 dX0_standOf_5
def mX0_standOn (vk : Nat → Int32) (x1 : Int32) (x2 : Int32) : Int32 := (if (mX1_isBlockOrPit vk x1) = 0 then (mX0_standOf x1 x2) else (-1 : Int32))
set_option maxHeartbeats 4000000 in
set_option maxRecDepth 100000 in
theorem kX0_standOn (l : Launch) (Γ : my_G) (q_fl q_k q_c q_a q_pa q_b q_pb : Nat) (vi : Nat → Int32) (vj : Nat → Int64) (vk : Nat → Int32) (vc : Nat → Int32) (va : Nat → Int32) (vpa : Nat → Int32) (vb : Nat → Int32) (vpb : Nat → Int32) (x1 : Int32) (x2 : Int32) (rr : Int32) (hm : mX0_standOn vk x1 x2 = rr) : Mn l yX0_standOn wsX0_standOn ({ frames := 2, cells := 0, slots := 0, locals := 42 } : Room) Γ [.ref q_fl, .int x1, .int x2] (wFloor Γ q_fl q_k q_c q_a q_pa q_b q_pb vi vj vk vc va vpa vb vpb) (some (.int rr)) (wFloor Γ q_fl q_k q_c q_a q_pa q_b q_pb vi vj vk vc va vpa vb vpb) := by
  intro sz
  refine Met.ofW (cc := cX0_standOn) (maxL := 3) (ret := (some .int)) (by decide) rfl ?_
  intro p e s m args below meth c s₁ B hml hv
  obtain ⟨rfl, hsz, hP, hK, hD0⟩ := hv
  have hx := B.exec
  have hb := B.bytes
  have hr := B.returns
  have hts := atoms_spec (ws := wsX0_standOn) B.pre
  have hown : s.vm.findClass RX0 = some m.cls := findClass_of_methodNamed B.named
  have hlocks := B.notSynchronized
  have hinX1 : ∀ w ∈ u_ws RX1 TX1 12, w ∈ wsX0_standOn := fun w h => List.mem_cons_of_mem _ (List.mem_append_right _ h)
  subst hsz
  have hD := hD0.self (sz := s.heap.size)
  have hA : ∀ q : Nat, s.heap.size ≤ q → va_A (wFloor Γ q_fl q_k q_c q_a q_pa q_b q_pb vi vj vk vc va vpa vb vpb) s.heap.size q := fun q h => Or.inr h
  generalize va_A (wFloor Γ q_fl q_k q_c q_a q_pa q_b q_pb vi vj vk vc va vpa vb vpb) s.heap.size = A at hD hA ⊢
  have hS : va_S A s.heap s.heap [] := va_S.rf
  have hl := lv_entry ([.ref q_fl, .int x1, .int x2]) (n := 3) (Nat.le_of_ble_eq_true rfl)
  rw [lg_entry_eq]
  generalize (lg_sl ([.ref q_fl, .int x1, .int x2]) ++ List.replicate (3 - (lg_sl ([.ref q_fl, .int x1, .int x2])).length) Slot.unset).toArray = ls at hl ⊢
  replace hl : lv_has ls 3 [(0, .ref q_fl), (1, .int x1), (2, .int x2)] := hl
  unfold mX0_standOn at hm
  refine lv_aload_n hx hb dX0_standOn_0 rfl (lv_at hl 0 rfl) ?_
  refine lv_iload_n hx hb dX0_standOn_1 rfl (lv_at hl 1 rfl) ?_
  refine my_call1 (wc := (wFloor Γ q_fl q_k q_c q_a q_pa q_b q_pb vi vj vk vc va vpa vb vpb)) (w1 := (wFloor Γ q_fl q_k q_c q_a q_pa q_b q_pb vi vj vk vc va vpa vb vpb)) (ws1 := (wFloor Γ q_fl q_k q_c q_a q_pa q_b q_pb vi vj vk vc va vpa vb vpb)) hP hD hS hA [0, 1, 2, 3, 4, 5, 6] rfl rfl rfl (va_runV (As := [.int x1]) (rest := []) ⟨hx, hb, hml, hown, hts⟩ (kX1_isBlockOrPit l Γ q_fl q_k q_c q_a q_pa q_b q_pb vi vj vk vc va vpa vb vpb x1 (mX1_isBlockOrPit vk x1) rfl _) (cwV 1 hts gX0_standOn_X1_isBlockOrPit rfl rfl rfl (by decide +kernel) ⟨Nat.le_of_ble_eq_true rfl, Nat.le_of_ble_eq_true rfl⟩) (my_preV (wc := (wFloor Γ q_fl q_k q_c q_a q_pa q_b q_pb vi vj vk vc va vpa vb vpb)) (ci := 1) (q0 := 0) [0, 1, 2, 3, 4, 5, 6] hK hP hD rfl rfl rfl rfl) rfl rfl hl.1 rfl (lv_room (Nat.le_of_ble_eq_true rfl)) dX0_standOn_2 ⟨Nat.le_of_ble_eq_true rfl, Nat.le_of_ble_eq_true rfl⟩) (fun H locs hP hD hS => ?_)
  refine lv_if_eq (tgt := 12) hx hb dX0_standOn_5 (by decide) (fun c_1 => ?_) (fun c_1 => ?_)
  · replace hm := if_s hm c_1
    refine lv_iload_n hx hb dX0_standOn_12 rfl (lv_at hl 1 rfl) ?_
    refine lv_iload_n hx hb dX0_standOn_13 rfl (lv_at hl 2 rfl) ?_
    refine my_call1 (wc := ([] : va_W)) (w1 := ([] : va_W)) (ws1 := (wFloor Γ q_fl q_k q_c q_a q_pa q_b q_pb vi vj vk vc va vpa vb vpb)) hP hD hS hA [] rfl rfl rfl (va_runS (As := [.int x1, .int x2]) (rest := []) ⟨hx, hb, hml, hown, hts⟩ (kX0_standOf l Γ x1 x2 (mX0_standOf x1 x2) rfl _) (va_cwS 2 hts gX0_standOn_X0_standOf rfl rfl rfl (by decide +kernel) ⟨Nat.le_of_ble_eq_true rfl, Nat.le_of_ble_eq_true rfl⟩) (my_preS (wc := ([] : va_W)) [] hK hP hD rfl rfl) rfl rfl hl.1 rfl (lv_room (Nat.le_of_ble_eq_true rfl)) dX0_standOn_14 ⟨Nat.le_of_ble_eq_true rfl, Nat.le_of_ble_eq_true rfl⟩) (fun H locs hP hD hS => ?_)
    have hf0 := hm
    subst hf0
    exact W.iret (v := (mX0_standOf x1 x2)) hx hb hr (fun t ht hW => ⟨⟨rfl, by rw [ht]; exact hP⟩, hS.F ht⟩) hS.2.2 dX0_standOn_17
  · replace hm := if_f hm c_1
    refine lv_iconst (v := (-1 : Int32)) hx hb dX0_standOn_8 (by decide) ?_
    refine lv_goto (tgt := 17) hx hb dX0_standOn_9 (by decide) ?_
    have hf0 := hm
    subst hf0
    exact W.iret (v := (-1 : Int32)) hx hb hr (fun t ht hW => ⟨⟨rfl, by rw [ht]; exact hP⟩, hS.F ht⟩) hS.2.2 dX0_standOn_17
def mX0_standAfter (vk : Nat → Int32) (x1 : Int32) (x2 : Int32) : Int32 := (if x2 = (0 : Int32) then (mX0_standOn vk (mX2_beside (x1 / (4 : Int32)) (jrem x1 (4 : Int32))) (jrem x1 (4 : Int32))) else (if x2 = (1 : Int32) then (mX0_standOn vk (mX2_beside (x1 / (4 : Int32)) (mX2_turned (jrem x1 (4 : Int32)) (2 : Int32))) (jrem x1 (4 : Int32))) else (if x2 = (2 : Int32) then (mX0_standOf (x1 / (4 : Int32)) (mX2_turned (jrem x1 (4 : Int32)) (3 : Int32))) else (if x2 = (3 : Int32) then (mX0_standOf (x1 / (4 : Int32)) (mX2_turned (jrem x1 (4 : Int32)) (1 : Int32))) else (mX0_standOf (x1 / (4 : Int32)) (mX2_turned (jrem x1 (4 : Int32)) (2 : Int32)))))))
set_option maxHeartbeats 4000000 in
set_option maxRecDepth 100000 in
theorem kX0_standAfter (l : Launch) (Γ : my_G) (q_fl q_k q_c q_a q_pa q_b q_pb : Nat) (vi : Nat → Int32) (vj : Nat → Int64) (vk : Nat → Int32) (vc : Nat → Int32) (va : Nat → Int32) (vpa : Nat → Int32) (vb : Nat → Int32) (vpb : Nat → Int32) (x1 : Int32) (x2 : Int32) (rr : Int32) (hm : mX0_standAfter vk x1 x2 = rr) : Mn l yX0_standAfter wsX0_standAfter ({ frames := 3, cells := 0, slots := 0, locals := 64 } : Room) Γ [.ref q_fl, .int x1, .int x2] (wFloor Γ q_fl q_k q_c q_a q_pa q_b q_pb vi vj vk vc va vpa vb vpb) (some (.int rr)) (wFloor Γ q_fl q_k q_c q_a q_pa q_b q_pb vi vj vk vc va vpa vb vpb) := by
  intro sz
  refine Met.ofW (cc := cX0_standAfter) (maxL := 5) (ret := (some .int)) (by decide) rfl ?_
  intro p e s m args below meth c s₁ B hml hv
  obtain ⟨rfl, hsz, hP, hK, hD0⟩ := hv
  have hx := B.exec
  have hb := B.bytes
  have hr := B.returns
  have hts := atoms_spec (ws := wsX0_standAfter) B.pre
  have hown : s.vm.findClass RX0 = some m.cls := findClass_of_methodNamed B.named
  have hlocks := B.notSynchronized
  have hinX1 : ∀ w ∈ u_ws RX1 TX1 12, w ∈ wsX0_standAfter := fun w h => List.mem_cons_of_mem _ (List.mem_append_right _ h)
  subst hsz
  have hD := hD0.self (sz := s.heap.size)
  have hA : ∀ q : Nat, s.heap.size ≤ q → va_A (wFloor Γ q_fl q_k q_c q_a q_pa q_b q_pb vi vj vk vc va vpa vb vpb) s.heap.size q := fun q h => Or.inr h
  generalize va_A (wFloor Γ q_fl q_k q_c q_a q_pa q_b q_pb vi vj vk vc va vpa vb vpb) s.heap.size = A at hD hA ⊢
  have hS : va_S A s.heap s.heap [] := va_S.rf
  have hl := lv_entry ([.ref q_fl, .int x1, .int x2]) (n := 5) (Nat.le_of_ble_eq_true rfl)
  rw [lg_entry_eq]
  generalize (lg_sl ([.ref q_fl, .int x1, .int x2]) ++ List.replicate (5 - (lg_sl ([.ref q_fl, .int x1, .int x2])).length) Slot.unset).toArray = ls at hl ⊢
  replace hl : lv_has ls 5 [(0, .ref q_fl), (1, .int x1), (2, .int x2)] := hl
  unfold mX0_standAfter at hm
  refine lv_iload_n hx hb dX0_standAfter_0 rfl (lv_at hl 1 rfl) ?_
  refine lv_iconst (v := (4 : Int32)) hx hb dX0_standAfter_1 (by decide) ?_
  refine lv_idiv hx hb dX0_standAfter_2 (by decide) ?_
  refine lv_istore_n (lv' := [(3, .int (x1 / (4 : Int32))), (0, .ref q_fl), (1, .int x1), (2, .int x2)]) hx hb dX0_standAfter_3 rfl hl (by decide) rfl (fun ls hl => ?_)
  refine lv_iload_n hx hb dX0_standAfter_4 rfl (lv_at hl 2 rfl) ?_
  refine lv_iconst (v := (4 : Int32)) hx hb dX0_standAfter_5 (by decide) ?_
  refine my_irem hx hb dX0_standAfter_6 (by decide) ?_
  refine lv_istore (lv' := [(4, .int (jrem x1 (4 : Int32))), (3, .int (x1 / (4 : Int32))), (0, .ref q_fl), (1, .int x1), (2, .int x2)]) hx hb dX0_standAfter_7 hl (by decide) rfl (fun ls hl => ?_)
  refine lv_iload_n hx hb dX0_standAfter_9 rfl (lv_at hl 4 rfl) ?_
  by_cases c_1 : x2 = (0 : Int32)
  · replace hm := if_s hm c_1
    refine lv_tableIn (off := 30) (tgt := 40) hx hb dX0_standAfter_10 (by rw [c_1]; decide) (by rw [c_1]; decide) (by rw [c_1]; rfl) (by decide) ?_
    refine lv_aload_n hx hb dX0_standAfter_40 rfl (lv_at hl 2 rfl) ?_
    refine lv_iload_n hx hb dX0_standAfter_41 rfl (lv_at hl 1 rfl) ?_
    refine lv_iload hx hb dX0_standAfter_42 (lv_at hl 0 rfl) ?_
    refine my_call1 (wc := ([] : va_W)) (w1 := ([] : va_W)) (ws1 := (wFloor Γ q_fl q_k q_c q_a q_pa q_b q_pb vi vj vk vc va vpa vb vpb)) hP hD hS hA [] rfl rfl rfl (va_runS (As := [.int (x1 / (4 : Int32)), .int (jrem x1 (4 : Int32))]) (rest := [.ref q_fl]) ⟨hx, hb, hml, hown, hts⟩ (kX2_beside l Γ (x1 / (4 : Int32)) (jrem x1 (4 : Int32)) (mX2_beside (x1 / (4 : Int32)) (jrem x1 (4 : Int32))) rfl _) (va_cwS 2 hts gX0_standAfter_X2_beside rfl rfl rfl (by decide +kernel) ⟨Nat.le_of_ble_eq_true rfl, Nat.le_of_ble_eq_true rfl⟩) (my_preS (wc := ([] : va_W)) [] hK hP hD rfl rfl) rfl rfl hl.1 rfl (lv_room (Nat.le_of_ble_eq_true rfl)) dX0_standAfter_44 ⟨Nat.le_of_ble_eq_true rfl, Nat.le_of_ble_eq_true rfl⟩) (fun H locs hP hD hS => ?_)
    refine lv_iload hx hb dX0_standAfter_47 (lv_at hl 0 rfl) ?_
    refine my_call1 (wc := (wFloor Γ q_fl q_k q_c q_a q_pa q_b q_pb vi vj vk vc va vpa vb vpb)) (w1 := (wFloor Γ q_fl q_k q_c q_a q_pa q_b q_pb vi vj vk vc va vpa vb vpb)) (ws1 := (wFloor Γ q_fl q_k q_c q_a q_pa q_b q_pb vi vj vk vc va vpa vb vpb)) hP hD hS hA [0, 1, 2, 3, 4, 5, 6] rfl rfl rfl (va_runS (As := [.ref q_fl, .int (mX2_beside (x1 / (4 : Int32)) (jrem x1 (4 : Int32))), .int (jrem x1 (4 : Int32))]) (rest := []) ⟨hx, hb, hml, hown, hts⟩ (kX0_standOn l Γ q_fl q_k q_c q_a q_pa q_b q_pb vi vj vk vc va vpa vb vpb (mX2_beside (x1 / (4 : Int32)) (jrem x1 (4 : Int32))) (jrem x1 (4 : Int32)) (mX0_standOn vk (mX2_beside (x1 / (4 : Int32)) (jrem x1 (4 : Int32))) (jrem x1 (4 : Int32))) rfl _) (va_cwS 3 hts gX0_standAfter_X0_standOn rfl rfl rfl (by decide +kernel) ⟨Nat.le_of_ble_eq_true rfl, Nat.le_of_ble_eq_true rfl⟩) (my_preS (wc := (wFloor Γ q_fl q_k q_c q_a q_pa q_b q_pb vi vj vk vc va vpa vb vpb)) [0, 1, 2, 3, 4, 5, 6] hK hP hD rfl rfl) rfl rfl hl.1 rfl (lv_room (Nat.le_of_ble_eq_true rfl)) dX0_standAfter_49 ⟨Nat.le_of_ble_eq_true rfl, Nat.le_of_ble_eq_true rfl⟩) (fun H locs hP hD hS => ?_)
    have hf0 := hm
    subst hf0
    exact W.iret (v := (mX0_standOn vk (mX2_beside (x1 / (4 : Int32)) (jrem x1 (4 : Int32))) (jrem x1 (4 : Int32)))) hx hb hr (fun t ht hW => ⟨⟨rfl, by rw [ht]; exact hP⟩, hS.F ht⟩) hS.2.2 dX0_standAfter_52
  · replace hm := if_f hm c_1
    by_cases c_2 : x2 = (1 : Int32)
    · replace hm := if_s hm c_2
      refine lv_tableIn (off := 43) (tgt := 53) hx hb dX0_standAfter_10 (by rw [c_2]; decide) (by rw [c_2]; decide) (by rw [c_2]; rfl) (by decide) ?_
      refine lv_aload_n hx hb dX0_standAfter_53 rfl (lv_at hl 2 rfl) ?_
      refine lv_iload_n hx hb dX0_standAfter_54 rfl (lv_at hl 1 rfl) ?_
      refine lv_iload hx hb dX0_standAfter_55 (lv_at hl 0 rfl) ?_
      refine lv_iconst (v := (2 : Int32)) hx hb dX0_standAfter_57 (by decide) ?_
      refine my_call1 (wc := ([] : va_W)) (w1 := ([] : va_W)) (ws1 := (wFloor Γ q_fl q_k q_c q_a q_pa q_b q_pb vi vj vk vc va vpa vb vpb)) hP hD hS hA [] rfl rfl rfl (va_runS (As := [.int (jrem x1 (4 : Int32)), .int (2 : Int32)]) (rest := [.int (x1 / (4 : Int32)), .ref q_fl]) ⟨hx, hb, hml, hown, hts⟩ (kX2_turned l Γ (jrem x1 (4 : Int32)) (2 : Int32) (mX2_turned (jrem x1 (4 : Int32)) (2 : Int32)) rfl _) (va_cwS 2 hts gX0_standAfter_X2_turned rfl rfl rfl (by decide +kernel) ⟨Nat.le_of_ble_eq_true rfl, Nat.le_of_ble_eq_true rfl⟩) (my_preS (wc := ([] : va_W)) [] hK hP hD rfl rfl) rfl rfl hl.1 rfl (lv_room (Nat.le_of_ble_eq_true rfl)) dX0_standAfter_58 ⟨Nat.le_of_ble_eq_true rfl, Nat.le_of_ble_eq_true rfl⟩) (fun H locs hP hD hS => ?_)
      refine my_call1 (wc := ([] : va_W)) (w1 := ([] : va_W)) (ws1 := (wFloor Γ q_fl q_k q_c q_a q_pa q_b q_pb vi vj vk vc va vpa vb vpb)) hP hD hS hA [] rfl rfl rfl (va_runS (As := [.int (x1 / (4 : Int32)), .int (mX2_turned (jrem x1 (4 : Int32)) (2 : Int32))]) (rest := [.ref q_fl]) ⟨hx, hb, hml, hown, hts⟩ (kX2_beside l Γ (x1 / (4 : Int32)) (mX2_turned (jrem x1 (4 : Int32)) (2 : Int32)) (mX2_beside (x1 / (4 : Int32)) (mX2_turned (jrem x1 (4 : Int32)) (2 : Int32))) rfl _) (va_cwS 2 hts gX0_standAfter_X2_beside rfl rfl rfl (by decide +kernel) ⟨Nat.le_of_ble_eq_true rfl, Nat.le_of_ble_eq_true rfl⟩) (my_preS (wc := ([] : va_W)) [] hK hP hD rfl rfl) rfl rfl hl.1 rfl (lv_room (Nat.le_of_ble_eq_true rfl)) dX0_standAfter_61 ⟨Nat.le_of_ble_eq_true rfl, Nat.le_of_ble_eq_true rfl⟩) (fun H locs hP hD hS => ?_)
      refine lv_iload hx hb dX0_standAfter_64 (lv_at hl 0 rfl) ?_
      refine my_call1 (wc := (wFloor Γ q_fl q_k q_c q_a q_pa q_b q_pb vi vj vk vc va vpa vb vpb)) (w1 := (wFloor Γ q_fl q_k q_c q_a q_pa q_b q_pb vi vj vk vc va vpa vb vpb)) (ws1 := (wFloor Γ q_fl q_k q_c q_a q_pa q_b q_pb vi vj vk vc va vpa vb vpb)) hP hD hS hA [0, 1, 2, 3, 4, 5, 6] rfl rfl rfl (va_runS (As := [.ref q_fl, .int (mX2_beside (x1 / (4 : Int32)) (mX2_turned (jrem x1 (4 : Int32)) (2 : Int32))), .int (jrem x1 (4 : Int32))]) (rest := []) ⟨hx, hb, hml, hown, hts⟩ (kX0_standOn l Γ q_fl q_k q_c q_a q_pa q_b q_pb vi vj vk vc va vpa vb vpb (mX2_beside (x1 / (4 : Int32)) (mX2_turned (jrem x1 (4 : Int32)) (2 : Int32))) (jrem x1 (4 : Int32)) (mX0_standOn vk (mX2_beside (x1 / (4 : Int32)) (mX2_turned (jrem x1 (4 : Int32)) (2 : Int32))) (jrem x1 (4 : Int32))) rfl _) (va_cwS 3 hts gX0_standAfter_X0_standOn rfl rfl rfl (by decide +kernel) ⟨Nat.le_of_ble_eq_true rfl, Nat.le_of_ble_eq_true rfl⟩) (my_preS (wc := (wFloor Γ q_fl q_k q_c q_a q_pa q_b q_pb vi vj vk vc va vpa vb vpb)) [0, 1, 2, 3, 4, 5, 6] hK hP hD rfl rfl) rfl rfl hl.1 rfl (lv_room (Nat.le_of_ble_eq_true rfl)) dX0_standAfter_66 ⟨Nat.le_of_ble_eq_true rfl, Nat.le_of_ble_eq_true rfl⟩) (fun H locs hP hD hS => ?_)
      have hf0 := hm
      subst hf0
      exact W.iret (v := (mX0_standOn vk (mX2_beside (x1 / (4 : Int32)) (mX2_turned (jrem x1 (4 : Int32)) (2 : Int32))) (jrem x1 (4 : Int32)))) hx hb hr (fun t ht hW => ⟨⟨rfl, by rw [ht]; exact hP⟩, hS.F ht⟩) hS.2.2 dX0_standAfter_69
    · replace hm := if_f hm c_2
      by_cases c_3 : x2 = (2 : Int32)
      · replace hm := if_s hm c_3
        refine lv_tableIn (off := 60) (tgt := 70) hx hb dX0_standAfter_10 (by rw [c_3]; decide) (by rw [c_3]; decide) (by rw [c_3]; rfl) (by decide) ?_
        refine lv_iload_n hx hb dX0_standAfter_70 rfl (lv_at hl 1 rfl) ?_
        refine lv_iload hx hb dX0_standAfter_71 (lv_at hl 0 rfl) ?_
        refine lv_iconst (v := (3 : Int32)) hx hb dX0_standAfter_73 (by decide) ?_
        refine my_call1 (wc := ([] : va_W)) (w1 := ([] : va_W)) (ws1 := (wFloor Γ q_fl q_k q_c q_a q_pa q_b q_pb vi vj vk vc va vpa vb vpb)) hP hD hS hA [] rfl rfl rfl (va_runS (As := [.int (jrem x1 (4 : Int32)), .int (3 : Int32)]) (rest := [.int (x1 / (4 : Int32))]) ⟨hx, hb, hml, hown, hts⟩ (kX2_turned l Γ (jrem x1 (4 : Int32)) (3 : Int32) (mX2_turned (jrem x1 (4 : Int32)) (3 : Int32)) rfl _) (va_cwS 2 hts gX0_standAfter_X2_turned rfl rfl rfl (by decide +kernel) ⟨Nat.le_of_ble_eq_true rfl, Nat.le_of_ble_eq_true rfl⟩) (my_preS (wc := ([] : va_W)) [] hK hP hD rfl rfl) rfl rfl hl.1 rfl (lv_room (Nat.le_of_ble_eq_true rfl)) dX0_standAfter_74 ⟨Nat.le_of_ble_eq_true rfl, Nat.le_of_ble_eq_true rfl⟩) (fun H locs hP hD hS => ?_)
        refine my_call1 (wc := ([] : va_W)) (w1 := ([] : va_W)) (ws1 := (wFloor Γ q_fl q_k q_c q_a q_pa q_b q_pb vi vj vk vc va vpa vb vpb)) hP hD hS hA [] rfl rfl rfl (va_runS (As := [.int (x1 / (4 : Int32)), .int (mX2_turned (jrem x1 (4 : Int32)) (3 : Int32))]) (rest := []) ⟨hx, hb, hml, hown, hts⟩ (kX0_standOf l Γ (x1 / (4 : Int32)) (mX2_turned (jrem x1 (4 : Int32)) (3 : Int32)) (mX0_standOf (x1 / (4 : Int32)) (mX2_turned (jrem x1 (4 : Int32)) (3 : Int32))) rfl _) (va_cwS 2 hts gX0_standAfter_X0_standOf rfl rfl rfl (by decide +kernel) ⟨Nat.le_of_ble_eq_true rfl, Nat.le_of_ble_eq_true rfl⟩) (my_preS (wc := ([] : va_W)) [] hK hP hD rfl rfl) rfl rfl hl.1 rfl (lv_room (Nat.le_of_ble_eq_true rfl)) dX0_standAfter_77 ⟨Nat.le_of_ble_eq_true rfl, Nat.le_of_ble_eq_true rfl⟩) (fun H locs hP hD hS => ?_)
        have hf0 := hm
        subst hf0
        exact W.iret (v := (mX0_standOf (x1 / (4 : Int32)) (mX2_turned (jrem x1 (4 : Int32)) (3 : Int32)))) hx hb hr (fun t ht hW => ⟨⟨rfl, by rw [ht]; exact hP⟩, hS.F ht⟩) hS.2.2 dX0_standAfter_80
      · replace hm := if_f hm c_3
        by_cases c_4 : x2 = (3 : Int32)
        · replace hm := if_s hm c_4
          refine lv_tableIn (off := 71) (tgt := 81) hx hb dX0_standAfter_10 (by rw [c_4]; decide) (by rw [c_4]; decide) (by rw [c_4]; rfl) (by decide) ?_
          refine lv_iload_n hx hb dX0_standAfter_81 rfl (lv_at hl 1 rfl) ?_
          refine lv_iload hx hb dX0_standAfter_82 (lv_at hl 0 rfl) ?_
          refine lv_iconst (v := (1 : Int32)) hx hb dX0_standAfter_84 (by decide) ?_
          refine my_call1 (wc := ([] : va_W)) (w1 := ([] : va_W)) (ws1 := (wFloor Γ q_fl q_k q_c q_a q_pa q_b q_pb vi vj vk vc va vpa vb vpb)) hP hD hS hA [] rfl rfl rfl (va_runS (As := [.int (jrem x1 (4 : Int32)), .int (1 : Int32)]) (rest := [.int (x1 / (4 : Int32))]) ⟨hx, hb, hml, hown, hts⟩ (kX2_turned l Γ (jrem x1 (4 : Int32)) (1 : Int32) (mX2_turned (jrem x1 (4 : Int32)) (1 : Int32)) rfl _) (va_cwS 2 hts gX0_standAfter_X2_turned rfl rfl rfl (by decide +kernel) ⟨Nat.le_of_ble_eq_true rfl, Nat.le_of_ble_eq_true rfl⟩) (my_preS (wc := ([] : va_W)) [] hK hP hD rfl rfl) rfl rfl hl.1 rfl (lv_room (Nat.le_of_ble_eq_true rfl)) dX0_standAfter_85 ⟨Nat.le_of_ble_eq_true rfl, Nat.le_of_ble_eq_true rfl⟩) (fun H locs hP hD hS => ?_)
          refine my_call1 (wc := ([] : va_W)) (w1 := ([] : va_W)) (ws1 := (wFloor Γ q_fl q_k q_c q_a q_pa q_b q_pb vi vj vk vc va vpa vb vpb)) hP hD hS hA [] rfl rfl rfl (va_runS (As := [.int (x1 / (4 : Int32)), .int (mX2_turned (jrem x1 (4 : Int32)) (1 : Int32))]) (rest := []) ⟨hx, hb, hml, hown, hts⟩ (kX0_standOf l Γ (x1 / (4 : Int32)) (mX2_turned (jrem x1 (4 : Int32)) (1 : Int32)) (mX0_standOf (x1 / (4 : Int32)) (mX2_turned (jrem x1 (4 : Int32)) (1 : Int32))) rfl _) (va_cwS 2 hts gX0_standAfter_X0_standOf rfl rfl rfl (by decide +kernel) ⟨Nat.le_of_ble_eq_true rfl, Nat.le_of_ble_eq_true rfl⟩) (my_preS (wc := ([] : va_W)) [] hK hP hD rfl rfl) rfl rfl hl.1 rfl (lv_room (Nat.le_of_ble_eq_true rfl)) dX0_standAfter_88 ⟨Nat.le_of_ble_eq_true rfl, Nat.le_of_ble_eq_true rfl⟩) (fun H locs hP hD hS => ?_)
          have hf0 := hm
          subst hf0
          exact W.iret (v := (mX0_standOf (x1 / (4 : Int32)) (mX2_turned (jrem x1 (4 : Int32)) (1 : Int32)))) hx hb hr (fun t ht hW => ⟨⟨rfl, by rw [ht]; exact hP⟩, hS.F ht⟩) hS.2.2 dX0_standAfter_91
        · replace hm := if_f hm c_4
          have c_1_t := lv_neT (a := 0) c_1 rfl
          have c_2_t := lv_neT (a := 1) c_2 rfl
          have c_3_t := lv_neT (a := 2) c_3 rfl
          have c_4_t := lv_neT (a := 3) c_4 rfl
          refine lv_tableOut (tgt := 92) hx hb dX0_standAfter_10 (by omega) (by decide) ?_
          refine lv_iload_n hx hb dX0_standAfter_92 rfl (lv_at hl 1 rfl) ?_
          refine lv_iload hx hb dX0_standAfter_93 (lv_at hl 0 rfl) ?_
          refine lv_iconst (v := (2 : Int32)) hx hb dX0_standAfter_95 (by decide) ?_
          refine my_call1 (wc := ([] : va_W)) (w1 := ([] : va_W)) (ws1 := (wFloor Γ q_fl q_k q_c q_a q_pa q_b q_pb vi vj vk vc va vpa vb vpb)) hP hD hS hA [] rfl rfl rfl (va_runS (As := [.int (jrem x1 (4 : Int32)), .int (2 : Int32)]) (rest := [.int (x1 / (4 : Int32))]) ⟨hx, hb, hml, hown, hts⟩ (kX2_turned l Γ (jrem x1 (4 : Int32)) (2 : Int32) (mX2_turned (jrem x1 (4 : Int32)) (2 : Int32)) rfl _) (va_cwS 2 hts gX0_standAfter_X2_turned rfl rfl rfl (by decide +kernel) ⟨Nat.le_of_ble_eq_true rfl, Nat.le_of_ble_eq_true rfl⟩) (my_preS (wc := ([] : va_W)) [] hK hP hD rfl rfl) rfl rfl hl.1 rfl (lv_room (Nat.le_of_ble_eq_true rfl)) dX0_standAfter_96 ⟨Nat.le_of_ble_eq_true rfl, Nat.le_of_ble_eq_true rfl⟩) (fun H locs hP hD hS => ?_)
          refine my_call1 (wc := ([] : va_W)) (w1 := ([] : va_W)) (ws1 := (wFloor Γ q_fl q_k q_c q_a q_pa q_b q_pb vi vj vk vc va vpa vb vpb)) hP hD hS hA [] rfl rfl rfl (va_runS (As := [.int (x1 / (4 : Int32)), .int (mX2_turned (jrem x1 (4 : Int32)) (2 : Int32))]) (rest := []) ⟨hx, hb, hml, hown, hts⟩ (kX0_standOf l Γ (x1 / (4 : Int32)) (mX2_turned (jrem x1 (4 : Int32)) (2 : Int32)) (mX0_standOf (x1 / (4 : Int32)) (mX2_turned (jrem x1 (4 : Int32)) (2 : Int32))) rfl _) (va_cwS 2 hts gX0_standAfter_X0_standOf rfl rfl rfl (by decide +kernel) ⟨Nat.le_of_ble_eq_true rfl, Nat.le_of_ble_eq_true rfl⟩) (my_preS (wc := ([] : va_W)) [] hK hP hD rfl rfl) rfl rfl hl.1 rfl (lv_room (Nat.le_of_ble_eq_true rfl)) dX0_standAfter_99 ⟨Nat.le_of_ble_eq_true rfl, Nat.le_of_ble_eq_true rfl⟩) (fun H locs hP hD hS => ?_)
          have hf0 := hm
          subst hf0
          exact W.iret (v := (mX0_standOf (x1 / (4 : Int32)) (mX2_turned (jrem x1 (4 : Int32)) (2 : Int32)))) hx hb hr (fun t ht hW => ⟨⟨rfl, by rw [ht]; exact hP⟩, hS.F ht⟩) hS.2.2 dX0_standAfter_102
def mX0_forgetDistances_L2  : Nat → (Nat → Int32) → Int32 → Option ((Nat → Int32))
  | 0, _, _ => none
  | n + 1, ds, l1 => (if (144 : Int32) ≤ l1 then (some ds) else (if ¬ (l1 < 0 ∨ 144 ≤ l1.toNatClampNeg) then (mX0_forgetDistances_L2 n (upd ds l1.toNatClampNeg (1000000 : Int32)) (l1 + (1 : Int32))) else none))
def mX0_forgetDistances (ds : Nat → Int32) : Option ((Nat → Int32)) := (mX0_forgetDistances_L2 4096 ds (0 : Int32))
set_option maxHeartbeats 4000000 in
set_option maxRecDepth 100000 in
theorem kX0_forgetDistances (l : Launch) (Γ : my_G) (q_fd q_ds q_rc : Nat) (ds : Nat → Int32) (rc : Nat → Int32)  (ds_z : Nat → Int32) (hm : mX0_forgetDistances ds = (some ds_z)) : Mn l yX0_forgetDistances wsX0_forgetDistances ({ frames := 0, cells := 0, slots := 0, locals := 0 } : Room) Γ [.ref q_fd] (wFinder Γ q_fd q_ds q_rc ds rc) none (wFinder Γ q_fd q_ds q_rc ds_z rc) := by
  intro sz
  refine Met.ofW (cc := cX0_forgetDistances) (maxL := 2) (ret := none) (by decide) rfl ?_
  intro p e s m args below meth c s₁ B hml hv
  obtain ⟨rfl, hsz, hP, hK, hD0⟩ := hv
  have hx := B.exec
  have hb := B.bytes
  have hr := B.returns
  have hts := atoms_spec (ws := wsX0_forgetDistances) B.pre
  have hown : s.vm.findClass RX0 = some m.cls := findClass_of_methodNamed B.named
  have hlocks := B.notSynchronized
  have hinX0 : ∀ w ∈ u_ws RX0 TX0 2, w ∈ wsX0_forgetDistances := fun w h => List.mem_cons_of_mem _ (List.mem_append_right _ h)
  subst hsz
  have hD := hD0.self (sz := s.heap.size)
  have hA : ∀ q : Nat, s.heap.size ≤ q → va_A (wFinder Γ q_fd q_ds q_rc ds rc) s.heap.size q := fun q h => Or.inr h
  generalize va_A (wFinder Γ q_fd q_ds q_rc ds rc) s.heap.size = A at hD hA ⊢
  have hS : va_S A s.heap s.heap [] := va_S.rf
  have hl := lv_entry ([.ref q_fd]) (n := 2) (Nat.le_of_ble_eq_true rfl)
  rw [lg_entry_eq]
  generalize (lg_sl ([.ref q_fd]) ++ List.replicate (2 - (lg_sl ([.ref q_fd])).length) Slot.unset).toArray = ls at hl ⊢
  replace hl : lv_has ls 2 [(0, .ref q_fd)] := hl
  have J_2 : ∀ n : Nat, ∀ (ds : Nat → Int32) (l1 : Int32) (H : Heap) (locs : List Loc) (ls : Array Slot), va_P (my_D Γ) vwCl (wFinder Γ q_fd q_ds q_rc ds rc) H → va_D A (wFinder Γ q_fd q_ds q_rc ds rc) → va_S A s.heap H locs → lv_has ls 2 [(0, .ref q_fd), (1, .int l1)] → mX0_forgetDistances_L2 n ds l1 = (some ds_z) → W p l e (headSpec wsX0_forgetDistances ({ frames := 0, cells := 0, slots := 0, locals := 0 } : Room)).room s m ([.ref q_fd] : List Value).toArray below meth c H locs 0 0 (MQ below (my_Q Γ A none (wFinder Γ q_fd q_ds q_rc ds_z rc)) ([.ref q_fd] : List Value).toArray s 0 0 A) (F0 m 2 ls []) := by
    intro  n
    induction n with
    | zero => intro ds l1 H locs ls hP hD hS hl hm; cases hm
    | succ n ih =>
      intro ds l1 H locs ls hP hD hS hl hm
      unfold mX0_forgetDistances_L2 at hm
      refine lv_iload_n hx hb dX0_forgetDistances_2 rfl (lv_at hl 1 rfl) ?_
      refine lv_aload_n hx hb dX0_forgetDistances_3 rfl (lv_at hl 0 rfl) ?_
      refine va_get (D := my_D Γ) (ci := 0) (v := .ref q_ds) (C := RX0) (T := TX0) (N := 2) hx hb hts hinX0 hown hK hP 0 rfl rfl 0 (by decide) (hts (.fieldLink RX0 11 "BeltFloor$Finder" "distances" "[I") (List.mem_of_getElem? (i := 1) rfl)) (fun _ h9 => h9) rfl dX0_forgetDistances_4 ?_
      refine va_alen hx hb hK hP 1 0 rfl rfl (v := (144 : Int32)) rfl dX0_forgetDistances_7 ?_
      refine lv_icmp_ge (tgt := 25) hx hb dX0_forgetDistances_8 (by decide) (fun c_1 => ?_) (fun c_1 => ?_)
      · replace hm := if_s hm c_1
        obtain hf0 := Option.some.inj hm
        subst hf0
        exact W.vret hx hb hr (fun t ht hW => ⟨⟨rfl, by rw [ht]; exact hP⟩, hS.F ht⟩) hS.2.2 dX0_forgetDistances_25
      · replace hm := if_f hm c_1
        refine lv_aload_n hx hb dX0_forgetDistances_11 rfl (lv_at hl 0 rfl) ?_
        refine va_get (D := my_D Γ) (ci := 0) (v := .ref q_ds) (C := RX0) (T := TX0) (N := 2) hx hb hts hinX0 hown hK hP 0 rfl rfl 0 (by decide) (hts (.fieldLink RX0 11 "BeltFloor$Finder" "distances" "[I") (List.mem_of_getElem? (i := 1) rfl)) (fun _ h9 => h9) rfl dX0_forgetDistances_12 ?_
        refine lv_iload_n hx hb dX0_forgetDistances_15 rfl (lv_at hl 1 rfl) ?_
        refine lv_ldc (v := (1000000 : Int32)) hx hb hown (hts (.constant RX0 33 (1000000)) (List.mem_of_getElem? (i := 2) rfl)) dX0_forgetDistances_16 ?_
        obtain ⟨hi_2, hm⟩ := if_in hm
        refine va_iast hx hb hK hP hD hS 1 0 rfl rfl hi_2 dX0_forgetDistances_18 (fun H locs hP hD hS => ?_)
        replace hP : va_P (my_D Γ) vwCl (wFinder Γ q_fd q_ds q_rc (upd ds l1.toNatClampNeg (1000000 : Int32)) rc) H := hP
        replace hD : va_D A (wFinder Γ q_fd q_ds q_rc (upd ds l1.toNatClampNeg (1000000 : Int32)) rc) := hD
        refine lv_iinc (v := (l1 + (1 : Int32))) (lv' := [(1, .int (l1 + (1 : Int32))), (0, .ref q_fd)]) hx hb dX0_forgetDistances_19 hl (k := 1) rfl rfl (by decide) rfl (fun ls hl => ?_)
        refine lv_goto (tgt := 2) hx hb dX0_forgetDistances_22 (by decide) ?_
        exact ih (upd ds l1.toNatClampNeg (1000000 : Int32)) (l1 + (1 : Int32)) _ _ _ hP hD hS (lv_sub hl [1, 0] rfl) hm
  unfold mX0_forgetDistances at hm
  refine lv_iconst (v := (0 : Int32)) hx hb dX0_forgetDistances_0 (by decide) ?_
  refine lv_istore_n (lv' := [(1, .int (0 : Int32)), (0, .ref q_fd)]) hx hb dX0_forgetDistances_1 rfl hl (by decide) rfl (fun ls hl => ?_)
  exact J_2 4096 ds (0 : Int32) _ _ _ hP hD hS (lv_sub hl [1, 0] rfl) hm
def mX0_distance (ds : Nat → Int32) (x0 : Int32) : Int32 := (if x0 < 0 then (1000000 : Int32) else (if (144 : Int32) ≤ x0 then (1000000 : Int32) else (ds x0.toNatClampNeg)))
set_option maxHeartbeats 4000000 in
set_option maxRecDepth 100000 in
theorem kX0_distance (l : Launch) (Γ : my_G) (q_fd q_ds q_rc : Nat) (ds : Nat → Int32) (rc : Nat → Int32) (x0 : Int32) (rr : Int32) (hm : mX0_distance ds x0 = rr) : Mn l yX0_distance wsX0_distance ({ frames := 0, cells := 0, slots := 0, locals := 0 } : Room) Γ [.ref q_fd, .int x0] (wFinder Γ q_fd q_ds q_rc ds rc) (some (.int rr)) (wFinder Γ q_fd q_ds q_rc ds rc) := by
  intro sz
  refine Met.ofW (cc := cX0_distance) (maxL := 2) (ret := (some .int)) (by decide) rfl ?_
  intro p e s m args below meth c s₁ B hml hv
  obtain ⟨rfl, hsz, hP, hK, hD0⟩ := hv
  have hx := B.exec
  have hb := B.bytes
  have hr := B.returns
  have hts := atoms_spec (ws := wsX0_distance) B.pre
  have hown : s.vm.findClass RX0 = some m.cls := findClass_of_methodNamed B.named
  have hlocks := B.notSynchronized
  have hinX0 : ∀ w ∈ u_ws RX0 TX0 2, w ∈ wsX0_distance := fun w h => List.mem_cons_of_mem _ (List.mem_append_right _ h)
  subst hsz
  have hD := hD0.self (sz := s.heap.size)
  have hA : ∀ q : Nat, s.heap.size ≤ q → va_A (wFinder Γ q_fd q_ds q_rc ds rc) s.heap.size q := fun q h => Or.inr h
  generalize va_A (wFinder Γ q_fd q_ds q_rc ds rc) s.heap.size = A at hD hA ⊢
  have hS : va_S A s.heap s.heap [] := va_S.rf
  have hl := lv_entry ([.ref q_fd, .int x0]) (n := 2) (Nat.le_of_ble_eq_true rfl)
  rw [lg_entry_eq]
  generalize (lg_sl ([.ref q_fd, .int x0]) ++ List.replicate (2 - (lg_sl ([.ref q_fd, .int x0])).length) Slot.unset).toArray = ls at hl ⊢
  replace hl : lv_has ls 2 [(0, .ref q_fd), (1, .int x0)] := hl
  unfold mX0_distance at hm
  refine lv_iload_n hx hb dX0_distance_0 rfl (lv_at hl 1 rfl) ?_
  refine lv_if_lt (tgt := 22) hx hb dX0_distance_1 (by decide) (fun c_1 => ?_) (fun c_1 => ?_)
  · replace hm := if_s hm c_1
    refine lv_ldc (v := (1000000 : Int32)) hx hb hown (hts (.constant RX0 33 (1000000)) (List.mem_of_getElem? (i := 2) rfl)) dX0_distance_22 ?_
    have hf0 := hm
    subst hf0
    exact W.iret (v := (1000000 : Int32)) hx hb hr (fun t ht hW => ⟨⟨rfl, by rw [ht]; exact hP⟩, hS.F ht⟩) hS.2.2 dX0_distance_24
  · replace hm := if_f hm c_1
    refine lv_iload_n hx hb dX0_distance_4 rfl (lv_at hl 1 rfl) ?_
    refine lv_aload_n hx hb dX0_distance_5 rfl (lv_at hl 0 rfl) ?_
    refine va_get (D := my_D Γ) (ci := 0) (v := .ref q_ds) (C := RX0) (T := TX0) (N := 2) hx hb hts hinX0 hown hK hP 0 rfl rfl 0 (by decide) (hts (.fieldLink RX0 11 "BeltFloor$Finder" "distances" "[I") (List.mem_of_getElem? (i := 1) rfl)) (fun _ h9 => h9) rfl dX0_distance_6 ?_
    refine va_alen hx hb hK hP 1 0 rfl rfl (v := (144 : Int32)) rfl dX0_distance_9 ?_
    refine lv_icmp_ge (tgt := 22) hx hb dX0_distance_10 (by decide) (fun c_2 => ?_) (fun c_2 => ?_)
    · replace hm := if_s hm c_2
      refine lv_ldc (v := (1000000 : Int32)) hx hb hown (hts (.constant RX0 33 (1000000)) (List.mem_of_getElem? (i := 2) rfl)) dX0_distance_22 ?_
      have hf0 := hm
      subst hf0
      exact W.iret (v := (1000000 : Int32)) hx hb hr (fun t ht hW => ⟨⟨rfl, by rw [ht]; exact hP⟩, hS.F ht⟩) hS.2.2 dX0_distance_24
    · replace hm := if_f hm c_2
      refine lv_aload_n hx hb dX0_distance_13 rfl (lv_at hl 0 rfl) ?_
      refine va_get (D := my_D Γ) (ci := 0) (v := .ref q_ds) (C := RX0) (T := TX0) (N := 2) hx hb hts hinX0 hown hK hP 0 rfl rfl 0 (by decide) (hts (.fieldLink RX0 11 "BeltFloor$Finder" "distances" "[I") (List.mem_of_getElem? (i := 1) rfl)) (fun _ h9 => h9) rfl dX0_distance_14 ?_
      refine lv_iload_n hx hb dX0_distance_17 rfl (lv_at hl 1 rfl) ?_
      refine va_iald hx hb hK hP 1 0 rfl rfl (my_inN c_1 c_2 rfl) dX0_distance_18 ?_
      refine lv_goto (tgt := 24) hx hb dX0_distance_19 (by decide) ?_
      have hf0 := hm
      subst hf0
      exact W.iret (v := (ds x0.toNatClampNeg)) hx hb hr (fun t ht hW => ⟨⟨rfl, by rw [ht]; exact hP⟩, hS.F ht⟩) hS.2.2 dX0_distance_24
def mX0_setDistance (ds : Nat → Int32) (x0 : Int32) (x1 : Int32) : (Nat → Int32) := (if x0 < 0 then ds else (if (144 : Int32) ≤ x0 then ds else (upd ds x0.toNatClampNeg x1)))
set_option maxHeartbeats 4000000 in
set_option maxRecDepth 100000 in
theorem kX0_setDistance (l : Launch) (Γ : my_G) (q_fd q_ds q_rc : Nat) (ds : Nat → Int32) (rc : Nat → Int32) (x0 : Int32) (x1 : Int32) (ds_z : Nat → Int32) (hm : mX0_setDistance ds x0 x1 = ds_z) : Mn l yX0_setDistance wsX0_setDistance ({ frames := 0, cells := 0, slots := 0, locals := 0 } : Room) Γ [.ref q_fd, .int x0, .int x1] (wFinder Γ q_fd q_ds q_rc ds rc) none (wFinder Γ q_fd q_ds q_rc ds_z rc) := by
  intro sz
  refine Met.ofW (cc := cX0_setDistance) (maxL := 3) (ret := none) (by decide) rfl ?_
  intro p e s m args below meth c s₁ B hml hv
  obtain ⟨rfl, hsz, hP, hK, hD0⟩ := hv
  have hx := B.exec
  have hb := B.bytes
  have hr := B.returns
  have hts := atoms_spec (ws := wsX0_setDistance) B.pre
  have hown : s.vm.findClass RX0 = some m.cls := findClass_of_methodNamed B.named
  have hlocks := B.notSynchronized
  have hinX0 : ∀ w ∈ u_ws RX0 TX0 2, w ∈ wsX0_setDistance := fun w h => List.mem_cons_of_mem _ (List.mem_append_right _ h)
  subst hsz
  have hD := hD0.self (sz := s.heap.size)
  have hA : ∀ q : Nat, s.heap.size ≤ q → va_A (wFinder Γ q_fd q_ds q_rc ds rc) s.heap.size q := fun q h => Or.inr h
  generalize va_A (wFinder Γ q_fd q_ds q_rc ds rc) s.heap.size = A at hD hA ⊢
  have hS : va_S A s.heap s.heap [] := va_S.rf
  have hl := lv_entry ([.ref q_fd, .int x0, .int x1]) (n := 3) (Nat.le_of_ble_eq_true rfl)
  rw [lg_entry_eq]
  generalize (lg_sl ([.ref q_fd, .int x0, .int x1]) ++ List.replicate (3 - (lg_sl ([.ref q_fd, .int x0, .int x1])).length) Slot.unset).toArray = ls at hl ⊢
  replace hl : lv_has ls 3 [(0, .ref q_fd), (1, .int x0), (2, .int x1)] := hl
  unfold mX0_setDistance at hm
  refine lv_iload_n hx hb dX0_setDistance_0 rfl (lv_at hl 1 rfl) ?_
  refine lv_if_lt (tgt := 20) hx hb dX0_setDistance_1 (by decide) (fun c_1 => ?_) (fun c_1 => ?_)
  · replace hm := if_s hm c_1
    have hf0 := hm
    subst hf0
    exact W.vret hx hb hr (fun t ht hW => ⟨⟨rfl, by rw [ht]; exact hP⟩, hS.F ht⟩) hS.2.2 dX0_setDistance_20
  · replace hm := if_f hm c_1
    refine lv_iload_n hx hb dX0_setDistance_4 rfl (lv_at hl 1 rfl) ?_
    refine lv_aload_n hx hb dX0_setDistance_5 rfl (lv_at hl 0 rfl) ?_
    refine va_get (D := my_D Γ) (ci := 0) (v := .ref q_ds) (C := RX0) (T := TX0) (N := 2) hx hb hts hinX0 hown hK hP 0 rfl rfl 0 (by decide) (hts (.fieldLink RX0 11 "BeltFloor$Finder" "distances" "[I") (List.mem_of_getElem? (i := 1) rfl)) (fun _ h9 => h9) rfl dX0_setDistance_6 ?_
    refine va_alen hx hb hK hP 1 0 rfl rfl (v := (144 : Int32)) rfl dX0_setDistance_9 ?_
    refine lv_icmp_ge (tgt := 20) hx hb dX0_setDistance_10 (by decide) (fun c_2 => ?_) (fun c_2 => ?_)
    · replace hm := if_s hm c_2
      have hf0 := hm
      subst hf0
      exact W.vret hx hb hr (fun t ht hW => ⟨⟨rfl, by rw [ht]; exact hP⟩, hS.F ht⟩) hS.2.2 dX0_setDistance_20
    · replace hm := if_f hm c_2
      refine lv_aload_n hx hb dX0_setDistance_13 rfl (lv_at hl 0 rfl) ?_
      refine va_get (D := my_D Γ) (ci := 0) (v := .ref q_ds) (C := RX0) (T := TX0) (N := 2) hx hb hts hinX0 hown hK hP 0 rfl rfl 0 (by decide) (hts (.fieldLink RX0 11 "BeltFloor$Finder" "distances" "[I") (List.mem_of_getElem? (i := 1) rfl)) (fun _ h9 => h9) rfl dX0_setDistance_14 ?_
      refine lv_iload_n hx hb dX0_setDistance_17 rfl (lv_at hl 1 rfl) ?_
      refine lv_iload_n hx hb dX0_setDistance_18 rfl (lv_at hl 2 rfl) ?_
      refine va_iast hx hb hK hP hD hS 1 0 rfl rfl (my_inN c_1 c_2 rfl) dX0_setDistance_19 (fun H locs hP hD hS => ?_)
      replace hP : va_P (my_D Γ) vwCl (wFinder Γ q_fd q_ds q_rc (upd ds x0.toNatClampNeg x1) rc) H := hP
      replace hD : va_D A (wFinder Γ q_fd q_ds q_rc (upd ds x0.toNatClampNeg x1) rc) := hD
      have hf0 := hm
      subst hf0
      exact W.vret hx hb hr (fun t ht hW => ⟨⟨rfl, by rw [ht]; exact hP⟩, hS.F ht⟩) hS.2.2 dX0_setDistance_20
def mX0_leastDistance_L5  : Nat → (Nat → Int32) → Int32 → Int32 → Int32 → Option (Int32)
  | 0, _, _, _, _ => none
  | n + 1, ds, l1, l2, l3 => (if (4 : Int32) ≤ l3 then (if l2 = (1000000 : Int32) then (some (-1 : Int32)) else (some l2)) else (mX0_leastDistance_L5 n ds l1 (jmin l2 (mX0_distance ds (mX0_standOf l1 l3))) (l3 + (1 : Int32))))
def mX0_leastDistance (ds : Nat → Int32) (x0 : Int32) : Option (Int32) := (mX0_leastDistance_L5 4096 ds x0 (1000000 : Int32) (0 : Int32))
set_option maxHeartbeats 4000000 in
set_option maxRecDepth 100000 in
theorem kX0_leastDistance (l : Launch) (Γ : my_G) (q_fd q_ds q_rc : Nat) (ds : Nat → Int32) (rc : Nat → Int32) (x0 : Int32) (rr : Int32) (hm : mX0_leastDistance ds x0 = (some rr)) : Mn l yX0_leastDistance wsX0_leastDistance ({ frames := 1, cells := 0, slots := 0, locals := 24 } : Room) Γ [.ref q_fd, .int x0] (wFinder Γ q_fd q_ds q_rc ds rc) (some (.int rr)) (wFinder Γ q_fd q_ds q_rc ds rc) := by
  intro sz
  refine Met.ofW (cc := cX0_leastDistance) (maxL := 4) (ret := (some .int)) (by decide) rfl ?_
  intro p e s m args below meth c s₁ B hml hv
  obtain ⟨rfl, hsz, hP, hK, hD0⟩ := hv
  have hx := B.exec
  have hb := B.bytes
  have hr := B.returns
  have hts := atoms_spec (ws := wsX0_leastDistance) B.pre
  have hown : s.vm.findClass RX0 = some m.cls := findClass_of_methodNamed B.named
  have hlocks := B.notSynchronized
  have hinX0 : ∀ w ∈ u_ws RX0 TX0 2, w ∈ wsX0_leastDistance := fun w h => List.mem_cons_of_mem _ (List.mem_append_right _ h)
  subst hsz
  have hD := hD0.self (sz := s.heap.size)
  have hA : ∀ q : Nat, s.heap.size ≤ q → va_A (wFinder Γ q_fd q_ds q_rc ds rc) s.heap.size q := fun q h => Or.inr h
  generalize va_A (wFinder Γ q_fd q_ds q_rc ds rc) s.heap.size = A at hD hA ⊢
  have hS : va_S A s.heap s.heap [] := va_S.rf
  have hl := lv_entry ([.ref q_fd, .int x0]) (n := 4) (Nat.le_of_ble_eq_true rfl)
  rw [lg_entry_eq]
  generalize (lg_sl ([.ref q_fd, .int x0]) ++ List.replicate (4 - (lg_sl ([.ref q_fd, .int x0])).length) Slot.unset).toArray = ls at hl ⊢
  replace hl : lv_has ls 4 [(0, .ref q_fd), (1, .int x0)] := hl
  have J_5 : ∀ n : Nat, ∀ (ds : Nat → Int32) (l1 : Int32) (l2 : Int32) (l3 : Int32) (H : Heap) (locs : List Loc) (ls : Array Slot), va_P (my_D Γ) vwCl (wFinder Γ q_fd q_ds q_rc ds rc) H → va_D A (wFinder Γ q_fd q_ds q_rc ds rc) → va_S A s.heap H locs → lv_has ls 4 [(0, .ref q_fd), (1, .int l1), (2, .int l2), (3, .int l3)] → mX0_leastDistance_L5 n ds l1 l2 l3 = (some rr) → W p l e (headSpec wsX0_leastDistance ({ frames := 1, cells := 0, slots := 0, locals := 24 } : Room)).room s m ([.ref q_fd, .int x0] : List Value).toArray below meth c H locs 0 0 (MQ below (my_Q Γ A (some (.int rr)) (wFinder Γ q_fd q_ds q_rc ds rc)) ([.ref q_fd, .int x0] : List Value).toArray s 0 0 A) (F0 m 5 ls []) := by
    intro  n
    induction n with
    | zero => intro ds l1 l2 l3 H locs ls hP hD hS hl hm; cases hm
    | succ n ih =>
      intro ds l1 l2 l3 H locs ls hP hD hS hl hm
      unfold mX0_leastDistance_L5 at hm
      refine lv_iload_n hx hb dX0_leastDistance_5 rfl (lv_at hl 3 rfl) ?_
      refine lv_iconst (v := (4 : Int32)) hx hb dX0_leastDistance_6 (by decide) ?_
      refine lv_icmp_ge (tgt := 30) hx hb dX0_leastDistance_7 (by decide) (fun c_1 => ?_) (fun c_1 => ?_)
      · replace hm := if_s hm c_1
        refine lv_iload_n hx hb dX0_leastDistance_30 rfl (lv_at hl 2 rfl) ?_
        refine lv_ldc (v := (1000000 : Int32)) hx hb hown (hts (.constant RX0 33 (1000000)) (List.mem_of_getElem? (i := 1) rfl)) dX0_leastDistance_31 ?_
        refine lv_icmp_ne (tgt := 40) hx hb dX0_leastDistance_33 (by decide) (fun c_2 => ?_) (fun c_2 => ?_)
        · replace hm := if_f hm c_2
          refine lv_iload_n hx hb dX0_leastDistance_40 rfl (lv_at hl 2 rfl) ?_
          obtain hf0 := Option.some.inj hm
          subst hf0
          exact W.iret (v := l2) hx hb hr (fun t ht hW => ⟨⟨rfl, by rw [ht]; exact hP⟩, hS.F ht⟩) hS.2.2 dX0_leastDistance_41
        · replace hm := if_s hm c_2
          refine lv_iconst (v := (-1 : Int32)) hx hb dX0_leastDistance_36 (by decide) ?_
          refine lv_goto (tgt := 41) hx hb dX0_leastDistance_37 (by decide) ?_
          obtain hf0 := Option.some.inj hm
          subst hf0
          exact W.iret (v := (-1 : Int32)) hx hb hr (fun t ht hW => ⟨⟨rfl, by rw [ht]; exact hP⟩, hS.F ht⟩) hS.2.2 dX0_leastDistance_41
      · replace hm := if_f hm c_1
        refine lv_iload_n hx hb dX0_leastDistance_10 rfl (lv_at hl 2 rfl) ?_
        refine lv_aload_n hx hb dX0_leastDistance_11 rfl (lv_at hl 0 rfl) ?_
        refine lv_iload_n hx hb dX0_leastDistance_12 rfl (lv_at hl 1 rfl) ?_
        refine lv_iload_n hx hb dX0_leastDistance_13 rfl (lv_at hl 3 rfl) ?_
        refine my_call1 (wc := ([] : va_W)) (w1 := ([] : va_W)) (ws1 := (wFinder Γ q_fd q_ds q_rc ds rc)) hP hD hS hA [] rfl rfl rfl (va_runS (As := [.int l1, .int l3]) (rest := [.ref q_fd, .int l2]) ⟨hx, hb, hml, hown, hts⟩ (kX0_standOf l Γ l1 l3 (mX0_standOf l1 l3) rfl _) (va_cwS 2 hts gX0_leastDistance_X0_standOf rfl rfl rfl (by decide +kernel) ⟨Nat.le_of_ble_eq_true rfl, Nat.le_of_ble_eq_true rfl⟩) (my_preS (wc := ([] : va_W)) [] hK hP hD rfl rfl) rfl rfl hl.1 rfl (lv_room (Nat.le_of_ble_eq_true rfl)) dX0_leastDistance_14 ⟨Nat.le_of_ble_eq_true rfl, Nat.le_of_ble_eq_true rfl⟩) (fun H locs hP hD hS => ?_)
        refine my_call1 (wc := (wFinder Γ q_fd q_ds q_rc ds rc)) (w1 := (wFinder Γ q_fd q_ds q_rc ds rc)) (ws1 := (wFinder Γ q_fd q_ds q_rc ds rc)) hP hD hS hA [0, 1, 2] rfl rfl rfl (va_runV (As := [.int (mX0_standOf l1 l3)]) (rest := [.int l2]) ⟨hx, hb, hml, hown, hts⟩ (kX0_distance l Γ q_fd q_ds q_rc ds rc (mX0_standOf l1 l3) (mX0_distance ds (mX0_standOf l1 l3)) rfl _) (cwV 1 hts gX0_leastDistance_X0_distance rfl rfl rfl (by decide +kernel) ⟨Nat.le_of_ble_eq_true rfl, Nat.le_of_ble_eq_true rfl⟩) (my_preV (wc := (wFinder Γ q_fd q_ds q_rc ds rc)) (ci := 0) (q0 := 0) [0, 1, 2] hK hP hD rfl rfl rfl rfl) rfl rfl hl.1 rfl (lv_room (Nat.le_of_ble_eq_true rfl)) dX0_leastDistance_17 ⟨Nat.le_of_ble_eq_true rfl, Nat.le_of_ble_eq_true rfl⟩) (fun H locs hP hD hS => ?_)
        refine my_mmin hx hb (hml.trans hl.1.symm) hown (hts (.methodLink RX0 62 Lib.Math.min.name) (List.mem_of_getElem? (i := 2) rfl)) (hts (.static Lib.Math.min.name) (List.mem_of_getElem? (i := 3) rfl)) (hts (.initialized "java/lang/Math") (List.mem_of_getElem? (i := 4) rfl)) (hts (.code Lib.Math.min.name Lib.Math.min.code 2 (some .int)) (List.mem_of_getElem? (i := 5) rfl)) (Nat.le_of_ble_eq_true rfl) (Nat.le_of_ble_eq_true rfl) (Nat.le_of_ble_eq_true rfl) (Nat.le_of_ble_eq_true rfl) dX0_leastDistance_20 ?_
        refine lv_istore_n (lv' := [(2, .int (jmin l2 (mX0_distance ds (mX0_standOf l1 l3)))), (0, .ref q_fd), (1, .int l1), (3, .int l3)]) hx hb dX0_leastDistance_23 rfl hl (by decide) rfl (fun ls hl => ?_)
        refine lv_iinc (v := (l3 + (1 : Int32))) (lv' := [(3, .int (l3 + (1 : Int32))), (2, .int (jmin l2 (mX0_distance ds (mX0_standOf l1 l3)))), (0, .ref q_fd), (1, .int l1)]) hx hb dX0_leastDistance_24 hl (k := 3) rfl rfl (by decide) rfl (fun ls hl => ?_)
        refine lv_goto (tgt := 5) hx hb dX0_leastDistance_27 (by decide) ?_
        exact ih ds l1 (jmin l2 (mX0_distance ds (mX0_standOf l1 l3))) (l3 + (1 : Int32)) _ _ _ hP hD hS (lv_sub hl [2, 3, 1, 0] rfl) hm
  unfold mX0_leastDistance at hm
  refine lv_ldc (v := (1000000 : Int32)) hx hb hown (hts (.constant RX0 33 (1000000)) (List.mem_of_getElem? (i := 1) rfl)) dX0_leastDistance_0 ?_
  refine lv_istore_n (lv' := [(2, .int (1000000 : Int32)), (0, .ref q_fd), (1, .int x0)]) hx hb dX0_leastDistance_2 rfl hl (by decide) rfl (fun ls hl => ?_)
  refine lv_iconst (v := (0 : Int32)) hx hb dX0_leastDistance_3 (by decide) ?_
  refine lv_istore_n (lv' := [(3, .int (0 : Int32)), (2, .int (1000000 : Int32)), (0, .ref q_fd), (1, .int x0)]) hx hb dX0_leastDistance_4 rfl hl (by decide) rfl (fun ls hl => ?_)
  exact J_5 4096 ds x0 (1000000 : Int32) (0 : Int32) _ _ _ hP hD hS (lv_sub hl [2, 3, 1, 0] rfl) hm
def mX0_sweepOnce_J66 (k4 : (Nat → Int32) → (Nat → Int32) → Int32 → Int32 → Option (Int32 × (Nat → Int32))) (k14 : (Nat → Int32) → (Nat → Int32) → Int32 → Int32 → Int32 → Option (Int32 × (Nat → Int32))) (ds : Nat → Int32) (vk : Nat → Int32) (l2 : Int32) (l3 : Int32) (l4 : Int32) : Option (Int32 × (Nat → Int32)) := (k14 ds vk l2 l3 (l4 + (1 : Int32)))
def mX0_sweepOnce_L14 (k4 : (Nat → Int32) → (Nat → Int32) → Int32 → Int32 → Option (Int32 × (Nat → Int32))) : Nat → (Nat → Int32) → (Nat → Int32) → Int32 → Int32 → Int32 → Option (Int32 × (Nat → Int32))
  | 0, _, _, _, _, _ => none
  | n + 1, ds, vk, l2, l3, l4 => (if (4 : Int32) < l4 then (k4 ds vk l2 (l3 + (1 : Int32))) else (if (mX0_standAfter vk l3 l4) = (-1 : Int32) then (mX0_sweepOnce_J66 k4 (fun ds vk l2 l3 l4 => mX0_sweepOnce_L14 k4 n ds vk l2 l3 l4) ds vk l2 l3 l4) else (if (mX0_distance ds (mX0_standAfter vk l3 l4)) ≤ ((mX0_distance ds l3) + (1 : Int32)) then (mX0_sweepOnce_J66 k4 (fun ds vk l2 l3 l4 => mX0_sweepOnce_L14 k4 n ds vk l2 l3 l4) ds vk l2 l3 l4) else (bt1 (mX0_setDistance ds (mX0_standAfter vk l3 l4) ((mX0_distance ds l3) + (1 : Int32))) (fun ds_6 => (mX0_sweepOnce_J66 k4 (fun ds vk l2 l3 l4 => mX0_sweepOnce_L14 k4 n ds vk l2 l3 l4) ds_6 vk (1 : Int32) l3 l4))))))
def mX0_sweepOnce_L4  : Nat → (Nat → Int32) → (Nat → Int32) → Int32 → Int32 → Option (Int32 × (Nat → Int32))
  | 0, _, _, _, _ => none
  | n + 1, ds, vk, l2, l3 => (if (144 : Int32) ≤ l3 then (if l2 = 0 ∨ l2 = 1 then (some (l2, ds)) else none) else (mX0_sweepOnce_L14 (fun ds vk l2 l3 => mX0_sweepOnce_L4 n ds vk l2 l3) 4096 ds vk l2 l3 (0 : Int32)))
def mX0_sweepOnce (ds : Nat → Int32) (vk : Nat → Int32) : Option (Int32 × (Nat → Int32)) := (mX0_sweepOnce_L4 4096 ds vk (0 : Int32) (0 : Int32))
set_option maxHeartbeats 4000000 in
set_option maxRecDepth 100000 in
theorem kX0_sweepOnce (l : Launch) (Γ : my_G) (q_fd q_ds q_rc q_fl q_k q_c q_a q_pa q_b q_pb : Nat) (ds : Nat → Int32) (rc : Nat → Int32) (vi : Nat → Int32) (vj : Nat → Int64) (vk : Nat → Int32) (vc : Nat → Int32) (va : Nat → Int32) (vpa : Nat → Int32) (vb : Nat → Int32) (vpb : Nat → Int32)  (rr : Int32) (ds_z : Nat → Int32) (hm : mX0_sweepOnce ds vk = (some (rr, ds_z))) : Mn l yX0_sweepOnce wsX0_sweepOnce ({ frames := 4, cells := 0, slots := 0, locals := 88 } : Room) Γ [.ref q_fd, .ref q_fl] (wFinder Γ q_fd q_ds q_rc ds rc ++ wFloor Γ q_fl q_k q_c q_a q_pa q_b q_pb vi vj vk vc va vpa vb vpb) (some (.int rr)) (wFinder Γ q_fd q_ds q_rc ds_z rc ++ wFloor Γ q_fl q_k q_c q_a q_pa q_b q_pb vi vj vk vc va vpa vb vpb) := by
  intro sz
  refine Met.ofW (cc := cX0_sweepOnce) (maxL := 6) (ret := (some .boolean)) (by decide) rfl ?_
  intro p e s m args below meth c s₁ B hml hv
  obtain ⟨rfl, hsz, hP, hK, hD0⟩ := hv
  have hx := B.exec
  have hb := B.bytes
  have hr := B.returns
  have hts := atoms_spec (ws := wsX0_sweepOnce) B.pre
  have hown : s.vm.findClass RX0 = some m.cls := findClass_of_methodNamed B.named
  have hlocks := B.notSynchronized
  have hinX0 : ∀ w ∈ u_ws RX0 TX0 2, w ∈ wsX0_sweepOnce := fun w h => List.mem_cons_of_mem _ (List.mem_append_right _ h)
  have hinX1 : ∀ w ∈ u_ws RX1 TX1 12, w ∈ wsX0_sweepOnce := fun w h => List.mem_cons_of_mem _ (List.mem_append_left _ (List.mem_append_right _ h))
  subst hsz
  have hD := hD0.self (sz := s.heap.size)
  have hA : ∀ q : Nat, s.heap.size ≤ q → va_A (wFinder Γ q_fd q_ds q_rc ds rc ++ wFloor Γ q_fl q_k q_c q_a q_pa q_b q_pb vi vj vk vc va vpa vb vpb) s.heap.size q := fun q h => Or.inr h
  generalize va_A (wFinder Γ q_fd q_ds q_rc ds rc ++ wFloor Γ q_fl q_k q_c q_a q_pa q_b q_pb vi vj vk vc va vpa vb vpb) s.heap.size = A at hD hA ⊢
  have hS : va_S A s.heap s.heap [] := va_S.rf
  have hl := lv_entry ([.ref q_fd, .ref q_fl]) (n := 6) (Nat.le_of_ble_eq_true rfl)
  rw [lg_entry_eq]
  generalize (lg_sl ([.ref q_fd, .ref q_fl]) ++ List.replicate (6 - (lg_sl ([.ref q_fd, .ref q_fl])).length) Slot.unset).toArray = ls at hl ⊢
  replace hl : lv_has ls 6 [(0, .ref q_fd), (1, .ref q_fl)] := hl
  have J_66 : ∀ (k4 : (Nat → Int32) → (Nat → Int32) → Int32 → Int32 → Option (Int32 × (Nat → Int32))), (∀ (ds : Nat → Int32) (vk : Nat → Int32) (l2 : Int32) (l3 : Int32) (H : Heap) (locs : List Loc) (ls : Array Slot), va_P (my_D Γ) vwCl (wFinder Γ q_fd q_ds q_rc ds rc ++ wFloor Γ q_fl q_k q_c q_a q_pa q_b q_pb vi vj vk vc va vpa vb vpb) H → va_D A (wFinder Γ q_fd q_ds q_rc ds rc ++ wFloor Γ q_fl q_k q_c q_a q_pa q_b q_pb vi vj vk vc va vpa vb vpb) → va_S A s.heap H locs → lv_has ls 6 [(0, .ref q_fd), (1, .ref q_fl), (2, .int l2), (3, .int l3)] → k4 ds vk l2 l3 = (some (rr, ds_z)) → W p l e (headSpec wsX0_sweepOnce ({ frames := 4, cells := 0, slots := 0, locals := 88 } : Room)).room s m ([.ref q_fd, .ref q_fl] : List Value).toArray below meth c H locs 0 0 (MQ below (my_Q Γ A (some (.int rr)) (wFinder Γ q_fd q_ds q_rc ds_z rc ++ wFloor Γ q_fl q_k q_c q_a q_pa q_b q_pb vi vj vk vc va vpa vb vpb)) ([.ref q_fd, .ref q_fl] : List Value).toArray s 0 0 A) (F0 m 4 ls [])) → ∀ (k14 : (Nat → Int32) → (Nat → Int32) → Int32 → Int32 → Int32 → Option (Int32 × (Nat → Int32))), (∀ (ds : Nat → Int32) (vk : Nat → Int32) (l2 : Int32) (l3 : Int32) (l4 : Int32) (H : Heap) (locs : List Loc) (ls : Array Slot), va_P (my_D Γ) vwCl (wFinder Γ q_fd q_ds q_rc ds rc ++ wFloor Γ q_fl q_k q_c q_a q_pa q_b q_pb vi vj vk vc va vpa vb vpb) H → va_D A (wFinder Γ q_fd q_ds q_rc ds rc ++ wFloor Γ q_fl q_k q_c q_a q_pa q_b q_pb vi vj vk vc va vpa vb vpb) → va_S A s.heap H locs → lv_has ls 6 [(0, .ref q_fd), (1, .ref q_fl), (2, .int l2), (3, .int l3), (4, .int l4)] → k14 ds vk l2 l3 l4 = (some (rr, ds_z)) → W p l e (headSpec wsX0_sweepOnce ({ frames := 4, cells := 0, slots := 0, locals := 88 } : Room)).room s m ([.ref q_fd, .ref q_fl] : List Value).toArray below meth c H locs 0 0 (MQ below (my_Q Γ A (some (.int rr)) (wFinder Γ q_fd q_ds q_rc ds_z rc ++ wFloor Γ q_fl q_k q_c q_a q_pa q_b q_pb vi vj vk vc va vpa vb vpb)) ([.ref q_fd, .ref q_fl] : List Value).toArray s 0 0 A) (F0 m 14 ls [])) → ∀ (ds : Nat → Int32) (vk : Nat → Int32) (l2 : Int32) (l3 : Int32) (l4 : Int32) (H : Heap) (locs : List Loc) (ls : Array Slot), va_P (my_D Γ) vwCl (wFinder Γ q_fd q_ds q_rc ds rc ++ wFloor Γ q_fl q_k q_c q_a q_pa q_b q_pb vi vj vk vc va vpa vb vpb) H → va_D A (wFinder Γ q_fd q_ds q_rc ds rc ++ wFloor Γ q_fl q_k q_c q_a q_pa q_b q_pb vi vj vk vc va vpa vb vpb) → va_S A s.heap H locs → lv_has ls 6 [(0, .ref q_fd), (1, .ref q_fl), (2, .int l2), (3, .int l3), (4, .int l4)] → mX0_sweepOnce_J66 k4 k14 ds vk l2 l3 l4 = (some (rr, ds_z)) → W p l e (headSpec wsX0_sweepOnce ({ frames := 4, cells := 0, slots := 0, locals := 88 } : Room)).room s m ([.ref q_fd, .ref q_fl] : List Value).toArray below meth c H locs 0 0 (MQ below (my_Q Γ A (some (.int rr)) (wFinder Γ q_fd q_ds q_rc ds_z rc ++ wFloor Γ q_fl q_k q_c q_a q_pa q_b q_pb vi vj vk vc va vpa vb vpb)) ([.ref q_fd, .ref q_fl] : List Value).toArray s 0 0 A) (F0 m 66 ls []) := by
    intro k4 hk4 k14 hk14 ds vk l2 l3 l4 H locs ls hP hD hS hl hm
    unfold mX0_sweepOnce_J66 at hm
    refine lv_iinc (v := (l4 + (1 : Int32))) (lv' := [(4, .int (l4 + (1 : Int32))), (0, .ref q_fd), (1, .ref q_fl), (2, .int l2), (3, .int l3)]) hx hb dX0_sweepOnce_66 hl (k := 4) rfl rfl (by decide) rfl (fun ls hl => ?_)
    refine lv_goto (tgt := 14) hx hb dX0_sweepOnce_69 (by decide) ?_
    exact hk14 ds vk l2 l3 (l4 + (1 : Int32)) _ _ _ hP hD hS (lv_sub hl [1, 2, 3, 4, 0] rfl) hm
  have J_14 : ∀ (k4 : (Nat → Int32) → (Nat → Int32) → Int32 → Int32 → Option (Int32 × (Nat → Int32))), (∀ (ds : Nat → Int32) (vk : Nat → Int32) (l2 : Int32) (l3 : Int32) (H : Heap) (locs : List Loc) (ls : Array Slot), va_P (my_D Γ) vwCl (wFinder Γ q_fd q_ds q_rc ds rc ++ wFloor Γ q_fl q_k q_c q_a q_pa q_b q_pb vi vj vk vc va vpa vb vpb) H → va_D A (wFinder Γ q_fd q_ds q_rc ds rc ++ wFloor Γ q_fl q_k q_c q_a q_pa q_b q_pb vi vj vk vc va vpa vb vpb) → va_S A s.heap H locs → lv_has ls 6 [(0, .ref q_fd), (1, .ref q_fl), (2, .int l2), (3, .int l3)] → k4 ds vk l2 l3 = (some (rr, ds_z)) → W p l e (headSpec wsX0_sweepOnce ({ frames := 4, cells := 0, slots := 0, locals := 88 } : Room)).room s m ([.ref q_fd, .ref q_fl] : List Value).toArray below meth c H locs 0 0 (MQ below (my_Q Γ A (some (.int rr)) (wFinder Γ q_fd q_ds q_rc ds_z rc ++ wFloor Γ q_fl q_k q_c q_a q_pa q_b q_pb vi vj vk vc va vpa vb vpb)) ([.ref q_fd, .ref q_fl] : List Value).toArray s 0 0 A) (F0 m 4 ls [])) → ∀ n : Nat, ∀ (ds : Nat → Int32) (vk : Nat → Int32) (l2 : Int32) (l3 : Int32) (l4 : Int32) (H : Heap) (locs : List Loc) (ls : Array Slot), va_P (my_D Γ) vwCl (wFinder Γ q_fd q_ds q_rc ds rc ++ wFloor Γ q_fl q_k q_c q_a q_pa q_b q_pb vi vj vk vc va vpa vb vpb) H → va_D A (wFinder Γ q_fd q_ds q_rc ds rc ++ wFloor Γ q_fl q_k q_c q_a q_pa q_b q_pb vi vj vk vc va vpa vb vpb) → va_S A s.heap H locs → lv_has ls 6 [(0, .ref q_fd), (1, .ref q_fl), (2, .int l2), (3, .int l3), (4, .int l4)] → mX0_sweepOnce_L14 k4 n ds vk l2 l3 l4 = (some (rr, ds_z)) → W p l e (headSpec wsX0_sweepOnce ({ frames := 4, cells := 0, slots := 0, locals := 88 } : Room)).room s m ([.ref q_fd, .ref q_fl] : List Value).toArray below meth c H locs 0 0 (MQ below (my_Q Γ A (some (.int rr)) (wFinder Γ q_fd q_ds q_rc ds_z rc ++ wFloor Γ q_fl q_k q_c q_a q_pa q_b q_pb vi vj vk vc va vpa vb vpb)) ([.ref q_fd, .ref q_fl] : List Value).toArray s 0 0 A) (F0 m 14 ls []) := by
    intro k4 hk4 n
    induction n with
    | zero => intro ds vk l2 l3 l4 H locs ls hP hD hS hl hm; cases hm
    | succ n ih =>
      intro ds vk l2 l3 l4 H locs ls hP hD hS hl hm
      unfold mX0_sweepOnce_L14 at hm
      refine lv_iload hx hb dX0_sweepOnce_14 (lv_at hl 4 rfl) ?_
      refine lv_iconst (v := (4 : Int32)) hx hb dX0_sweepOnce_16 (by decide) ?_
      refine lv_icmp_gt (tgt := 72) hx hb dX0_sweepOnce_17 (by decide) (fun c_3 => ?_) (fun c_3 => ?_)
      · replace hm := if_s hm c_3
        refine lv_iinc (v := (l3 + (1 : Int32))) (lv' := [(3, .int (l3 + (1 : Int32))), (0, .ref q_fd), (1, .ref q_fl), (2, .int l2), (4, .int l4)]) hx hb dX0_sweepOnce_72 hl (k := 3) rfl rfl (by decide) rfl (fun ls hl => ?_)
        refine lv_goto (tgt := 4) hx hb dX0_sweepOnce_75 (by decide) ?_
        exact hk4 ds vk l2 (l3 + (1 : Int32)) _ _ _ hP hD hS (lv_sub hl [1, 2, 3, 0] rfl) hm
      · replace hm := if_f hm c_3
        refine lv_aload_n hx hb dX0_sweepOnce_20 rfl (lv_at hl 1 rfl) ?_
        refine lv_iload_n hx hb dX0_sweepOnce_21 rfl (lv_at hl 3 rfl) ?_
        refine lv_iload hx hb dX0_sweepOnce_22 (lv_at hl 4 rfl) ?_
        refine my_call1 (wc := (wFloor Γ q_fl q_k q_c q_a q_pa q_b q_pb vi vj vk vc va vpa vb vpb)) (w1 := (wFloor Γ q_fl q_k q_c q_a q_pa q_b q_pb vi vj vk vc va vpa vb vpb)) (ws1 := (wFinder Γ q_fd q_ds q_rc ds rc ++ wFloor Γ q_fl q_k q_c q_a q_pa q_b q_pb vi vj vk vc va vpa vb vpb)) hP hD hS hA [3, 4, 5, 6, 7, 8, 9] rfl rfl rfl (va_runS (As := [.ref q_fl, .int l3, .int l4]) (rest := []) ⟨hx, hb, hml, hown, hts⟩ (kX0_standAfter l Γ q_fl q_k q_c q_a q_pa q_b q_pb vi vj vk vc va vpa vb vpb l3 l4 (mX0_standAfter vk l3 l4) rfl _) (va_cwS 3 hts gX0_sweepOnce_X0_standAfter rfl rfl rfl (by decide +kernel) ⟨Nat.le_of_ble_eq_true rfl, Nat.le_of_ble_eq_true rfl⟩) (my_preS (wc := (wFloor Γ q_fl q_k q_c q_a q_pa q_b q_pb vi vj vk vc va vpa vb vpb)) [3, 4, 5, 6, 7, 8, 9] hK hP hD rfl rfl) rfl rfl hl.1 rfl (lv_room (Nat.le_of_ble_eq_true rfl)) dX0_sweepOnce_24 ⟨Nat.le_of_ble_eq_true rfl, Nat.le_of_ble_eq_true rfl⟩) (fun H locs hP hD hS => ?_)
        refine lv_istore (lv' := [(5, .int (mX0_standAfter vk l3 l4)), (0, .ref q_fd), (1, .ref q_fl), (2, .int l2), (3, .int l3), (4, .int l4)]) hx hb dX0_sweepOnce_27 hl (by decide) rfl (fun ls hl => ?_)
        refine lv_iload hx hb dX0_sweepOnce_29 (lv_at hl 0 rfl) ?_
        refine lv_iconst (v := (-1 : Int32)) hx hb dX0_sweepOnce_31 (by decide) ?_
        refine lv_icmp_eq (tgt := 66) hx hb dX0_sweepOnce_32 (by decide) (fun c_4 => ?_) (fun c_4 => ?_)
        · replace hm := if_s hm c_4
          exact J_66 k4 hk4 (fun ds vk l2 l3 l4 => mX0_sweepOnce_L14 k4 n ds vk l2 l3 l4) ih ds vk l2 l3 l4 _ _ _ hP hD hS (lv_sub hl [1, 2, 3, 4, 5] rfl) hm
        · replace hm := if_f hm c_4
          refine lv_aload_n hx hb dX0_sweepOnce_35 rfl (lv_at hl 1 rfl) ?_
          refine lv_iload hx hb dX0_sweepOnce_36 (lv_at hl 0 rfl) ?_
          refine my_call1 (wc := (wFinder Γ q_fd q_ds q_rc ds rc)) (w1 := (wFinder Γ q_fd q_ds q_rc ds rc)) (ws1 := (wFinder Γ q_fd q_ds q_rc ds rc ++ wFloor Γ q_fl q_k q_c q_a q_pa q_b q_pb vi vj vk vc va vpa vb vpb)) hP hD hS hA [0, 1, 2] rfl rfl rfl (va_runV (As := [.int (mX0_standAfter vk l3 l4)]) (rest := []) ⟨hx, hb, hml, hown, hts⟩ (kX0_distance l Γ q_fd q_ds q_rc ds rc (mX0_standAfter vk l3 l4) (mX0_distance ds (mX0_standAfter vk l3 l4)) rfl _) (cwV 1 hts gX0_sweepOnce_X0_distance rfl rfl rfl (by decide +kernel) ⟨Nat.le_of_ble_eq_true rfl, Nat.le_of_ble_eq_true rfl⟩) (my_preV (wc := (wFinder Γ q_fd q_ds q_rc ds rc)) (ci := 0) (q0 := 0) [0, 1, 2] hK hP hD rfl rfl rfl rfl) rfl rfl hl.1 rfl (lv_room (Nat.le_of_ble_eq_true rfl)) dX0_sweepOnce_38 ⟨Nat.le_of_ble_eq_true rfl, Nat.le_of_ble_eq_true rfl⟩) (fun H locs hP hD hS => ?_)
          refine lv_aload_n hx hb dX0_sweepOnce_41 rfl (lv_at hl 1 rfl) ?_
          refine lv_iload_n hx hb dX0_sweepOnce_42 rfl (lv_at hl 4 rfl) ?_
          refine my_call1 (wc := (wFinder Γ q_fd q_ds q_rc ds rc)) (w1 := (wFinder Γ q_fd q_ds q_rc ds rc)) (ws1 := (wFinder Γ q_fd q_ds q_rc ds rc ++ wFloor Γ q_fl q_k q_c q_a q_pa q_b q_pb vi vj vk vc va vpa vb vpb)) hP hD hS hA [0, 1, 2] rfl rfl rfl (va_runV (As := [.int l3]) (rest := [.int (mX0_distance ds (mX0_standAfter vk l3 l4))]) ⟨hx, hb, hml, hown, hts⟩ (kX0_distance l Γ q_fd q_ds q_rc ds rc l3 (mX0_distance ds l3) rfl _) (cwV 1 hts gX0_sweepOnce_X0_distance rfl rfl rfl (by decide +kernel) ⟨Nat.le_of_ble_eq_true rfl, Nat.le_of_ble_eq_true rfl⟩) (my_preV (wc := (wFinder Γ q_fd q_ds q_rc ds rc)) (ci := 0) (q0 := 0) [0, 1, 2] hK hP hD rfl rfl rfl rfl) rfl rfl hl.1 rfl (lv_room (Nat.le_of_ble_eq_true rfl)) dX0_sweepOnce_43 ⟨Nat.le_of_ble_eq_true rfl, Nat.le_of_ble_eq_true rfl⟩) (fun H locs hP hD hS => ?_)
          refine lv_iconst (v := (1 : Int32)) hx hb dX0_sweepOnce_46 (by decide) ?_
          refine lv_iadd hx hb dX0_sweepOnce_47 ?_
          refine lv_icmp_le (tgt := 66) hx hb dX0_sweepOnce_48 (by decide) (fun c_5 => ?_) (fun c_5 => ?_)
          · replace hm := if_s hm c_5
            exact J_66 k4 hk4 (fun ds vk l2 l3 l4 => mX0_sweepOnce_L14 k4 n ds vk l2 l3 l4) ih ds vk l2 l3 l4 _ _ _ hP hD hS (lv_sub hl [1, 2, 3, 4, 5] rfl) hm
          · replace hm := if_f hm c_5
            refine lv_aload_n hx hb dX0_sweepOnce_51 rfl (lv_at hl 1 rfl) ?_
            refine lv_iload hx hb dX0_sweepOnce_52 (lv_at hl 0 rfl) ?_
            refine lv_aload_n hx hb dX0_sweepOnce_54 rfl (lv_at hl 1 rfl) ?_
            refine lv_iload_n hx hb dX0_sweepOnce_55 rfl (lv_at hl 4 rfl) ?_
            refine my_call1 (wc := (wFinder Γ q_fd q_ds q_rc ds rc)) (w1 := (wFinder Γ q_fd q_ds q_rc ds rc)) (ws1 := (wFinder Γ q_fd q_ds q_rc ds rc ++ wFloor Γ q_fl q_k q_c q_a q_pa q_b q_pb vi vj vk vc va vpa vb vpb)) hP hD hS hA [0, 1, 2] rfl rfl rfl (va_runV (As := [.int l3]) (rest := [.int (mX0_standAfter vk l3 l4), .ref q_fd]) ⟨hx, hb, hml, hown, hts⟩ (kX0_distance l Γ q_fd q_ds q_rc ds rc l3 (mX0_distance ds l3) rfl _) (cwV 1 hts gX0_sweepOnce_X0_distance rfl rfl rfl (by decide +kernel) ⟨Nat.le_of_ble_eq_true rfl, Nat.le_of_ble_eq_true rfl⟩) (my_preV (wc := (wFinder Γ q_fd q_ds q_rc ds rc)) (ci := 0) (q0 := 0) [0, 1, 2] hK hP hD rfl rfl rfl rfl) rfl rfl hl.1 rfl (lv_room (Nat.le_of_ble_eq_true rfl)) dX0_sweepOnce_56 ⟨Nat.le_of_ble_eq_true rfl, Nat.le_of_ble_eq_true rfl⟩) (fun H locs hP hD hS => ?_)
            refine lv_iconst (v := (1 : Int32)) hx hb dX0_sweepOnce_59 (by decide) ?_
            refine lv_iadd hx hb dX0_sweepOnce_60 ?_
            obtain ⟨ds_6, hc_7, hm⟩ := bt1_s hm
            refine my_call0 (wc := (wFinder Γ q_fd q_ds q_rc ds rc)) (w1 := (wFinder Γ q_fd q_ds q_rc ds_6 rc)) (ws1 := (wFinder Γ q_fd q_ds q_rc ds_6 rc ++ wFloor Γ q_fl q_k q_c q_a q_pa q_b q_pb vi vj vk vc va vpa vb vpb)) hP hD hS hA [0, 1, 2] rfl rfl rfl (va_runV (As := [.int (mX0_standAfter vk l3 l4), .int ((mX0_distance ds l3) + (1 : Int32))]) (rest := []) ⟨hx, hb, hml, hown, hts⟩ (kX0_setDistance l Γ q_fd q_ds q_rc ds rc (mX0_standAfter vk l3 l4) ((mX0_distance ds l3) + (1 : Int32)) ds_6 hc_7 _) (cwV 2 hts gX0_sweepOnce_X0_setDistance rfl rfl rfl (by decide +kernel) ⟨Nat.le_of_ble_eq_true rfl, Nat.le_of_ble_eq_true rfl⟩) (my_preV (wc := (wFinder Γ q_fd q_ds q_rc ds rc)) (ci := 0) (q0 := 0) [0, 1, 2] hK hP hD rfl rfl rfl rfl) rfl rfl hl.1 rfl (lv_room (Nat.le_of_ble_eq_true rfl)) dX0_sweepOnce_61 ⟨Nat.le_of_ble_eq_true rfl, Nat.le_of_ble_eq_true rfl⟩) (fun H locs hP hD hS => ?_)
            refine lv_iconst (v := (1 : Int32)) hx hb dX0_sweepOnce_64 (by decide) ?_
            refine lv_istore_n (lv' := [(2, .int (1 : Int32)), (5, .int (mX0_standAfter vk l3 l4)), (0, .ref q_fd), (1, .ref q_fl), (3, .int l3), (4, .int l4)]) hx hb dX0_sweepOnce_65 rfl hl (by decide) rfl (fun ls hl => ?_)
            exact J_66 k4 hk4 (fun ds vk l2 l3 l4 => mX0_sweepOnce_L14 k4 n ds vk l2 l3 l4) ih ds_6 vk (1 : Int32) l3 l4 _ _ _ hP hD hS (lv_sub hl [2, 3, 0, 4, 5] rfl) hm
  have J_4 : ∀ n : Nat, ∀ (ds : Nat → Int32) (vk : Nat → Int32) (l2 : Int32) (l3 : Int32) (H : Heap) (locs : List Loc) (ls : Array Slot), va_P (my_D Γ) vwCl (wFinder Γ q_fd q_ds q_rc ds rc ++ wFloor Γ q_fl q_k q_c q_a q_pa q_b q_pb vi vj vk vc va vpa vb vpb) H → va_D A (wFinder Γ q_fd q_ds q_rc ds rc ++ wFloor Γ q_fl q_k q_c q_a q_pa q_b q_pb vi vj vk vc va vpa vb vpb) → va_S A s.heap H locs → lv_has ls 6 [(0, .ref q_fd), (1, .ref q_fl), (2, .int l2), (3, .int l3)] → mX0_sweepOnce_L4 n ds vk l2 l3 = (some (rr, ds_z)) → W p l e (headSpec wsX0_sweepOnce ({ frames := 4, cells := 0, slots := 0, locals := 88 } : Room)).room s m ([.ref q_fd, .ref q_fl] : List Value).toArray below meth c H locs 0 0 (MQ below (my_Q Γ A (some (.int rr)) (wFinder Γ q_fd q_ds q_rc ds_z rc ++ wFloor Γ q_fl q_k q_c q_a q_pa q_b q_pb vi vj vk vc va vpa vb vpb)) ([.ref q_fd, .ref q_fl] : List Value).toArray s 0 0 A) (F0 m 4 ls []) := by
    intro  n
    induction n with
    | zero => intro ds vk l2 l3 H locs ls hP hD hS hl hm; cases hm
    | succ n ih =>
      intro ds vk l2 l3 H locs ls hP hD hS hl hm
      unfold mX0_sweepOnce_L4 at hm
      refine lv_iload_n hx hb dX0_sweepOnce_4 rfl (lv_at hl 3 rfl) ?_
      refine lv_sipush (v := (144 : Int32)) hx hb dX0_sweepOnce_5 (by decide) ?_
      refine lv_icmp_ge (tgt := 78) hx hb dX0_sweepOnce_8 (by decide) (fun c_1 => ?_) (fun c_1 => ?_)
      · replace hm := if_s hm c_1
        refine lv_iload_n hx hb dX0_sweepOnce_78 rfl (lv_at hl 2 rfl) ?_
        obtain ⟨hz_2, hm⟩ := if_bz hm
        obtain ⟨hf0, hf1⟩ := si2 hm
        subst hf0
        subst hf1
        exact W.zret (v := l2) hx hb hr hz_2 (fun t ht hW => ⟨⟨rfl, by rw [ht]; exact hP⟩, hS.F ht⟩) hS.2.2 dX0_sweepOnce_79
      · replace hm := if_f hm c_1
        refine lv_iconst (v := (0 : Int32)) hx hb dX0_sweepOnce_11 (by decide) ?_
        refine lv_istore (lv' := [(4, .int (0 : Int32)), (0, .ref q_fd), (1, .ref q_fl), (2, .int l2), (3, .int l3)]) hx hb dX0_sweepOnce_12 hl (by decide) rfl (fun ls hl => ?_)
        exact J_14 (fun ds vk l2 l3 => mX0_sweepOnce_L4 n ds vk l2 l3) ih 4096 ds vk l2 l3 (0 : Int32) _ _ _ hP hD hS (lv_sub hl [1, 2, 3, 4, 0] rfl) hm
  unfold mX0_sweepOnce at hm
  refine lv_iconst (v := (0 : Int32)) hx hb dX0_sweepOnce_0 (by decide) ?_
  refine lv_istore_n (lv' := [(2, .int (0 : Int32)), (0, .ref q_fd), (1, .ref q_fl)]) hx hb dX0_sweepOnce_1 rfl hl (by decide) rfl (fun ls hl => ?_)
  refine lv_iconst (v := (0 : Int32)) hx hb dX0_sweepOnce_2 (by decide) ?_
  refine lv_istore_n (lv' := [(3, .int (0 : Int32)), (2, .int (0 : Int32)), (0, .ref q_fd), (1, .ref q_fl)]) hx hb dX0_sweepOnce_3 rfl hl (by decide) rfl (fun ls hl => ?_)
  exact J_4 4096 ds vk (0 : Int32) (0 : Int32) _ _ _ hP hD hS (lv_sub hl [2, 3, 1, 0] rfl) hm
def mX0_sweep_L16  : Nat → (Nat → Int32) → (Nat → Int32) → Int32 → Int32 → Int32 → Option (Int32 × (Nat → Int32))
  | 0, _, _, _, _, _ => none
  | n + 1, ds, vk, l3, l4, l5 => (if l4 = 0 then (bo1 (mX0_leastDistance ds l3) (fun r_6 => (some (r_6, ds)))) else (if (144 : Int32) < l5 then (bo1 (mX0_leastDistance ds l3) (fun r_9 => (some (r_9, ds)))) else (bo2 (mX0_sweepOnce ds vk) (fun r_11 ds_12 => (mX0_sweep_L16 n ds_12 vk l3 r_11 (l5 + (1 : Int32)))))))
def mX0_sweep (ds : Nat → Int32) (vk : Nat → Int32) (x1 : Int32) (x2 : Int32) : Option (Int32 × (Nat → Int32)) := (bo1 (mX0_forgetDistances ds) (fun ds_1 => (bt1 (mX0_setDistance ds_1 x1 (0 : Int32)) (fun ds_3 => (mX0_sweep_L16 4096 ds_3 vk x2 (1 : Int32) (0 : Int32))))))
set_option maxHeartbeats 4000000 in
set_option maxRecDepth 100000 in
theorem kX0_sweep (l : Launch) (Γ : my_G) (q_fd q_ds q_rc q_fl q_k q_c q_a q_pa q_b q_pb : Nat) (ds : Nat → Int32) (rc : Nat → Int32) (vi : Nat → Int32) (vj : Nat → Int64) (vk : Nat → Int32) (vc : Nat → Int32) (va : Nat → Int32) (vpa : Nat → Int32) (vb : Nat → Int32) (vpb : Nat → Int32) (x1 : Int32) (x2 : Int32) (rr : Int32) (ds_z : Nat → Int32) (hm : mX0_sweep ds vk x1 x2 = (some (rr, ds_z))) : Mn l yX0_sweep wsX0_sweep ({ frames := 5, cells := 0, slots := 0, locals := 113 } : Room) Γ [.ref q_fd, .ref q_fl, .int x1, .int x2] (wFinder Γ q_fd q_ds q_rc ds rc ++ wFloor Γ q_fl q_k q_c q_a q_pa q_b q_pb vi vj vk vc va vpa vb vpb) (some (.int rr)) (wFinder Γ q_fd q_ds q_rc ds_z rc ++ wFloor Γ q_fl q_k q_c q_a q_pa q_b q_pb vi vj vk vc va vpa vb vpb) := by
  intro sz
  refine Met.ofW (cc := cX0_sweep) (maxL := 6) (ret := (some .int)) (by decide) rfl ?_
  intro p e s m args below meth c s₁ B hml hv
  obtain ⟨rfl, hsz, hP, hK, hD0⟩ := hv
  have hx := B.exec
  have hb := B.bytes
  have hr := B.returns
  have hts := atoms_spec (ws := wsX0_sweep) B.pre
  have hown : s.vm.findClass RX0 = some m.cls := findClass_of_methodNamed B.named
  have hlocks := B.notSynchronized
  have hinX0 : ∀ w ∈ u_ws RX0 TX0 2, w ∈ wsX0_sweep := fun w h => List.mem_cons_of_mem _ (List.mem_append_left _ (List.mem_append_right _ h))
  have hinX1 : ∀ w ∈ u_ws RX1 TX1 12, w ∈ wsX0_sweep := fun w h => List.mem_cons_of_mem _ (List.mem_append_right _ h)
  subst hsz
  have hD := hD0.self (sz := s.heap.size)
  have hA : ∀ q : Nat, s.heap.size ≤ q → va_A (wFinder Γ q_fd q_ds q_rc ds rc ++ wFloor Γ q_fl q_k q_c q_a q_pa q_b q_pb vi vj vk vc va vpa vb vpb) s.heap.size q := fun q h => Or.inr h
  generalize va_A (wFinder Γ q_fd q_ds q_rc ds rc ++ wFloor Γ q_fl q_k q_c q_a q_pa q_b q_pb vi vj vk vc va vpa vb vpb) s.heap.size = A at hD hA ⊢
  have hS : va_S A s.heap s.heap [] := va_S.rf
  have hl := lv_entry ([.ref q_fd, .ref q_fl, .int x1, .int x2]) (n := 6) (Nat.le_of_ble_eq_true rfl)
  rw [lg_entry_eq]
  generalize (lg_sl ([.ref q_fd, .ref q_fl, .int x1, .int x2]) ++ List.replicate (6 - (lg_sl ([.ref q_fd, .ref q_fl, .int x1, .int x2])).length) Slot.unset).toArray = ls at hl ⊢
  replace hl : lv_has ls 6 [(0, .ref q_fd), (1, .ref q_fl), (2, .int x1), (3, .int x2)] := hl
  have J_16 : ∀ n : Nat, ∀ (ds : Nat → Int32) (vk : Nat → Int32) (l3 : Int32) (l4 : Int32) (l5 : Int32) (H : Heap) (locs : List Loc) (ls : Array Slot), va_P (my_D Γ) vwCl (wFinder Γ q_fd q_ds q_rc ds rc ++ wFloor Γ q_fl q_k q_c q_a q_pa q_b q_pb vi vj vk vc va vpa vb vpb) H → va_D A (wFinder Γ q_fd q_ds q_rc ds rc ++ wFloor Γ q_fl q_k q_c q_a q_pa q_b q_pb vi vj vk vc va vpa vb vpb) → va_S A s.heap H locs → lv_has ls 6 [(0, .ref q_fd), (1, .ref q_fl), (3, .int l3), (4, .int l4), (5, .int l5)] → mX0_sweep_L16 n ds vk l3 l4 l5 = (some (rr, ds_z)) → W p l e (headSpec wsX0_sweep ({ frames := 5, cells := 0, slots := 0, locals := 113 } : Room)).room s m ([.ref q_fd, .ref q_fl, .int x1, .int x2] : List Value).toArray below meth c H locs 0 0 (MQ below (my_Q Γ A (some (.int rr)) (wFinder Γ q_fd q_ds q_rc ds_z rc ++ wFloor Γ q_fl q_k q_c q_a q_pa q_b q_pb vi vj vk vc va vpa vb vpb)) ([.ref q_fd, .ref q_fl, .int x1, .int x2] : List Value).toArray s 0 0 A) (F0 m 16 ls []) := by
    intro  n
    induction n with
    | zero => intro ds vk l3 l4 l5 H locs ls hP hD hS hl hm; cases hm
    | succ n ih =>
      intro ds vk l3 l4 l5 H locs ls hP hD hS hl hm
      unfold mX0_sweep_L16 at hm
      refine lv_iload hx hb dX0_sweep_16 (lv_at hl 3 rfl) ?_
      refine lv_if_eq (tgt := 42) hx hb dX0_sweep_18 (by decide) (fun c_5 => ?_) (fun c_5 => ?_)
      · replace hm := if_s hm c_5
        refine lv_aload_n hx hb dX0_sweep_42 rfl (lv_at hl 0 rfl) ?_
        refine lv_iload_n hx hb dX0_sweep_43 rfl (lv_at hl 2 rfl) ?_
        obtain ⟨r_6, hc_7, hm⟩ := bo1_s hm
        refine my_call1 (wc := (wFinder Γ q_fd q_ds q_rc ds rc)) (w1 := (wFinder Γ q_fd q_ds q_rc ds rc)) (ws1 := (wFinder Γ q_fd q_ds q_rc ds rc ++ wFloor Γ q_fl q_k q_c q_a q_pa q_b q_pb vi vj vk vc va vpa vb vpb)) hP hD hS hA [0, 1, 2] rfl rfl rfl (va_runV (As := [.int l3]) (rest := []) ⟨hx, hb, hml, hown, hts⟩ (kX0_leastDistance l Γ q_fd q_ds q_rc ds rc l3 r_6 hc_7 _) (cwV 1 hts gX0_sweep_X0_leastDistance rfl rfl rfl (by decide +kernel) ⟨Nat.le_of_ble_eq_true rfl, Nat.le_of_ble_eq_true rfl⟩) (my_preV (wc := (wFinder Γ q_fd q_ds q_rc ds rc)) (ci := 0) (q0 := 0) [0, 1, 2] hK hP hD rfl rfl rfl rfl) rfl rfl hl.1 rfl (lv_room (Nat.le_of_ble_eq_true rfl)) dX0_sweep_44 ⟨Nat.le_of_ble_eq_true rfl, Nat.le_of_ble_eq_true rfl⟩) (fun H locs hP hD hS => ?_)
        obtain ⟨hf0, hf1⟩ := si2 hm
        subst hf0
        subst hf1
        exact W.iret (v := r_6) hx hb hr (fun t ht hW => ⟨⟨rfl, by rw [ht]; exact hP⟩, hS.F ht⟩) hS.2.2 dX0_sweep_47
      · replace hm := if_f hm c_5
        refine lv_iload hx hb dX0_sweep_21 (lv_at hl 4 rfl) ?_
        refine lv_sipush (v := (144 : Int32)) hx hb dX0_sweep_23 (by decide) ?_
        refine lv_icmp_gt (tgt := 42) hx hb dX0_sweep_26 (by decide) (fun c_8 => ?_) (fun c_8 => ?_)
        · replace hm := if_s hm c_8
          refine lv_aload_n hx hb dX0_sweep_42 rfl (lv_at hl 0 rfl) ?_
          refine lv_iload_n hx hb dX0_sweep_43 rfl (lv_at hl 2 rfl) ?_
          obtain ⟨r_9, hc_10, hm⟩ := bo1_s hm
          refine my_call1 (wc := (wFinder Γ q_fd q_ds q_rc ds rc)) (w1 := (wFinder Γ q_fd q_ds q_rc ds rc)) (ws1 := (wFinder Γ q_fd q_ds q_rc ds rc ++ wFloor Γ q_fl q_k q_c q_a q_pa q_b q_pb vi vj vk vc va vpa vb vpb)) hP hD hS hA [0, 1, 2] rfl rfl rfl (va_runV (As := [.int l3]) (rest := []) ⟨hx, hb, hml, hown, hts⟩ (kX0_leastDistance l Γ q_fd q_ds q_rc ds rc l3 r_9 hc_10 _) (cwV 1 hts gX0_sweep_X0_leastDistance rfl rfl rfl (by decide +kernel) ⟨Nat.le_of_ble_eq_true rfl, Nat.le_of_ble_eq_true rfl⟩) (my_preV (wc := (wFinder Γ q_fd q_ds q_rc ds rc)) (ci := 0) (q0 := 0) [0, 1, 2] hK hP hD rfl rfl rfl rfl) rfl rfl hl.1 rfl (lv_room (Nat.le_of_ble_eq_true rfl)) dX0_sweep_44 ⟨Nat.le_of_ble_eq_true rfl, Nat.le_of_ble_eq_true rfl⟩) (fun H locs hP hD hS => ?_)
          obtain ⟨hf0, hf1⟩ := si2 hm
          subst hf0
          subst hf1
          exact W.iret (v := r_9) hx hb hr (fun t ht hW => ⟨⟨rfl, by rw [ht]; exact hP⟩, hS.F ht⟩) hS.2.2 dX0_sweep_47
        · replace hm := if_f hm c_8
          refine lv_aload_n hx hb dX0_sweep_29 rfl (lv_at hl 0 rfl) ?_
          refine lv_aload_n hx hb dX0_sweep_30 rfl (lv_at hl 1 rfl) ?_
          obtain ⟨r_11, ds_12, hc_13, hm⟩ := bo2_s hm
          refine my_call1 (wc := (wFinder Γ q_fd q_ds q_rc ds rc ++ wFloor Γ q_fl q_k q_c q_a q_pa q_b q_pb vi vj vk vc va vpa vb vpb)) (w1 := (wFinder Γ q_fd q_ds q_rc ds_12 rc ++ wFloor Γ q_fl q_k q_c q_a q_pa q_b q_pb vi vj vk vc va vpa vb vpb)) (ws1 := (wFinder Γ q_fd q_ds q_rc ds_12 rc ++ wFloor Γ q_fl q_k q_c q_a q_pa q_b q_pb vi vj vk vc va vpa vb vpb)) hP hD hS hA [0, 1, 2, 3, 4, 5, 6, 7, 8, 9] rfl rfl rfl (va_runV (As := [.ref q_fl]) (rest := []) ⟨hx, hb, hml, hown, hts⟩ (kX0_sweepOnce l Γ q_fd q_ds q_rc q_fl q_k q_c q_a q_pa q_b q_pb ds rc vi vj vk vc va vpa vb vpb r_11 ds_12 hc_13 _) (cwV 1 hts gX0_sweep_X0_sweepOnce rfl rfl rfl (by decide +kernel) ⟨Nat.le_of_ble_eq_true rfl, Nat.le_of_ble_eq_true rfl⟩) (my_preV (wc := (wFinder Γ q_fd q_ds q_rc ds rc ++ wFloor Γ q_fl q_k q_c q_a q_pa q_b q_pb vi vj vk vc va vpa vb vpb)) (ci := 0) (q0 := 0) [0, 1, 2, 3, 4, 5, 6, 7, 8, 9] hK hP hD rfl rfl rfl rfl) rfl rfl hl.1 rfl (lv_room (Nat.le_of_ble_eq_true rfl)) dX0_sweep_31 ⟨Nat.le_of_ble_eq_true rfl, Nat.le_of_ble_eq_true rfl⟩) (fun H locs hP hD hS => ?_)
          refine lv_istore (lv' := [(4, .int r_11), (0, .ref q_fd), (1, .ref q_fl), (3, .int l3), (5, .int l5)]) hx hb dX0_sweep_34 hl (by decide) rfl (fun ls hl => ?_)
          refine lv_iinc (v := (l5 + (1 : Int32))) (lv' := [(5, .int (l5 + (1 : Int32))), (4, .int r_11), (0, .ref q_fd), (1, .ref q_fl), (3, .int l3)]) hx hb dX0_sweep_36 hl (k := 4) rfl rfl (by decide) rfl (fun ls hl => ?_)
          refine lv_goto (tgt := 16) hx hb dX0_sweep_39 (by decide) ?_
          exact ih ds_12 vk l3 r_11 (l5 + (1 : Int32)) _ _ _ hP hD hS (lv_sub hl [2, 3, 4, 1, 0] rfl) hm
  unfold mX0_sweep at hm
  refine lv_aload_n hx hb dX0_sweep_0 rfl (lv_at hl 0 rfl) ?_
  obtain ⟨ds_1, hc_2, hm⟩ := bo1_s hm
  refine my_call0 (wc := (wFinder Γ q_fd q_ds q_rc ds rc)) (w1 := (wFinder Γ q_fd q_ds q_rc ds_1 rc)) (ws1 := (wFinder Γ q_fd q_ds q_rc ds_1 rc ++ wFloor Γ q_fl q_k q_c q_a q_pa q_b q_pb vi vj vk vc va vpa vb vpb)) hP hD hS hA [0, 1, 2] rfl rfl rfl (va_runV (As := []) (rest := []) ⟨hx, hb, hml, hown, hts⟩ (kX0_forgetDistances l Γ q_fd q_ds q_rc ds rc ds_1 hc_2 _) (cwV 0 hts gX0_sweep_X0_forgetDistances rfl rfl rfl (by decide +kernel) ⟨Nat.le_of_ble_eq_true rfl, Nat.le_of_ble_eq_true rfl⟩) (my_preV (wc := (wFinder Γ q_fd q_ds q_rc ds rc)) (ci := 0) (q0 := 0) [0, 1, 2] hK hP hD rfl rfl rfl rfl) rfl rfl hl.1 rfl (lv_room (Nat.le_of_ble_eq_true rfl)) dX0_sweep_1 ⟨Nat.le_of_ble_eq_true rfl, Nat.le_of_ble_eq_true rfl⟩) (fun H locs hP hD hS => ?_)
  refine lv_aload_n hx hb dX0_sweep_4 rfl (lv_at hl 0 rfl) ?_
  refine lv_iload_n hx hb dX0_sweep_5 rfl (lv_at hl 2 rfl) ?_
  refine lv_iconst (v := (0 : Int32)) hx hb dX0_sweep_6 (by decide) ?_
  obtain ⟨ds_3, hc_4, hm⟩ := bt1_s hm
  refine my_call0 (wc := (wFinder Γ q_fd q_ds q_rc ds_1 rc)) (w1 := (wFinder Γ q_fd q_ds q_rc ds_3 rc)) (ws1 := (wFinder Γ q_fd q_ds q_rc ds_3 rc ++ wFloor Γ q_fl q_k q_c q_a q_pa q_b q_pb vi vj vk vc va vpa vb vpb)) hP hD hS hA [0, 1, 2] rfl rfl rfl (va_runV (As := [.int x1, .int (0 : Int32)]) (rest := []) ⟨hx, hb, hml, hown, hts⟩ (kX0_setDistance l Γ q_fd q_ds q_rc ds_1 rc x1 (0 : Int32) ds_3 hc_4 _) (cwV 2 hts gX0_sweep_X0_setDistance rfl rfl rfl (by decide +kernel) ⟨Nat.le_of_ble_eq_true rfl, Nat.le_of_ble_eq_true rfl⟩) (my_preV (wc := (wFinder Γ q_fd q_ds q_rc ds_1 rc)) (ci := 0) (q0 := 0) [0, 1, 2] hK hP hD rfl rfl rfl rfl) rfl rfl hl.1 rfl (lv_room (Nat.le_of_ble_eq_true rfl)) dX0_sweep_7 ⟨Nat.le_of_ble_eq_true rfl, Nat.le_of_ble_eq_true rfl⟩) (fun H locs hP hD hS => ?_)
  refine lv_iconst (v := (1 : Int32)) hx hb dX0_sweep_10 (by decide) ?_
  refine lv_istore (lv' := [(4, .int (1 : Int32)), (0, .ref q_fd), (1, .ref q_fl), (2, .int x1), (3, .int x2)]) hx hb dX0_sweep_11 hl (by decide) rfl (fun ls hl => ?_)
  refine lv_iconst (v := (0 : Int32)) hx hb dX0_sweep_13 (by decide) ?_
  refine lv_istore (lv' := [(5, .int (0 : Int32)), (4, .int (1 : Int32)), (0, .ref q_fd), (1, .ref q_fl), (2, .int x1), (3, .int x2)]) hx hb dX0_sweep_14 hl (by decide) rfl (fun ls hl => ?_)
  exact J_16 4096 ds_3 vk x2 (1 : Int32) (0 : Int32) _ _ _ hP hD hS (lv_sub hl [2, 3, 5, 1, 0] rfl) hm
def mX0_spread_J121 (k23 : (Nat → Int32) → (Nat → Int32) → (Nat → Int32) → Int32 → Int32 → Int32 → Option (Int32 × (Nat → Int32) × (Nat → Int32))) (k52 : (Nat → Int32) → (Nat → Int32) → (Nat → Int32) → Int32 → Int32 → Int32 → Int32 → Int32 → Option (Int32 × (Nat → Int32) × (Nat → Int32))) (ds : Nat → Int32) (rc : Nat → Int32) (vk : Nat → Int32) (l3 : Int32) (l4 : Int32) (l5 : Int32) (l6 : Int32) (l7 : Int32) : Option (Int32 × (Nat → Int32) × (Nat → Int32)) := (k52 ds rc vk l3 l4 l5 l6 (l7 + (1 : Int32)))
def mX0_spread_L52 (k23 : (Nat → Int32) → (Nat → Int32) → (Nat → Int32) → Int32 → Int32 → Int32 → Option (Int32 × (Nat → Int32) × (Nat → Int32))) : Nat → (Nat → Int32) → (Nat → Int32) → (Nat → Int32) → Int32 → Int32 → Int32 → Int32 → Int32 → Option (Int32 × (Nat → Int32) × (Nat → Int32))
  | 0, _, _, _, _, _, _, _, _ => none
  | n + 1, ds, rc, vk, l3, l4, l5, l6, l7 => (if (4 : Int32) < l7 then (k23 ds rc vk l3 l4 (l5 + (1 : Int32))) else (if (mX0_standAfter vk l6 l7) = (-1 : Int32) then (mX0_spread_J121 k23 (fun ds rc vk l3 l4 l5 l6 l7 => mX0_spread_L52 k23 n ds rc vk l3 l4 l5 l6 l7) ds rc vk l3 l4 l5 l6 l7) else (if (mX0_distance ds (mX0_standAfter vk l6 l7)) = (1000000 : Int32) then (if (144 : Int32) ≤ l4 then (mX0_spread_J121 k23 (fun ds rc vk l3 l4 l5 l6 l7 => mX0_spread_L52 k23 n ds rc vk l3 l4 l5 l6 l7) ds rc vk l3 l4 l5 l6 l7) else (bt1 (mX0_setDistance ds (mX0_standAfter vk l6 l7) ((mX0_distance ds l6) + (1 : Int32))) (fun ds_16 => (if ¬ (l4 < 0 ∨ 144 ≤ l4.toNatClampNeg) then (mX0_spread_J121 k23 (fun ds rc vk l3 l4 l5 l6 l7 => mX0_spread_L52 k23 n ds rc vk l3 l4 l5 l6 l7) ds_16 (upd rc l4.toNatClampNeg (mX0_standAfter vk l6 l7)) vk l3 (l4 + (1 : Int32)) l5 l6 l7) else none)))) else (mX0_spread_J121 k23 (fun ds rc vk l3 l4 l5 l6 l7 => mX0_spread_L52 k23 n ds rc vk l3 l4 l5 l6 l7) ds rc vk l3 l4 l5 l6 l7))))
def mX0_spread_L23  : Nat → (Nat → Int32) → (Nat → Int32) → (Nat → Int32) → Int32 → Int32 → Int32 → Option (Int32 × (Nat → Int32) × (Nat → Int32))
  | 0, _, _, _, _, _, _ => none
  | n + 1, ds, rc, vk, l3, l4, l5 => (if l4 ≤ l5 then (bo1 (mX0_leastDistance ds l3) (fun r_6 => (some (r_6, ds, rc)))) else (if (144 : Int32) ≤ l5 then (bo1 (mX0_leastDistance ds l3) (fun r_9 => (some (r_9, ds, rc)))) else (if ¬ (l5 < 0 ∨ 144 ≤ l5.toNatClampNeg) then (mX0_spread_L52 (fun ds rc vk l3 l4 l5 => mX0_spread_L23 n ds rc vk l3 l4 l5) 4096 ds rc vk l3 l4 l5 (rc l5.toNatClampNeg) (0 : Int32)) else none)))
def mX0_spread (ds : Nat → Int32) (rc : Nat → Int32) (vk : Nat → Int32) (x1 : Int32) (x2 : Int32) : Option (Int32 × (Nat → Int32) × (Nat → Int32)) := (bo1 (mX0_forgetDistances ds) (fun ds_1 => (bt1 (mX0_setDistance ds_1 x1 (0 : Int32)) (fun ds_3 => (mX0_spread_L23 4096 ds_3 (upd rc (0 : Int32).toNatClampNeg x1) vk x2 (1 : Int32) (0 : Int32))))))
set_option maxHeartbeats 4000000 in
set_option maxRecDepth 100000 in
theorem kX0_spread (l : Launch) (Γ : my_G) (q_fd q_ds q_rc q_fl q_k q_c q_a q_pa q_b q_pb : Nat) (ds : Nat → Int32) (rc : Nat → Int32) (vi : Nat → Int32) (vj : Nat → Int64) (vk : Nat → Int32) (vc : Nat → Int32) (va : Nat → Int32) (vpa : Nat → Int32) (vb : Nat → Int32) (vpb : Nat → Int32) (x1 : Int32) (x2 : Int32) (rr : Int32) (ds_z : Nat → Int32) (rc_z : Nat → Int32) (hm : mX0_spread ds rc vk x1 x2 = (some (rr, ds_z, rc_z))) : Mn l yX0_spread wsX0_spread ({ frames := 4, cells := 0, slots := 0, locals := 88 } : Room) Γ [.ref q_fd, .ref q_fl, .int x1, .int x2] (wFinder Γ q_fd q_ds q_rc ds rc ++ wFloor Γ q_fl q_k q_c q_a q_pa q_b q_pb vi vj vk vc va vpa vb vpb) (some (.int rr)) (wFinder Γ q_fd q_ds q_rc ds_z rc_z ++ wFloor Γ q_fl q_k q_c q_a q_pa q_b q_pb vi vj vk vc va vpa vb vpb) := by
  intro sz
  refine Met.ofW (cc := cX0_spread) (maxL := 9) (ret := (some .int)) (by decide) rfl ?_
  intro p e s m args below meth c s₁ B hml hv
  obtain ⟨rfl, hsz, hP, hK, hD0⟩ := hv
  have hx := B.exec
  have hb := B.bytes
  have hr := B.returns
  have hts := atoms_spec (ws := wsX0_spread) B.pre
  have hown : s.vm.findClass RX0 = some m.cls := findClass_of_methodNamed B.named
  have hlocks := B.notSynchronized
  have hinX0 : ∀ w ∈ u_ws RX0 TX0 2, w ∈ wsX0_spread := fun w h => List.mem_cons_of_mem _ (List.mem_append_left _ (List.mem_append_right _ h))
  have hinX1 : ∀ w ∈ u_ws RX1 TX1 12, w ∈ wsX0_spread := fun w h => List.mem_cons_of_mem _ (List.mem_append_right _ h)
  subst hsz
  have hD := hD0.self (sz := s.heap.size)
  have hA : ∀ q : Nat, s.heap.size ≤ q → va_A (wFinder Γ q_fd q_ds q_rc ds rc ++ wFloor Γ q_fl q_k q_c q_a q_pa q_b q_pb vi vj vk vc va vpa vb vpb) s.heap.size q := fun q h => Or.inr h
  generalize va_A (wFinder Γ q_fd q_ds q_rc ds rc ++ wFloor Γ q_fl q_k q_c q_a q_pa q_b q_pb vi vj vk vc va vpa vb vpb) s.heap.size = A at hD hA ⊢
  have hS : va_S A s.heap s.heap [] := va_S.rf
  have hl := lv_entry ([.ref q_fd, .ref q_fl, .int x1, .int x2]) (n := 9) (Nat.le_of_ble_eq_true rfl)
  rw [lg_entry_eq]
  generalize (lg_sl ([.ref q_fd, .ref q_fl, .int x1, .int x2]) ++ List.replicate (9 - (lg_sl ([.ref q_fd, .ref q_fl, .int x1, .int x2])).length) Slot.unset).toArray = ls at hl ⊢
  replace hl : lv_has ls 9 [(0, .ref q_fd), (1, .ref q_fl), (2, .int x1), (3, .int x2)] := hl
  have J_121 : ∀ (k23 : (Nat → Int32) → (Nat → Int32) → (Nat → Int32) → Int32 → Int32 → Int32 → Option (Int32 × (Nat → Int32) × (Nat → Int32))), (∀ (ds : Nat → Int32) (rc : Nat → Int32) (vk : Nat → Int32) (l3 : Int32) (l4 : Int32) (l5 : Int32) (H : Heap) (locs : List Loc) (ls : Array Slot), va_P (my_D Γ) vwCl (wFinder Γ q_fd q_ds q_rc ds rc ++ wFloor Γ q_fl q_k q_c q_a q_pa q_b q_pb vi vj vk vc va vpa vb vpb) H → va_D A (wFinder Γ q_fd q_ds q_rc ds rc ++ wFloor Γ q_fl q_k q_c q_a q_pa q_b q_pb vi vj vk vc va vpa vb vpb) → va_S A s.heap H locs → lv_has ls 9 [(0, .ref q_fd), (1, .ref q_fl), (3, .int l3), (4, .int l4), (5, .int l5)] → k23 ds rc vk l3 l4 l5 = (some (rr, ds_z, rc_z)) → W p l e (headSpec wsX0_spread ({ frames := 4, cells := 0, slots := 0, locals := 88 } : Room)).room s m ([.ref q_fd, .ref q_fl, .int x1, .int x2] : List Value).toArray below meth c H locs 0 0 (MQ below (my_Q Γ A (some (.int rr)) (wFinder Γ q_fd q_ds q_rc ds_z rc_z ++ wFloor Γ q_fl q_k q_c q_a q_pa q_b q_pb vi vj vk vc va vpa vb vpb)) ([.ref q_fd, .ref q_fl, .int x1, .int x2] : List Value).toArray s 0 0 A) (F0 m 23 ls [])) → ∀ (k52 : (Nat → Int32) → (Nat → Int32) → (Nat → Int32) → Int32 → Int32 → Int32 → Int32 → Int32 → Option (Int32 × (Nat → Int32) × (Nat → Int32))), (∀ (ds : Nat → Int32) (rc : Nat → Int32) (vk : Nat → Int32) (l3 : Int32) (l4 : Int32) (l5 : Int32) (l6 : Int32) (l7 : Int32) (H : Heap) (locs : List Loc) (ls : Array Slot), va_P (my_D Γ) vwCl (wFinder Γ q_fd q_ds q_rc ds rc ++ wFloor Γ q_fl q_k q_c q_a q_pa q_b q_pb vi vj vk vc va vpa vb vpb) H → va_D A (wFinder Γ q_fd q_ds q_rc ds rc ++ wFloor Γ q_fl q_k q_c q_a q_pa q_b q_pb vi vj vk vc va vpa vb vpb) → va_S A s.heap H locs → lv_has ls 9 [(0, .ref q_fd), (1, .ref q_fl), (3, .int l3), (4, .int l4), (5, .int l5), (6, .int l6), (7, .int l7)] → k52 ds rc vk l3 l4 l5 l6 l7 = (some (rr, ds_z, rc_z)) → W p l e (headSpec wsX0_spread ({ frames := 4, cells := 0, slots := 0, locals := 88 } : Room)).room s m ([.ref q_fd, .ref q_fl, .int x1, .int x2] : List Value).toArray below meth c H locs 0 0 (MQ below (my_Q Γ A (some (.int rr)) (wFinder Γ q_fd q_ds q_rc ds_z rc_z ++ wFloor Γ q_fl q_k q_c q_a q_pa q_b q_pb vi vj vk vc va vpa vb vpb)) ([.ref q_fd, .ref q_fl, .int x1, .int x2] : List Value).toArray s 0 0 A) (F0 m 52 ls [])) → ∀ (ds : Nat → Int32) (rc : Nat → Int32) (vk : Nat → Int32) (l3 : Int32) (l4 : Int32) (l5 : Int32) (l6 : Int32) (l7 : Int32) (H : Heap) (locs : List Loc) (ls : Array Slot), va_P (my_D Γ) vwCl (wFinder Γ q_fd q_ds q_rc ds rc ++ wFloor Γ q_fl q_k q_c q_a q_pa q_b q_pb vi vj vk vc va vpa vb vpb) H → va_D A (wFinder Γ q_fd q_ds q_rc ds rc ++ wFloor Γ q_fl q_k q_c q_a q_pa q_b q_pb vi vj vk vc va vpa vb vpb) → va_S A s.heap H locs → lv_has ls 9 [(0, .ref q_fd), (1, .ref q_fl), (3, .int l3), (4, .int l4), (5, .int l5), (6, .int l6), (7, .int l7)] → mX0_spread_J121 k23 k52 ds rc vk l3 l4 l5 l6 l7 = (some (rr, ds_z, rc_z)) → W p l e (headSpec wsX0_spread ({ frames := 4, cells := 0, slots := 0, locals := 88 } : Room)).room s m ([.ref q_fd, .ref q_fl, .int x1, .int x2] : List Value).toArray below meth c H locs 0 0 (MQ below (my_Q Γ A (some (.int rr)) (wFinder Γ q_fd q_ds q_rc ds_z rc_z ++ wFloor Γ q_fl q_k q_c q_a q_pa q_b q_pb vi vj vk vc va vpa vb vpb)) ([.ref q_fd, .ref q_fl, .int x1, .int x2] : List Value).toArray s 0 0 A) (F0 m 121 ls []) := by
    intro k23 hk23 k52 hk52 ds rc vk l3 l4 l5 l6 l7 H locs ls hP hD hS hl hm
    unfold mX0_spread_J121 at hm
    refine lv_iinc (v := (l7 + (1 : Int32))) (lv' := [(7, .int (l7 + (1 : Int32))), (0, .ref q_fd), (1, .ref q_fl), (3, .int l3), (4, .int l4), (5, .int l5), (6, .int l6)]) hx hb dX0_spread_121 hl (k := 6) rfl rfl (by decide) rfl (fun ls hl => ?_)
    refine lv_goto (tgt := 52) hx hb dX0_spread_124 (by decide) ?_
    exact hk52 ds rc vk l3 l4 l5 l6 (l7 + (1 : Int32)) _ _ _ hP hD hS (lv_sub hl [1, 2, 3, 4, 5, 6, 0] rfl) hm
  have J_52 : ∀ (k23 : (Nat → Int32) → (Nat → Int32) → (Nat → Int32) → Int32 → Int32 → Int32 → Option (Int32 × (Nat → Int32) × (Nat → Int32))), (∀ (ds : Nat → Int32) (rc : Nat → Int32) (vk : Nat → Int32) (l3 : Int32) (l4 : Int32) (l5 : Int32) (H : Heap) (locs : List Loc) (ls : Array Slot), va_P (my_D Γ) vwCl (wFinder Γ q_fd q_ds q_rc ds rc ++ wFloor Γ q_fl q_k q_c q_a q_pa q_b q_pb vi vj vk vc va vpa vb vpb) H → va_D A (wFinder Γ q_fd q_ds q_rc ds rc ++ wFloor Γ q_fl q_k q_c q_a q_pa q_b q_pb vi vj vk vc va vpa vb vpb) → va_S A s.heap H locs → lv_has ls 9 [(0, .ref q_fd), (1, .ref q_fl), (3, .int l3), (4, .int l4), (5, .int l5)] → k23 ds rc vk l3 l4 l5 = (some (rr, ds_z, rc_z)) → W p l e (headSpec wsX0_spread ({ frames := 4, cells := 0, slots := 0, locals := 88 } : Room)).room s m ([.ref q_fd, .ref q_fl, .int x1, .int x2] : List Value).toArray below meth c H locs 0 0 (MQ below (my_Q Γ A (some (.int rr)) (wFinder Γ q_fd q_ds q_rc ds_z rc_z ++ wFloor Γ q_fl q_k q_c q_a q_pa q_b q_pb vi vj vk vc va vpa vb vpb)) ([.ref q_fd, .ref q_fl, .int x1, .int x2] : List Value).toArray s 0 0 A) (F0 m 23 ls [])) → ∀ n : Nat, ∀ (ds : Nat → Int32) (rc : Nat → Int32) (vk : Nat → Int32) (l3 : Int32) (l4 : Int32) (l5 : Int32) (l6 : Int32) (l7 : Int32) (H : Heap) (locs : List Loc) (ls : Array Slot), va_P (my_D Γ) vwCl (wFinder Γ q_fd q_ds q_rc ds rc ++ wFloor Γ q_fl q_k q_c q_a q_pa q_b q_pb vi vj vk vc va vpa vb vpb) H → va_D A (wFinder Γ q_fd q_ds q_rc ds rc ++ wFloor Γ q_fl q_k q_c q_a q_pa q_b q_pb vi vj vk vc va vpa vb vpb) → va_S A s.heap H locs → lv_has ls 9 [(0, .ref q_fd), (1, .ref q_fl), (3, .int l3), (4, .int l4), (5, .int l5), (6, .int l6), (7, .int l7)] → mX0_spread_L52 k23 n ds rc vk l3 l4 l5 l6 l7 = (some (rr, ds_z, rc_z)) → W p l e (headSpec wsX0_spread ({ frames := 4, cells := 0, slots := 0, locals := 88 } : Room)).room s m ([.ref q_fd, .ref q_fl, .int x1, .int x2] : List Value).toArray below meth c H locs 0 0 (MQ below (my_Q Γ A (some (.int rr)) (wFinder Γ q_fd q_ds q_rc ds_z rc_z ++ wFloor Γ q_fl q_k q_c q_a q_pa q_b q_pb vi vj vk vc va vpa vb vpb)) ([.ref q_fd, .ref q_fl, .int x1, .int x2] : List Value).toArray s 0 0 A) (F0 m 52 ls []) := by
    intro k23 hk23 n
    induction n with
    | zero => intro ds rc vk l3 l4 l5 l6 l7 H locs ls hP hD hS hl hm; cases hm
    | succ n ih =>
      intro ds rc vk l3 l4 l5 l6 l7 H locs ls hP hD hS hl hm
      unfold mX0_spread_L52 at hm
      refine lv_iload hx hb dX0_spread_52 (lv_at hl 6 rfl) ?_
      refine lv_iconst (v := (4 : Int32)) hx hb dX0_spread_54 (by decide) ?_
      refine lv_icmp_gt (tgt := 127) hx hb dX0_spread_55 (by decide) (fun c_12 => ?_) (fun c_12 => ?_)
      · replace hm := if_s hm c_12
        refine lv_iinc (v := (l5 + (1 : Int32))) (lv' := [(5, .int (l5 + (1 : Int32))), (0, .ref q_fd), (1, .ref q_fl), (3, .int l3), (4, .int l4), (6, .int l6), (7, .int l7)]) hx hb dX0_spread_127 hl (k := 4) rfl rfl (by decide) rfl (fun ls hl => ?_)
        refine lv_goto (tgt := 23) hx hb dX0_spread_130 (by decide) ?_
        exact hk23 ds rc vk l3 l4 (l5 + (1 : Int32)) _ _ _ hP hD hS (lv_sub hl [1, 2, 3, 4, 0] rfl) hm
      · replace hm := if_f hm c_12
        refine lv_aload_n hx hb dX0_spread_58 rfl (lv_at hl 1 rfl) ?_
        refine lv_iload hx hb dX0_spread_59 (lv_at hl 5 rfl) ?_
        refine lv_iload hx hb dX0_spread_61 (lv_at hl 6 rfl) ?_
        refine my_call1 (wc := (wFloor Γ q_fl q_k q_c q_a q_pa q_b q_pb vi vj vk vc va vpa vb vpb)) (w1 := (wFloor Γ q_fl q_k q_c q_a q_pa q_b q_pb vi vj vk vc va vpa vb vpb)) (ws1 := (wFinder Γ q_fd q_ds q_rc ds rc ++ wFloor Γ q_fl q_k q_c q_a q_pa q_b q_pb vi vj vk vc va vpa vb vpb)) hP hD hS hA [3, 4, 5, 6, 7, 8, 9] rfl rfl rfl (va_runS (As := [.ref q_fl, .int l6, .int l7]) (rest := []) ⟨hx, hb, hml, hown, hts⟩ (kX0_standAfter l Γ q_fl q_k q_c q_a q_pa q_b q_pb vi vj vk vc va vpa vb vpb l6 l7 (mX0_standAfter vk l6 l7) rfl _) (va_cwS 3 hts gX0_spread_X0_standAfter rfl rfl rfl (by decide +kernel) ⟨Nat.le_of_ble_eq_true rfl, Nat.le_of_ble_eq_true rfl⟩) (my_preS (wc := (wFloor Γ q_fl q_k q_c q_a q_pa q_b q_pb vi vj vk vc va vpa vb vpb)) [3, 4, 5, 6, 7, 8, 9] hK hP hD rfl rfl) rfl rfl hl.1 rfl (lv_room (Nat.le_of_ble_eq_true rfl)) dX0_spread_63 ⟨Nat.le_of_ble_eq_true rfl, Nat.le_of_ble_eq_true rfl⟩) (fun H locs hP hD hS => ?_)
        refine lv_istore (lv' := [(8, .int (mX0_standAfter vk l6 l7)), (0, .ref q_fd), (1, .ref q_fl), (3, .int l3), (4, .int l4), (5, .int l5), (6, .int l6), (7, .int l7)]) hx hb dX0_spread_66 hl (by decide) rfl (fun ls hl => ?_)
        refine lv_iload hx hb dX0_spread_68 (lv_at hl 0 rfl) ?_
        refine lv_iconst (v := (-1 : Int32)) hx hb dX0_spread_70 (by decide) ?_
        refine lv_icmp_eq (tgt := 121) hx hb dX0_spread_71 (by decide) (fun c_13 => ?_) (fun c_13 => ?_)
        · replace hm := if_s hm c_13
          exact J_121 k23 hk23 (fun ds rc vk l3 l4 l5 l6 l7 => mX0_spread_L52 k23 n ds rc vk l3 l4 l5 l6 l7) ih ds rc vk l3 l4 l5 l6 l7 _ _ _ hP hD hS (lv_sub hl [1, 2, 3, 4, 5, 6, 7] rfl) hm
        · replace hm := if_f hm c_13
          refine lv_aload_n hx hb dX0_spread_74 rfl (lv_at hl 1 rfl) ?_
          refine lv_iload hx hb dX0_spread_75 (lv_at hl 0 rfl) ?_
          refine my_call1 (wc := (wFinder Γ q_fd q_ds q_rc ds rc)) (w1 := (wFinder Γ q_fd q_ds q_rc ds rc)) (ws1 := (wFinder Γ q_fd q_ds q_rc ds rc ++ wFloor Γ q_fl q_k q_c q_a q_pa q_b q_pb vi vj vk vc va vpa vb vpb)) hP hD hS hA [0, 1, 2] rfl rfl rfl (va_runV (As := [.int (mX0_standAfter vk l6 l7)]) (rest := []) ⟨hx, hb, hml, hown, hts⟩ (kX0_distance l Γ q_fd q_ds q_rc ds rc (mX0_standAfter vk l6 l7) (mX0_distance ds (mX0_standAfter vk l6 l7)) rfl _) (cwV 1 hts gX0_spread_X0_distance rfl rfl rfl (by decide +kernel) ⟨Nat.le_of_ble_eq_true rfl, Nat.le_of_ble_eq_true rfl⟩) (my_preV (wc := (wFinder Γ q_fd q_ds q_rc ds rc)) (ci := 0) (q0 := 0) [0, 1, 2] hK hP hD rfl rfl rfl rfl) rfl rfl hl.1 rfl (lv_room (Nat.le_of_ble_eq_true rfl)) dX0_spread_77 ⟨Nat.le_of_ble_eq_true rfl, Nat.le_of_ble_eq_true rfl⟩) (fun H locs hP hD hS => ?_)
          refine lv_ldc (v := (1000000 : Int32)) hx hb hown (hts (.constant RX0 33 (1000000)) (List.mem_of_getElem? (i := 2) rfl)) dX0_spread_80 ?_
          refine lv_icmp_ne (tgt := 121) hx hb dX0_spread_82 (by decide) (fun c_14 => ?_) (fun c_14 => ?_)
          · replace hm := if_f hm c_14
            exact J_121 k23 hk23 (fun ds rc vk l3 l4 l5 l6 l7 => mX0_spread_L52 k23 n ds rc vk l3 l4 l5 l6 l7) ih ds rc vk l3 l4 l5 l6 l7 _ _ _ hP hD hS (lv_sub hl [1, 2, 3, 4, 5, 6, 7] rfl) hm
          · replace hm := if_s hm c_14
            refine lv_iload hx hb dX0_spread_85 (lv_at hl 4 rfl) ?_
            refine lv_aload_n hx hb dX0_spread_87 rfl (lv_at hl 1 rfl) ?_
            refine va_get (D := my_D Γ) (ci := 0) (v := .ref q_rc) (C := RX0) (T := TX0) (N := 2) hx hb hts hinX0 hown hK hP 0 rfl rfl 1 (by decide) (hts (.fieldLink RX0 15 "BeltFloor$Finder" "reached" "[I") (List.mem_of_getElem? (i := 1) rfl)) (fun _ h9 => h9) rfl dX0_spread_88 ?_
            refine va_alen hx hb hK hP 2 0 rfl rfl (v := (144 : Int32)) rfl dX0_spread_91 ?_
            refine lv_icmp_ge (tgt := 121) hx hb dX0_spread_92 (by decide) (fun c_15 => ?_) (fun c_15 => ?_)
            · replace hm := if_s hm c_15
              exact J_121 k23 hk23 (fun ds rc vk l3 l4 l5 l6 l7 => mX0_spread_L52 k23 n ds rc vk l3 l4 l5 l6 l7) ih ds rc vk l3 l4 l5 l6 l7 _ _ _ hP hD hS (lv_sub hl [1, 2, 3, 4, 5, 6, 7] rfl) hm
            · replace hm := if_f hm c_15
              refine lv_aload_n hx hb dX0_spread_95 rfl (lv_at hl 1 rfl) ?_
              refine lv_iload hx hb dX0_spread_96 (lv_at hl 0 rfl) ?_
              refine lv_aload_n hx hb dX0_spread_98 rfl (lv_at hl 1 rfl) ?_
              refine lv_iload hx hb dX0_spread_99 (lv_at hl 6 rfl) ?_
              refine my_call1 (wc := (wFinder Γ q_fd q_ds q_rc ds rc)) (w1 := (wFinder Γ q_fd q_ds q_rc ds rc)) (ws1 := (wFinder Γ q_fd q_ds q_rc ds rc ++ wFloor Γ q_fl q_k q_c q_a q_pa q_b q_pb vi vj vk vc va vpa vb vpb)) hP hD hS hA [0, 1, 2] rfl rfl rfl (va_runV (As := [.int l6]) (rest := [.int (mX0_standAfter vk l6 l7), .ref q_fd]) ⟨hx, hb, hml, hown, hts⟩ (kX0_distance l Γ q_fd q_ds q_rc ds rc l6 (mX0_distance ds l6) rfl _) (cwV 1 hts gX0_spread_X0_distance rfl rfl rfl (by decide +kernel) ⟨Nat.le_of_ble_eq_true rfl, Nat.le_of_ble_eq_true rfl⟩) (my_preV (wc := (wFinder Γ q_fd q_ds q_rc ds rc)) (ci := 0) (q0 := 0) [0, 1, 2] hK hP hD rfl rfl rfl rfl) rfl rfl hl.1 rfl (lv_room (Nat.le_of_ble_eq_true rfl)) dX0_spread_101 ⟨Nat.le_of_ble_eq_true rfl, Nat.le_of_ble_eq_true rfl⟩) (fun H locs hP hD hS => ?_)
              refine lv_iconst (v := (1 : Int32)) hx hb dX0_spread_104 (by decide) ?_
              refine lv_iadd hx hb dX0_spread_105 ?_
              obtain ⟨ds_16, hc_17, hm⟩ := bt1_s hm
              refine my_call0 (wc := (wFinder Γ q_fd q_ds q_rc ds rc)) (w1 := (wFinder Γ q_fd q_ds q_rc ds_16 rc)) (ws1 := (wFinder Γ q_fd q_ds q_rc ds_16 rc ++ wFloor Γ q_fl q_k q_c q_a q_pa q_b q_pb vi vj vk vc va vpa vb vpb)) hP hD hS hA [0, 1, 2] rfl rfl rfl (va_runV (As := [.int (mX0_standAfter vk l6 l7), .int ((mX0_distance ds l6) + (1 : Int32))]) (rest := []) ⟨hx, hb, hml, hown, hts⟩ (kX0_setDistance l Γ q_fd q_ds q_rc ds rc (mX0_standAfter vk l6 l7) ((mX0_distance ds l6) + (1 : Int32)) ds_16 hc_17 _) (cwV 2 hts gX0_spread_X0_setDistance rfl rfl rfl (by decide +kernel) ⟨Nat.le_of_ble_eq_true rfl, Nat.le_of_ble_eq_true rfl⟩) (my_preV (wc := (wFinder Γ q_fd q_ds q_rc ds rc)) (ci := 0) (q0 := 0) [0, 1, 2] hK hP hD rfl rfl rfl rfl) rfl rfl hl.1 rfl (lv_room (Nat.le_of_ble_eq_true rfl)) dX0_spread_106 ⟨Nat.le_of_ble_eq_true rfl, Nat.le_of_ble_eq_true rfl⟩) (fun H locs hP hD hS => ?_)
              refine lv_aload_n hx hb dX0_spread_109 rfl (lv_at hl 1 rfl) ?_
              refine va_get (D := my_D Γ) (ci := 0) (v := .ref q_rc) (C := RX0) (T := TX0) (N := 2) hx hb hts hinX0 hown hK hP 0 rfl rfl 1 (by decide) (hts (.fieldLink RX0 15 "BeltFloor$Finder" "reached" "[I") (List.mem_of_getElem? (i := 1) rfl)) (fun _ h9 => h9) rfl dX0_spread_110 ?_
              refine lv_iload hx hb dX0_spread_113 (lv_at hl 4 rfl) ?_
              refine lv_iload hx hb dX0_spread_115 (lv_at hl 0 rfl) ?_
              obtain ⟨hi_18, hm⟩ := if_in hm
              refine lv_topi (fun y_19 ey_19 => ?_)
              refine va_iast hx hb hK hP hD hS 2 0 rfl rfl hi_18 dX0_spread_117 (fun H locs hP hD hS => ?_)
              replace hP : va_P (my_D Γ) vwCl (wFinder Γ q_fd q_ds q_rc ds_16 (upd rc l4.toNatClampNeg y_19) ++ wFloor Γ q_fl q_k q_c q_a q_pa q_b q_pb vi vj vk vc va vpa vb vpb) H := hP
              replace hD : va_D A (wFinder Γ q_fd q_ds q_rc ds_16 (upd rc l4.toNatClampNeg y_19) ++ wFloor Γ q_fl q_k q_c q_a q_pa q_b q_pb vi vj vk vc va vpa vb vpb) := hD
              subst ey_19
              refine lv_iinc (v := (l4 + (1 : Int32))) (lv' := [(4, .int (l4 + (1 : Int32))), (8, .int (mX0_standAfter vk l6 l7)), (0, .ref q_fd), (1, .ref q_fl), (3, .int l3), (5, .int l5), (6, .int l6), (7, .int l7)]) hx hb dX0_spread_118 hl (k := 4) rfl rfl (by decide) rfl (fun ls hl => ?_)
              exact J_121 k23 hk23 (fun ds rc vk l3 l4 l5 l6 l7 => mX0_spread_L52 k23 n ds rc vk l3 l4 l5 l6 l7) ih ds_16 (upd rc l4.toNatClampNeg (mX0_standAfter vk l6 l7)) vk l3 (l4 + (1 : Int32)) l5 l6 l7 _ _ _ hP hD hS (lv_sub hl [2, 3, 4, 0, 5, 6, 7] rfl) hm
  have J_23 : ∀ n : Nat, ∀ (ds : Nat → Int32) (rc : Nat → Int32) (vk : Nat → Int32) (l3 : Int32) (l4 : Int32) (l5 : Int32) (H : Heap) (locs : List Loc) (ls : Array Slot), va_P (my_D Γ) vwCl (wFinder Γ q_fd q_ds q_rc ds rc ++ wFloor Γ q_fl q_k q_c q_a q_pa q_b q_pb vi vj vk vc va vpa vb vpb) H → va_D A (wFinder Γ q_fd q_ds q_rc ds rc ++ wFloor Γ q_fl q_k q_c q_a q_pa q_b q_pb vi vj vk vc va vpa vb vpb) → va_S A s.heap H locs → lv_has ls 9 [(0, .ref q_fd), (1, .ref q_fl), (3, .int l3), (4, .int l4), (5, .int l5)] → mX0_spread_L23 n ds rc vk l3 l4 l5 = (some (rr, ds_z, rc_z)) → W p l e (headSpec wsX0_spread ({ frames := 4, cells := 0, slots := 0, locals := 88 } : Room)).room s m ([.ref q_fd, .ref q_fl, .int x1, .int x2] : List Value).toArray below meth c H locs 0 0 (MQ below (my_Q Γ A (some (.int rr)) (wFinder Γ q_fd q_ds q_rc ds_z rc_z ++ wFloor Γ q_fl q_k q_c q_a q_pa q_b q_pb vi vj vk vc va vpa vb vpb)) ([.ref q_fd, .ref q_fl, .int x1, .int x2] : List Value).toArray s 0 0 A) (F0 m 23 ls []) := by
    intro  n
    induction n with
    | zero => intro ds rc vk l3 l4 l5 H locs ls hP hD hS hl hm; cases hm
    | succ n ih =>
      intro ds rc vk l3 l4 l5 H locs ls hP hD hS hl hm
      unfold mX0_spread_L23 at hm
      refine lv_iload hx hb dX0_spread_23 (lv_at hl 4 rfl) ?_
      refine lv_iload hx hb dX0_spread_25 (lv_at hl 3 rfl) ?_
      refine lv_icmp_ge (tgt := 133) hx hb dX0_spread_27 (by decide) (fun c_5 => ?_) (fun c_5 => ?_)
      · replace hm := if_s hm c_5
        refine lv_aload_n hx hb dX0_spread_133 rfl (lv_at hl 0 rfl) ?_
        refine lv_iload_n hx hb dX0_spread_134 rfl (lv_at hl 2 rfl) ?_
        obtain ⟨r_6, hc_7, hm⟩ := bo1_s hm
        refine my_call1 (wc := (wFinder Γ q_fd q_ds q_rc ds rc)) (w1 := (wFinder Γ q_fd q_ds q_rc ds rc)) (ws1 := (wFinder Γ q_fd q_ds q_rc ds rc ++ wFloor Γ q_fl q_k q_c q_a q_pa q_b q_pb vi vj vk vc va vpa vb vpb)) hP hD hS hA [0, 1, 2] rfl rfl rfl (va_runV (As := [.int l3]) (rest := []) ⟨hx, hb, hml, hown, hts⟩ (kX0_leastDistance l Γ q_fd q_ds q_rc ds rc l3 r_6 hc_7 _) (cwV 1 hts gX0_spread_X0_leastDistance rfl rfl rfl (by decide +kernel) ⟨Nat.le_of_ble_eq_true rfl, Nat.le_of_ble_eq_true rfl⟩) (my_preV (wc := (wFinder Γ q_fd q_ds q_rc ds rc)) (ci := 0) (q0 := 0) [0, 1, 2] hK hP hD rfl rfl rfl rfl) rfl rfl hl.1 rfl (lv_room (Nat.le_of_ble_eq_true rfl)) dX0_spread_135 ⟨Nat.le_of_ble_eq_true rfl, Nat.le_of_ble_eq_true rfl⟩) (fun H locs hP hD hS => ?_)
        obtain ⟨hf0, hf1, hf2⟩ := si3 hm
        subst hf0
        subst hf1
        subst hf2
        exact W.iret (v := r_6) hx hb hr (fun t ht hW => ⟨⟨rfl, by rw [ht]; exact hP⟩, hS.F ht⟩) hS.2.2 dX0_spread_138
      · replace hm := if_f hm c_5
        refine lv_iload hx hb dX0_spread_30 (lv_at hl 4 rfl) ?_
        refine lv_aload_n hx hb dX0_spread_32 rfl (lv_at hl 0 rfl) ?_
        refine va_get (D := my_D Γ) (ci := 0) (v := .ref q_rc) (C := RX0) (T := TX0) (N := 2) hx hb hts hinX0 hown hK hP 0 rfl rfl 1 (by decide) (hts (.fieldLink RX0 15 "BeltFloor$Finder" "reached" "[I") (List.mem_of_getElem? (i := 1) rfl)) (fun _ h9 => h9) rfl dX0_spread_33 ?_
        refine va_alen hx hb hK hP 2 0 rfl rfl (v := (144 : Int32)) rfl dX0_spread_36 ?_
        refine lv_icmp_ge (tgt := 133) hx hb dX0_spread_37 (by decide) (fun c_8 => ?_) (fun c_8 => ?_)
        · replace hm := if_s hm c_8
          refine lv_aload_n hx hb dX0_spread_133 rfl (lv_at hl 0 rfl) ?_
          refine lv_iload_n hx hb dX0_spread_134 rfl (lv_at hl 2 rfl) ?_
          obtain ⟨r_9, hc_10, hm⟩ := bo1_s hm
          refine my_call1 (wc := (wFinder Γ q_fd q_ds q_rc ds rc)) (w1 := (wFinder Γ q_fd q_ds q_rc ds rc)) (ws1 := (wFinder Γ q_fd q_ds q_rc ds rc ++ wFloor Γ q_fl q_k q_c q_a q_pa q_b q_pb vi vj vk vc va vpa vb vpb)) hP hD hS hA [0, 1, 2] rfl rfl rfl (va_runV (As := [.int l3]) (rest := []) ⟨hx, hb, hml, hown, hts⟩ (kX0_leastDistance l Γ q_fd q_ds q_rc ds rc l3 r_9 hc_10 _) (cwV 1 hts gX0_spread_X0_leastDistance rfl rfl rfl (by decide +kernel) ⟨Nat.le_of_ble_eq_true rfl, Nat.le_of_ble_eq_true rfl⟩) (my_preV (wc := (wFinder Γ q_fd q_ds q_rc ds rc)) (ci := 0) (q0 := 0) [0, 1, 2] hK hP hD rfl rfl rfl rfl) rfl rfl hl.1 rfl (lv_room (Nat.le_of_ble_eq_true rfl)) dX0_spread_135 ⟨Nat.le_of_ble_eq_true rfl, Nat.le_of_ble_eq_true rfl⟩) (fun H locs hP hD hS => ?_)
          obtain ⟨hf0, hf1, hf2⟩ := si3 hm
          subst hf0
          subst hf1
          subst hf2
          exact W.iret (v := r_9) hx hb hr (fun t ht hW => ⟨⟨rfl, by rw [ht]; exact hP⟩, hS.F ht⟩) hS.2.2 dX0_spread_138
        · replace hm := if_f hm c_8
          refine lv_aload_n hx hb dX0_spread_40 rfl (lv_at hl 0 rfl) ?_
          refine va_get (D := my_D Γ) (ci := 0) (v := .ref q_rc) (C := RX0) (T := TX0) (N := 2) hx hb hts hinX0 hown hK hP 0 rfl rfl 1 (by decide) (hts (.fieldLink RX0 15 "BeltFloor$Finder" "reached" "[I") (List.mem_of_getElem? (i := 1) rfl)) (fun _ h9 => h9) rfl dX0_spread_41 ?_
          refine lv_iload hx hb dX0_spread_44 (lv_at hl 4 rfl) ?_
          obtain ⟨hi_11, hm⟩ := if_in hm
          refine va_iald hx hb hK hP 2 0 rfl rfl hi_11 dX0_spread_46 ?_
          refine lv_istore (lv' := [(6, .int (rc l5.toNatClampNeg)), (0, .ref q_fd), (1, .ref q_fl), (3, .int l3), (4, .int l4), (5, .int l5)]) hx hb dX0_spread_47 hl (by decide) rfl (fun ls hl => ?_)
          refine lv_iconst (v := (0 : Int32)) hx hb dX0_spread_49 (by decide) ?_
          refine lv_istore (lv' := [(7, .int (0 : Int32)), (6, .int (rc l5.toNatClampNeg)), (0, .ref q_fd), (1, .ref q_fl), (3, .int l3), (4, .int l4), (5, .int l5)]) hx hb dX0_spread_50 hl (by decide) rfl (fun ls hl => ?_)
          exact J_52 (fun ds rc vk l3 l4 l5 => mX0_spread_L23 n ds rc vk l3 l4 l5) ih 4096 ds rc vk l3 l4 l5 (rc l5.toNatClampNeg) (0 : Int32) _ _ _ hP hD hS (lv_sub hl [2, 3, 4, 5, 6, 1, 0] rfl) hm
  unfold mX0_spread at hm
  refine lv_aload_n hx hb dX0_spread_0 rfl (lv_at hl 0 rfl) ?_
  obtain ⟨ds_1, hc_2, hm⟩ := bo1_s hm
  refine my_call0 (wc := (wFinder Γ q_fd q_ds q_rc ds rc)) (w1 := (wFinder Γ q_fd q_ds q_rc ds_1 rc)) (ws1 := (wFinder Γ q_fd q_ds q_rc ds_1 rc ++ wFloor Γ q_fl q_k q_c q_a q_pa q_b q_pb vi vj vk vc va vpa vb vpb)) hP hD hS hA [0, 1, 2] rfl rfl rfl (va_runV (As := []) (rest := []) ⟨hx, hb, hml, hown, hts⟩ (kX0_forgetDistances l Γ q_fd q_ds q_rc ds rc ds_1 hc_2 _) (cwV 0 hts gX0_spread_X0_forgetDistances rfl rfl rfl (by decide +kernel) ⟨Nat.le_of_ble_eq_true rfl, Nat.le_of_ble_eq_true rfl⟩) (my_preV (wc := (wFinder Γ q_fd q_ds q_rc ds rc)) (ci := 0) (q0 := 0) [0, 1, 2] hK hP hD rfl rfl rfl rfl) rfl rfl hl.1 rfl (lv_room (Nat.le_of_ble_eq_true rfl)) dX0_spread_1 ⟨Nat.le_of_ble_eq_true rfl, Nat.le_of_ble_eq_true rfl⟩) (fun H locs hP hD hS => ?_)
  refine lv_aload_n hx hb dX0_spread_4 rfl (lv_at hl 0 rfl) ?_
  refine lv_iload_n hx hb dX0_spread_5 rfl (lv_at hl 2 rfl) ?_
  refine lv_iconst (v := (0 : Int32)) hx hb dX0_spread_6 (by decide) ?_
  obtain ⟨ds_3, hc_4, hm⟩ := bt1_s hm
  refine my_call0 (wc := (wFinder Γ q_fd q_ds q_rc ds_1 rc)) (w1 := (wFinder Γ q_fd q_ds q_rc ds_3 rc)) (ws1 := (wFinder Γ q_fd q_ds q_rc ds_3 rc ++ wFloor Γ q_fl q_k q_c q_a q_pa q_b q_pb vi vj vk vc va vpa vb vpb)) hP hD hS hA [0, 1, 2] rfl rfl rfl (va_runV (As := [.int x1, .int (0 : Int32)]) (rest := []) ⟨hx, hb, hml, hown, hts⟩ (kX0_setDistance l Γ q_fd q_ds q_rc ds_1 rc x1 (0 : Int32) ds_3 hc_4 _) (cwV 2 hts gX0_spread_X0_setDistance rfl rfl rfl (by decide +kernel) ⟨Nat.le_of_ble_eq_true rfl, Nat.le_of_ble_eq_true rfl⟩) (my_preV (wc := (wFinder Γ q_fd q_ds q_rc ds_1 rc)) (ci := 0) (q0 := 0) [0, 1, 2] hK hP hD rfl rfl rfl rfl) rfl rfl hl.1 rfl (lv_room (Nat.le_of_ble_eq_true rfl)) dX0_spread_7 ⟨Nat.le_of_ble_eq_true rfl, Nat.le_of_ble_eq_true rfl⟩) (fun H locs hP hD hS => ?_)
  refine lv_aload_n hx hb dX0_spread_10 rfl (lv_at hl 0 rfl) ?_
  refine va_get (D := my_D Γ) (ci := 0) (v := .ref q_rc) (C := RX0) (T := TX0) (N := 2) hx hb hts hinX0 hown hK hP 0 rfl rfl 1 (by decide) (hts (.fieldLink RX0 15 "BeltFloor$Finder" "reached" "[I") (List.mem_of_getElem? (i := 1) rfl)) (fun _ h9 => h9) rfl dX0_spread_11 ?_
  refine lv_iconst (v := (0 : Int32)) hx hb dX0_spread_14 (by decide) ?_
  refine lv_iload_n hx hb dX0_spread_15 rfl (lv_at hl 2 rfl) ?_
  refine va_iast hx hb hK hP hD hS 2 0 rfl rfl (show vp_in (0 : Int32) 144 from (by decide : ¬ ((0 : Int32) < 0 ∨ 144 ≤ (0 : Int32).toNatClampNeg))) dX0_spread_16 (fun H locs hP hD hS => ?_)
  replace hP : va_P (my_D Γ) vwCl (wFinder Γ q_fd q_ds q_rc ds_3 (upd rc (0 : Int32).toNatClampNeg x1) ++ wFloor Γ q_fl q_k q_c q_a q_pa q_b q_pb vi vj vk vc va vpa vb vpb) H := hP
  replace hD : va_D A (wFinder Γ q_fd q_ds q_rc ds_3 (upd rc (0 : Int32).toNatClampNeg x1) ++ wFloor Γ q_fl q_k q_c q_a q_pa q_b q_pb vi vj vk vc va vpa vb vpb) := hD
  refine lv_iconst (v := (1 : Int32)) hx hb dX0_spread_17 (by decide) ?_
  refine lv_istore (lv' := [(4, .int (1 : Int32)), (0, .ref q_fd), (1, .ref q_fl), (2, .int x1), (3, .int x2)]) hx hb dX0_spread_18 hl (by decide) rfl (fun ls hl => ?_)
  refine lv_iconst (v := (0 : Int32)) hx hb dX0_spread_20 (by decide) ?_
  refine lv_istore (lv' := [(5, .int (0 : Int32)), (4, .int (1 : Int32)), (0, .ref q_fd), (1, .ref q_fl), (2, .int x1), (3, .int x2)]) hx hb dX0_spread_21 hl (by decide) rfl (fun ls hl => ?_)
  exact J_23 4096 ds_3 (upd rc (0 : Int32).toNatClampNeg x1) vk x2 (1 : Int32) (0 : Int32) _ _ _ hP hD hS (lv_sub hl [2, 3, 5, 1, 0] rfl) hm
