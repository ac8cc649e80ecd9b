def mX8_checkCell (x0 : Int32) : (Unit) ⊕ String := (if x0 < 0 then (Sum.inr "java/lang/IndexOutOfBoundsException") else (if x0 < (36 : Int32) then (Sum.inl ()) else (Sum.inr "java/lang/IndexOutOfBoundsException")))
set_option maxHeartbeats 4000000 in
set_option maxRecDepth 100000 in
theorem kX8_checkCell (l : Launch) (Γ : my_G) (hfl : l.stackTraces = false)   (x0 : Int32) (mr : (Unit) ⊕ String) (hm : mX8_checkCell x0 = mr) : MnX l yX8_checkCell wsX8_checkCell ({ frames := 6, cells := 1, slots := 6, locals := 96 } : Room) Γ [.int x0] ([] : va_W) (my_map (fun q : Unit => (none, ([] : va_W))) mr) 1 6 := by
  intro sz
  refine vx_ofW (cc := cX8_checkCell) (maxL := 1) (ret := none) (by decide) rfl ?_
  intro p e s m args below meth c s₁ B hml htab hv
  obtain ⟨rfl, ⟨hsz, hP, hK, hD0⟩, hZ, hstr⟩ := hv
  have hx := B.exec
  have hb := B.bytes
  have hr := B.returns
  have hts := atoms_spec (ws := wsX8_checkCell) B.pre
  have hown : s.vm.findClass RX8 = some m.cls := findClass_of_methodNamed B.named
  have hlocks := B.notSynchronized
  subst hsz
  have hD := hD0.self (sz := s.heap.size)
  have hA : ∀ q : Nat, s.heap.size ≤ q → va_A ([] : va_W) s.heap.size q := fun q h => Or.inr h
  generalize va_A ([] : va_W) s.heap.size = A at hD hA hZ ⊢
  obtain ⟨W0_, hW0_⟩ : ∃ w : va_W, ([] : va_W) = w := ⟨_, rfl⟩
  rw [show my_XC Γ A ([] : va_W) (my_map (fun q : Unit => (none, ([] : va_W))) mr) = my_XC Γ A W0_ (my_map (fun q : Unit => (none, ([] : va_W))) mr) from congrArg (fun w => my_XC Γ A w (my_map (fun q : Unit => (none, ([] : va_W))) mr)) hW0_]
  have hS : va_S A s.heap s.heap [] := va_S.rf
  have hl := lv_entry ([.int x0]) (n := 1) (Nat.le_of_ble_eq_true rfl)
  rw [lg_entry_eq]
  generalize (lg_sl ([.int x0]) ++ List.replicate (1 - (lg_sl ([.int x0])).length) Slot.unset).toArray = ls at hl ⊢
  replace hl : lv_has ls 1 [(0, .int x0)] := hl
  unfold mX8_checkCell at hm
  refine lv_iload_n hx hb dX8_checkCell_0 rfl (lv_at hl 0 rfl) ?_
  refine lv_if_lt (tgt := 10) hx hb dX8_checkCell_1 (by decide) (fun c_1 => ?_) (fun c_1 => ?_)
  · replace hm := if_s hm c_1
    obtain ⟨sa_, hsa_⟩ := hstr.1 (322, "no such cell") (List.mem_of_getElem? (i := 15) rfl)
    cases hm
    exact vx_throwSW (cls := "java/lang/IndexOutOfBoundsException") (names := ["java/lang/RuntimeException", "java/lang/Exception"]) hx hb hfl hown my_fitB my_fitN (hts (.classLink RX8 132 "java/lang/IndexOutOfBoundsException") (List.mem_of_getElem? (i := 1) rfl)) (hts (.initialized "java/lang/IndexOutOfBoundsException") (List.mem_of_getElem? (i := 2) rfl)) hsa_ (vx_hat (fun w h => hts w (List.mem_cons_of_mem _ (List.mem_append_right _ h))) my_ngB (vx_c (va_Nw.use rfl hstr.2.1) (vx_c (va_Nw.use rfl hstr.2.2.2.2.1) (vx_c (va_Nw.use rfl hstr.2.2.2.2.2.1) (vx_c (va_Nw.use rfl hstr.2.2.2.2.2.2) vx_n))))) my_gdB hZ.1 hZ.2 hS (hl.1.trans hml.symm) dX8_checkCell_10 dX8_checkCell_13 dX8_checkCell_14 dX8_checkCell_17 dX8_checkCell_20 (fun x hx9 => absurd (htab x hx9) id) (Nat.le_of_ble_eq_true rfl) (Nat.le_of_ble_eq_true rfl) (Nat.le_of_ble_eq_true rfl) (Nat.le_of_ble_eq_true rfl) hlocks (fun t ha hz hk => ⟨rfl, by rw [← hW0_]; exact my_thr hP hS hz hk⟩) hS.2.2 (Nat.le_of_ble_eq_true rfl) (Nat.le_of_ble_eq_true rfl)
  · replace hm := if_f hm c_1
    refine lv_iload_n hx hb dX8_checkCell_4 rfl (lv_at hl 0 rfl) ?_
    refine lv_bipush (v := (36 : Int32)) hx hb dX8_checkCell_5 (by decide) ?_
    refine lv_icmp_lt (tgt := 21) hx hb dX8_checkCell_7 (by decide) (fun c_2 => ?_) (fun c_2 => ?_)
    · replace hm := if_s hm c_2
      cases hm
      exact vx_ret (W.widen (k := 1) (n := 6) (Nat.le_of_ble_eq_true rfl) (Nat.le_of_ble_eq_true rfl) (W.vret hx hb hr (fun t ht hW => ⟨_, _, rfl, ⟨rfl, by rw [ht]; exact hP⟩, hS.F ht⟩) hS.2.2 dX8_checkCell_21))
    · replace hm := if_f hm c_2
      obtain ⟨sa_, hsa_⟩ := hstr.1 (322, "no such cell") (List.mem_of_getElem? (i := 15) rfl)
      cases hm
      exact vx_throwSW (cls := "java/lang/IndexOutOfBoundsException") (names := ["java/lang/RuntimeException", "java/lang/Exception"]) hx hb hfl hown my_fitB my_fitN (hts (.classLink RX8 132 "java/lang/IndexOutOfBoundsException") (List.mem_of_getElem? (i := 1) rfl)) (hts (.initialized "java/lang/IndexOutOfBoundsException") (List.mem_of_getElem? (i := 2) rfl)) hsa_ (vx_hat (fun w h => hts w (List.mem_cons_of_mem _ (List.mem_append_right _ h))) my_ngB (vx_c (va_Nw.use rfl hstr.2.1) (vx_c (va_Nw.use rfl hstr.2.2.2.2.1) (vx_c (va_Nw.use rfl hstr.2.2.2.2.2.1) (vx_c (va_Nw.use rfl hstr.2.2.2.2.2.2) vx_n))))) my_gdB hZ.1 hZ.2 hS (hl.1.trans hml.symm) dX8_checkCell_10 dX8_checkCell_13 dX8_checkCell_14 dX8_checkCell_17 dX8_checkCell_20 (fun x hx9 => absurd (htab x hx9) id) (Nat.le_of_ble_eq_true rfl) (Nat.le_of_ble_eq_true rfl) (Nat.le_of_ble_eq_true rfl) (Nat.le_of_ble_eq_true rfl) hlocks (fun t ha hz hk => ⟨rfl, by rw [← hW0_]; exact my_thr hP hS hz hk⟩) hS.2.2 (Nat.le_of_ble_eq_true rfl) (Nat.le_of_ble_eq_true rfl)
def mX8_checkRobot (x0 : Int32) : (Unit) ⊕ String := (if x0 < 0 then (Sum.inr "java/lang/IndexOutOfBoundsException") else (if x0 < (2 : Int32) then (Sum.inl ()) else (Sum.inr "java/lang/IndexOutOfBoundsException")))
set_option maxHeartbeats 4000000 in
set_option maxRecDepth 100000 in
theorem kX8_checkRobot (l : Launch) (Γ : my_G) (hfl : l.stackTraces = false)   (x0 : Int32) (mr : (Unit) ⊕ String) (hm : mX8_checkRobot x0 = mr) : MnX l yX8_checkRobot wsX8_checkRobot ({ frames := 6, cells := 1, slots := 6, locals := 96 } : Room) Γ [.int x0] ([] : va_W) (my_map (fun q : Unit => (none, ([] : va_W))) mr) 1 6 := by
  intro sz
  refine vx_ofW (cc := cX8_checkRobot) (maxL := 1) (ret := none) (by decide) rfl ?_
  intro p e s m args below meth c s₁ B hml htab hv
  obtain ⟨rfl, ⟨hsz, hP, hK, hD0⟩, hZ, hstr⟩ := hv
  have hx := B.exec
  have hb := B.bytes
  have hr := B.returns
  have hts := atoms_spec (ws := wsX8_checkRobot) B.pre
  have hown : s.vm.findClass RX8 = some m.cls := findClass_of_methodNamed B.named
  have hlocks := B.notSynchronized
  subst hsz
  have hD := hD0.self (sz := s.heap.size)
  have hA : ∀ q : Nat, s.heap.size ≤ q → va_A ([] : va_W) s.heap.size q := fun q h => Or.inr h
  generalize va_A ([] : va_W) s.heap.size = A at hD hA hZ ⊢
  obtain ⟨W0_, hW0_⟩ : ∃ w : va_W, ([] : va_W) = w := ⟨_, rfl⟩
  rw [show my_XC Γ A ([] : va_W) (my_map (fun q : Unit => (none, ([] : va_W))) mr) = my_XC Γ A W0_ (my_map (fun q : Unit => (none, ([] : va_W))) mr) from congrArg (fun w => my_XC Γ A w (my_map (fun q : Unit => (none, ([] : va_W))) mr)) hW0_]
  have hS : va_S A s.heap s.heap [] := va_S.rf
  have hl := lv_entry ([.int x0]) (n := 1) (Nat.le_of_ble_eq_true rfl)
  rw [lg_entry_eq]
  generalize (lg_sl ([.int x0]) ++ List.replicate (1 - (lg_sl ([.int x0])).length) Slot.unset).toArray = ls at hl ⊢
  replace hl : lv_has ls 1 [(0, .int x0)] := hl
  unfold mX8_checkRobot at hm
  refine lv_iload_n hx hb dX8_checkRobot_0 rfl (lv_at hl 0 rfl) ?_
  refine lv_if_lt (tgt := 9) hx hb dX8_checkRobot_1 (by decide) (fun c_1 => ?_) (fun c_1 => ?_)
  · replace hm := if_s hm c_1
    obtain ⟨sa_, hsa_⟩ := hstr.1 (324, "no such robot") (List.mem_of_getElem? (i := 16) rfl)
    cases hm
    exact vx_throwSW (cls := "java/lang/IndexOutOfBoundsException") (names := ["java/lang/RuntimeException", "java/lang/Exception"]) hx hb hfl hown my_fitB my_fitN (hts (.classLink RX8 132 "java/lang/IndexOutOfBoundsException") (List.mem_of_getElem? (i := 1) rfl)) (hts (.initialized "java/lang/IndexOutOfBoundsException") (List.mem_of_getElem? (i := 2) rfl)) hsa_ (vx_hat (fun w h => hts w (List.mem_cons_of_mem _ (List.mem_append_right _ h))) my_ngB (vx_c (va_Nw.use rfl hstr.2.1) (vx_c (va_Nw.use rfl hstr.2.2.2.2.1) (vx_c (va_Nw.use rfl hstr.2.2.2.2.2.1) (vx_c (va_Nw.use rfl hstr.2.2.2.2.2.2) vx_n))))) my_gdB hZ.1 hZ.2 hS (hl.1.trans hml.symm) dX8_checkRobot_9 dX8_checkRobot_12 dX8_checkRobot_13 dX8_checkRobot_16 dX8_checkRobot_19 (fun x hx9 => absurd (htab x hx9) id) (Nat.le_of_ble_eq_true rfl) (Nat.le_of_ble_eq_true rfl) (Nat.le_of_ble_eq_true rfl) (Nat.le_of_ble_eq_true rfl) hlocks (fun t ha hz hk => ⟨rfl, by rw [← hW0_]; exact my_thr hP hS hz hk⟩) hS.2.2 (Nat.le_of_ble_eq_true rfl) (Nat.le_of_ble_eq_true rfl)
  · replace hm := if_f hm c_1
    refine lv_iload_n hx hb dX8_checkRobot_4 rfl (lv_at hl 0 rfl) ?_
    refine lv_iconst (v := (2 : Int32)) hx hb dX8_checkRobot_5 (by decide) ?_
    refine lv_icmp_lt (tgt := 20) hx hb dX8_checkRobot_6 (by decide) (fun c_2 => ?_) (fun c_2 => ?_)
    · replace hm := if_s hm c_2
      cases hm
      exact vx_ret (W.widen (k := 1) (n := 6) (Nat.le_of_ble_eq_true rfl) (Nat.le_of_ble_eq_true rfl) (W.vret hx hb hr (fun t ht hW => ⟨_, _, rfl, ⟨rfl, by rw [ht]; exact hP⟩, hS.F ht⟩) hS.2.2 dX8_checkRobot_20))
    · replace hm := if_f hm c_2
      obtain ⟨sa_, hsa_⟩ := hstr.1 (324, "no such robot") (List.mem_of_getElem? (i := 16) rfl)
      cases hm
      exact vx_throwSW (cls := "java/lang/IndexOutOfBoundsException") (names := ["java/lang/RuntimeException", "java/lang/Exception"]) hx hb hfl hown my_fitB my_fitN (hts (.classLink RX8 132 "java/lang/IndexOutOfBoundsException") (List.mem_of_getElem? (i := 1) rfl)) (hts (.initialized "java/lang/IndexOutOfBoundsException") (List.mem_of_getElem? (i := 2) rfl)) hsa_ (vx_hat (fun w h => hts w (List.mem_cons_of_mem _ (List.mem_append_right _ h))) my_ngB (vx_c (va_Nw.use rfl hstr.2.1) (vx_c (va_Nw.use rfl hstr.2.2.2.2.1) (vx_c (va_Nw.use rfl hstr.2.2.2.2.2.1) (vx_c (va_Nw.use rfl hstr.2.2.2.2.2.2) vx_n))))) my_gdB hZ.1 hZ.2 hS (hl.1.trans hml.symm) dX8_checkRobot_9 dX8_checkRobot_12 dX8_checkRobot_13 dX8_checkRobot_16 dX8_checkRobot_19 (fun x hx9 => absurd (htab x hx9) id) (Nat.le_of_ble_eq_true rfl) (Nat.le_of_ble_eq_true rfl) (Nat.le_of_ble_eq_true rfl) (Nat.le_of_ble_eq_true rfl) hlocks (fun t ha hz hk => ⟨rfl, by rw [← hW0_]; exact my_thr hP hS hz hk⟩) hS.2.2 (Nat.le_of_ble_eq_true rfl) (Nat.le_of_ble_eq_true rfl)
def mX8_checkSlot (x0 : Int32) : (Unit) ⊕ String := (if x0 = 0 then (Sum.inl ()) else (if x0 = (1 : Int32) then (Sum.inl ()) else (Sum.inr "java/lang/IndexOutOfBoundsException")))
set_option maxHeartbeats 4000000 in
set_option maxRecDepth 100000 in
theorem kX8_checkSlot (l : Launch) (Γ : my_G) (hfl : l.stackTraces = false)   (x0 : Int32) (mr : (Unit) ⊕ String) (hm : mX8_checkSlot x0 = mr) : MnX l yX8_checkSlot wsX8_checkSlot ({ frames := 6, cells := 1, slots := 6, locals := 96 } : Room) Γ [.int x0] ([] : va_W) (my_map (fun q : Unit => (none, ([] : va_W))) mr) 1 6 := by
  intro sz
  refine vx_ofW (cc := cX8_checkSlot) (maxL := 1) (ret := none) (by decide) rfl ?_
  intro p e s m args below meth c s₁ B hml htab hv
  obtain ⟨rfl, ⟨hsz, hP, hK, hD0⟩, hZ, hstr⟩ := hv
  have hx := B.exec
  have hb := B.bytes
  have hr := B.returns
  have hts := atoms_spec (ws := wsX8_checkSlot) B.pre
  have hown : s.vm.findClass RX8 = some m.cls := findClass_of_methodNamed B.named
  have hlocks := B.notSynchronized
  subst hsz
  have hD := hD0.self (sz := s.heap.size)
  have hA : ∀ q : Nat, s.heap.size ≤ q → va_A ([] : va_W) s.heap.size q := fun q h => Or.inr h
  generalize va_A ([] : va_W) s.heap.size = A at hD hA hZ ⊢
  obtain ⟨W0_, hW0_⟩ : ∃ w : va_W, ([] : va_W) = w := ⟨_, rfl⟩
  rw [show my_XC Γ A ([] : va_W) (my_map (fun q : Unit => (none, ([] : va_W))) mr) = my_XC Γ A W0_ (my_map (fun q : Unit => (none, ([] : va_W))) mr) from congrArg (fun w => my_XC Γ A w (my_map (fun q : Unit => (none, ([] : va_W))) mr)) hW0_]
  have hS : va_S A s.heap s.heap [] := va_S.rf
  have hl := lv_entry ([.int x0]) (n := 1) (Nat.le_of_ble_eq_true rfl)
  rw [lg_entry_eq]
  generalize (lg_sl ([.int x0]) ++ List.replicate (1 - (lg_sl ([.int x0])).length) Slot.unset).toArray = ls at hl ⊢
  replace hl : lv_has ls 1 [(0, .int x0)] := hl
  unfold mX8_checkSlot at hm
  refine lv_iload_n hx hb dX8_checkSlot_0 rfl (lv_at hl 0 rfl) ?_
  refine lv_if_eq (tgt := 20) hx hb dX8_checkSlot_1 (by decide) (fun c_1 => ?_) (fun c_1 => ?_)
  · replace hm := if_s hm c_1
    cases hm
    exact vx_ret (W.widen (k := 1) (n := 6) (Nat.le_of_ble_eq_true rfl) (Nat.le_of_ble_eq_true rfl) (W.vret hx hb hr (fun t ht hW => ⟨_, _, rfl, ⟨rfl, by rw [ht]; exact hP⟩, hS.F ht⟩) hS.2.2 dX8_checkSlot_20))
  · replace hm := if_f hm c_1
    refine lv_iload_n hx hb dX8_checkSlot_4 rfl (lv_at hl 0 rfl) ?_
    refine lv_iconst (v := (1 : Int32)) hx hb dX8_checkSlot_5 (by decide) ?_
    refine lv_icmp_eq (tgt := 20) hx hb dX8_checkSlot_6 (by decide) (fun c_2 => ?_) (fun c_2 => ?_)
    · replace hm := if_s hm c_2
      cases hm
      exact vx_ret (W.widen (k := 1) (n := 6) (Nat.le_of_ble_eq_true rfl) (Nat.le_of_ble_eq_true rfl) (W.vret hx hb hr (fun t ht hW => ⟨_, _, rfl, ⟨rfl, by rw [ht]; exact hP⟩, hS.F ht⟩) hS.2.2 dX8_checkSlot_20))
    · replace hm := if_f hm c_2
      obtain ⟨sa_, hsa_⟩ := hstr.1 (326, "no such save slot") (List.mem_of_getElem? (i := 17) rfl)
      cases hm
      exact vx_throwSW (cls := "java/lang/IndexOutOfBoundsException") (names := ["java/lang/RuntimeException", "java/lang/Exception"]) hx hb hfl hown my_fitB my_fitN (hts (.classLink RX8 132 "java/lang/IndexOutOfBoundsException") (List.mem_of_getElem? (i := 1) rfl)) (hts (.initialized "java/lang/IndexOutOfBoundsException") (List.mem_of_getElem? (i := 2) rfl)) hsa_ (vx_hat (fun w h => hts w (List.mem_cons_of_mem _ (List.mem_append_right _ h))) my_ngB (vx_c (va_Nw.use rfl hstr.2.1) (vx_c (va_Nw.use rfl hstr.2.2.2.2.1) (vx_c (va_Nw.use rfl hstr.2.2.2.2.2.1) (vx_c (va_Nw.use rfl hstr.2.2.2.2.2.2) vx_n))))) my_gdB hZ.1 hZ.2 hS (hl.1.trans hml.symm) dX8_checkSlot_9 dX8_checkSlot_12 dX8_checkSlot_13 dX8_checkSlot_16 dX8_checkSlot_19 (fun x hx9 => absurd (htab x hx9) id) (Nat.le_of_ble_eq_true rfl) (Nat.le_of_ble_eq_true rfl) (Nat.le_of_ble_eq_true rfl) (Nat.le_of_ble_eq_true rfl) hlocks (fun t ha hz hk => ⟨rfl, by rw [← hW0_]; exact my_thr hP hS hz hk⟩) hS.2.2 (Nat.le_of_ble_eq_true rfl) (Nat.le_of_ble_eq_true rfl)
def mX8_kindOf (vk : Nat → Int32) (x0 : Int32) : (Int32) ⊕ String := (tx1 (mX8_checkCell x0) (fun _ => (Sum.inl (mX1_kindAt vk x0))))
set_option maxHeartbeats 4000000 in
set_option maxRecDepth 100000 in
theorem kX8_kindOf (l : Launch) (Γ : my_G) (hfl : l.stackTraces = false) (q_bf q_fl q_k q_c q_a q_pa q_b q_pb q_tx q_flT q_hi q_s1 q_s2 q_fd q_kc q_kr : Nat) (vi : Nat → Int32) (vj : Nat → Int64) (vk : Nat → Int32) (vc : Nat → Int32) (va : Nat → Int32) (vpa : Nat → Int32) (vb : Nat → Int32) (vpb : Nat → Int32) (x0 : Int32) (mr : (Int32) ⊕ String) (hm : mX8_kindOf vk x0 = mr) : MnX l yX8_kindOf wsX8_kindOf ({ frames := 7, cells := 1, slots := 6, locals := 116 } : Room) Γ [.ref q_bf, .int x0] (wBF Γ q_bf q_tx q_fl q_flT q_hi q_s1 q_s2 q_fd q_kc q_kr  ++ wFloor Γ q_fl q_k q_c q_a q_pa q_b q_pb vi vj vk vc va vpa vb vpb) (my_map (fun q : Int32 => ((some (.int q)), (wBF Γ q_bf q_tx q_fl q_flT q_hi q_s1 q_s2 q_fd q_kc q_kr  ++ wFloor Γ q_fl q_k q_c q_a q_pa q_b q_pb vi vj vk vc va vpa vb vpb))) mr) 1 6 := by
  intro sz
  refine vx_ofW (cc := cX8_kindOf) (maxL := 2) (ret := (some .int)) (by decide) rfl ?_
  intro p e s m args below meth c s₁ B hml htab hv
  obtain ⟨rfl, ⟨hsz, hP, hK, hD0⟩, hZ, hstr⟩ := hv
  have hx := B.exec
  have hb := B.bytes
  have hr := B.returns
  have hts := atoms_spec (ws := wsX8_kindOf) B.pre
  have hown : s.vm.findClass RX8 = some m.cls := findClass_of_methodNamed B.named
  have hlocks := B.notSynchronized
  have hinX1 : ∀ w ∈ u_ws RX1 TX1 12, w ∈ wsX8_kindOf := fun w h => List.mem_cons_of_mem _ (List.mem_append_left _ (List.mem_append_right _ h))
  have hinX8 : ∀ w ∈ u_ws RX8 TX8 9, w ∈ wsX8_kindOf := fun w h => List.mem_cons_of_mem _ (List.mem_append_left _ (List.mem_append_left _ (List.mem_append_right _ h)))
  subst hsz
  have hD := hD0.self (sz := s.heap.size)
  have hA : ∀ q : Nat, s.heap.size ≤ q → va_A (wBF Γ q_bf q_tx q_fl q_flT q_hi q_s1 q_s2 q_fd q_kc q_kr  ++ wFloor Γ q_fl q_k q_c q_a q_pa q_b q_pb vi vj vk vc va vpa vb vpb) s.heap.size q := fun q h => Or.inr h
  generalize va_A (wBF Γ q_bf q_tx q_fl q_flT q_hi q_s1 q_s2 q_fd q_kc q_kr  ++ wFloor Γ q_fl q_k q_c q_a q_pa q_b q_pb vi vj vk vc va vpa vb vpb) s.heap.size = A at hD hA hZ ⊢
  obtain ⟨W0_, hW0_⟩ : ∃ w : va_W, (wBF Γ q_bf q_tx q_fl q_flT q_hi q_s1 q_s2 q_fd q_kc q_kr  ++ wFloor Γ q_fl q_k q_c q_a q_pa q_b q_pb vi vj vk vc va vpa vb vpb) = w := ⟨_, rfl⟩
  rw [show my_XC Γ A (wBF Γ q_bf q_tx q_fl q_flT q_hi q_s1 q_s2 q_fd q_kc q_kr  ++ wFloor Γ q_fl q_k q_c q_a q_pa q_b q_pb vi vj vk vc va vpa vb vpb) (my_map (fun q : Int32 => ((some (.int q)), (wBF Γ q_bf q_tx q_fl q_flT q_hi q_s1 q_s2 q_fd q_kc q_kr  ++ wFloor Γ q_fl q_k q_c q_a q_pa q_b q_pb vi vj vk vc va vpa vb vpb))) mr) = my_XC Γ A W0_ (my_map (fun q : Int32 => ((some (.int q)), (wBF Γ q_bf q_tx q_fl q_flT q_hi q_s1 q_s2 q_fd q_kc q_kr  ++ wFloor Γ q_fl q_k q_c q_a q_pa q_b q_pb vi vj vk vc va vpa vb vpb))) mr) from congrArg (fun w => my_XC Γ A w (my_map (fun q : Int32 => ((some (.int q)), (wBF Γ q_bf q_tx q_fl q_flT q_hi q_s1 q_s2 q_fd q_kc q_kr  ++ wFloor Γ q_fl q_k q_c q_a q_pa q_b q_pb vi vj vk vc va vpa vb vpb))) mr)) hW0_]
  have hS : va_S A s.heap s.heap [] := va_S.rf
  have hl := lv_entry ([.ref q_bf, .int x0]) (n := 2) (Nat.le_of_ble_eq_true rfl)
  rw [lg_entry_eq]
  generalize (lg_sl ([.ref q_bf, .int x0]) ++ List.replicate (2 - (lg_sl ([.ref q_bf, .int x0])).length) Slot.unset).toArray = ls at hl ⊢
  replace hl : lv_has ls 2 [(0, .ref q_bf), (1, .int x0)] := hl
  unfold mX8_kindOf at hm
  refine lv_iload_n hx hb dX8_kindOf_0 rfl (lv_at hl 1 rfl) ?_
  refine my_callX (wc := []) hP hD hS hA [] rfl rfl (fun res w1 h9 => my_had h9) (vx_runS (As := [.int x0]) (rest := []) ⟨hx, hb, hml, hown, hts⟩ (kX8_checkCell l Γ hfl x0 _ rfl _) (va_cwS 1 hts gX8_kindOf_X8_checkCell rfl rfl rfl (by decide +kernel) ⟨Nat.le_of_ble_eq_true rfl, Nat.le_of_ble_eq_true rfl⟩) (my_preSX (wc := []) [] hK hP hD hS hA hZ hstr rfl rfl) rfl rfl hl.1 rfl (lv_room (Nat.le_of_ble_eq_true rfl)) dX8_kindOf_1 ⟨Nat.le_of_ble_eq_true rfl, Nat.le_of_ble_eq_true rfl⟩) (fun E_ H locs q9 ce hro hP hS h1_ h2_ h3_ => ?_) (fun res_ w1_ H locs hro hP hD hS => ?_)
  · rcases tx1_s hm with ⟨a_, hc_, hm⟩ | ⟨E2_, hc_, hm⟩
    · rw [hc_] at hro; exact (my_map_lr hro).elim
    · rw [hc_] at hro; obtain rfl := my_map_rr hro; subst hm
      exact vx_out (fun x hx9 => absurd (htab x hx9) id) hlocks h1_ h2_ h3_ (fun t ht ha => ⟨rfl, by rw [ht, ← hW0_]; exact hP, hS.F ht⟩) hS.2.2 (Nat.le_of_ble_eq_true rfl) (Nat.le_of_ble_eq_true rfl)
  rcases tx1_s hm with ⟨a_, hc_, hm⟩ | ⟨E2_, hc_, hm⟩
  rotate_left
  · rw [hc_] at hro; exact (my_map_rl hro).elim
  rw [hc_] at hro
  obtain ⟨rfl, rfl⟩ := my_map_ll hro
  replace hP : va_P (my_D Γ) vwCl (wBF Γ q_bf q_tx q_fl q_flT q_hi q_s1 q_s2 q_fd q_kc q_kr  ++ wFloor Γ q_fl q_k q_c q_a q_pa q_b q_pb vi vj vk vc va vpa vb vpb) H := hP
  replace hD : va_D A (wBF Γ q_bf q_tx q_fl q_flT q_hi q_s1 q_s2 q_fd q_kc q_kr  ++ wFloor Γ q_fl q_k q_c q_a q_pa q_b q_pb vi vj vk vc va vpa vb vpb) := hD
  refine lv_aload_n hx hb dX8_kindOf_4 rfl (lv_at hl 0 rfl) ?_
  refine va_get (D := my_D Γ) (ci := 6) (v := .ref q_fl) (C := RX8) (T := TX8) (N := 9) hx hb hts hinX8 hown hK hP 0 rfl rfl 1 (by decide) (hts (.fieldLink RX8 19 "BeltFloor" "floor" "LBeltFloor$Floor;") (List.mem_of_getElem? (i := 1) rfl)) (fun _ h9 => h9) rfl dX8_kindOf_5 ?_
  refine lv_iload_n hx hb dX8_kindOf_8 rfl (lv_at hl 1 rfl) ?_
  refine my_call1 (wc := (wFloor Γ q_fl q_k q_c q_a q_pa q_b q_pb vi vj vk vc va vpa vb vpb)) (w1 := (wFloor Γ q_fl q_k q_c q_a q_pa q_b q_pb vi vj vk vc va vpa vb vpb)) (ws1 := (wBF Γ q_bf q_tx q_fl q_flT q_hi q_s1 q_s2 q_fd q_kc q_kr  ++ wFloor Γ q_fl q_k q_c q_a q_pa q_b q_pb vi vj vk vc va vpa vb vpb)) hP hD hS hA [1, 2, 3, 4, 5, 6, 7] rfl rfl rfl (va_runV (As := [.int x0]) (rest := []) ⟨hx, hb, hml, hown, hts⟩ (kX1_kindAt l Γ q_fl q_k q_c q_a q_pa q_b q_pb vi vj vk vc va vpa vb vpb x0 (mX1_kindAt vk x0) rfl _) (cwV 1 hts gX8_kindOf_X1_kindAt rfl rfl rfl (by decide +kernel) ⟨Nat.le_of_ble_eq_true rfl, Nat.le_of_ble_eq_true rfl⟩) (my_preV (wc := (wFloor Γ q_fl q_k q_c q_a q_pa q_b q_pb vi vj vk vc va vpa vb vpb)) (ci := 1) (q0 := 1) [1, 2, 3, 4, 5, 6, 7] hK hP hD rfl rfl rfl rfl) rfl rfl hl.1 rfl (lv_room (Nat.le_of_ble_eq_true rfl)) dX8_kindOf_9 ⟨Nat.le_of_ble_eq_true rfl, Nat.le_of_ble_eq_true rfl⟩) (fun H locs hP hD hS => ?_)
  cases hm
  exact vx_ret (W.widen (k := 1) (n := 6) (Nat.le_of_ble_eq_true rfl) (Nat.le_of_ble_eq_true rfl) (W.iret (v := (mX1_kindAt vk x0)) hx hb hr (fun t ht hW => ⟨_, _, rfl, ⟨rfl, by rw [ht]; exact hP⟩, hS.F ht⟩) hS.2.2 dX8_kindOf_12))
def mX8_hasCrate (vj : Nat → Int64) (x0 : Int32) : (Int32) ⊕ String := (tx1 (mX8_checkCell x0) (fun _ => (Sum.inl (mX2_holds (vj 4) x0))))
set_option maxHeartbeats 4000000 in
set_option maxRecDepth 100000 in
theorem kX8_hasCrate (l : Launch) (Γ : my_G) (hfl : l.stackTraces = false) (q_bf q_fl q_k q_c q_a q_pa q_b q_pb q_tx q_flT q_hi q_s1 q_s2 q_fd q_kc q_kr : Nat) (vi : Nat → Int32) (vj : Nat → Int64) (vk : Nat → Int32) (vc : Nat → Int32) (va : Nat → Int32) (vpa : Nat → Int32) (vb : Nat → Int32) (vpb : Nat → Int32) (x0 : Int32) (mr : (Int32) ⊕ String) (hm : mX8_hasCrate vj x0 = mr) : MnX l yX8_hasCrate wsX8_hasCrate ({ frames := 7, cells := 1, slots := 6, locals := 116 } : Room) Γ [.ref q_bf, .int x0] (wBF Γ q_bf q_tx q_fl q_flT q_hi q_s1 q_s2 q_fd q_kc q_kr  ++ wFloor Γ q_fl q_k q_c q_a q_pa q_b q_pb vi vj vk vc va vpa vb vpb) (my_map (fun q : Int32 => ((some (.int q)), (wBF Γ q_bf q_tx q_fl q_flT q_hi q_s1 q_s2 q_fd q_kc q_kr  ++ wFloor Γ q_fl q_k q_c q_a q_pa q_b q_pb vi vj vk vc va vpa vb vpb))) mr) 1 6 := by
  intro sz
  refine vx_ofW (cc := cX8_hasCrate) (maxL := 2) (ret := (some .boolean)) (by decide) rfl ?_
  intro p e s m args below meth c s₁ B hml htab hv
  obtain ⟨rfl, ⟨hsz, hP, hK, hD0⟩, hZ, hstr⟩ := hv
  have hx := B.exec
  have hb := B.bytes
  have hr := B.returns
  have hts := atoms_spec (ws := wsX8_hasCrate) B.pre
  have hown : s.vm.findClass RX8 = some m.cls := findClass_of_methodNamed B.named
  have hlocks := B.notSynchronized
  have hinX1 : ∀ w ∈ u_ws RX1 TX1 12, w ∈ wsX8_hasCrate := fun w h => List.mem_cons_of_mem _ (List.mem_append_left _ (List.mem_append_right _ h))
  have hinX8 : ∀ w ∈ u_ws RX8 TX8 9, w ∈ wsX8_hasCrate := fun w h => List.mem_cons_of_mem _ (List.mem_append_left _ (List.mem_append_left _ (List.mem_append_right _ h)))
  subst hsz
  have hD := hD0.self (sz := s.heap.size)
  have hA : ∀ q : Nat, s.heap.size ≤ q → va_A (wBF Γ q_bf q_tx q_fl q_flT q_hi q_s1 q_s2 q_fd q_kc q_kr  ++ wFloor Γ q_fl q_k q_c q_a q_pa q_b q_pb vi vj vk vc va vpa vb vpb) s.heap.size q := fun q h => Or.inr h
  generalize va_A (wBF Γ q_bf q_tx q_fl q_flT q_hi q_s1 q_s2 q_fd q_kc q_kr  ++ wFloor Γ q_fl q_k q_c q_a q_pa q_b q_pb vi vj vk vc va vpa vb vpb) s.heap.size = A at hD hA hZ ⊢
  obtain ⟨W0_, hW0_⟩ : ∃ w : va_W, (wBF Γ q_bf q_tx q_fl q_flT q_hi q_s1 q_s2 q_fd q_kc q_kr  ++ wFloor Γ q_fl q_k q_c q_a q_pa q_b q_pb vi vj vk vc va vpa vb vpb) = w := ⟨_, rfl⟩
  rw [show my_XC Γ A (wBF Γ q_bf q_tx q_fl q_flT q_hi q_s1 q_s2 q_fd q_kc q_kr  ++ wFloor Γ q_fl q_k q_c q_a q_pa q_b q_pb vi vj vk vc va vpa vb vpb) (my_map (fun q : Int32 => ((some (.int q)), (wBF Γ q_bf q_tx q_fl q_flT q_hi q_s1 q_s2 q_fd q_kc q_kr  ++ wFloor Γ q_fl q_k q_c q_a q_pa q_b q_pb vi vj vk vc va vpa vb vpb))) mr) = my_XC Γ A W0_ (my_map (fun q : Int32 => ((some (.int q)), (wBF Γ q_bf q_tx q_fl q_flT q_hi q_s1 q_s2 q_fd q_kc q_kr  ++ wFloor Γ q_fl q_k q_c q_a q_pa q_b q_pb vi vj vk vc va vpa vb vpb))) mr) from congrArg (fun w => my_XC Γ A w (my_map (fun q : Int32 => ((some (.int q)), (wBF Γ q_bf q_tx q_fl q_flT q_hi q_s1 q_s2 q_fd q_kc q_kr  ++ wFloor Γ q_fl q_k q_c q_a q_pa q_b q_pb vi vj vk vc va vpa vb vpb))) mr)) hW0_]
  have hS : va_S A s.heap s.heap [] := va_S.rf
  have hl := lv_entry ([.ref q_bf, .int x0]) (n := 2) (Nat.le_of_ble_eq_true rfl)
  rw [lg_entry_eq]
  generalize (lg_sl ([.ref q_bf, .int x0]) ++ List.replicate (2 - (lg_sl ([.ref q_bf, .int x0])).length) Slot.unset).toArray = ls at hl ⊢
  replace hl : lv_has ls 2 [(0, .ref q_bf), (1, .int x0)] := hl
  unfold mX8_hasCrate at hm
  refine lv_iload_n hx hb dX8_hasCrate_0 rfl (lv_at hl 1 rfl) ?_
  refine my_callX (wc := []) hP hD hS hA [] rfl rfl (fun res w1 h9 => my_had h9) (vx_runS (As := [.int x0]) (rest := []) ⟨hx, hb, hml, hown, hts⟩ (kX8_checkCell l Γ hfl x0 _ rfl _) (va_cwS 1 hts gX8_hasCrate_X8_checkCell rfl rfl rfl (by decide +kernel) ⟨Nat.le_of_ble_eq_true rfl, Nat.le_of_ble_eq_true rfl⟩) (my_preSX (wc := []) [] hK hP hD hS hA hZ hstr rfl rfl) rfl rfl hl.1 rfl (lv_room (Nat.le_of_ble_eq_true rfl)) dX8_hasCrate_1 ⟨Nat.le_of_ble_eq_true rfl, Nat.le_of_ble_eq_true rfl⟩) (fun E_ H locs q9 ce hro hP hS h1_ h2_ h3_ => ?_) (fun res_ w1_ H locs hro hP hD hS => ?_)
  · rcases tx1_s hm with ⟨a_, hc_, hm⟩ | ⟨E2_, hc_, hm⟩
    · rw [hc_] at hro; exact (my_map_lr hro).elim
    · rw [hc_] at hro; obtain rfl := my_map_rr hro; subst hm
      exact vx_out (fun x hx9 => absurd (htab x hx9) id) hlocks h1_ h2_ h3_ (fun t ht ha => ⟨rfl, by rw [ht, ← hW0_]; exact hP, hS.F ht⟩) hS.2.2 (Nat.le_of_ble_eq_true rfl) (Nat.le_of_ble_eq_true rfl)
  rcases tx1_s hm with ⟨a_, hc_, hm⟩ | ⟨E2_, hc_, hm⟩
  rotate_left
  · rw [hc_] at hro; exact (my_map_rl hro).elim
  rw [hc_] at hro
  obtain ⟨rfl, rfl⟩ := my_map_ll hro
  replace hP : va_P (my_D Γ) vwCl (wBF Γ q_bf q_tx q_fl q_flT q_hi q_s1 q_s2 q_fd q_kc q_kr  ++ wFloor Γ q_fl q_k q_c q_a q_pa q_b q_pb vi vj vk vc va vpa vb vpb) H := hP
  replace hD : va_D A (wBF Γ q_bf q_tx q_fl q_flT q_hi q_s1 q_s2 q_fd q_kc q_kr  ++ wFloor Γ q_fl q_k q_c q_a q_pa q_b q_pb vi vj vk vc va vpa vb vpb) := hD
  refine lv_aload_n hx hb dX8_hasCrate_4 rfl (lv_at hl 0 rfl) ?_
  refine va_get (D := my_D Γ) (ci := 6) (v := .ref q_fl) (C := RX8) (T := TX8) (N := 9) hx hb hts hinX8 hown hK hP 0 rfl rfl 1 (by decide) (hts (.fieldLink RX8 19 "BeltFloor" "floor" "LBeltFloor$Floor;") (List.mem_of_getElem? (i := 1) rfl)) (fun _ h9 => h9) rfl dX8_hasCrate_5 ?_
  refine va_get (D := my_D Γ) (ci := 1) (v := .long (vj 4)) (C := RX1) (T := TX1) (N := 12) hx hb hts hinX1 hown hK hP 1 rfl rfl 4 (by decide) (hts (.fieldLink RX8 104 "BeltFloor$Floor" "crates" "J") (List.mem_of_getElem? (i := 2) rfl)) (fun _ h9 => h9) rfl dX8_hasCrate_8 ?_
  refine lv_iload_n hx hb dX8_hasCrate_11 rfl (lv_at hl 1 rfl) ?_
  refine my_call1 (wc := ([] : va_W)) (w1 := ([] : va_W)) (ws1 := (wBF Γ q_bf q_tx q_fl q_flT q_hi q_s1 q_s2 q_fd q_kc q_kr  ++ wFloor Γ q_fl q_k q_c q_a q_pa q_b q_pb vi vj vk vc va vpa vb vpb)) hP hD hS hA [] rfl rfl rfl (va_runS (As := [.long (vj 4), .int x0]) (rest := []) ⟨hx, hb, hml, hown, hts⟩ (kX2_holds l Γ (vj 4) x0 (mX2_holds (vj 4) x0) rfl _) (va_cwS 2 hts gX8_hasCrate_X2_holds rfl rfl rfl (by decide +kernel) ⟨Nat.le_of_ble_eq_true rfl, Nat.le_of_ble_eq_true rfl⟩) (my_preS (wc := ([] : va_W)) [] hK hP hD rfl rfl) rfl rfl hl.1 rfl (lv_room (Nat.le_of_ble_eq_true rfl)) dX8_hasCrate_12 ⟨Nat.le_of_ble_eq_true rfl, Nat.le_of_ble_eq_true rfl⟩) (fun H locs hP hD hS => ?_)
  cases hm
  exact vx_ret (W.widen (k := 1) (n := 6) (Nat.le_of_ble_eq_true rfl) (Nat.le_of_ble_eq_true rfl) (W.zret (v := (mX2_holds (vj 4) x0)) hx hb hr (nbX2_holds (vj 4) x0) (fun t ht hW => ⟨_, _, rfl, ⟨rfl, by rw [ht]; exact hP⟩, hS.F ht⟩) hS.2.2 dX8_hasCrate_15))
def mX8_cratesByCells (vj : Nat → Int64) : Int32 := (mX1_crateCount vj)
set_option maxHeartbeats 4000000 in
set_option maxRecDepth 100000 in
theorem kX8_cratesByCells (l : Launch) (Γ : my_G) (q_bf q_fl q_k q_c q_a q_pa q_b q_pb q_tx q_flT q_hi q_s1 q_s2 q_fd q_kc q_kr : Nat) (vi : Nat → Int32) (vj : Nat → Int64) (vk : Nat → Int32) (vc : Nat → Int32) (va : Nat → Int32) (vpa : Nat → Int32) (vb : Nat → Int32) (vpb : Nat → Int32)  (rr : Int32) (hm : mX8_cratesByCells vj = rr) : Mn l yX8_cratesByCells wsX8_cratesByCells ({ frames := 2, cells := 0, slots := 0, locals := 41 } : Room) Γ [.ref q_bf] (wBF Γ q_bf q_tx q_fl q_flT q_hi q_s1 q_s2 q_fd q_kc q_kr  ++ wFloor Γ q_fl q_k q_c q_a q_pa q_b q_pb vi vj vk vc va vpa vb vpb) (some (.int rr)) (wBF Γ q_bf q_tx q_fl q_flT q_hi q_s1 q_s2 q_fd q_kc q_kr  ++ wFloor Γ q_fl q_k q_c q_a q_pa q_b q_pb vi vj vk vc va vpa vb vpb) := by
  intro sz
  refine Met.ofW (cc := cX8_cratesByCells) (maxL := 1) (ret := (some .int)) (by decide) rfl ?_
  intro p e s m args below meth c s₁ B hml hv
  obtain ⟨rfl, hsz, hP, hK, hD0⟩ := hv
  have hx := B.exec
  have hb := B.bytes
  have hr := B.returns
  have hts := atoms_spec (ws := wsX8_cratesByCells) B.pre
  have hown : s.vm.findClass RX8 = some m.cls := findClass_of_methodNamed B.named
  have hlocks := B.notSynchronized
  have hinX1 : ∀ w ∈ u_ws RX1 TX1 12, w ∈ wsX8_cratesByCells := fun w h => List.mem_cons_of_mem _ (List.mem_append_right _ h)
  have hinX8 : ∀ w ∈ u_ws RX8 TX8 9, w ∈ wsX8_cratesByCells := fun w h => List.mem_cons_of_mem _ (List.mem_append_left _ (List.mem_append_right _ h))
  subst hsz
  have hD := hD0.self (sz := s.heap.size)
  have hA : ∀ q : Nat, s.heap.size ≤ q → va_A (wBF Γ q_bf q_tx q_fl q_flT q_hi q_s1 q_s2 q_fd q_kc q_kr  ++ wFloor Γ q_fl q_k q_c q_a q_pa q_b q_pb vi vj vk vc va vpa vb vpb) s.heap.size q := fun q h => Or.inr h
  generalize va_A (wBF Γ q_bf q_tx q_fl q_flT q_hi q_s1 q_s2 q_fd q_kc q_kr  ++ wFloor Γ q_fl q_k q_c q_a q_pa q_b q_pb vi vj vk vc va vpa vb vpb) s.heap.size = A at hD hA ⊢
  have hS : va_S A s.heap s.heap [] := va_S.rf
  have hl := lv_entry ([.ref q_bf]) (n := 1) (Nat.le_of_ble_eq_true rfl)
  rw [lg_entry_eq]
  generalize (lg_sl ([.ref q_bf]) ++ List.replicate (1 - (lg_sl ([.ref q_bf])).length) Slot.unset).toArray = ls at hl ⊢
  replace hl : lv_has ls 1 [(0, .ref q_bf)] := hl
  unfold mX8_cratesByCells at hm
  refine lv_aload_n hx hb dX8_cratesByCells_0 rfl (lv_at hl 0 rfl) ?_
  refine va_get (D := my_D Γ) (ci := 6) (v := .ref q_fl) (C := RX8) (T := TX8) (N := 9) hx hb hts hinX8 hown hK hP 0 rfl rfl 1 (by decide) (hts (.fieldLink RX8 19 "BeltFloor" "floor" "LBeltFloor$Floor;") (List.mem_of_getElem? (i := 1) rfl)) (fun _ h9 => h9) rfl dX8_cratesByCells_1 ?_
  refine my_call1 (wc := (wFloor Γ q_fl q_k q_c q_a q_pa q_b q_pb vi vj vk vc va vpa vb vpb)) (w1 := (wFloor Γ q_fl q_k q_c q_a q_pa q_b q_pb vi vj vk vc va vpa vb vpb)) (ws1 := (wBF Γ q_bf q_tx q_fl q_flT q_hi q_s1 q_s2 q_fd q_kc q_kr  ++ wFloor Γ q_fl q_k q_c q_a q_pa q_b q_pb vi vj vk vc va vpa vb vpb)) hP hD hS hA [1, 2, 3, 4, 5, 6, 7] rfl rfl rfl (va_runV (As := []) (rest := []) ⟨hx, hb, hml, hown, hts⟩ (kX1_crateCount l Γ q_fl q_k q_c q_a q_pa q_b q_pb vi vj vk vc va vpa vb vpb (mX1_crateCount vj) rfl _) (cwV 0 hts gX8_cratesByCells_X1_crateCount rfl rfl rfl (by decide +kernel) ⟨Nat.le_of_ble_eq_true rfl, Nat.le_of_ble_eq_true rfl⟩) (my_preV (wc := (wFloor Γ q_fl q_k q_c q_a q_pa q_b q_pb vi vj vk vc va vpa vb vpb)) (ci := 1) (q0 := 1) [1, 2, 3, 4, 5, 6, 7] hK hP hD rfl rfl rfl rfl) rfl rfl hl.1 rfl (lv_room (Nat.le_of_ble_eq_true rfl)) dX8_cratesByCells_4 ⟨Nat.le_of_ble_eq_true rfl, Nat.le_of_ble_eq_true rfl⟩) (fun H locs hP hD hS => ?_)
  have hf0 := hm
  subst hf0
  exact W.iret (v := (mX1_crateCount vj)) hx hb hr (fun t ht hW => ⟨⟨rfl, by rw [ht]; exact hP⟩, hS.F ht⟩) hS.2.2 dX8_cratesByCells_7
def mX8_cratesByAccounts (vi : Nat → Int32) : Int32 := (((vi 8) - (vi 9)) - (vi 10))
set_option maxHeartbeats 4000000 in
set_option maxRecDepth 100000 in
theorem kX8_cratesByAccounts (l : Launch) (Γ : my_G) (q_bf q_fl q_k q_c q_a q_pa q_b q_pb q_tx q_flT q_hi q_s1 q_s2 q_fd q_kc q_kr : Nat) (vi : Nat → Int32) (vj : Nat → Int64) (vk : Nat → Int32) (vc : Nat → Int32) (va : Nat → Int32) (vpa : Nat → Int32) (vb : Nat → Int32) (vpb : Nat → Int32)  (rr : Int32) (hm : mX8_cratesByAccounts vi = rr) : Mn l yX8_cratesByAccounts wsX8_cratesByAccounts ({ frames := 0, cells := 0, slots := 0, locals := 0 } : Room) Γ [.ref q_bf] (wBF Γ q_bf q_tx q_fl q_flT q_hi q_s1 q_s2 q_fd q_kc q_kr  ++ wFloor Γ q_fl q_k q_c q_a q_pa q_b q_pb vi vj vk vc va vpa vb vpb) (some (.int rr)) (wBF Γ q_bf q_tx q_fl q_flT q_hi q_s1 q_s2 q_fd q_kc q_kr  ++ wFloor Γ q_fl q_k q_c q_a q_pa q_b q_pb vi vj vk vc va vpa vb vpb) := by
  intro sz
  refine Met.ofW (cc := cX8_cratesByAccounts) (maxL := 1) (ret := (some .int)) (by decide) rfl ?_
  intro p e s m args below meth c s₁ B hml hv
  obtain ⟨rfl, hsz, hP, hK, hD0⟩ := hv
  have hx := B.exec
  have hb := B.bytes
  have hr := B.returns
  have hts := atoms_spec (ws := wsX8_cratesByAccounts) B.pre
  have hown : s.vm.findClass RX8 = some m.cls := findClass_of_methodNamed B.named
  have hlocks := B.notSynchronized
  have hinX1 : ∀ w ∈ u_ws RX1 TX1 12, w ∈ wsX8_cratesByAccounts := fun w h => List.mem_cons_of_mem _ (List.mem_append_right _ h)
  have hinX8 : ∀ w ∈ u_ws RX8 TX8 9, w ∈ wsX8_cratesByAccounts := fun w h => List.mem_cons_of_mem _ (List.mem_append_left _ (List.mem_append_right _ h))
  subst hsz
  have hD := hD0.self (sz := s.heap.size)
  have hA : ∀ q : Nat, s.heap.size ≤ q → va_A (wBF Γ q_bf q_tx q_fl q_flT q_hi q_s1 q_s2 q_fd q_kc q_kr  ++ wFloor Γ q_fl q_k q_c q_a q_pa q_b q_pb vi vj vk vc va vpa vb vpb) s.heap.size q := fun q h => Or.inr h
  generalize va_A (wBF Γ q_bf q_tx q_fl q_flT q_hi q_s1 q_s2 q_fd q_kc q_kr  ++ wFloor Γ q_fl q_k q_c q_a q_pa q_b q_pb vi vj vk vc va vpa vb vpb) s.heap.size = A at hD hA ⊢
  have hS : va_S A s.heap s.heap [] := va_S.rf
  have hl := lv_entry ([.ref q_bf]) (n := 1) (Nat.le_of_ble_eq_true rfl)
  rw [lg_entry_eq]
  generalize (lg_sl ([.ref q_bf]) ++ List.replicate (1 - (lg_sl ([.ref q_bf])).length) Slot.unset).toArray = ls at hl ⊢
  replace hl : lv_has ls 1 [(0, .ref q_bf)] := hl
  unfold mX8_cratesByAccounts at hm
  refine lv_aload_n hx hb dX8_cratesByAccounts_0 rfl (lv_at hl 0 rfl) ?_
  refine va_get (D := my_D Γ) (ci := 6) (v := .ref q_fl) (C := RX8) (T := TX8) (N := 9) hx hb hts hinX8 hown hK hP 0 rfl rfl 1 (by decide) (hts (.fieldLink RX8 19 "BeltFloor" "floor" "LBeltFloor$Floor;") (List.mem_of_getElem? (i := 1) rfl)) (fun _ h9 => h9) rfl dX8_cratesByAccounts_1 ?_
  refine va_get (D := my_D Γ) (ci := 1) (v := .int (vi 8)) (C := RX1) (T := TX1) (N := 12) hx hb hts hinX1 hown hK hP 1 rfl rfl 8 (by decide) (hts (.fieldLink RX8 117 "BeltFloor$Floor" "addedCrates" "I") (List.mem_of_getElem? (i := 2) rfl)) (fun _ h9 => h9) rfl dX8_cratesByAccounts_4 ?_
  refine lv_aload_n hx hb dX8_cratesByAccounts_7 rfl (lv_at hl 0 rfl) ?_
  refine va_get (D := my_D Γ) (ci := 6) (v := .ref q_fl) (C := RX8) (T := TX8) (N := 9) hx hb hts hinX8 hown hK hP 0 rfl rfl 1 (by decide) (hts (.fieldLink RX8 19 "BeltFloor" "floor" "LBeltFloor$Floor;") (List.mem_of_getElem? (i := 1) rfl)) (fun _ h9 => h9) rfl dX8_cratesByAccounts_8 ?_
  refine va_get (D := my_D Γ) (ci := 1) (v := .int (vi 9)) (C := RX1) (T := TX1) (N := 12) hx hb hts hinX1 hown hK hP 1 rfl rfl 9 (by decide) (hts (.fieldLink RX8 120 "BeltFloor$Floor" "takenCrates" "I") (List.mem_of_getElem? (i := 3) rfl)) (fun _ h9 => h9) rfl dX8_cratesByAccounts_11 ?_
  refine lv_isub hx hb dX8_cratesByAccounts_14 ?_
  refine lv_aload_n hx hb dX8_cratesByAccounts_15 rfl (lv_at hl 0 rfl) ?_
  refine va_get (D := my_D Γ) (ci := 6) (v := .ref q_fl) (C := RX8) (T := TX8) (N := 9) hx hb hts hinX8 hown hK hP 0 rfl rfl 1 (by decide) (hts (.fieldLink RX8 19 "BeltFloor" "floor" "LBeltFloor$Floor;") (List.mem_of_getElem? (i := 1) rfl)) (fun _ h9 => h9) rfl dX8_cratesByAccounts_16 ?_
  refine va_get (D := my_D Γ) (ci := 1) (v := .int (vi 10)) (C := RX1) (T := TX1) (N := 12) hx hb hts hinX1 hown hK hP 1 rfl rfl 10 (by decide) (hts (.fieldLink RX8 123 "BeltFloor$Floor" "lostCrates" "I") (List.mem_of_getElem? (i := 4) rfl)) (fun _ h9 => h9) rfl dX8_cratesByAccounts_19 ?_
  refine lv_isub hx hb dX8_cratesByAccounts_22 ?_
  have hf0 := hm
  subst hf0
  exact W.iret (v := (((vi 8) - (vi 9)) - (vi 10))) hx hb hr (fun t ht hW => ⟨⟨rfl, by rw [ht]; exact hP⟩, hS.F ht⟩) hS.2.2 dX8_cratesByAccounts_23
def mX8_lost (vi : Nat → Int32) : Int32 := (vi 10)
set_option maxHeartbeats 4000000 in
set_option maxRecDepth 100000 in
theorem kX8_lost (l : Launch) (Γ : my_G) (q_bf q_fl q_k q_c q_a q_pa q_b q_pb q_tx q_flT q_hi q_s1 q_s2 q_fd q_kc q_kr : Nat) (vi : Nat → Int32) (vj : Nat → Int64) (vk : Nat → Int32) (vc : Nat → Int32) (va : Nat → Int32) (vpa : Nat → Int32) (vb : Nat → Int32) (vpb : Nat → Int32)  (rr : Int32) (hm : mX8_lost vi = rr) : Mn l yX8_lost wsX8_lost ({ frames := 0, cells := 0, slots := 0, locals := 0 } : Room) Γ [.ref q_bf] (wBF Γ q_bf q_tx q_fl q_flT q_hi q_s1 q_s2 q_fd q_kc q_kr  ++ wFloor Γ q_fl q_k q_c q_a q_pa q_b q_pb vi vj vk vc va vpa vb vpb) (some (.int rr)) (wBF Γ q_bf q_tx q_fl q_flT q_hi q_s1 q_s2 q_fd q_kc q_kr  ++ wFloor Γ q_fl q_k q_c q_a q_pa q_b q_pb vi vj vk vc va vpa vb vpb) := by
  intro sz
  refine Met.ofW (cc := cX8_lost) (maxL := 1) (ret := (some .int)) (by decide) rfl ?_
  intro p e s m args below meth c s₁ B hml hv
  obtain ⟨rfl, hsz, hP, hK, hD0⟩ := hv
  have hx := B.exec
  have hb := B.bytes
  have hr := B.returns
  have hts := atoms_spec (ws := wsX8_lost) B.pre
  have hown : s.vm.findClass RX8 = some m.cls := findClass_of_methodNamed B.named
  have hlocks := B.notSynchronized
  have hinX1 : ∀ w ∈ u_ws RX1 TX1 12, w ∈ wsX8_lost := fun w h => List.mem_cons_of_mem _ (List.mem_append_right _ h)
  have hinX8 : ∀ w ∈ u_ws RX8 TX8 9, w ∈ wsX8_lost := fun w h => List.mem_cons_of_mem _ (List.mem_append_left _ (List.mem_append_right _ h))
  subst hsz
  have hD := hD0.self (sz := s.heap.size)
  have hA : ∀ q : Nat, s.heap.size ≤ q → va_A (wBF Γ q_bf q_tx q_fl q_flT q_hi q_s1 q_s2 q_fd q_kc q_kr  ++ wFloor Γ q_fl q_k q_c q_a q_pa q_b q_pb vi vj vk vc va vpa vb vpb) s.heap.size q := fun q h => Or.inr h
  generalize va_A (wBF Γ q_bf q_tx q_fl q_flT q_hi q_s1 q_s2 q_fd q_kc q_kr  ++ wFloor Γ q_fl q_k q_c q_a q_pa q_b q_pb vi vj vk vc va vpa vb vpb) s.heap.size = A at hD hA ⊢
  have hS : va_S A s.heap s.heap [] := va_S.rf
  have hl := lv_entry ([.ref q_bf]) (n := 1) (Nat.le_of_ble_eq_true rfl)
  rw [lg_entry_eq]
  generalize (lg_sl ([.ref q_bf]) ++ List.replicate (1 - (lg_sl ([.ref q_bf])).length) Slot.unset).toArray = ls at hl ⊢
  replace hl : lv_has ls 1 [(0, .ref q_bf)] := hl
  unfold mX8_lost at hm
  refine lv_aload_n hx hb dX8_lost_0 rfl (lv_at hl 0 rfl) ?_
  refine va_get (D := my_D Γ) (ci := 6) (v := .ref q_fl) (C := RX8) (T := TX8) (N := 9) hx hb hts hinX8 hown hK hP 0 rfl rfl 1 (by decide) (hts (.fieldLink RX8 19 "BeltFloor" "floor" "LBeltFloor$Floor;") (List.mem_of_getElem? (i := 1) rfl)) (fun _ h9 => h9) rfl dX8_lost_1 ?_
  refine va_get (D := my_D Γ) (ci := 1) (v := .int (vi 10)) (C := RX1) (T := TX1) (N := 12) hx hb hts hinX1 hown hK hP 1 rfl rfl 10 (by decide) (hts (.fieldLink RX8 123 "BeltFloor$Floor" "lostCrates" "I") (List.mem_of_getElem? (i := 2) rfl)) (fun _ h9 => h9) rfl dX8_lost_4 ?_
  have hf0 := hm
  subst hf0
  exact W.iret (v := (vi 10)) hx hb hr (fun t ht hW => ⟨⟨rfl, by rw [ht]; exact hP⟩, hS.F ht⟩) hS.2.2 dX8_lost_7
def mX8_checkpoints (vi : Nat → Int32) : Int32 := (vi 7)
set_option maxHeartbeats 4000000 in
set_option maxRecDepth 100000 in
theorem kX8_checkpoints (l : Launch) (Γ : my_G) (q_bf q_fl q_k q_c q_a q_pa q_b q_pb q_tx q_flT q_hi q_s1 q_s2 q_fd q_kc q_kr : Nat) (vi : Nat → Int32) (vj : Nat → Int64) (vk : Nat → Int32) (vc : Nat → Int32) (va : Nat → Int32) (vpa : Nat → Int32) (vb : Nat → Int32) (vpb : Nat → Int32)  (rr : Int32) (hm : mX8_checkpoints vi = rr) : Mn l yX8_checkpoints wsX8_checkpoints ({ frames := 0, cells := 0, slots := 0, locals := 0 } : Room) Γ [.ref q_bf] (wBF Γ q_bf q_tx q_fl q_flT q_hi q_s1 q_s2 q_fd q_kc q_kr  ++ wFloor Γ q_fl q_k q_c q_a q_pa q_b q_pb vi vj vk vc va vpa vb vpb) (some (.int rr)) (wBF Γ q_bf q_tx q_fl q_flT q_hi q_s1 q_s2 q_fd q_kc q_kr  ++ wFloor Γ q_fl q_k q_c q_a q_pa q_b q_pb vi vj vk vc va vpa vb vpb) := by
  intro sz
  refine Met.ofW (cc := cX8_checkpoints) (maxL := 1) (ret := (some .int)) (by decide) rfl ?_
  intro p e s m args below meth c s₁ B hml hv
  obtain ⟨rfl, hsz, hP, hK, hD0⟩ := hv
  have hx := B.exec
  have hb := B.bytes
  have hr := B.returns
  have hts := atoms_spec (ws := wsX8_checkpoints) B.pre
  have hown : s.vm.findClass RX8 = some m.cls := findClass_of_methodNamed B.named
  have hlocks := B.notSynchronized
  have hinX1 : ∀ w ∈ u_ws RX1 TX1 12, w ∈ wsX8_checkpoints := fun w h => List.mem_cons_of_mem _ (List.mem_append_right _ h)
  have hinX8 : ∀ w ∈ u_ws RX8 TX8 9, w ∈ wsX8_checkpoints := fun w h => List.mem_cons_of_mem _ (List.mem_append_left _ (List.mem_append_right _ h))
  subst hsz
  have hD := hD0.self (sz := s.heap.size)
  have hA : ∀ q : Nat, s.heap.size ≤ q → va_A (wBF Γ q_bf q_tx q_fl q_flT q_hi q_s1 q_s2 q_fd q_kc q_kr  ++ wFloor Γ q_fl q_k q_c q_a q_pa q_b q_pb vi vj vk vc va vpa vb vpb) s.heap.size q := fun q h => Or.inr h
  generalize va_A (wBF Γ q_bf q_tx q_fl q_flT q_hi q_s1 q_s2 q_fd q_kc q_kr  ++ wFloor Γ q_fl q_k q_c q_a q_pa q_b q_pb vi vj vk vc va vpa vb vpb) s.heap.size = A at hD hA ⊢
  have hS : va_S A s.heap s.heap [] := va_S.rf
  have hl := lv_entry ([.ref q_bf]) (n := 1) (Nat.le_of_ble_eq_true rfl)
  rw [lg_entry_eq]
  generalize (lg_sl ([.ref q_bf]) ++ List.replicate (1 - (lg_sl ([.ref q_bf])).length) Slot.unset).toArray = ls at hl ⊢
  replace hl : lv_has ls 1 [(0, .ref q_bf)] := hl
  unfold mX8_checkpoints at hm
  refine lv_aload_n hx hb dX8_checkpoints_0 rfl (lv_at hl 0 rfl) ?_
  refine va_get (D := my_D Γ) (ci := 6) (v := .ref q_fl) (C := RX8) (T := TX8) (N := 9) hx hb hts hinX8 hown hK hP 0 rfl rfl 1 (by decide) (hts (.fieldLink RX8 19 "BeltFloor" "floor" "LBeltFloor$Floor;") (List.mem_of_getElem? (i := 1) rfl)) (fun _ h9 => h9) rfl dX8_checkpoints_1 ?_
  refine va_get (D := my_D Γ) (ci := 1) (v := .int (vi 7)) (C := RX1) (T := TX1) (N := 12) hx hb hts hinX1 hown hK hP 1 rfl rfl 7 (by decide) (hts (.fieldLink RX8 126 "BeltFloor$Floor" "checkpointCount" "I") (List.mem_of_getElem? (i := 2) rfl)) (fun _ h9 => h9) rfl dX8_checkpoints_4 ?_
  have hf0 := hm
  subst hf0
  exact W.iret (v := (vi 7)) hx hb hr (fun t ht hW => ⟨⟨rfl, by rw [ht]; exact hP⟩, hS.F ht⟩) hS.2.2 dX8_checkpoints_7
def mX8_cellOfCheckpoint (vi : Nat → Int32) (vc : Nat → Int32) (x0 : Int32) : Option ((Int32) ⊕ String) := (bo1 (mX1_checkpointCell vi vc x0) (fun r_1 => (if r_1 = (-1 : Int32) then (some (Sum.inr "java/lang/IndexOutOfBoundsException")) else (some (Sum.inl r_1)))))
set_option maxHeartbeats 4000000 in
set_option maxRecDepth 100000 in
theorem kX8_cellOfCheckpoint (l : Launch) (Γ : my_G) (hfl : l.stackTraces = false) (q_bf q_fl q_k q_c q_a q_pa q_b q_pb q_tx q_flT q_hi q_s1 q_s2 q_fd q_kc q_kr : Nat) (vi : Nat → Int32) (vj : Nat → Int64) (vk : Nat → Int32) (vc : Nat → Int32) (va : Nat → Int32) (vpa : Nat → Int32) (vb : Nat → Int32) (vpb : Nat → Int32) (x0 : Int32) (mr : (Int32) ⊕ String) (hm : mX8_cellOfCheckpoint vi vc x0 = (some mr)) : MnX l yX8_cellOfCheckpoint wsX8_cellOfCheckpoint ({ frames := 6, cells := 1, slots := 6, locals := 96 } : Room) Γ [.ref q_bf, .int x0] (wBF Γ q_bf q_tx q_fl q_flT q_hi q_s1 q_s2 q_fd q_kc q_kr  ++ wFloor Γ q_fl q_k q_c q_a q_pa q_b q_pb vi vj vk vc va vpa vb vpb) (my_map (fun q : Int32 => ((some (.int q)), (wBF Γ q_bf q_tx q_fl q_flT q_hi q_s1 q_s2 q_fd q_kc q_kr  ++ wFloor Γ q_fl q_k q_c q_a q_pa q_b q_pb vi vj vk vc va vpa vb vpb))) mr) 1 6 := by
  intro sz
  refine vx_ofW (cc := cX8_cellOfCheckpoint) (maxL := 3) (ret := (some .int)) (by decide) rfl ?_
  intro p e s m args below meth c s₁ B hml htab hv
  obtain ⟨rfl, ⟨hsz, hP, hK, hD0⟩, hZ, hstr⟩ := hv
  have hx := B.exec
  have hb := B.bytes
  have hr := B.returns
  have hts := atoms_spec (ws := wsX8_cellOfCheckpoint) B.pre
  have hown : s.vm.findClass RX8 = some m.cls := findClass_of_methodNamed B.named
  have hlocks := B.notSynchronized
  have hinX1 : ∀ w ∈ u_ws RX1 TX1 12, w ∈ wsX8_cellOfCheckpoint := fun w h => List.mem_cons_of_mem _ (List.mem_append_left _ (List.mem_append_right _ h))
  have hinX8 : ∀ w ∈ u_ws RX8 TX8 9, w ∈ wsX8_cellOfCheckpoint := fun w h => List.mem_cons_of_mem _ (List.mem_append_left _ (List.mem_append_left _ (List.mem_append_right _ h)))
  subst hsz
  have hD := hD0.self (sz := s.heap.size)
  have hA : ∀ q : Nat, s.heap.size ≤ q → va_A (wBF Γ q_bf q_tx q_fl q_flT q_hi q_s1 q_s2 q_fd q_kc q_kr  ++ wFloor Γ q_fl q_k q_c q_a q_pa q_b q_pb vi vj vk vc va vpa vb vpb) s.heap.size q := fun q h => Or.inr h
  generalize va_A (wBF Γ q_bf q_tx q_fl q_flT q_hi q_s1 q_s2 q_fd q_kc q_kr  ++ wFloor Γ q_fl q_k q_c q_a q_pa q_b q_pb vi vj vk vc va vpa vb vpb) s.heap.size = A at hD hA hZ ⊢
  obtain ⟨W0_, hW0_⟩ : ∃ w : va_W, (wBF Γ q_bf q_tx q_fl q_flT q_hi q_s1 q_s2 q_fd q_kc q_kr  ++ wFloor Γ q_fl q_k q_c q_a q_pa q_b q_pb vi vj vk vc va vpa vb vpb) = w := ⟨_, rfl⟩
  rw [show my_XC Γ A (wBF Γ q_bf q_tx q_fl q_flT q_hi q_s1 q_s2 q_fd q_kc q_kr  ++ wFloor Γ q_fl q_k q_c q_a q_pa q_b q_pb vi vj vk vc va vpa vb vpb) (my_map (fun q : Int32 => ((some (.int q)), (wBF Γ q_bf q_tx q_fl q_flT q_hi q_s1 q_s2 q_fd q_kc q_kr  ++ wFloor Γ q_fl q_k q_c q_a q_pa q_b q_pb vi vj vk vc va vpa vb vpb))) mr) = my_XC Γ A W0_ (my_map (fun q : Int32 => ((some (.int q)), (wBF Γ q_bf q_tx q_fl q_flT q_hi q_s1 q_s2 q_fd q_kc q_kr  ++ wFloor Γ q_fl q_k q_c q_a q_pa q_b q_pb vi vj vk vc va vpa vb vpb))) mr) from congrArg (fun w => my_XC Γ A w (my_map (fun q : Int32 => ((some (.int q)), (wBF Γ q_bf q_tx q_fl q_flT q_hi q_s1 q_s2 q_fd q_kc q_kr  ++ wFloor Γ q_fl q_k q_c q_a q_pa q_b q_pb vi vj vk vc va vpa vb vpb))) mr)) hW0_]
  have hS : va_S A s.heap s.heap [] := va_S.rf
  have hl := lv_entry ([.ref q_bf, .int x0]) (n := 3) (Nat.le_of_ble_eq_true rfl)
  rw [lg_entry_eq]
  generalize (lg_sl ([.ref q_bf, .int x0]) ++ List.replicate (3 - (lg_sl ([.ref q_bf, .int x0])).length) Slot.unset).toArray = ls at hl ⊢
  replace hl : lv_has ls 3 [(0, .ref q_bf), (1, .int x0)] := hl
  unfold mX8_cellOfCheckpoint at hm
  refine lv_aload_n hx hb dX8_cellOfCheckpoint_0 rfl (lv_at hl 0 rfl) ?_
  refine va_get (D := my_D Γ) (ci := 6) (v := .ref q_fl) (C := RX8) (T := TX8) (N := 9) hx hb hts hinX8 hown hK hP 0 rfl rfl 1 (by decide) (hts (.fieldLink RX8 19 "BeltFloor" "floor" "LBeltFloor$Floor;") (List.mem_of_getElem? (i := 3) rfl)) (fun _ h9 => h9) rfl dX8_cellOfCheckpoint_1 ?_
  refine lv_iload_n hx hb dX8_cellOfCheckpoint_4 rfl (lv_at hl 1 rfl) ?_
  obtain ⟨r_1, hc_2, hm⟩ := bo1_s hm
  refine my_call1 (wc := (wFloor Γ q_fl q_k q_c q_a q_pa q_b q_pb vi vj vk vc va vpa vb vpb)) (w1 := (wFloor Γ q_fl q_k q_c q_a q_pa q_b q_pb vi vj vk vc va vpa vb vpb)) (ws1 := (wBF Γ q_bf q_tx q_fl q_flT q_hi q_s1 q_s2 q_fd q_kc q_kr  ++ wFloor Γ q_fl q_k q_c q_a q_pa q_b q_pb vi vj vk vc va vpa vb vpb)) hP hD hS hA [1, 2, 3, 4, 5, 6, 7] rfl rfl rfl (va_runV (As := [.int x0]) (rest := []) ⟨hx, hb, hml, hown, hts⟩ (kX1_checkpointCell l Γ q_fl q_k q_c q_a q_pa q_b q_pb vi vj vk vc va vpa vb vpb x0 r_1 hc_2 _) (cwV 1 hts gX8_cellOfCheckpoint_X1_checkpointCell rfl rfl rfl (by decide +kernel) ⟨Nat.le_of_ble_eq_true rfl, Nat.le_of_ble_eq_true rfl⟩) (my_preV (wc := (wFloor Γ q_fl q_k q_c q_a q_pa q_b q_pb vi vj vk vc va vpa vb vpb)) (ci := 1) (q0 := 1) [1, 2, 3, 4, 5, 6, 7] hK hP hD rfl rfl rfl rfl) rfl rfl hl.1 rfl (lv_room (Nat.le_of_ble_eq_true rfl)) dX8_cellOfCheckpoint_5 ⟨Nat.le_of_ble_eq_true rfl, Nat.le_of_ble_eq_true rfl⟩) (fun H locs hP hD hS => ?_)
  refine lv_istore_n (lv' := [(2, .int r_1), (0, .ref q_bf), (1, .int x0)]) hx hb dX8_cellOfCheckpoint_8 rfl hl (by decide) rfl (fun ls hl => ?_)
  refine lv_iload_n hx hb dX8_cellOfCheckpoint_9 rfl (lv_at hl 0 rfl) ?_
  refine lv_iconst (v := (-1 : Int32)) hx hb dX8_cellOfCheckpoint_10 (by decide) ?_
  refine lv_icmp_ne (tgt := 24) hx hb dX8_cellOfCheckpoint_11 (by decide) (fun c_3 => ?_) (fun c_3 => ?_)
  · replace hm := if_f hm c_3
    refine lv_iload_n hx hb dX8_cellOfCheckpoint_24 rfl (lv_at hl 0 rfl) ?_
    cases hm
    exact vx_ret (W.widen (k := 1) (n := 6) (Nat.le_of_ble_eq_true rfl) (Nat.le_of_ble_eq_true rfl) (W.iret (v := r_1) hx hb hr (fun t ht hW => ⟨_, _, rfl, ⟨rfl, by rw [ht]; exact hP⟩, hS.F ht⟩) hS.2.2 dX8_cellOfCheckpoint_25))
  · replace hm := if_s hm c_3
    obtain ⟨sa_, hsa_⟩ := hstr.1 (134, "no such checkpoint") (List.mem_of_getElem? (i := 0) rfl)
    cases hm
    exact vx_throwS (cls := "java/lang/IndexOutOfBoundsException") (names := ["java/lang/RuntimeException", "java/lang/Exception"]) hx hb hfl hown my_fitB my_fitN (hts (.classLink RX8 132 "java/lang/IndexOutOfBoundsException") (List.mem_of_getElem? (i := 1) rfl)) (hts (.initialized "java/lang/IndexOutOfBoundsException") (List.mem_of_getElem? (i := 2) rfl)) hsa_ (vx_hat (fun w h => hts w (List.mem_cons_of_mem _ (List.mem_append_right _ h))) my_ngB (vx_c (va_Nw.use rfl hstr.2.1) (vx_c (va_Nw.use rfl hstr.2.2.2.2.1) (vx_c (va_Nw.use rfl hstr.2.2.2.2.2.1) (vx_c (va_Nw.use rfl hstr.2.2.2.2.2.2) vx_n))))) my_gdB hZ.1 hZ.2 hS (hl.1.trans hml.symm) dX8_cellOfCheckpoint_14 dX8_cellOfCheckpoint_17 dX8_cellOfCheckpoint_18 dX8_cellOfCheckpoint_20 dX8_cellOfCheckpoint_23 (fun x hx9 => absurd (htab x hx9) id) (Nat.le_of_ble_eq_true rfl) (Nat.le_of_ble_eq_true rfl) (Nat.le_of_ble_eq_true rfl) (Nat.le_of_ble_eq_true rfl) hlocks (fun t ha hz hk => ⟨rfl, by rw [← hW0_]; exact my_thr hP hS hz hk⟩) hS.2.2 (Nat.le_of_ble_eq_true rfl) (Nat.le_of_ble_eq_true rfl)
def mX8_cellOf (va : Nat → Int32) (vb : Nat → Int32) (x0 : Int32) : (Int32) ⊕ String := (tx1 (mX8_checkRobot x0) (fun _ => (if x0 = 0 then (Sum.inl (va 0)) else (Sum.inl (vb 0)))))
set_option maxHeartbeats 4000000 in
set_option maxRecDepth 100000 in
theorem kX8_cellOf (l : Launch) (Γ : my_G) (hfl : l.stackTraces = false) (q_bf q_fl q_k q_c q_a q_pa q_b q_pb q_tx q_flT q_hi q_s1 q_s2 q_fd q_kc q_kr : Nat) (vi : Nat → Int32) (vj : Nat → Int64) (vk : Nat → Int32) (vc : Nat → Int32) (va : Nat → Int32) (vpa : Nat → Int32) (vb : Nat → Int32) (vpb : Nat → Int32) (x0 : Int32) (mr : (Int32) ⊕ String) (hm : mX8_cellOf va vb x0 = mr) : MnX l yX8_cellOf wsX8_cellOf ({ frames := 7, cells := 1, slots := 6, locals := 116 } : Room) Γ [.ref q_bf, .int x0] (wBF Γ q_bf q_tx q_fl q_flT q_hi q_s1 q_s2 q_fd q_kc q_kr  ++ wFloor Γ q_fl q_k q_c q_a q_pa q_b q_pb vi vj vk vc va vpa vb vpb) (my_map (fun q : Int32 => ((some (.int q)), (wBF Γ q_bf q_tx q_fl q_flT q_hi q_s1 q_s2 q_fd q_kc q_kr  ++ wFloor Γ q_fl q_k q_c q_a q_pa q_b q_pb vi vj vk vc va vpa vb vpb))) mr) 1 6 := by
  intro sz
  refine vx_ofW (cc := cX8_cellOf) (maxL := 2) (ret := (some .int)) (by decide) rfl ?_
  intro p e s m args below meth c s₁ B hml htab hv
  obtain ⟨rfl, ⟨hsz, hP, hK, hD0⟩, hZ, hstr⟩ := hv
  have hx := B.exec
  have hb := B.bytes
  have hr := B.returns
  have hts := atoms_spec (ws := wsX8_cellOf) B.pre
  have hown : s.vm.findClass RX8 = some m.cls := findClass_of_methodNamed B.named
  have hlocks := B.notSynchronized
  have hinX1 : ∀ w ∈ u_ws RX1 TX1 12, w ∈ wsX8_cellOf := fun w h => List.mem_cons_of_mem _ (List.mem_append_left _ (List.mem_append_right _ h))
  have hinX4 : ∀ w ∈ u_ws RX4 TX4 10, w ∈ wsX8_cellOf := fun w h => List.mem_cons_of_mem _ (List.mem_append_left _ (List.mem_append_left _ (List.mem_append_right _ h)))
  have hinX8 : ∀ w ∈ u_ws RX8 TX8 9, w ∈ wsX8_cellOf := fun w h => List.mem_cons_of_mem _ (List.mem_append_left _ (List.mem_append_left _ (List.mem_append_left _ (List.mem_append_right _ h))))
  subst hsz
  have hD := hD0.self (sz := s.heap.size)
  have hA : ∀ q : Nat, s.heap.size ≤ q → va_A (wBF Γ q_bf q_tx q_fl q_flT q_hi q_s1 q_s2 q_fd q_kc q_kr  ++ wFloor Γ q_fl q_k q_c q_a q_pa q_b q_pb vi vj vk vc va vpa vb vpb) s.heap.size q := fun q h => Or.inr h
  generalize va_A (wBF Γ q_bf q_tx q_fl q_flT q_hi q_s1 q_s2 q_fd q_kc q_kr  ++ wFloor Γ q_fl q_k q_c q_a q_pa q_b q_pb vi vj vk vc va vpa vb vpb) s.heap.size = A at hD hA hZ ⊢
  obtain ⟨W0_, hW0_⟩ : ∃ w : va_W, (wBF Γ q_bf q_tx q_fl q_flT q_hi q_s1 q_s2 q_fd q_kc q_kr  ++ wFloor Γ q_fl q_k q_c q_a q_pa q_b q_pb vi vj vk vc va vpa vb vpb) = w := ⟨_, rfl⟩
  rw [show my_XC Γ A (wBF Γ q_bf q_tx q_fl q_flT q_hi q_s1 q_s2 q_fd q_kc q_kr  ++ wFloor Γ q_fl q_k q_c q_a q_pa q_b q_pb vi vj vk vc va vpa vb vpb) (my_map (fun q : Int32 => ((some (.int q)), (wBF Γ q_bf q_tx q_fl q_flT q_hi q_s1 q_s2 q_fd q_kc q_kr  ++ wFloor Γ q_fl q_k q_c q_a q_pa q_b q_pb vi vj vk vc va vpa vb vpb))) mr) = my_XC Γ A W0_ (my_map (fun q : Int32 => ((some (.int q)), (wBF Γ q_bf q_tx q_fl q_flT q_hi q_s1 q_s2 q_fd q_kc q_kr  ++ wFloor Γ q_fl q_k q_c q_a q_pa q_b q_pb vi vj vk vc va vpa vb vpb))) mr) from congrArg (fun w => my_XC Γ A w (my_map (fun q : Int32 => ((some (.int q)), (wBF Γ q_bf q_tx q_fl q_flT q_hi q_s1 q_s2 q_fd q_kc q_kr  ++ wFloor Γ q_fl q_k q_c q_a q_pa q_b q_pb vi vj vk vc va vpa vb vpb))) mr)) hW0_]
  have hS : va_S A s.heap s.heap [] := va_S.rf
  have hl := lv_entry ([.ref q_bf, .int x0]) (n := 2) (Nat.le_of_ble_eq_true rfl)
  rw [lg_entry_eq]
  generalize (lg_sl ([.ref q_bf, .int x0]) ++ List.replicate (2 - (lg_sl ([.ref q_bf, .int x0])).length) Slot.unset).toArray = ls at hl ⊢
  replace hl : lv_has ls 2 [(0, .ref q_bf), (1, .int x0)] := hl
  unfold mX8_cellOf at hm
  refine lv_iload_n hx hb dX8_cellOf_0 rfl (lv_at hl 1 rfl) ?_
  refine my_callX (wc := []) hP hD hS hA [] rfl rfl (fun res w1 h9 => my_had h9) (vx_runS (As := [.int x0]) (rest := []) ⟨hx, hb, hml, hown, hts⟩ (kX8_checkRobot l Γ hfl x0 _ rfl _) (va_cwS 1 hts gX8_cellOf_X8_checkRobot rfl rfl rfl (by decide +kernel) ⟨Nat.le_of_ble_eq_true rfl, Nat.le_of_ble_eq_true rfl⟩) (my_preSX (wc := []) [] hK hP hD hS hA hZ hstr rfl rfl) rfl rfl hl.1 rfl (lv_room (Nat.le_of_ble_eq_true rfl)) dX8_cellOf_1 ⟨Nat.le_of_ble_eq_true rfl, Nat.le_of_ble_eq_true rfl⟩) (fun E_ H locs q9 ce hro hP hS h1_ h2_ h3_ => ?_) (fun res_ w1_ H locs hro hP hD hS => ?_)
  · rcases tx1_s hm with ⟨a_, hc_, hm⟩ | ⟨E2_, hc_, hm⟩
    · rw [hc_] at hro; exact (my_map_lr hro).elim
    · rw [hc_] at hro; obtain rfl := my_map_rr hro; subst hm
      exact vx_out (fun x hx9 => absurd (htab x hx9) id) hlocks h1_ h2_ h3_ (fun t ht ha => ⟨rfl, by rw [ht, ← hW0_]; exact hP, hS.F ht⟩) hS.2.2 (Nat.le_of_ble_eq_true rfl) (Nat.le_of_ble_eq_true rfl)
  rcases tx1_s hm with ⟨a_, hc_, hm⟩ | ⟨E2_, hc_, hm⟩
  rotate_left
  · rw [hc_] at hro; exact (my_map_rl hro).elim
  rw [hc_] at hro
  obtain ⟨rfl, rfl⟩ := my_map_ll hro
  replace hP : va_P (my_D Γ) vwCl (wBF Γ q_bf q_tx q_fl q_flT q_hi q_s1 q_s2 q_fd q_kc q_kr  ++ wFloor Γ q_fl q_k q_c q_a q_pa q_b q_pb vi vj vk vc va vpa vb vpb) H := hP
  replace hD : va_D A (wBF Γ q_bf q_tx q_fl q_flT q_hi q_s1 q_s2 q_fd q_kc q_kr  ++ wFloor Γ q_fl q_k q_c q_a q_pa q_b q_pb vi vj vk vc va vpa vb vpb) := hD
  refine lv_aload_n hx hb dX8_cellOf_4 rfl (lv_at hl 0 rfl) ?_
  refine va_get (D := my_D Γ) (ci := 6) (v := .ref q_fl) (C := RX8) (T := TX8) (N := 9) hx hb hts hinX8 hown hK hP 0 rfl rfl 1 (by decide) (hts (.fieldLink RX8 19 "BeltFloor" "floor" "LBeltFloor$Floor;") (List.mem_of_getElem? (i := 1) rfl)) (fun _ h9 => h9) rfl dX8_cellOf_5 ?_
  refine lv_iload_n hx hb dX8_cellOf_8 rfl (lv_at hl 1 rfl) ?_
  by_cases c_2 : x0 = 0
  · replace hm := if_s hm c_2
    refine my_call1 (wc := (wFloor Γ q_fl q_k q_c q_a q_pa q_b q_pb vi vj vk vc va vpa vb vpb)) (w1 := (wFloor Γ q_fl q_k q_c q_a q_pa q_b q_pb vi vj vk vc va vpa vb vpb)) (ws1 := (wBF Γ q_bf q_tx q_fl q_flT q_hi q_s1 q_s2 q_fd q_kc q_kr  ++ wFloor Γ q_fl q_k q_c q_a q_pa q_b q_pb vi vj vk vc va vpa vb vpb)) hP hD hS hA [1, 2, 3, 4, 5, 6, 7] rfl rfl rfl (va_runV (As := [.int x0]) (rest := []) ⟨hx, hb, hml, hown, hts⟩ (kX1_robot_0 l Γ q_fl q_k q_c q_a q_pa q_b q_pb vi vj vk vc va vpa vb vpb x0 c_2 _) (cwV 1 hts gX8_cellOf_X1_robot rfl rfl rfl (by decide +kernel) ⟨Nat.le_of_ble_eq_true rfl, Nat.le_of_ble_eq_true rfl⟩) (my_preV (wc := (wFloor Γ q_fl q_k q_c q_a q_pa q_b q_pb vi vj vk vc va vpa vb vpb)) (ci := 1) (q0 := 1) [1, 2, 3, 4, 5, 6, 7] hK hP hD rfl rfl rfl rfl) rfl rfl hl.1 rfl (lv_room (Nat.le_of_ble_eq_true rfl)) dX8_cellOf_9 ⟨Nat.le_of_ble_eq_true rfl, Nat.le_of_ble_eq_true rfl⟩) (fun H locs hP hD hS => ?_)
    refine va_get (D := my_D Γ) (ci := 3) (v := .int (va 0)) (C := RX4) (T := TX4) (N := 10) hx hb hts hinX4 hown hK hP 4 rfl rfl 0 (by decide) (hts (.fieldLink RX8 144 "BeltFloor$Robot" "cell" "I") (List.mem_of_getElem? (i := 2) rfl)) (fun _ h9 => h9) rfl dX8_cellOf_12 ?_
    cases hm
    exact vx_ret (W.widen (k := 1) (n := 6) (Nat.le_of_ble_eq_true rfl) (Nat.le_of_ble_eq_true rfl) (W.iret (v := (va 0)) hx hb hr (fun t ht hW => ⟨_, _, rfl, ⟨rfl, by rw [ht]; exact hP⟩, hS.F ht⟩) hS.2.2 dX8_cellOf_15))
  · replace hm := if_f hm c_2
    refine my_call1 (wc := (wFloor Γ q_fl q_k q_c q_a q_pa q_b q_pb vi vj vk vc va vpa vb vpb)) (w1 := (wFloor Γ q_fl q_k q_c q_a q_pa q_b q_pb vi vj vk vc va vpa vb vpb)) (ws1 := (wBF Γ q_bf q_tx q_fl q_flT q_hi q_s1 q_s2 q_fd q_kc q_kr  ++ wFloor Γ q_fl q_k q_c q_a q_pa q_b q_pb vi vj vk vc va vpa vb vpb)) hP hD hS hA [1, 2, 3, 4, 5, 6, 7] rfl rfl rfl (va_runV (As := [.int x0]) (rest := []) ⟨hx, hb, hml, hown, hts⟩ (kX1_robot_1 l Γ q_fl q_k q_c q_a q_pa q_b q_pb vi vj vk vc va vpa vb vpb x0 c_2 _) (cwV 1 hts gX8_cellOf_X1_robot rfl rfl rfl (by decide +kernel) ⟨Nat.le_of_ble_eq_true rfl, Nat.le_of_ble_eq_true rfl⟩) (my_preV (wc := (wFloor Γ q_fl q_k q_c q_a q_pa q_b q_pb vi vj vk vc va vpa vb vpb)) (ci := 1) (q0 := 1) [1, 2, 3, 4, 5, 6, 7] hK hP hD rfl rfl rfl rfl) rfl rfl hl.1 rfl (lv_room (Nat.le_of_ble_eq_true rfl)) dX8_cellOf_9 ⟨Nat.le_of_ble_eq_true rfl, Nat.le_of_ble_eq_true rfl⟩) (fun H locs hP hD hS => ?_)
    refine va_get (D := my_D Γ) (ci := 3) (v := .int (vb 0)) (C := RX4) (T := TX4) (N := 10) hx hb hts hinX4 hown hK hP 6 rfl rfl 0 (by decide) (hts (.fieldLink RX8 144 "BeltFloor$Robot" "cell" "I") (List.mem_of_getElem? (i := 2) rfl)) (fun _ h9 => h9) rfl dX8_cellOf_12 ?_
    cases hm
    exact vx_ret (W.widen (k := 1) (n := 6) (Nat.le_of_ble_eq_true rfl) (Nat.le_of_ble_eq_true rfl) (W.iret (v := (vb 0)) hx hb hr (fun t ht hW => ⟨_, _, rfl, ⟨rfl, by rw [ht]; exact hP⟩, hS.F ht⟩) hS.2.2 dX8_cellOf_15))
def mX8_facingOf (va : Nat → Int32) (vb : Nat → Int32) (x0 : Int32) : (Int32) ⊕ String := (tx1 (mX8_checkRobot x0) (fun _ => (if x0 = 0 then (Sum.inl (va 1)) else (Sum.inl (vb 1)))))
set_option maxHeartbeats 4000000 in
set_option maxRecDepth 100000 in
theorem kX8_facingOf (l : Launch) (Γ : my_G) (hfl : l.stackTraces = false) (q_bf q_fl q_k q_c q_a q_pa q_b q_pb q_tx q_flT q_hi q_s1 q_s2 q_fd q_kc q_kr : Nat) (vi : Nat → Int32) (vj : Nat → Int64) (vk : Nat → Int32) (vc : Nat → Int32) (va : Nat → Int32) (vpa : Nat → Int32) (vb : Nat → Int32) (vpb : Nat → Int32) (x0 : Int32) (mr : (Int32) ⊕ String) (hm : mX8_facingOf va vb x0 = mr) : MnX l yX8_facingOf wsX8_facingOf ({ frames := 7, cells := 1, slots := 6, locals := 116 } : Room) Γ [.ref q_bf, .int x0] (wBF Γ q_bf q_tx q_fl q_flT q_hi q_s1 q_s2 q_fd q_kc q_kr  ++ wFloor Γ q_fl q_k q_c q_a q_pa q_b q_pb vi vj vk vc va vpa vb vpb) (my_map (fun q : Int32 => ((some (.int q)), (wBF Γ q_bf q_tx q_fl q_flT q_hi q_s1 q_s2 q_fd q_kc q_kr  ++ wFloor Γ q_fl q_k q_c q_a q_pa q_b q_pb vi vj vk vc va vpa vb vpb))) mr) 1 6 := by
  intro sz
  refine vx_ofW (cc := cX8_facingOf) (maxL := 2) (ret := (some .int)) (by decide) rfl ?_
  intro p e s m args below meth c s₁ B hml htab hv
  obtain ⟨rfl, ⟨hsz, hP, hK, hD0⟩, hZ, hstr⟩ := hv
  have hx := B.exec
  have hb := B.bytes
  have hr := B.returns
  have hts := atoms_spec (ws := wsX8_facingOf) B.pre
  have hown : s.vm.findClass RX8 = some m.cls := findClass_of_methodNamed B.named
  have hlocks := B.notSynchronized
  have hinX1 : ∀ w ∈ u_ws RX1 TX1 12, w ∈ wsX8_facingOf := fun w h => List.mem_cons_of_mem _ (List.mem_append_left _ (List.mem_append_right _ h))
  have hinX4 : ∀ w ∈ u_ws RX4 TX4 10, w ∈ wsX8_facingOf := fun w h => List.mem_cons_of_mem _ (List.mem_append_left _ (List.mem_append_left _ (List.mem_append_right _ h)))
  have hinX8 : ∀ w ∈ u_ws RX8 TX8 9, w ∈ wsX8_facingOf := fun w h => List.mem_cons_of_mem _ (List.mem_append_left _ (List.mem_append_left _ (List.mem_append_left _ (List.mem_append_right _ h))))
  subst hsz
  have hD := hD0.self (sz := s.heap.size)
  have hA : ∀ q : Nat, s.heap.size ≤ q → va_A (wBF Γ q_bf q_tx q_fl q_flT q_hi q_s1 q_s2 q_fd q_kc q_kr  ++ wFloor Γ q_fl q_k q_c q_a q_pa q_b q_pb vi vj vk vc va vpa vb vpb) s.heap.size q := fun q h => Or.inr h
  generalize va_A (wBF Γ q_bf q_tx q_fl q_flT q_hi q_s1 q_s2 q_fd q_kc q_kr  ++ wFloor Γ q_fl q_k q_c q_a q_pa q_b q_pb vi vj vk vc va vpa vb vpb) s.heap.size = A at hD hA hZ ⊢
  obtain ⟨W0_, hW0_⟩ : ∃ w : va_W, (wBF Γ q_bf q_tx q_fl q_flT q_hi q_s1 q_s2 q_fd q_kc q_kr  ++ wFloor Γ q_fl q_k q_c q_a q_pa q_b q_pb vi vj vk vc va vpa vb vpb) = w := ⟨_, rfl⟩
  rw [show my_XC Γ A (wBF Γ q_bf q_tx q_fl q_flT q_hi q_s1 q_s2 q_fd q_kc q_kr  ++ wFloor Γ q_fl q_k q_c q_a q_pa q_b q_pb vi vj vk vc va vpa vb vpb) (my_map (fun q : Int32 => ((some (.int q)), (wBF Γ q_bf q_tx q_fl q_flT q_hi q_s1 q_s2 q_fd q_kc q_kr  ++ wFloor Γ q_fl q_k q_c q_a q_pa q_b q_pb vi vj vk vc va vpa vb vpb))) mr) = my_XC Γ A W0_ (my_map (fun q : Int32 => ((some (.int q)), (wBF Γ q_bf q_tx q_fl q_flT q_hi q_s1 q_s2 q_fd q_kc q_kr  ++ wFloor Γ q_fl q_k q_c q_a q_pa q_b q_pb vi vj vk vc va vpa vb vpb))) mr) from congrArg (fun w => my_XC Γ A w (my_map (fun q : Int32 => ((some (.int q)), (wBF Γ q_bf q_tx q_fl q_flT q_hi q_s1 q_s2 q_fd q_kc q_kr  ++ wFloor Γ q_fl q_k q_c q_a q_pa q_b q_pb vi vj vk vc va vpa vb vpb))) mr)) hW0_]
  have hS : va_S A s.heap s.heap [] := va_S.rf
  have hl := lv_entry ([.ref q_bf, .int x0]) (n := 2) (Nat.le_of_ble_eq_true rfl)
  rw [lg_entry_eq]
  generalize (lg_sl ([.ref q_bf, .int x0]) ++ List.replicate (2 - (lg_sl ([.ref q_bf, .int x0])).length) Slot.unset).toArray = ls at hl ⊢
  replace hl : lv_has ls 2 [(0, .ref q_bf), (1, .int x0)] := hl
  unfold mX8_facingOf at hm
  refine lv_iload_n hx hb dX8_facingOf_0 rfl (lv_at hl 1 rfl) ?_
  refine my_callX (wc := []) hP hD hS hA [] rfl rfl (fun res w1 h9 => my_had h9) (vx_runS (As := [.int x0]) (rest := []) ⟨hx, hb, hml, hown, hts⟩ (kX8_checkRobot l Γ hfl x0 _ rfl _) (va_cwS 1 hts gX8_facingOf_X8_checkRobot rfl rfl rfl (by decide +kernel) ⟨Nat.le_of_ble_eq_true rfl, Nat.le_of_ble_eq_true rfl⟩) (my_preSX (wc := []) [] hK hP hD hS hA hZ hstr rfl rfl) rfl rfl hl.1 rfl (lv_room (Nat.le_of_ble_eq_true rfl)) dX8_facingOf_1 ⟨Nat.le_of_ble_eq_true rfl, Nat.le_of_ble_eq_true rfl⟩) (fun E_ H locs q9 ce hro hP hS h1_ h2_ h3_ => ?_) (fun res_ w1_ H locs hro hP hD hS => ?_)
  · rcases tx1_s hm with ⟨a_, hc_, hm⟩ | ⟨E2_, hc_, hm⟩
    · rw [hc_] at hro; exact (my_map_lr hro).elim
    · rw [hc_] at hro; obtain rfl := my_map_rr hro; subst hm
      exact vx_out (fun x hx9 => absurd (htab x hx9) id) hlocks h1_ h2_ h3_ (fun t ht ha => ⟨rfl, by rw [ht, ← hW0_]; exact hP, hS.F ht⟩) hS.2.2 (Nat.le_of_ble_eq_true rfl) (Nat.le_of_ble_eq_true rfl)
  rcases tx1_s hm with ⟨a_, hc_, hm⟩ | ⟨E2_, hc_, hm⟩
  rotate_left
  · rw [hc_] at hro; exact (my_map_rl hro).elim
  rw [hc_] at hro
  obtain ⟨rfl, rfl⟩ := my_map_ll hro
  replace hP : va_P (my_D Γ) vwCl (wBF Γ q_bf q_tx q_fl q_flT q_hi q_s1 q_s2 q_fd q_kc q_kr  ++ wFloor Γ q_fl q_k q_c q_a q_pa q_b q_pb vi vj vk vc va vpa vb vpb) H := hP
  replace hD : va_D A (wBF Γ q_bf q_tx q_fl q_flT q_hi q_s1 q_s2 q_fd q_kc q_kr  ++ wFloor Γ q_fl q_k q_c q_a q_pa q_b q_pb vi vj vk vc va vpa vb vpb) := hD
  refine lv_aload_n hx hb dX8_facingOf_4 rfl (lv_at hl 0 rfl) ?_
  refine va_get (D := my_D Γ) (ci := 6) (v := .ref q_fl) (C := RX8) (T := TX8) (N := 9) hx hb hts hinX8 hown hK hP 0 rfl rfl 1 (by decide) (hts (.fieldLink RX8 19 "BeltFloor" "floor" "LBeltFloor$Floor;") (List.mem_of_getElem? (i := 1) rfl)) (fun _ h9 => h9) rfl dX8_facingOf_5 ?_
  refine lv_iload_n hx hb dX8_facingOf_8 rfl (lv_at hl 1 rfl) ?_
  by_cases c_2 : x0 = 0
  · replace hm := if_s hm c_2
    refine my_call1 (wc := (wFloor Γ q_fl q_k q_c q_a q_pa q_b q_pb vi vj vk vc va vpa vb vpb)) (w1 := (wFloor Γ q_fl q_k q_c q_a q_pa q_b q_pb vi vj vk vc va vpa vb vpb)) (ws1 := (wBF Γ q_bf q_tx q_fl q_flT q_hi q_s1 q_s2 q_fd q_kc q_kr  ++ wFloor Γ q_fl q_k q_c q_a q_pa q_b q_pb vi vj vk vc va vpa vb vpb)) hP hD hS hA [1, 2, 3, 4, 5, 6, 7] rfl rfl rfl (va_runV (As := [.int x0]) (rest := []) ⟨hx, hb, hml, hown, hts⟩ (kX1_robot_0 l Γ q_fl q_k q_c q_a q_pa q_b q_pb vi vj vk vc va vpa vb vpb x0 c_2 _) (cwV 1 hts gX8_facingOf_X1_robot rfl rfl rfl (by decide +kernel) ⟨Nat.le_of_ble_eq_true rfl, Nat.le_of_ble_eq_true rfl⟩) (my_preV (wc := (wFloor Γ q_fl q_k q_c q_a q_pa q_b q_pb vi vj vk vc va vpa vb vpb)) (ci := 1) (q0 := 1) [1, 2, 3, 4, 5, 6, 7] hK hP hD rfl rfl rfl rfl) rfl rfl hl.1 rfl (lv_room (Nat.le_of_ble_eq_true rfl)) dX8_facingOf_9 ⟨Nat.le_of_ble_eq_true rfl, Nat.le_of_ble_eq_true rfl⟩) (fun H locs hP hD hS => ?_)
    refine va_get (D := my_D Γ) (ci := 3) (v := .int (va 1)) (C := RX4) (T := TX4) (N := 10) hx hb hts hinX4 hown hK hP 4 rfl rfl 1 (by decide) (hts (.fieldLink RX8 149 "BeltFloor$Robot" "facing" "I") (List.mem_of_getElem? (i := 2) rfl)) (fun _ h9 => h9) rfl dX8_facingOf_12 ?_
    cases hm
    exact vx_ret (W.widen (k := 1) (n := 6) (Nat.le_of_ble_eq_true rfl) (Nat.le_of_ble_eq_true rfl) (W.iret (v := (va 1)) hx hb hr (fun t ht hW => ⟨_, _, rfl, ⟨rfl, by rw [ht]; exact hP⟩, hS.F ht⟩) hS.2.2 dX8_facingOf_15))
  · replace hm := if_f hm c_2
    refine my_call1 (wc := (wFloor Γ q_fl q_k q_c q_a q_pa q_b q_pb vi vj vk vc va vpa vb vpb)) (w1 := (wFloor Γ q_fl q_k q_c q_a q_pa q_b q_pb vi vj vk vc va vpa vb vpb)) (ws1 := (wBF Γ q_bf q_tx q_fl q_flT q_hi q_s1 q_s2 q_fd q_kc q_kr  ++ wFloor Γ q_fl q_k q_c q_a q_pa q_b q_pb vi vj vk vc va vpa vb vpb)) hP hD hS hA [1, 2, 3, 4, 5, 6, 7] rfl rfl rfl (va_runV (As := [.int x0]) (rest := []) ⟨hx, hb, hml, hown, hts⟩ (kX1_robot_1 l Γ q_fl q_k q_c q_a q_pa q_b q_pb vi vj vk vc va vpa vb vpb x0 c_2 _) (cwV 1 hts gX8_facingOf_X1_robot rfl rfl rfl (by decide +kernel) ⟨Nat.le_of_ble_eq_true rfl, Nat.le_of_ble_eq_true rfl⟩) (my_preV (wc := (wFloor Γ q_fl q_k q_c q_a q_pa q_b q_pb vi vj vk vc va vpa vb vpb)) (ci := 1) (q0 := 1) [1, 2, 3, 4, 5, 6, 7] hK hP hD rfl rfl rfl rfl) rfl rfl hl.1 rfl (lv_room (Nat.le_of_ble_eq_true rfl)) dX8_facingOf_9 ⟨Nat.le_of_ble_eq_true rfl, Nat.le_of_ble_eq_true rfl⟩) (fun H locs hP hD hS => ?_)
    refine va_get (D := my_D Γ) (ci := 3) (v := .int (vb 1)) (C := RX4) (T := TX4) (N := 10) hx hb hts hinX4 hown hK hP 6 rfl rfl 1 (by decide) (hts (.fieldLink RX8 149 "BeltFloor$Robot" "facing" "I") (List.mem_of_getElem? (i := 2) rfl)) (fun _ h9 => h9) rfl dX8_facingOf_12 ?_
    cases hm
    exact vx_ret (W.widen (k := 1) (n := 6) (Nat.le_of_ble_eq_true rfl) (Nat.le_of_ble_eq_true rfl) (W.iret (v := (vb 1)) hx hb hr (fun t ht hW => ⟨_, _, rfl, ⟨rfl, by rw [ht]; exact hP⟩, hS.F ht⟩) hS.2.2 dX8_facingOf_15))
def mX8_nextOf (va : Nat → Int32) (vb : Nat → Int32) (x0 : Int32) : (Int32) ⊕ String := (tx1 (mX8_checkRobot x0) (fun _ => (if x0 = 0 then (Sum.inl (va 2)) else (Sum.inl (vb 2)))))
set_option maxHeartbeats 4000000 in
set_option maxRecDepth 100000 in
theorem kX8_nextOf (l : Launch) (Γ : my_G) (hfl : l.stackTraces = false) (q_bf q_fl q_k q_c q_a q_pa q_b q_pb q_tx q_flT q_hi q_s1 q_s2 q_fd q_kc q_kr : Nat) (vi : Nat → Int32) (vj : Nat → Int64) (vk : Nat → Int32) (vc : Nat → Int32) (va : Nat → Int32) (vpa : Nat → Int32) (vb : Nat → Int32) (vpb : Nat → Int32) (x0 : Int32) (mr : (Int32) ⊕ String) (hm : mX8_nextOf va vb x0 = mr) : MnX l yX8_nextOf wsX8_nextOf ({ frames := 7, cells := 1, slots := 6, locals := 116 } : Room) Γ [.ref q_bf, .int x0] (wBF Γ q_bf q_tx q_fl q_flT q_hi q_s1 q_s2 q_fd q_kc q_kr  ++ wFloor Γ q_fl q_k q_c q_a q_pa q_b q_pb vi vj vk vc va vpa vb vpb) (my_map (fun q : Int32 => ((some (.int q)), (wBF Γ q_bf q_tx q_fl q_flT q_hi q_s1 q_s2 q_fd q_kc q_kr  ++ wFloor Γ q_fl q_k q_c q_a q_pa q_b q_pb vi vj vk vc va vpa vb vpb))) mr) 1 6 := by
  intro sz
  refine vx_ofW (cc := cX8_nextOf) (maxL := 2) (ret := (some .int)) (by decide) rfl ?_
  intro p e s m args below meth c s₁ B hml htab hv
  obtain ⟨rfl, ⟨hsz, hP, hK, hD0⟩, hZ, hstr⟩ := hv
  have hx := B.exec
  have hb := B.bytes
  have hr := B.returns
  have hts := atoms_spec (ws := wsX8_nextOf) B.pre
  have hown : s.vm.findClass RX8 = some m.cls := findClass_of_methodNamed B.named
  have hlocks := B.notSynchronized
  have hinX1 : ∀ w ∈ u_ws RX1 TX1 12, w ∈ wsX8_nextOf := fun w h => List.mem_cons_of_mem _ (List.mem_append_left _ (List.mem_append_right _ h))
  have hinX4 : ∀ w ∈ u_ws RX4 TX4 10, w ∈ wsX8_nextOf := fun w h => List.mem_cons_of_mem _ (List.mem_append_left _ (List.mem_append_left _ (List.mem_append_right _ h)))
  have hinX8 : ∀ w ∈ u_ws RX8 TX8 9, w ∈ wsX8_nextOf := fun w h => List.mem_cons_of_mem _ (List.mem_append_left _ (List.mem_append_left _ (List.mem_append_left _ (List.mem_append_right _ h))))
  subst hsz
  have hD := hD0.self (sz := s.heap.size)
  have hA : ∀ q : Nat, s.heap.size ≤ q → va_A (wBF Γ q_bf q_tx q_fl q_flT q_hi q_s1 q_s2 q_fd q_kc q_kr  ++ wFloor Γ q_fl q_k q_c q_a q_pa q_b q_pb vi vj vk vc va vpa vb vpb) s.heap.size q := fun q h => Or.inr h
  generalize va_A (wBF Γ q_bf q_tx q_fl q_flT q_hi q_s1 q_s2 q_fd q_kc q_kr  ++ wFloor Γ q_fl q_k q_c q_a q_pa q_b q_pb vi vj vk vc va vpa vb vpb) s.heap.size = A at hD hA hZ ⊢
  obtain ⟨W0_, hW0_⟩ : ∃ w : va_W, (wBF Γ q_bf q_tx q_fl q_flT q_hi q_s1 q_s2 q_fd q_kc q_kr  ++ wFloor Γ q_fl q_k q_c q_a q_pa q_b q_pb vi vj vk vc va vpa vb vpb) = w := ⟨_, rfl⟩
  rw [show my_XC Γ A (wBF Γ q_bf q_tx q_fl q_flT q_hi q_s1 q_s2 q_fd q_kc q_kr  ++ wFloor Γ q_fl q_k q_c q_a q_pa q_b q_pb vi vj vk vc va vpa vb vpb) (my_map (fun q : Int32 => ((some (.int q)), (wBF Γ q_bf q_tx q_fl q_flT q_hi q_s1 q_s2 q_fd q_kc q_kr  ++ wFloor Γ q_fl q_k q_c q_a q_pa q_b q_pb vi vj vk vc va vpa vb vpb))) mr) = my_XC Γ A W0_ (my_map (fun q : Int32 => ((some (.int q)), (wBF Γ q_bf q_tx q_fl q_flT q_hi q_s1 q_s2 q_fd q_kc q_kr  ++ wFloor Γ q_fl q_k q_c q_a q_pa q_b q_pb vi vj vk vc va vpa vb vpb))) mr) from congrArg (fun w => my_XC Γ A w (my_map (fun q : Int32 => ((some (.int q)), (wBF Γ q_bf q_tx q_fl q_flT q_hi q_s1 q_s2 q_fd q_kc q_kr  ++ wFloor Γ q_fl q_k q_c q_a q_pa q_b q_pb vi vj vk vc va vpa vb vpb))) mr)) hW0_]
  have hS : va_S A s.heap s.heap [] := va_S.rf
  have hl := lv_entry ([.ref q_bf, .int x0]) (n := 2) (Nat.le_of_ble_eq_true rfl)
  rw [lg_entry_eq]
  generalize (lg_sl ([.ref q_bf, .int x0]) ++ List.replicate (2 - (lg_sl ([.ref q_bf, .int x0])).length) Slot.unset).toArray = ls at hl ⊢
  replace hl : lv_has ls 2 [(0, .ref q_bf), (1, .int x0)] := hl
  unfold mX8_nextOf at hm
  refine lv_iload_n hx hb dX8_nextOf_0 rfl (lv_at hl 1 rfl) ?_
  refine my_callX (wc := []) hP hD hS hA [] rfl rfl (fun res w1 h9 => my_had h9) (vx_runS (As := [.int x0]) (rest := []) ⟨hx, hb, hml, hown, hts⟩ (kX8_checkRobot l Γ hfl x0 _ rfl _) (va_cwS 1 hts gX8_nextOf_X8_checkRobot rfl rfl rfl (by decide +kernel) ⟨Nat.le_of_ble_eq_true rfl, Nat.le_of_ble_eq_true rfl⟩) (my_preSX (wc := []) [] hK hP hD hS hA hZ hstr rfl rfl) rfl rfl hl.1 rfl (lv_room (Nat.le_of_ble_eq_true rfl)) dX8_nextOf_1 ⟨Nat.le_of_ble_eq_true rfl, Nat.le_of_ble_eq_true rfl⟩) (fun E_ H locs q9 ce hro hP hS h1_ h2_ h3_ => ?_) (fun res_ w1_ H locs hro hP hD hS => ?_)
  · rcases tx1_s hm with ⟨a_, hc_, hm⟩ | ⟨E2_, hc_, hm⟩
    · rw [hc_] at hro; exact (my_map_lr hro).elim
    · rw [hc_] at hro; obtain rfl := my_map_rr hro; subst hm
      exact vx_out (fun x hx9 => absurd (htab x hx9) id) hlocks h1_ h2_ h3_ (fun t ht ha => ⟨rfl, by rw [ht, ← hW0_]; exact hP, hS.F ht⟩) hS.2.2 (Nat.le_of_ble_eq_true rfl) (Nat.le_of_ble_eq_true rfl)
  rcases tx1_s hm with ⟨a_, hc_, hm⟩ | ⟨E2_, hc_, hm⟩
  rotate_left
  · rw [hc_] at hro; exact (my_map_rl hro).elim
  rw [hc_] at hro
  obtain ⟨rfl, rfl⟩ := my_map_ll hro
  replace hP : va_P (my_D Γ) vwCl (wBF Γ q_bf q_tx q_fl q_flT q_hi q_s1 q_s2 q_fd q_kc q_kr  ++ wFloor Γ q_fl q_k q_c q_a q_pa q_b q_pb vi vj vk vc va vpa vb vpb) H := hP
  replace hD : va_D A (wBF Γ q_bf q_tx q_fl q_flT q_hi q_s1 q_s2 q_fd q_kc q_kr  ++ wFloor Γ q_fl q_k q_c q_a q_pa q_b q_pb vi vj vk vc va vpa vb vpb) := hD
  refine lv_aload_n hx hb dX8_nextOf_4 rfl (lv_at hl 0 rfl) ?_
  refine va_get (D := my_D Γ) (ci := 6) (v := .ref q_fl) (C := RX8) (T := TX8) (N := 9) hx hb hts hinX8 hown hK hP 0 rfl rfl 1 (by decide) (hts (.fieldLink RX8 19 "BeltFloor" "floor" "LBeltFloor$Floor;") (List.mem_of_getElem? (i := 1) rfl)) (fun _ h9 => h9) rfl dX8_nextOf_5 ?_
  refine lv_iload_n hx hb dX8_nextOf_8 rfl (lv_at hl 1 rfl) ?_
  by_cases c_2 : x0 = 0
  · replace hm := if_s hm c_2
    refine my_call1 (wc := (wFloor Γ q_fl q_k q_c q_a q_pa q_b q_pb vi vj vk vc va vpa vb vpb)) (w1 := (wFloor Γ q_fl q_k q_c q_a q_pa q_b q_pb vi vj vk vc va vpa vb vpb)) (ws1 := (wBF Γ q_bf q_tx q_fl q_flT q_hi q_s1 q_s2 q_fd q_kc q_kr  ++ wFloor Γ q_fl q_k q_c q_a q_pa q_b q_pb vi vj vk vc va vpa vb vpb)) hP hD hS hA [1, 2, 3, 4, 5, 6, 7] rfl rfl rfl (va_runV (As := [.int x0]) (rest := []) ⟨hx, hb, hml, hown, hts⟩ (kX1_robot_0 l Γ q_fl q_k q_c q_a q_pa q_b q_pb vi vj vk vc va vpa vb vpb x0 c_2 _) (cwV 1 hts gX8_nextOf_X1_robot rfl rfl rfl (by decide +kernel) ⟨Nat.le_of_ble_eq_true rfl, Nat.le_of_ble_eq_true rfl⟩) (my_preV (wc := (wFloor Γ q_fl q_k q_c q_a q_pa q_b q_pb vi vj vk vc va vpa vb vpb)) (ci := 1) (q0 := 1) [1, 2, 3, 4, 5, 6, 7] hK hP hD rfl rfl rfl rfl) rfl rfl hl.1 rfl (lv_room (Nat.le_of_ble_eq_true rfl)) dX8_nextOf_9 ⟨Nat.le_of_ble_eq_true rfl, Nat.le_of_ble_eq_true rfl⟩) (fun H locs hP hD hS => ?_)
    refine va_get (D := my_D Γ) (ci := 3) (v := .int (va 2)) (C := RX4) (T := TX4) (N := 10) hx hb hts hinX4 hown hK hP 4 rfl rfl 2 (by decide) (hts (.fieldLink RX8 152 "BeltFloor$Robot" "next" "I") (List.mem_of_getElem? (i := 2) rfl)) (fun _ h9 => h9) rfl dX8_nextOf_12 ?_
    cases hm
    exact vx_ret (W.widen (k := 1) (n := 6) (Nat.le_of_ble_eq_true rfl) (Nat.le_of_ble_eq_true rfl) (W.iret (v := (va 2)) hx hb hr (fun t ht hW => ⟨_, _, rfl, ⟨rfl, by rw [ht]; exact hP⟩, hS.F ht⟩) hS.2.2 dX8_nextOf_15))
  · replace hm := if_f hm c_2
    refine my_call1 (wc := (wFloor Γ q_fl q_k q_c q_a q_pa q_b q_pb vi vj vk vc va vpa vb vpb)) (w1 := (wFloor Γ q_fl q_k q_c q_a q_pa q_b q_pb vi vj vk vc va vpa vb vpb)) (ws1 := (wBF Γ q_bf q_tx q_fl q_flT q_hi q_s1 q_s2 q_fd q_kc q_kr  ++ wFloor Γ q_fl q_k q_c q_a q_pa q_b q_pb vi vj vk vc va vpa vb vpb)) hP hD hS hA [1, 2, 3, 4, 5, 6, 7] rfl rfl rfl (va_runV (As := [.int x0]) (rest := []) ⟨hx, hb, hml, hown, hts⟩ (kX1_robot_1 l Γ q_fl q_k q_c q_a q_pa q_b q_pb vi vj vk vc va vpa vb vpb x0 c_2 _) (cwV 1 hts gX8_nextOf_X1_robot rfl rfl rfl (by decide +kernel) ⟨Nat.le_of_ble_eq_true rfl, Nat.le_of_ble_eq_true rfl⟩) (my_preV (wc := (wFloor Γ q_fl q_k q_c q_a q_pa q_b q_pb vi vj vk vc va vpa vb vpb)) (ci := 1) (q0 := 1) [1, 2, 3, 4, 5, 6, 7] hK hP hD rfl rfl rfl rfl) rfl rfl hl.1 rfl (lv_room (Nat.le_of_ble_eq_true rfl)) dX8_nextOf_9 ⟨Nat.le_of_ble_eq_true rfl, Nat.le_of_ble_eq_true rfl⟩) (fun H locs hP hD hS => ?_)
    refine va_get (D := my_D Γ) (ci := 3) (v := .int (vb 2)) (C := RX4) (T := TX4) (N := 10) hx hb hts hinX4 hown hK hP 6 rfl rfl 2 (by decide) (hts (.fieldLink RX8 152 "BeltFloor$Robot" "next" "I") (List.mem_of_getElem? (i := 2) rfl)) (fun _ h9 => h9) rfl dX8_nextOf_12 ?_
    cases hm
    exact vx_ret (W.widen (k := 1) (n := 6) (Nat.le_of_ble_eq_true rfl) (Nat.le_of_ble_eq_true rfl) (W.iret (v := (vb 2)) hx hb hr (fun t ht hW => ⟨_, _, rfl, ⟨rfl, by rw [ht]; exact hP⟩, hS.F ht⟩) hS.2.2 dX8_nextOf_15))
def mX8_isHome (vi : Nat → Int32) (va : Nat → Int32) (vb : Nat → Int32) (x0 : Int32) : (Int32) ⊕ String := (tx1 (mX8_checkRobot x0) (fun _ => (if (vi 7) ≤ 0 then (Sum.inl (0 : Int32)) else (if x0 = 0 then (if (va 2) ≤ (vi 7) then (Sum.inl (0 : Int32)) else (Sum.inl (1 : Int32))) else (if (vb 2) ≤ (vi 7) then (Sum.inl (0 : Int32)) else (Sum.inl (1 : Int32)))))))
set_option maxHeartbeats 4000000 in
set_option maxRecDepth 100000 in
theorem kX8_isHome (l : Launch) (Γ : my_G) (hfl : l.stackTraces = false) (q_bf q_fl q_k q_c q_a q_pa q_b q_pb q_tx q_flT q_hi q_s1 q_s2 q_fd q_kc q_kr : Nat) (vi : Nat → Int32) (vj : Nat → Int64) (vk : Nat → Int32) (vc : Nat → Int32) (va : Nat → Int32) (vpa : Nat → Int32) (vb : Nat → Int32) (vpb : Nat → Int32) (x0 : Int32) (mr : (Int32) ⊕ String) (hm : mX8_isHome vi va vb x0 = mr) : MnX l yX8_isHome wsX8_isHome ({ frames := 7, cells := 1, slots := 6, locals := 116 } : Room) Γ [.ref q_bf, .int x0] (wBF Γ q_bf q_tx q_fl q_flT q_hi q_s1 q_s2 q_fd q_kc q_kr  ++ wFloor Γ q_fl q_k q_c q_a q_pa q_b q_pb vi vj vk vc va vpa vb vpb) (my_map (fun q : Int32 => ((some (.int q)), (wBF Γ q_bf q_tx q_fl q_flT q_hi q_s1 q_s2 q_fd q_kc q_kr  ++ wFloor Γ q_fl q_k q_c q_a q_pa q_b q_pb vi vj vk vc va vpa vb vpb))) mr) 1 6 := by
  intro sz
  refine vx_ofW (cc := cX8_isHome) (maxL := 2) (ret := (some .boolean)) (by decide) rfl ?_
  intro p e s m args below meth c s₁ B hml htab hv
  obtain ⟨rfl, ⟨hsz, hP, hK, hD0⟩, hZ, hstr⟩ := hv
  have hx := B.exec
  have hb := B.bytes
  have hr := B.returns
  have hts := atoms_spec (ws := wsX8_isHome) B.pre
  have hown : s.vm.findClass RX8 = some m.cls := findClass_of_methodNamed B.named
  have hlocks := B.notSynchronized
  have hinX1 : ∀ w ∈ u_ws RX1 TX1 12, w ∈ wsX8_isHome := fun w h => List.mem_cons_of_mem _ (List.mem_append_left _ (List.mem_append_left _ (List.mem_append_right _ h)))
  have hinX4 : ∀ w ∈ u_ws RX4 TX4 10, w ∈ wsX8_isHome := fun w h => List.mem_cons_of_mem _ (List.mem_append_left _ (List.mem_append_right _ h))
  have hinX8 : ∀ w ∈ u_ws RX8 TX8 9, w ∈ wsX8_isHome := fun w h => List.mem_cons_of_mem _ (List.mem_append_left _ (List.mem_append_left _ (List.mem_append_left _ (List.mem_append_right _ h))))
  subst hsz
  have hD := hD0.self (sz := s.heap.size)
  have hA : ∀ q : Nat, s.heap.size ≤ q → va_A (wBF Γ q_bf q_tx q_fl q_flT q_hi q_s1 q_s2 q_fd q_kc q_kr  ++ wFloor Γ q_fl q_k q_c q_a q_pa q_b q_pb vi vj vk vc va vpa vb vpb) s.heap.size q := fun q h => Or.inr h
  generalize va_A (wBF Γ q_bf q_tx q_fl q_flT q_hi q_s1 q_s2 q_fd q_kc q_kr  ++ wFloor Γ q_fl q_k q_c q_a q_pa q_b q_pb vi vj vk vc va vpa vb vpb) s.heap.size = A at hD hA hZ ⊢
  obtain ⟨W0_, hW0_⟩ : ∃ w : va_W, (wBF Γ q_bf q_tx q_fl q_flT q_hi q_s1 q_s2 q_fd q_kc q_kr  ++ wFloor Γ q_fl q_k q_c q_a q_pa q_b q_pb vi vj vk vc va vpa vb vpb) = w := ⟨_, rfl⟩
  rw [show my_XC Γ A (wBF Γ q_bf q_tx q_fl q_flT q_hi q_s1 q_s2 q_fd q_kc q_kr  ++ wFloor Γ q_fl q_k q_c q_a q_pa q_b q_pb vi vj vk vc va vpa vb vpb) (my_map (fun q : Int32 => ((some (.int q)), (wBF Γ q_bf q_tx q_fl q_flT q_hi q_s1 q_s2 q_fd q_kc q_kr  ++ wFloor Γ q_fl q_k q_c q_a q_pa q_b q_pb vi vj vk vc va vpa vb vpb))) mr) = my_XC Γ A W0_ (my_map (fun q : Int32 => ((some (.int q)), (wBF Γ q_bf q_tx q_fl q_flT q_hi q_s1 q_s2 q_fd q_kc q_kr  ++ wFloor Γ q_fl q_k q_c q_a q_pa q_b q_pb vi vj vk vc va vpa vb vpb))) mr) from congrArg (fun w => my_XC Γ A w (my_map (fun q : Int32 => ((some (.int q)), (wBF Γ q_bf q_tx q_fl q_flT q_hi q_s1 q_s2 q_fd q_kc q_kr  ++ wFloor Γ q_fl q_k q_c q_a q_pa q_b q_pb vi vj vk vc va vpa vb vpb))) mr)) hW0_]
  have hS : va_S A s.heap s.heap [] := va_S.rf
  have hl := lv_entry ([.ref q_bf, .int x0]) (n := 2) (Nat.le_of_ble_eq_true rfl)
  rw [lg_entry_eq]
  generalize (lg_sl ([.ref q_bf, .int x0]) ++ List.replicate (2 - (lg_sl ([.ref q_bf, .int x0])).length) Slot.unset).toArray = ls at hl ⊢
  replace hl : lv_has ls 2 [(0, .ref q_bf), (1, .int x0)] := hl
  unfold mX8_isHome at hm
  refine lv_iload_n hx hb dX8_isHome_0 rfl (lv_at hl 1 rfl) ?_
  refine my_callX (wc := []) hP hD hS hA [] rfl rfl (fun res w1 h9 => my_had h9) (vx_runS (As := [.int x0]) (rest := []) ⟨hx, hb, hml, hown, hts⟩ (kX8_checkRobot l Γ hfl x0 _ rfl _) (va_cwS 1 hts gX8_isHome_X8_checkRobot rfl rfl rfl (by decide +kernel) ⟨Nat.le_of_ble_eq_true rfl, Nat.le_of_ble_eq_true rfl⟩) (my_preSX (wc := []) [] hK hP hD hS hA hZ hstr rfl rfl) rfl rfl hl.1 rfl (lv_room (Nat.le_of_ble_eq_true rfl)) dX8_isHome_1 ⟨Nat.le_of_ble_eq_true rfl, Nat.le_of_ble_eq_true rfl⟩) (fun E_ H locs q9 ce hro hP hS h1_ h2_ h3_ => ?_) (fun res_ w1_ H locs hro hP hD hS => ?_)
  · rcases tx1_s hm with ⟨a_, hc_, hm⟩ | ⟨E2_, hc_, hm⟩
    · rw [hc_] at hro; exact (my_map_lr hro).elim
    · rw [hc_] at hro; obtain rfl := my_map_rr hro; subst hm
      exact vx_out (fun x hx9 => absurd (htab x hx9) id) hlocks h1_ h2_ h3_ (fun t ht ha => ⟨rfl, by rw [ht, ← hW0_]; exact hP, hS.F ht⟩) hS.2.2 (Nat.le_of_ble_eq_true rfl) (Nat.le_of_ble_eq_true rfl)
  rcases tx1_s hm with ⟨a_, hc_, hm⟩ | ⟨E2_, hc_, hm⟩
  rotate_left
  · rw [hc_] at hro; exact (my_map_rl hro).elim
  rw [hc_] at hro
  obtain ⟨rfl, rfl⟩ := my_map_ll hro
  replace hP : va_P (my_D Γ) vwCl (wBF Γ q_bf q_tx q_fl q_flT q_hi q_s1 q_s2 q_fd q_kc q_kr  ++ wFloor Γ q_fl q_k q_c q_a q_pa q_b q_pb vi vj vk vc va vpa vb vpb) H := hP
  replace hD : va_D A (wBF Γ q_bf q_tx q_fl q_flT q_hi q_s1 q_s2 q_fd q_kc q_kr  ++ wFloor Γ q_fl q_k q_c q_a q_pa q_b q_pb vi vj vk vc va vpa vb vpb) := hD
  refine lv_aload_n hx hb dX8_isHome_4 rfl (lv_at hl 0 rfl) ?_
  refine va_get (D := my_D Γ) (ci := 6) (v := .ref q_fl) (C := RX8) (T := TX8) (N := 9) hx hb hts hinX8 hown hK hP 0 rfl rfl 1 (by decide) (hts (.fieldLink RX8 19 "BeltFloor" "floor" "LBeltFloor$Floor;") (List.mem_of_getElem? (i := 1) rfl)) (fun _ h9 => h9) rfl dX8_isHome_5 ?_
  refine va_get (D := my_D Γ) (ci := 1) (v := .int (vi 7)) (C := RX1) (T := TX1) (N := 12) hx hb hts hinX1 hown hK hP 1 rfl rfl 7 (by decide) (hts (.fieldLink RX8 126 "BeltFloor$Floor" "checkpointCount" "I") (List.mem_of_getElem? (i := 2) rfl)) (fun _ h9 => h9) rfl dX8_isHome_8 ?_
  refine lv_if_le (tgt := 39) hx hb dX8_isHome_11 (by decide) (fun c_2 => ?_) (fun c_2 => ?_)
  · replace hm := if_s hm c_2
    refine lv_iconst (v := (0 : Int32)) hx hb dX8_isHome_39 (by decide) ?_
    cases hm
    exact vx_ret (W.widen (k := 1) (n := 6) (Nat.le_of_ble_eq_true rfl) (Nat.le_of_ble_eq_true rfl) (W.zret (v := (0 : Int32)) hx hb hr rfl (fun t ht hW => ⟨_, _, rfl, ⟨rfl, by rw [ht]; exact hP⟩, hS.F ht⟩) hS.2.2 dX8_isHome_40))
  · replace hm := if_f hm c_2
    refine lv_aload_n hx hb dX8_isHome_14 rfl (lv_at hl 0 rfl) ?_
    refine va_get (D := my_D Γ) (ci := 6) (v := .ref q_fl) (C := RX8) (T := TX8) (N := 9) hx hb hts hinX8 hown hK hP 0 rfl rfl 1 (by decide) (hts (.fieldLink RX8 19 "BeltFloor" "floor" "LBeltFloor$Floor;") (List.mem_of_getElem? (i := 1) rfl)) (fun _ h9 => h9) rfl dX8_isHome_15 ?_
    refine lv_iload_n hx hb dX8_isHome_18 rfl (lv_at hl 1 rfl) ?_
    by_cases c_3 : x0 = 0
    · replace hm := if_s hm c_3
      refine my_call1 (wc := (wFloor Γ q_fl q_k q_c q_a q_pa q_b q_pb vi vj vk vc va vpa vb vpb)) (w1 := (wFloor Γ q_fl q_k q_c q_a q_pa q_b q_pb vi vj vk vc va vpa vb vpb)) (ws1 := (wBF Γ q_bf q_tx q_fl q_flT q_hi q_s1 q_s2 q_fd q_kc q_kr  ++ wFloor Γ q_fl q_k q_c q_a q_pa q_b q_pb vi vj vk vc va vpa vb vpb)) hP hD hS hA [1, 2, 3, 4, 5, 6, 7] rfl rfl rfl (va_runV (As := [.int x0]) (rest := []) ⟨hx, hb, hml, hown, hts⟩ (kX1_robot_0 l Γ q_fl q_k q_c q_a q_pa q_b q_pb vi vj vk vc va vpa vb vpb x0 c_3 _) (cwV 1 hts gX8_isHome_X1_robot rfl rfl rfl (by decide +kernel) ⟨Nat.le_of_ble_eq_true rfl, Nat.le_of_ble_eq_true rfl⟩) (my_preV (wc := (wFloor Γ q_fl q_k q_c q_a q_pa q_b q_pb vi vj vk vc va vpa vb vpb)) (ci := 1) (q0 := 1) [1, 2, 3, 4, 5, 6, 7] hK hP hD rfl rfl rfl rfl) rfl rfl hl.1 rfl (lv_room (Nat.le_of_ble_eq_true rfl)) dX8_isHome_19 ⟨Nat.le_of_ble_eq_true rfl, Nat.le_of_ble_eq_true rfl⟩) (fun H locs hP hD hS => ?_)
      refine va_get (D := my_D Γ) (ci := 3) (v := .int (va 2)) (C := RX4) (T := TX4) (N := 10) hx hb hts hinX4 hown hK hP 4 rfl rfl 2 (by decide) (hts (.fieldLink RX8 152 "BeltFloor$Robot" "next" "I") (List.mem_of_getElem? (i := 3) rfl)) (fun _ h9 => h9) rfl dX8_isHome_22 ?_
      refine lv_aload_n hx hb dX8_isHome_25 rfl (lv_at hl 0 rfl) ?_
      refine va_get (D := my_D Γ) (ci := 6) (v := .ref q_fl) (C := RX8) (T := TX8) (N := 9) hx hb hts hinX8 hown hK hP 0 rfl rfl 1 (by decide) (hts (.fieldLink RX8 19 "BeltFloor" "floor" "LBeltFloor$Floor;") (List.mem_of_getElem? (i := 1) rfl)) (fun _ h9 => h9) rfl dX8_isHome_26 ?_
      refine va_get (D := my_D Γ) (ci := 1) (v := .int (vi 7)) (C := RX1) (T := TX1) (N := 12) hx hb hts hinX1 hown hK hP 1 rfl rfl 7 (by decide) (hts (.fieldLink RX8 126 "BeltFloor$Floor" "checkpointCount" "I") (List.mem_of_getElem? (i := 2) rfl)) (fun _ h9 => h9) rfl dX8_isHome_29 ?_
      refine lv_icmp_le (tgt := 39) hx hb dX8_isHome_32 (by decide) (fun c_4 => ?_) (fun c_4 => ?_)
      · replace hm := if_s hm c_4
        refine lv_iconst (v := (0 : Int32)) hx hb dX8_isHome_39 (by decide) ?_
        cases hm
        exact vx_ret (W.widen (k := 1) (n := 6) (Nat.le_of_ble_eq_true rfl) (Nat.le_of_ble_eq_true rfl) (W.zret (v := (0 : Int32)) hx hb hr rfl (fun t ht hW => ⟨_, _, rfl, ⟨rfl, by rw [ht]; exact hP⟩, hS.F ht⟩) hS.2.2 dX8_isHome_40))
      · replace hm := if_f hm c_4
        refine lv_iconst (v := (1 : Int32)) hx hb dX8_isHome_35 (by decide) ?_
        refine lv_goto (tgt := 40) hx hb dX8_isHome_36 (by decide) ?_
        cases hm
        exact vx_ret (W.widen (k := 1) (n := 6) (Nat.le_of_ble_eq_true rfl) (Nat.le_of_ble_eq_true rfl) (W.zret (v := (1 : Int32)) hx hb hr rfl (fun t ht hW => ⟨_, _, rfl, ⟨rfl, by rw [ht]; exact hP⟩, hS.F ht⟩) hS.2.2 dX8_isHome_40))
    · replace hm := if_f hm c_3
      refine my_call1 (wc := (wFloor Γ q_fl q_k q_c q_a q_pa q_b q_pb vi vj vk vc va vpa vb vpb)) (w1 := (wFloor Γ q_fl q_k q_c q_a q_pa q_b q_pb vi vj vk vc va vpa vb vpb)) (ws1 := (wBF Γ q_bf q_tx q_fl q_flT q_hi q_s1 q_s2 q_fd q_kc q_kr  ++ wFloor Γ q_fl q_k q_c q_a q_pa q_b q_pb vi vj vk vc va vpa vb vpb)) hP hD hS hA [1, 2, 3, 4, 5, 6, 7] rfl rfl rfl (va_runV (As := [.int x0]) (rest := []) ⟨hx, hb, hml, hown, hts⟩ (kX1_robot_1 l Γ q_fl q_k q_c q_a q_pa q_b q_pb vi vj vk vc va vpa vb vpb x0 c_3 _) (cwV 1 hts gX8_isHome_X1_robot rfl rfl rfl (by decide +kernel) ⟨Nat.le_of_ble_eq_true rfl, Nat.le_of_ble_eq_true rfl⟩) (my_preV (wc := (wFloor Γ q_fl q_k q_c q_a q_pa q_b q_pb vi vj vk vc va vpa vb vpb)) (ci := 1) (q0 := 1) [1, 2, 3, 4, 5, 6, 7] hK hP hD rfl rfl rfl rfl) rfl rfl hl.1 rfl (lv_room (Nat.le_of_ble_eq_true rfl)) dX8_isHome_19 ⟨Nat.le_of_ble_eq_true rfl, Nat.le_of_ble_eq_true rfl⟩) (fun H locs hP hD hS => ?_)
      refine va_get (D := my_D Γ) (ci := 3) (v := .int (vb 2)) (C := RX4) (T := TX4) (N := 10) hx hb hts hinX4 hown hK hP 6 rfl rfl 2 (by decide) (hts (.fieldLink RX8 152 "BeltFloor$Robot" "next" "I") (List.mem_of_getElem? (i := 3) rfl)) (fun _ h9 => h9) rfl dX8_isHome_22 ?_
      refine lv_aload_n hx hb dX8_isHome_25 rfl (lv_at hl 0 rfl) ?_
      refine va_get (D := my_D Γ) (ci := 6) (v := .ref q_fl) (C := RX8) (T := TX8) (N := 9) hx hb hts hinX8 hown hK hP 0 rfl rfl 1 (by decide) (hts (.fieldLink RX8 19 "BeltFloor" "floor" "LBeltFloor$Floor;") (List.mem_of_getElem? (i := 1) rfl)) (fun _ h9 => h9) rfl dX8_isHome_26 ?_
      refine va_get (D := my_D Γ) (ci := 1) (v := .int (vi 7)) (C := RX1) (T := TX1) (N := 12) hx hb hts hinX1 hown hK hP 1 rfl rfl 7 (by decide) (hts (.fieldLink RX8 126 "BeltFloor$Floor" "checkpointCount" "I") (List.mem_of_getElem? (i := 2) rfl)) (fun _ h9 => h9) rfl dX8_isHome_29 ?_
      refine lv_icmp_le (tgt := 39) hx hb dX8_isHome_32 (by decide) (fun c_5 => ?_) (fun c_5 => ?_)
      · replace hm := if_s hm c_5
        refine lv_iconst (v := (0 : Int32)) hx hb dX8_isHome_39 (by decide) ?_
        cases hm
        exact vx_ret (W.widen (k := 1) (n := 6) (Nat.le_of_ble_eq_true rfl) (Nat.le_of_ble_eq_true rfl) (W.zret (v := (0 : Int32)) hx hb hr rfl (fun t ht hW => ⟨_, _, rfl, ⟨rfl, by rw [ht]; exact hP⟩, hS.F ht⟩) hS.2.2 dX8_isHome_40))
      · replace hm := if_f hm c_5
        refine lv_iconst (v := (1 : Int32)) hx hb dX8_isHome_35 (by decide) ?_
        refine lv_goto (tgt := 40) hx hb dX8_isHome_36 (by decide) ?_
        cases hm
        exact vx_ret (W.widen (k := 1) (n := 6) (Nat.le_of_ble_eq_true rfl) (Nat.le_of_ble_eq_true rfl) (W.zret (v := (1 : Int32)) hx hb hr rfl (fun t ht hW => ⟨_, _, rfl, ⟨rfl, by rw [ht]; exact hP⟩, hS.F ht⟩) hS.2.2 dX8_isHome_40))
def mX8_movesOf (va : Nat → Int32) (vb : Nat → Int32) (x0 : Int32) : (Int32) ⊕ String := (tx1 (mX8_checkRobot x0) (fun _ => (if x0 = 0 then (Sum.inl (va 3)) else (Sum.inl (vb 3)))))
set_option maxHeartbeats 4000000 in
set_option maxRecDepth 100000 in
theorem kX8_movesOf (l : Launch) (Γ : my_G) (hfl : l.stackTraces = false) (q_bf q_fl q_k q_c q_a q_pa q_b q_pb q_tx q_flT q_hi q_s1 q_s2 q_fd q_kc q_kr : Nat) (vi : Nat → Int32) (vj : Nat → Int64) (vk : Nat → Int32) (vc : Nat → Int32) (va : Nat → Int32) (vpa : Nat → Int32) (vb : Nat → Int32) (vpb : Nat → Int32) (x0 : Int32) (mr : (Int32) ⊕ String) (hm : mX8_movesOf va vb x0 = mr) : MnX l yX8_movesOf wsX8_movesOf ({ frames := 7, cells := 1, slots := 6, locals := 116 } : Room) Γ [.ref q_bf, .int x0] (wBF Γ q_bf q_tx q_fl q_flT q_hi q_s1 q_s2 q_fd q_kc q_kr  ++ wFloor Γ q_fl q_k q_c q_a q_pa q_b q_pb vi vj vk vc va vpa vb vpb) (my_map (fun q : Int32 => ((some (.int q)), (wBF Γ q_bf q_tx q_fl q_flT q_hi q_s1 q_s2 q_fd q_kc q_kr  ++ wFloor Γ q_fl q_k q_c q_a q_pa q_b q_pb vi vj vk vc va vpa vb vpb))) mr) 1 6 := by
  intro sz
  refine vx_ofW (cc := cX8_movesOf) (maxL := 2) (ret := (some .int)) (by decide) rfl ?_
  intro p e s m args below meth c s₁ B hml htab hv
  obtain ⟨rfl, ⟨hsz, hP, hK, hD0⟩, hZ, hstr⟩ := hv
  have hx := B.exec
  have hb := B.bytes
  have hr := B.returns
  have hts := atoms_spec (ws := wsX8_movesOf) B.pre
  have hown : s.vm.findClass RX8 = some m.cls := findClass_of_methodNamed B.named
  have hlocks := B.notSynchronized
  have hinX1 : ∀ w ∈ u_ws RX1 TX1 12, w ∈ wsX8_movesOf := fun w h => List.mem_cons_of_mem _ (List.mem_append_left _ (List.mem_append_right _ h))
  have hinX4 : ∀ w ∈ u_ws RX4 TX4 10, w ∈ wsX8_movesOf := fun w h => List.mem_cons_of_mem _ (List.mem_append_left _ (List.mem_append_left _ (List.mem_append_right _ h)))
  have hinX8 : ∀ w ∈ u_ws RX8 TX8 9, w ∈ wsX8_movesOf := fun w h => List.mem_cons_of_mem _ (List.mem_append_left _ (List.mem_append_left _ (List.mem_append_left _ (List.mem_append_right _ h))))
  subst hsz
  have hD := hD0.self (sz := s.heap.size)
  have hA : ∀ q : Nat, s.heap.size ≤ q → va_A (wBF Γ q_bf q_tx q_fl q_flT q_hi q_s1 q_s2 q_fd q_kc q_kr  ++ wFloor Γ q_fl q_k q_c q_a q_pa q_b q_pb vi vj vk vc va vpa vb vpb) s.heap.size q := fun q h => Or.inr h
  generalize va_A (wBF Γ q_bf q_tx q_fl q_flT q_hi q_s1 q_s2 q_fd q_kc q_kr  ++ wFloor Γ q_fl q_k q_c q_a q_pa q_b q_pb vi vj vk vc va vpa vb vpb) s.heap.size = A at hD hA hZ ⊢
  obtain ⟨W0_, hW0_⟩ : ∃ w : va_W, (wBF Γ q_bf q_tx q_fl q_flT q_hi q_s1 q_s2 q_fd q_kc q_kr  ++ wFloor Γ q_fl q_k q_c q_a q_pa q_b q_pb vi vj vk vc va vpa vb vpb) = w := ⟨_, rfl⟩
  rw [show my_XC Γ A (wBF Γ q_bf q_tx q_fl q_flT q_hi q_s1 q_s2 q_fd q_kc q_kr  ++ wFloor Γ q_fl q_k q_c q_a q_pa q_b q_pb vi vj vk vc va vpa vb vpb) (my_map (fun q : Int32 => ((some (.int q)), (wBF Γ q_bf q_tx q_fl q_flT q_hi q_s1 q_s2 q_fd q_kc q_kr  ++ wFloor Γ q_fl q_k q_c q_a q_pa q_b q_pb vi vj vk vc va vpa vb vpb))) mr) = my_XC Γ A W0_ (my_map (fun q : Int32 => ((some (.int q)), (wBF Γ q_bf q_tx q_fl q_flT q_hi q_s1 q_s2 q_fd q_kc q_kr  ++ wFloor Γ q_fl q_k q_c q_a q_pa q_b q_pb vi vj vk vc va vpa vb vpb))) mr) from congrArg (fun w => my_XC Γ A w (my_map (fun q : Int32 => ((some (.int q)), (wBF Γ q_bf q_tx q_fl q_flT q_hi q_s1 q_s2 q_fd q_kc q_kr  ++ wFloor Γ q_fl q_k q_c q_a q_pa q_b q_pb vi vj vk vc va vpa vb vpb))) mr)) hW0_]
  have hS : va_S A s.heap s.heap [] := va_S.rf
  have hl := lv_entry ([.ref q_bf, .int x0]) (n := 2) (Nat.le_of_ble_eq_true rfl)
  rw [lg_entry_eq]
  generalize (lg_sl ([.ref q_bf, .int x0]) ++ List.replicate (2 - (lg_sl ([.ref q_bf, .int x0])).length) Slot.unset).toArray = ls at hl ⊢
  replace hl : lv_has ls 2 [(0, .ref q_bf), (1, .int x0)] := hl
  unfold mX8_movesOf at hm
  refine lv_iload_n hx hb dX8_movesOf_0 rfl (lv_at hl 1 rfl) ?_
  refine my_callX (wc := []) hP hD hS hA [] rfl rfl (fun res w1 h9 => my_had h9) (vx_runS (As := [.int x0]) (rest := []) ⟨hx, hb, hml, hown, hts⟩ (kX8_checkRobot l Γ hfl x0 _ rfl _) (va_cwS 1 hts gX8_movesOf_X8_checkRobot rfl rfl rfl (by decide +kernel) ⟨Nat.le_of_ble_eq_true rfl, Nat.le_of_ble_eq_true rfl⟩) (my_preSX (wc := []) [] hK hP hD hS hA hZ hstr rfl rfl) rfl rfl hl.1 rfl (lv_room (Nat.le_of_ble_eq_true rfl)) dX8_movesOf_1 ⟨Nat.le_of_ble_eq_true rfl, Nat.le_of_ble_eq_true rfl⟩) (fun E_ H locs q9 ce hro hP hS h1_ h2_ h3_ => ?_) (fun res_ w1_ H locs hro hP hD hS => ?_)
  · rcases tx1_s hm with ⟨a_, hc_, hm⟩ | ⟨E2_, hc_, hm⟩
    · rw [hc_] at hro; exact (my_map_lr hro).elim
    · rw [hc_] at hro; obtain rfl := my_map_rr hro; subst hm
      exact vx_out (fun x hx9 => absurd (htab x hx9) id) hlocks h1_ h2_ h3_ (fun t ht ha => ⟨rfl, by rw [ht, ← hW0_]; exact hP, hS.F ht⟩) hS.2.2 (Nat.le_of_ble_eq_true rfl) (Nat.le_of_ble_eq_true rfl)
  rcases tx1_s hm with ⟨a_, hc_, hm⟩ | ⟨E2_, hc_, hm⟩
  rotate_left
  · rw [hc_] at hro; exact (my_map_rl hro).elim
  rw [hc_] at hro
  obtain ⟨rfl, rfl⟩ := my_map_ll hro
  replace hP : va_P (my_D Γ) vwCl (wBF Γ q_bf q_tx q_fl q_flT q_hi q_s1 q_s2 q_fd q_kc q_kr  ++ wFloor Γ q_fl q_k q_c q_a q_pa q_b q_pb vi vj vk vc va vpa vb vpb) H := hP
  replace hD : va_D A (wBF Γ q_bf q_tx q_fl q_flT q_hi q_s1 q_s2 q_fd q_kc q_kr  ++ wFloor Γ q_fl q_k q_c q_a q_pa q_b q_pb vi vj vk vc va vpa vb vpb) := hD
  refine lv_aload_n hx hb dX8_movesOf_4 rfl (lv_at hl 0 rfl) ?_
  refine va_get (D := my_D Γ) (ci := 6) (v := .ref q_fl) (C := RX8) (T := TX8) (N := 9) hx hb hts hinX8 hown hK hP 0 rfl rfl 1 (by decide) (hts (.fieldLink RX8 19 "BeltFloor" "floor" "LBeltFloor$Floor;") (List.mem_of_getElem? (i := 1) rfl)) (fun _ h9 => h9) rfl dX8_movesOf_5 ?_
  refine lv_iload_n hx hb dX8_movesOf_8 rfl (lv_at hl 1 rfl) ?_
  by_cases c_2 : x0 = 0
  · replace hm := if_s hm c_2
    refine my_call1 (wc := (wFloor Γ q_fl q_k q_c q_a q_pa q_b q_pb vi vj vk vc va vpa vb vpb)) (w1 := (wFloor Γ q_fl q_k q_c q_a q_pa q_b q_pb vi vj vk vc va vpa vb vpb)) (ws1 := (wBF Γ q_bf q_tx q_fl q_flT q_hi q_s1 q_s2 q_fd q_kc q_kr  ++ wFloor Γ q_fl q_k q_c q_a q_pa q_b q_pb vi vj vk vc va vpa vb vpb)) hP hD hS hA [1, 2, 3, 4, 5, 6, 7] rfl rfl rfl (va_runV (As := [.int x0]) (rest := []) ⟨hx, hb, hml, hown, hts⟩ (kX1_robot_0 l Γ q_fl q_k q_c q_a q_pa q_b q_pb vi vj vk vc va vpa vb vpb x0 c_2 _) (cwV 1 hts gX8_movesOf_X1_robot rfl rfl rfl (by decide +kernel) ⟨Nat.le_of_ble_eq_true rfl, Nat.le_of_ble_eq_true rfl⟩) (my_preV (wc := (wFloor Γ q_fl q_k q_c q_a q_pa q_b q_pb vi vj vk vc va vpa vb vpb)) (ci := 1) (q0 := 1) [1, 2, 3, 4, 5, 6, 7] hK hP hD rfl rfl rfl rfl) rfl rfl hl.1 rfl (lv_room (Nat.le_of_ble_eq_true rfl)) dX8_movesOf_9 ⟨Nat.le_of_ble_eq_true rfl, Nat.le_of_ble_eq_true rfl⟩) (fun H locs hP hD hS => ?_)
    refine va_get (D := my_D Γ) (ci := 3) (v := .int (va 3)) (C := RX4) (T := TX4) (N := 10) hx hb hts hinX4 hown hK hP 4 rfl rfl 3 (by decide) (hts (.fieldLink RX8 155 "BeltFloor$Robot" "moves" "I") (List.mem_of_getElem? (i := 2) rfl)) (fun _ h9 => h9) rfl dX8_movesOf_12 ?_
    cases hm
    exact vx_ret (W.widen (k := 1) (n := 6) (Nat.le_of_ble_eq_true rfl) (Nat.le_of_ble_eq_true rfl) (W.iret (v := (va 3)) hx hb hr (fun t ht hW => ⟨_, _, rfl, ⟨rfl, by rw [ht]; exact hP⟩, hS.F ht⟩) hS.2.2 dX8_movesOf_15))
  · replace hm := if_f hm c_2
    refine my_call1 (wc := (wFloor Γ q_fl q_k q_c q_a q_pa q_b q_pb vi vj vk vc va vpa vb vpb)) (w1 := (wFloor Γ q_fl q_k q_c q_a q_pa q_b q_pb vi vj vk vc va vpa vb vpb)) (ws1 := (wBF Γ q_bf q_tx q_fl q_flT q_hi q_s1 q_s2 q_fd q_kc q_kr  ++ wFloor Γ q_fl q_k q_c q_a q_pa q_b q_pb vi vj vk vc va vpa vb vpb)) hP hD hS hA [1, 2, 3, 4, 5, 6, 7] rfl rfl rfl (va_runV (As := [.int x0]) (rest := []) ⟨hx, hb, hml, hown, hts⟩ (kX1_robot_1 l Γ q_fl q_k q_c q_a q_pa q_b q_pb vi vj vk vc va vpa vb vpb x0 c_2 _) (cwV 1 hts gX8_movesOf_X1_robot rfl rfl rfl (by decide +kernel) ⟨Nat.le_of_ble_eq_true rfl, Nat.le_of_ble_eq_true rfl⟩) (my_preV (wc := (wFloor Γ q_fl q_k q_c q_a q_pa q_b q_pb vi vj vk vc va vpa vb vpb)) (ci := 1) (q0 := 1) [1, 2, 3, 4, 5, 6, 7] hK hP hD rfl rfl rfl rfl) rfl rfl hl.1 rfl (lv_room (Nat.le_of_ble_eq_true rfl)) dX8_movesOf_9 ⟨Nat.le_of_ble_eq_true rfl, Nat.le_of_ble_eq_true rfl⟩) (fun H locs hP hD hS => ?_)
    refine va_get (D := my_D Γ) (ci := 3) (v := .int (vb 3)) (C := RX4) (T := TX4) (N := 10) hx hb hts hinX4 hown hK hP 6 rfl rfl 3 (by decide) (hts (.fieldLink RX8 155 "BeltFloor$Robot" "moves" "I") (List.mem_of_getElem? (i := 2) rfl)) (fun _ h9 => h9) rfl dX8_movesOf_12 ?_
    cases hm
    exact vx_ret (W.widen (k := 1) (n := 6) (Nat.le_of_ble_eq_true rfl) (Nat.le_of_ble_eq_true rfl) (W.iret (v := (vb 3)) hx hb hr (fun t ht hW => ⟨_, _, rfl, ⟨rfl, by rw [ht]; exact hP⟩, hS.F ht⟩) hS.2.2 dX8_movesOf_15))
def mX8_bumpsOf (va : Nat → Int32) (vb : Nat → Int32) (x0 : Int32) : (Int32) ⊕ String := (tx1 (mX8_checkRobot x0) (fun _ => (if x0 = 0 then (Sum.inl (va 4)) else (Sum.inl (vb 4)))))
set_option maxHeartbeats 4000000 in
set_option maxRecDepth 100000 in
theorem kX8_bumpsOf (l : Launch) (Γ : my_G) (hfl : l.stackTraces = false) (q_bf q_fl q_k q_c q_a q_pa q_b q_pb q_tx q_flT q_hi q_s1 q_s2 q_fd q_kc q_kr : Nat) (vi : Nat → Int32) (vj : Nat → Int64) (vk : Nat → Int32) (vc : Nat → Int32) (va : Nat → Int32) (vpa : Nat → Int32) (vb : Nat → Int32) (vpb : Nat → Int32) (x0 : Int32) (mr : (Int32) ⊕ String) (hm : mX8_bumpsOf va vb x0 = mr) : MnX l yX8_bumpsOf wsX8_bumpsOf ({ frames := 7, cells := 1, slots := 6, locals := 116 } : Room) Γ [.ref q_bf, .int x0] (wBF Γ q_bf q_tx q_fl q_flT q_hi q_s1 q_s2 q_fd q_kc q_kr  ++ wFloor Γ q_fl q_k q_c q_a q_pa q_b q_pb vi vj vk vc va vpa vb vpb) (my_map (fun q : Int32 => ((some (.int q)), (wBF Γ q_bf q_tx q_fl q_flT q_hi q_s1 q_s2 q_fd q_kc q_kr  ++ wFloor Γ q_fl q_k q_c q_a q_pa q_b q_pb vi vj vk vc va vpa vb vpb))) mr) 1 6 := by
  intro sz
  refine vx_ofW (cc := cX8_bumpsOf) (maxL := 2) (ret := (some .int)) (by decide) rfl ?_
  intro p e s m args below meth c s₁ B hml htab hv
  obtain ⟨rfl, ⟨hsz, hP, hK, hD0⟩, hZ, hstr⟩ := hv
  have hx := B.exec
  have hb := B.bytes
  have hr := B.returns
  have hts := atoms_spec (ws := wsX8_bumpsOf) B.pre
  have hown : s.vm.findClass RX8 = some m.cls := findClass_of_methodNamed B.named
  have hlocks := B.notSynchronized
  have hinX1 : ∀ w ∈ u_ws RX1 TX1 12, w ∈ wsX8_bumpsOf := fun w h => List.mem_cons_of_mem _ (List.mem_append_left _ (List.mem_append_right _ h))
  have hinX4 : ∀ w ∈ u_ws RX4 TX4 10, w ∈ wsX8_bumpsOf := fun w h => List.mem_cons_of_mem _ (List.mem_append_left _ (List.mem_append_left _ (List.mem_append_right _ h)))
  have hinX8 : ∀ w ∈ u_ws RX8 TX8 9, w ∈ wsX8_bumpsOf := fun w h => List.mem_cons_of_mem _ (List.mem_append_left _ (List.mem_append_left _ (List.mem_append_left _ (List.mem_append_right _ h))))
  subst hsz
  have hD := hD0.self (sz := s.heap.size)
  have hA : ∀ q : Nat, s.heap.size ≤ q → va_A (wBF Γ q_bf q_tx q_fl q_flT q_hi q_s1 q_s2 q_fd q_kc q_kr  ++ wFloor Γ q_fl q_k q_c q_a q_pa q_b q_pb vi vj vk vc va vpa vb vpb) s.heap.size q := fun q h => Or.inr h
  generalize va_A (wBF Γ q_bf q_tx q_fl q_flT q_hi q_s1 q_s2 q_fd q_kc q_kr  ++ wFloor Γ q_fl q_k q_c q_a q_pa q_b q_pb vi vj vk vc va vpa vb vpb) s.heap.size = A at hD hA hZ ⊢
  obtain ⟨W0_, hW0_⟩ : ∃ w : va_W, (wBF Γ q_bf q_tx q_fl q_flT q_hi q_s1 q_s2 q_fd q_kc q_kr  ++ wFloor Γ q_fl q_k q_c q_a q_pa q_b q_pb vi vj vk vc va vpa vb vpb) = w := ⟨_, rfl⟩
  rw [show my_XC Γ A (wBF Γ q_bf q_tx q_fl q_flT q_hi q_s1 q_s2 q_fd q_kc q_kr  ++ wFloor Γ q_fl q_k q_c q_a q_pa q_b q_pb vi vj vk vc va vpa vb vpb) (my_map (fun q : Int32 => ((some (.int q)), (wBF Γ q_bf q_tx q_fl q_flT q_hi q_s1 q_s2 q_fd q_kc q_kr  ++ wFloor Γ q_fl q_k q_c q_a q_pa q_b q_pb vi vj vk vc va vpa vb vpb))) mr) = my_XC Γ A W0_ (my_map (fun q : Int32 => ((some (.int q)), (wBF Γ q_bf q_tx q_fl q_flT q_hi q_s1 q_s2 q_fd q_kc q_kr  ++ wFloor Γ q_fl q_k q_c q_a q_pa q_b q_pb vi vj vk vc va vpa vb vpb))) mr) from congrArg (fun w => my_XC Γ A w (my_map (fun q : Int32 => ((some (.int q)), (wBF Γ q_bf q_tx q_fl q_flT q_hi q_s1 q_s2 q_fd q_kc q_kr  ++ wFloor Γ q_fl q_k q_c q_a q_pa q_b q_pb vi vj vk vc va vpa vb vpb))) mr)) hW0_]
  have hS : va_S A s.heap s.heap [] := va_S.rf
  have hl := lv_entry ([.ref q_bf, .int x0]) (n := 2) (Nat.le_of_ble_eq_true rfl)
  rw [lg_entry_eq]
  generalize (lg_sl ([.ref q_bf, .int x0]) ++ List.replicate (2 - (lg_sl ([.ref q_bf, .int x0])).length) Slot.unset).toArray = ls at hl ⊢
  replace hl : lv_has ls 2 [(0, .ref q_bf), (1, .int x0)] := hl
  unfold mX8_bumpsOf at hm
  refine lv_iload_n hx hb dX8_bumpsOf_0 rfl (lv_at hl 1 rfl) ?_
  refine my_callX (wc := []) hP hD hS hA [] rfl rfl (fun res w1 h9 => my_had h9) (vx_runS (As := [.int x0]) (rest := []) ⟨hx, hb, hml, hown, hts⟩ (kX8_checkRobot l Γ hfl x0 _ rfl _) (va_cwS 1 hts gX8_bumpsOf_X8_checkRobot rfl rfl rfl (by decide +kernel) ⟨Nat.le_of_ble_eq_true rfl, Nat.le_of_ble_eq_true rfl⟩) (my_preSX (wc := []) [] hK hP hD hS hA hZ hstr rfl rfl) rfl rfl hl.1 rfl (lv_room (Nat.le_of_ble_eq_true rfl)) dX8_bumpsOf_1 ⟨Nat.le_of_ble_eq_true rfl, Nat.le_of_ble_eq_true rfl⟩) (fun E_ H locs q9 ce hro hP hS h1_ h2_ h3_ => ?_) (fun res_ w1_ H locs hro hP hD hS => ?_)
  · rcases tx1_s hm with ⟨a_, hc_, hm⟩ | ⟨E2_, hc_, hm⟩
    · rw [hc_] at hro; exact (my_map_lr hro).elim
    · rw [hc_] at hro; obtain rfl := my_map_rr hro; subst hm
      exact vx_out (fun x hx9 => absurd (htab x hx9) id) hlocks h1_ h2_ h3_ (fun t ht ha => ⟨rfl, by rw [ht, ← hW0_]; exact hP, hS.F ht⟩) hS.2.2 (Nat.le_of_ble_eq_true rfl) (Nat.le_of_ble_eq_true rfl)
  rcases tx1_s hm with ⟨a_, hc_, hm⟩ | ⟨E2_, hc_, hm⟩
  rotate_left
  · rw [hc_] at hro; exact (my_map_rl hro).elim
  rw [hc_] at hro
  obtain ⟨rfl, rfl⟩ := my_map_ll hro
  replace hP : va_P (my_D Γ) vwCl (wBF Γ q_bf q_tx q_fl q_flT q_hi q_s1 q_s2 q_fd q_kc q_kr  ++ wFloor Γ q_fl q_k q_c q_a q_pa q_b q_pb vi vj vk vc va vpa vb vpb) H := hP
  replace hD : va_D A (wBF Γ q_bf q_tx q_fl q_flT q_hi q_s1 q_s2 q_fd q_kc q_kr  ++ wFloor Γ q_fl q_k q_c q_a q_pa q_b q_pb vi vj vk vc va vpa vb vpb) := hD
  refine lv_aload_n hx hb dX8_bumpsOf_4 rfl (lv_at hl 0 rfl) ?_
  refine va_get (D := my_D Γ) (ci := 6) (v := .ref q_fl) (C := RX8) (T := TX8) (N := 9) hx hb hts hinX8 hown hK hP 0 rfl rfl 1 (by decide) (hts (.fieldLink RX8 19 "BeltFloor" "floor" "LBeltFloor$Floor;") (List.mem_of_getElem? (i := 1) rfl)) (fun _ h9 => h9) rfl dX8_bumpsOf_5 ?_
  refine lv_iload_n hx hb dX8_bumpsOf_8 rfl (lv_at hl 1 rfl) ?_
  by_cases c_2 : x0 = 0
  · replace hm := if_s hm c_2
    refine my_call1 (wc := (wFloor Γ q_fl q_k q_c q_a q_pa q_b q_pb vi vj vk vc va vpa vb vpb)) (w1 := (wFloor Γ q_fl q_k q_c q_a q_pa q_b q_pb vi vj vk vc va vpa vb vpb)) (ws1 := (wBF Γ q_bf q_tx q_fl q_flT q_hi q_s1 q_s2 q_fd q_kc q_kr  ++ wFloor Γ q_fl q_k q_c q_a q_pa q_b q_pb vi vj vk vc va vpa vb vpb)) hP hD hS hA [1, 2, 3, 4, 5, 6, 7] rfl rfl rfl (va_runV (As := [.int x0]) (rest := []) ⟨hx, hb, hml, hown, hts⟩ (kX1_robot_0 l Γ q_fl q_k q_c q_a q_pa q_b q_pb vi vj vk vc va vpa vb vpb x0 c_2 _) (cwV 1 hts gX8_bumpsOf_X1_robot rfl rfl rfl (by decide +kernel) ⟨Nat.le_of_ble_eq_true rfl, Nat.le_of_ble_eq_true rfl⟩) (my_preV (wc := (wFloor Γ q_fl q_k q_c q_a q_pa q_b q_pb vi vj vk vc va vpa vb vpb)) (ci := 1) (q0 := 1) [1, 2, 3, 4, 5, 6, 7] hK hP hD rfl rfl rfl rfl) rfl rfl hl.1 rfl (lv_room (Nat.le_of_ble_eq_true rfl)) dX8_bumpsOf_9 ⟨Nat.le_of_ble_eq_true rfl, Nat.le_of_ble_eq_true rfl⟩) (fun H locs hP hD hS => ?_)
    refine va_get (D := my_D Γ) (ci := 3) (v := .int (va 4)) (C := RX4) (T := TX4) (N := 10) hx hb hts hinX4 hown hK hP 4 rfl rfl 4 (by decide) (hts (.fieldLink RX8 158 "BeltFloor$Robot" "bumps" "I") (List.mem_of_getElem? (i := 2) rfl)) (fun _ h9 => h9) rfl dX8_bumpsOf_12 ?_
    cases hm
    exact vx_ret (W.widen (k := 1) (n := 6) (Nat.le_of_ble_eq_true rfl) (Nat.le_of_ble_eq_true rfl) (W.iret (v := (va 4)) hx hb hr (fun t ht hW => ⟨_, _, rfl, ⟨rfl, by rw [ht]; exact hP⟩, hS.F ht⟩) hS.2.2 dX8_bumpsOf_15))
  · replace hm := if_f hm c_2
    refine my_call1 (wc := (wFloor Γ q_fl q_k q_c q_a q_pa q_b q_pb vi vj vk vc va vpa vb vpb)) (w1 := (wFloor Γ q_fl q_k q_c q_a q_pa q_b q_pb vi vj vk vc va vpa vb vpb)) (ws1 := (wBF Γ q_bf q_tx q_fl q_flT q_hi q_s1 q_s2 q_fd q_kc q_kr  ++ wFloor Γ q_fl q_k q_c q_a q_pa q_b q_pb vi vj vk vc va vpa vb vpb)) hP hD hS hA [1, 2, 3, 4, 5, 6, 7] rfl rfl rfl (va_runV (As := [.int x0]) (rest := []) ⟨hx, hb, hml, hown, hts⟩ (kX1_robot_1 l Γ q_fl q_k q_c q_a q_pa q_b q_pb vi vj vk vc va vpa vb vpb x0 c_2 _) (cwV 1 hts gX8_bumpsOf_X1_robot rfl rfl rfl (by decide +kernel) ⟨Nat.le_of_ble_eq_true rfl, Nat.le_of_ble_eq_true rfl⟩) (my_preV (wc := (wFloor Γ q_fl q_k q_c q_a q_pa q_b q_pb vi vj vk vc va vpa vb vpb)) (ci := 1) (q0 := 1) [1, 2, 3, 4, 5, 6, 7] hK hP hD rfl rfl rfl rfl) rfl rfl hl.1 rfl (lv_room (Nat.le_of_ble_eq_true rfl)) dX8_bumpsOf_9 ⟨Nat.le_of_ble_eq_true rfl, Nat.le_of_ble_eq_true rfl⟩) (fun H locs hP hD hS => ?_)
    refine va_get (D := my_D Γ) (ci := 3) (v := .int (vb 4)) (C := RX4) (T := TX4) (N := 10) hx hb hts hinX4 hown hK hP 6 rfl rfl 4 (by decide) (hts (.fieldLink RX8 158 "BeltFloor$Robot" "bumps" "I") (List.mem_of_getElem? (i := 2) rfl)) (fun _ h9 => h9) rfl dX8_bumpsOf_12 ?_
    cases hm
    exact vx_ret (W.widen (k := 1) (n := 6) (Nat.le_of_ble_eq_true rfl) (Nat.le_of_ble_eq_true rfl) (W.iret (v := (vb 4)) hx hb hr (fun t ht hW => ⟨_, _, rfl, ⟨rfl, by rw [ht]; exact hP⟩, hS.F ht⟩) hS.2.2 dX8_bumpsOf_15))
def mX8_pushesOf (va : Nat → Int32) (vb : Nat → Int32) (x0 : Int32) : (Int32) ⊕ String := (tx1 (mX8_checkRobot x0) (fun _ => (if x0 = 0 then (Sum.inl (va 5)) else (Sum.inl (vb 5)))))
set_option maxHeartbeats 4000000 in
set_option maxRecDepth 100000 in
theorem kX8_pushesOf (l : Launch) (Γ : my_G) (hfl : l.stackTraces = false) (q_bf q_fl q_k q_c q_a q_pa q_b q_pb q_tx q_flT q_hi q_s1 q_s2 q_fd q_kc q_kr : Nat) (vi : Nat → Int32) (vj : Nat → Int64) (vk : Nat → Int32) (vc : Nat → Int32) (va : Nat → Int32) (vpa : Nat → Int32) (vb : Nat → Int32) (vpb : Nat → Int32) (x0 : Int32) (mr : (Int32) ⊕ String) (hm : mX8_pushesOf va vb x0 = mr) : MnX l yX8_pushesOf wsX8_pushesOf ({ frames := 7, cells := 1, slots := 6, locals := 116 } : Room) Γ [.ref q_bf, .int x0] (wBF Γ q_bf q_tx q_fl q_flT q_hi q_s1 q_s2 q_fd q_kc q_kr  ++ wFloor Γ q_fl q_k q_c q_a q_pa q_b q_pb vi vj vk vc va vpa vb vpb) (my_map (fun q : Int32 => ((some (.int q)), (wBF Γ q_bf q_tx q_fl q_flT q_hi q_s1 q_s2 q_fd q_kc q_kr  ++ wFloor Γ q_fl q_k q_c q_a q_pa q_b q_pb vi vj vk vc va vpa vb vpb))) mr) 1 6 := by
  intro sz
  refine vx_ofW (cc := cX8_pushesOf) (maxL := 2) (ret := (some .int)) (by decide) rfl ?_
  intro p e s m args below meth c s₁ B hml htab hv
  obtain ⟨rfl, ⟨hsz, hP, hK, hD0⟩, hZ, hstr⟩ := hv
  have hx := B.exec
  have hb := B.bytes
  have hr := B.returns
  have hts := atoms_spec (ws := wsX8_pushesOf) B.pre
  have hown : s.vm.findClass RX8 = some m.cls := findClass_of_methodNamed B.named
  have hlocks := B.notSynchronized
  have hinX1 : ∀ w ∈ u_ws RX1 TX1 12, w ∈ wsX8_pushesOf := fun w h => List.mem_cons_of_mem _ (List.mem_append_left _ (List.mem_append_right _ h))
  have hinX4 : ∀ w ∈ u_ws RX4 TX4 10, w ∈ wsX8_pushesOf := fun w h => List.mem_cons_of_mem _ (List.mem_append_left _ (List.mem_append_left _ (List.mem_append_right _ h)))
  have hinX8 : ∀ w ∈ u_ws RX8 TX8 9, w ∈ wsX8_pushesOf := fun w h => List.mem_cons_of_mem _ (List.mem_append_left _ (List.mem_append_left _ (List.mem_append_left _ (List.mem_append_right _ h))))
  subst hsz
  have hD := hD0.self (sz := s.heap.size)
  have hA : ∀ q : Nat, s.heap.size ≤ q → va_A (wBF Γ q_bf q_tx q_fl q_flT q_hi q_s1 q_s2 q_fd q_kc q_kr  ++ wFloor Γ q_fl q_k q_c q_a q_pa q_b q_pb vi vj vk vc va vpa vb vpb) s.heap.size q := fun q h => Or.inr h
  generalize va_A (wBF Γ q_bf q_tx q_fl q_flT q_hi q_s1 q_s2 q_fd q_kc q_kr  ++ wFloor Γ q_fl q_k q_c q_a q_pa q_b q_pb vi vj vk vc va vpa vb vpb) s.heap.size = A at hD hA hZ ⊢
  obtain ⟨W0_, hW0_⟩ : ∃ w : va_W, (wBF Γ q_bf q_tx q_fl q_flT q_hi q_s1 q_s2 q_fd q_kc q_kr  ++ wFloor Γ q_fl q_k q_c q_a q_pa q_b q_pb vi vj vk vc va vpa vb vpb) = w := ⟨_, rfl⟩
  rw [show my_XC Γ A (wBF Γ q_bf q_tx q_fl q_flT q_hi q_s1 q_s2 q_fd q_kc q_kr  ++ wFloor Γ q_fl q_k q_c q_a q_pa q_b q_pb vi vj vk vc va vpa vb vpb) (my_map (fun q : Int32 => ((some (.int q)), (wBF Γ q_bf q_tx q_fl q_flT q_hi q_s1 q_s2 q_fd q_kc q_kr  ++ wFloor Γ q_fl q_k q_c q_a q_pa q_b q_pb vi vj vk vc va vpa vb vpb))) mr) = my_XC Γ A W0_ (my_map (fun q : Int32 => ((some (.int q)), (wBF Γ q_bf q_tx q_fl q_flT q_hi q_s1 q_s2 q_fd q_kc q_kr  ++ wFloor Γ q_fl q_k q_c q_a q_pa q_b q_pb vi vj vk vc va vpa vb vpb))) mr) from congrArg (fun w => my_XC Γ A w (my_map (fun q : Int32 => ((some (.int q)), (wBF Γ q_bf q_tx q_fl q_flT q_hi q_s1 q_s2 q_fd q_kc q_kr  ++ wFloor Γ q_fl q_k q_c q_a q_pa q_b q_pb vi vj vk vc va vpa vb vpb))) mr)) hW0_]
  have hS : va_S A s.heap s.heap [] := va_S.rf
  have hl := lv_entry ([.ref q_bf, .int x0]) (n := 2) (Nat.le_of_ble_eq_true rfl)
  rw [lg_entry_eq]
  generalize (lg_sl ([.ref q_bf, .int x0]) ++ List.replicate (2 - (lg_sl ([.ref q_bf, .int x0])).length) Slot.unset).toArray = ls at hl ⊢
  replace hl : lv_has ls 2 [(0, .ref q_bf), (1, .int x0)] := hl
  unfold mX8_pushesOf at hm
  refine lv_iload_n hx hb dX8_pushesOf_0 rfl (lv_at hl 1 rfl) ?_
  refine my_callX (wc := []) hP hD hS hA [] rfl rfl (fun res w1 h9 => my_had h9) (vx_runS (As := [.int x0]) (rest := []) ⟨hx, hb, hml, hown, hts⟩ (kX8_checkRobot l Γ hfl x0 _ rfl _) (va_cwS 1 hts gX8_pushesOf_X8_checkRobot rfl rfl rfl (by decide +kernel) ⟨Nat.le_of_ble_eq_true rfl, Nat.le_of_ble_eq_true rfl⟩) (my_preSX (wc := []) [] hK hP hD hS hA hZ hstr rfl rfl) rfl rfl hl.1 rfl (lv_room (Nat.le_of_ble_eq_true rfl)) dX8_pushesOf_1 ⟨Nat.le_of_ble_eq_true rfl, Nat.le_of_ble_eq_true rfl⟩) (fun E_ H locs q9 ce hro hP hS h1_ h2_ h3_ => ?_) (fun res_ w1_ H locs hro hP hD hS => ?_)
  · rcases tx1_s hm with ⟨a_, hc_, hm⟩ | ⟨E2_, hc_, hm⟩
    · rw [hc_] at hro; exact (my_map_lr hro).elim
    · rw [hc_] at hro; obtain rfl := my_map_rr hro; subst hm
      exact vx_out (fun x hx9 => absurd (htab x hx9) id) hlocks h1_ h2_ h3_ (fun t ht ha => ⟨rfl, by rw [ht, ← hW0_]; exact hP, hS.F ht⟩) hS.2.2 (Nat.le_of_ble_eq_true rfl) (Nat.le_of_ble_eq_true rfl)
  rcases tx1_s hm with ⟨a_, hc_, hm⟩ | ⟨E2_, hc_, hm⟩
  rotate_left
  · rw [hc_] at hro; exact (my_map_rl hro).elim
  rw [hc_] at hro
  obtain ⟨rfl, rfl⟩ := my_map_ll hro
  replace hP : va_P (my_D Γ) vwCl (wBF Γ q_bf q_tx q_fl q_flT q_hi q_s1 q_s2 q_fd q_kc q_kr  ++ wFloor Γ q_fl q_k q_c q_a q_pa q_b q_pb vi vj vk vc va vpa vb vpb) H := hP
  replace hD : va_D A (wBF Γ q_bf q_tx q_fl q_flT q_hi q_s1 q_s2 q_fd q_kc q_kr  ++ wFloor Γ q_fl q_k q_c q_a q_pa q_b q_pb vi vj vk vc va vpa vb vpb) := hD
  refine lv_aload_n hx hb dX8_pushesOf_4 rfl (lv_at hl 0 rfl) ?_
  refine va_get (D := my_D Γ) (ci := 6) (v := .ref q_fl) (C := RX8) (T := TX8) (N := 9) hx hb hts hinX8 hown hK hP 0 rfl rfl 1 (by decide) (hts (.fieldLink RX8 19 "BeltFloor" "floor" "LBeltFloor$Floor;") (List.mem_of_getElem? (i := 1) rfl)) (fun _ h9 => h9) rfl dX8_pushesOf_5 ?_
  refine lv_iload_n hx hb dX8_pushesOf_8 rfl (lv_at hl 1 rfl) ?_
  by_cases c_2 : x0 = 0
  · replace hm := if_s hm c_2
    refine my_call1 (wc := (wFloor Γ q_fl q_k q_c q_a q_pa q_b q_pb vi vj vk vc va vpa vb vpb)) (w1 := (wFloor Γ q_fl q_k q_c q_a q_pa q_b q_pb vi vj vk vc va vpa vb vpb)) (ws1 := (wBF Γ q_bf q_tx q_fl q_flT q_hi q_s1 q_s2 q_fd q_kc q_kr  ++ wFloor Γ q_fl q_k q_c q_a q_pa q_b q_pb vi vj vk vc va vpa vb vpb)) hP hD hS hA [1, 2, 3, 4, 5, 6, 7] rfl rfl rfl (va_runV (As := [.int x0]) (rest := []) ⟨hx, hb, hml, hown, hts⟩ (kX1_robot_0 l Γ q_fl q_k q_c q_a q_pa q_b q_pb vi vj vk vc va vpa vb vpb x0 c_2 _) (cwV 1 hts gX8_pushesOf_X1_robot rfl rfl rfl (by decide +kernel) ⟨Nat.le_of_ble_eq_true rfl, Nat.le_of_ble_eq_true rfl⟩) (my_preV (wc := (wFloor Γ q_fl q_k q_c q_a q_pa q_b q_pb vi vj vk vc va vpa vb vpb)) (ci := 1) (q0 := 1) [1, 2, 3, 4, 5, 6, 7] hK hP hD rfl rfl rfl rfl) rfl rfl hl.1 rfl (lv_room (Nat.le_of_ble_eq_true rfl)) dX8_pushesOf_9 ⟨Nat.le_of_ble_eq_true rfl, Nat.le_of_ble_eq_true rfl⟩) (fun H locs hP hD hS => ?_)
    refine va_get (D := my_D Γ) (ci := 3) (v := .int (va 5)) (C := RX4) (T := TX4) (N := 10) hx hb hts hinX4 hown hK hP 4 rfl rfl 5 (by decide) (hts (.fieldLink RX8 161 "BeltFloor$Robot" "pushes" "I") (List.mem_of_getElem? (i := 2) rfl)) (fun _ h9 => h9) rfl dX8_pushesOf_12 ?_
    cases hm
    exact vx_ret (W.widen (k := 1) (n := 6) (Nat.le_of_ble_eq_true rfl) (Nat.le_of_ble_eq_true rfl) (W.iret (v := (va 5)) hx hb hr (fun t ht hW => ⟨_, _, rfl, ⟨rfl, by rw [ht]; exact hP⟩, hS.F ht⟩) hS.2.2 dX8_pushesOf_15))
  · replace hm := if_f hm c_2
    refine my_call1 (wc := (wFloor Γ q_fl q_k q_c q_a q_pa q_b q_pb vi vj vk vc va vpa vb vpb)) (w1 := (wFloor Γ q_fl q_k q_c q_a q_pa q_b q_pb vi vj vk vc va vpa vb vpb)) (ws1 := (wBF Γ q_bf q_tx q_fl q_flT q_hi q_s1 q_s2 q_fd q_kc q_kr  ++ wFloor Γ q_fl q_k q_c q_a q_pa q_b q_pb vi vj vk vc va vpa vb vpb)) hP hD hS hA [1, 2, 3, 4, 5, 6, 7] rfl rfl rfl (va_runV (As := [.int x0]) (rest := []) ⟨hx, hb, hml, hown, hts⟩ (kX1_robot_1 l Γ q_fl q_k q_c q_a q_pa q_b q_pb vi vj vk vc va vpa vb vpb x0 c_2 _) (cwV 1 hts gX8_pushesOf_X1_robot rfl rfl rfl (by decide +kernel) ⟨Nat.le_of_ble_eq_true rfl, Nat.le_of_ble_eq_true rfl⟩) (my_preV (wc := (wFloor Γ q_fl q_k q_c q_a q_pa q_b q_pb vi vj vk vc va vpa vb vpb)) (ci := 1) (q0 := 1) [1, 2, 3, 4, 5, 6, 7] hK hP hD rfl rfl rfl rfl) rfl rfl hl.1 rfl (lv_room (Nat.le_of_ble_eq_true rfl)) dX8_pushesOf_9 ⟨Nat.le_of_ble_eq_true rfl, Nat.le_of_ble_eq_true rfl⟩) (fun H locs hP hD hS => ?_)
    refine va_get (D := my_D Γ) (ci := 3) (v := .int (vb 5)) (C := RX4) (T := TX4) (N := 10) hx hb hts hinX4 hown hK hP 6 rfl rfl 5 (by decide) (hts (.fieldLink RX8 161 "BeltFloor$Robot" "pushes" "I") (List.mem_of_getElem? (i := 2) rfl)) (fun _ h9 => h9) rfl dX8_pushesOf_12 ?_
    cases hm
    exact vx_ret (W.widen (k := 1) (n := 6) (Nat.le_of_ble_eq_true rfl) (Nat.le_of_ble_eq_true rfl) (W.iret (v := (vb 5)) hx hb hr (fun t ht hW => ⟨_, _, rfl, ⟨rfl, by rw [ht]; exact hP⟩, hS.F ht⟩) hS.2.2 dX8_pushesOf_15))
def mX8_fallsOf (va : Nat → Int32) (vb : Nat → Int32) (x0 : Int32) : (Int32) ⊕ String := (tx1 (mX8_checkRobot x0) (fun _ => (if x0 = 0 then (Sum.inl (va 6)) else (Sum.inl (vb 6)))))
set_option maxHeartbeats 4000000 in
set_option maxRecDepth 100000 in
theorem kX8_fallsOf (l : Launch) (Γ : my_G) (hfl : l.stackTraces = false) (q_bf q_fl q_k q_c q_a q_pa q_b q_pb q_tx q_flT q_hi q_s1 q_s2 q_fd q_kc q_kr : Nat) (vi : Nat → Int32) (vj : Nat → Int64) (vk : Nat → Int32) (vc : Nat → Int32) (va : Nat → Int32) (vpa : Nat → Int32) (vb : Nat → Int32) (vpb : Nat → Int32) (x0 : Int32) (mr : (Int32) ⊕ String) (hm : mX8_fallsOf va vb x0 = mr) : MnX l yX8_fallsOf wsX8_fallsOf ({ frames := 7, cells := 1, slots := 6, locals := 116 } : Room) Γ [.ref q_bf, .int x0] (wBF Γ q_bf q_tx q_fl q_flT q_hi q_s1 q_s2 q_fd q_kc q_kr  ++ wFloor Γ q_fl q_k q_c q_a q_pa q_b q_pb vi vj vk vc va vpa vb vpb) (my_map (fun q : Int32 => ((some (.int q)), (wBF Γ q_bf q_tx q_fl q_flT q_hi q_s1 q_s2 q_fd q_kc q_kr  ++ wFloor Γ q_fl q_k q_c q_a q_pa q_b q_pb vi vj vk vc va vpa vb vpb))) mr) 1 6 := by
  intro sz
  refine vx_ofW (cc := cX8_fallsOf) (maxL := 2) (ret := (some .int)) (by decide) rfl ?_
  intro p e s m args below meth c s₁ B hml htab hv
  obtain ⟨rfl, ⟨hsz, hP, hK, hD0⟩, hZ, hstr⟩ := hv
  have hx := B.exec
  have hb := B.bytes
  have hr := B.returns
  have hts := atoms_spec (ws := wsX8_fallsOf) B.pre
  have hown : s.vm.findClass RX8 = some m.cls := findClass_of_methodNamed B.named
  have hlocks := B.notSynchronized
  have hinX1 : ∀ w ∈ u_ws RX1 TX1 12, w ∈ wsX8_fallsOf := fun w h => List.mem_cons_of_mem _ (List.mem_append_left _ (List.mem_append_right _ h))
  have hinX4 : ∀ w ∈ u_ws RX4 TX4 10, w ∈ wsX8_fallsOf := fun w h => List.mem_cons_of_mem _ (List.mem_append_left _ (List.mem_append_left _ (List.mem_append_right _ h)))
  have hinX8 : ∀ w ∈ u_ws RX8 TX8 9, w ∈ wsX8_fallsOf := fun w h => List.mem_cons_of_mem _ (List.mem_append_left _ (List.mem_append_left _ (List.mem_append_left _ (List.mem_append_right _ h))))
  subst hsz
  have hD := hD0.self (sz := s.heap.size)
  have hA : ∀ q : Nat, s.heap.size ≤ q → va_A (wBF Γ q_bf q_tx q_fl q_flT q_hi q_s1 q_s2 q_fd q_kc q_kr  ++ wFloor Γ q_fl q_k q_c q_a q_pa q_b q_pb vi vj vk vc va vpa vb vpb) s.heap.size q := fun q h => Or.inr h
  generalize va_A (wBF Γ q_bf q_tx q_fl q_flT q_hi q_s1 q_s2 q_fd q_kc q_kr  ++ wFloor Γ q_fl q_k q_c q_a q_pa q_b q_pb vi vj vk vc va vpa vb vpb) s.heap.size = A at hD hA hZ ⊢
  obtain ⟨W0_, hW0_⟩ : ∃ w : va_W, (wBF Γ q_bf q_tx q_fl q_flT q_hi q_s1 q_s2 q_fd q_kc q_kr  ++ wFloor Γ q_fl q_k q_c q_a q_pa q_b q_pb vi vj vk vc va vpa vb vpb) = w := ⟨_, rfl⟩
  rw [show my_XC Γ A (wBF Γ q_bf q_tx q_fl q_flT q_hi q_s1 q_s2 q_fd q_kc q_kr  ++ wFloor Γ q_fl q_k q_c q_a q_pa q_b q_pb vi vj vk vc va vpa vb vpb) (my_map (fun q : Int32 => ((some (.int q)), (wBF Γ q_bf q_tx q_fl q_flT q_hi q_s1 q_s2 q_fd q_kc q_kr  ++ wFloor Γ q_fl q_k q_c q_a q_pa q_b q_pb vi vj vk vc va vpa vb vpb))) mr) = my_XC Γ A W0_ (my_map (fun q : Int32 => ((some (.int q)), (wBF Γ q_bf q_tx q_fl q_flT q_hi q_s1 q_s2 q_fd q_kc q_kr  ++ wFloor Γ q_fl q_k q_c q_a q_pa q_b q_pb vi vj vk vc va vpa vb vpb))) mr) from congrArg (fun w => my_XC Γ A w (my_map (fun q : Int32 => ((some (.int q)), (wBF Γ q_bf q_tx q_fl q_flT q_hi q_s1 q_s2 q_fd q_kc q_kr  ++ wFloor Γ q_fl q_k q_c q_a q_pa q_b q_pb vi vj vk vc va vpa vb vpb))) mr)) hW0_]
  have hS : va_S A s.heap s.heap [] := va_S.rf
  have hl := lv_entry ([.ref q_bf, .int x0]) (n := 2) (Nat.le_of_ble_eq_true rfl)
  rw [lg_entry_eq]
  generalize (lg_sl ([.ref q_bf, .int x0]) ++ List.replicate (2 - (lg_sl ([.ref q_bf, .int x0])).length) Slot.unset).toArray = ls at hl ⊢
  replace hl : lv_has ls 2 [(0, .ref q_bf), (1, .int x0)] := hl
  unfold mX8_fallsOf at hm
  refine lv_iload_n hx hb dX8_fallsOf_0 rfl (lv_at hl 1 rfl) ?_
  refine my_callX (wc := []) hP hD hS hA [] rfl rfl (fun res w1 h9 => my_had h9) (vx_runS (As := [.int x0]) (rest := []) ⟨hx, hb, hml, hown, hts⟩ (kX8_checkRobot l Γ hfl x0 _ rfl _) (va_cwS 1 hts gX8_fallsOf_X8_checkRobot rfl rfl rfl (by decide +kernel) ⟨Nat.le_of_ble_eq_true rfl, Nat.le_of_ble_eq_true rfl⟩) (my_preSX (wc := []) [] hK hP hD hS hA hZ hstr rfl rfl) rfl rfl hl.1 rfl (lv_room (Nat.le_of_ble_eq_true rfl)) dX8_fallsOf_1 ⟨Nat.le_of_ble_eq_true rfl, Nat.le_of_ble_eq_true rfl⟩) (fun E_ H locs q9 ce hro hP hS h1_ h2_ h3_ => ?_) (fun res_ w1_ H locs hro hP hD hS => ?_)
  · rcases tx1_s hm with ⟨a_, hc_, hm⟩ | ⟨E2_, hc_, hm⟩
    · rw [hc_] at hro; exact (my_map_lr hro).elim
    · rw [hc_] at hro; obtain rfl := my_map_rr hro; subst hm
      exact vx_out (fun x hx9 => absurd (htab x hx9) id) hlocks h1_ h2_ h3_ (fun t ht ha => ⟨rfl, by rw [ht, ← hW0_]; exact hP, hS.F ht⟩) hS.2.2 (Nat.le_of_ble_eq_true rfl) (Nat.le_of_ble_eq_true rfl)
  rcases tx1_s hm with ⟨a_, hc_, hm⟩ | ⟨E2_, hc_, hm⟩
  rotate_left
  · rw [hc_] at hro; exact (my_map_rl hro).elim
  rw [hc_] at hro
  obtain ⟨rfl, rfl⟩ := my_map_ll hro
  replace hP : va_P (my_D Γ) vwCl (wBF Γ q_bf q_tx q_fl q_flT q_hi q_s1 q_s2 q_fd q_kc q_kr  ++ wFloor Γ q_fl q_k q_c q_a q_pa q_b q_pb vi vj vk vc va vpa vb vpb) H := hP
  replace hD : va_D A (wBF Γ q_bf q_tx q_fl q_flT q_hi q_s1 q_s2 q_fd q_kc q_kr  ++ wFloor Γ q_fl q_k q_c q_a q_pa q_b q_pb vi vj vk vc va vpa vb vpb) := hD
  refine lv_aload_n hx hb dX8_fallsOf_4 rfl (lv_at hl 0 rfl) ?_
  refine va_get (D := my_D Γ) (ci := 6) (v := .ref q_fl) (C := RX8) (T := TX8) (N := 9) hx hb hts hinX8 hown hK hP 0 rfl rfl 1 (by decide) (hts (.fieldLink RX8 19 "BeltFloor" "floor" "LBeltFloor$Floor;") (List.mem_of_getElem? (i := 1) rfl)) (fun _ h9 => h9) rfl dX8_fallsOf_5 ?_
  refine lv_iload_n hx hb dX8_fallsOf_8 rfl (lv_at hl 1 rfl) ?_
  by_cases c_2 : x0 = 0
  · replace hm := if_s hm c_2
    refine my_call1 (wc := (wFloor Γ q_fl q_k q_c q_a q_pa q_b q_pb vi vj vk vc va vpa vb vpb)) (w1 := (wFloor Γ q_fl q_k q_c q_a q_pa q_b q_pb vi vj vk vc va vpa vb vpb)) (ws1 := (wBF Γ q_bf q_tx q_fl q_flT q_hi q_s1 q_s2 q_fd q_kc q_kr  ++ wFloor Γ q_fl q_k q_c q_a q_pa q_b q_pb vi vj vk vc va vpa vb vpb)) hP hD hS hA [1, 2, 3, 4, 5, 6, 7] rfl rfl rfl (va_runV (As := [.int x0]) (rest := []) ⟨hx, hb, hml, hown, hts⟩ (kX1_robot_0 l Γ q_fl q_k q_c q_a q_pa q_b q_pb vi vj vk vc va vpa vb vpb x0 c_2 _) (cwV 1 hts gX8_fallsOf_X1_robot rfl rfl rfl (by decide +kernel) ⟨Nat.le_of_ble_eq_true rfl, Nat.le_of_ble_eq_true rfl⟩) (my_preV (wc := (wFloor Γ q_fl q_k q_c q_a q_pa q_b q_pb vi vj vk vc va vpa vb vpb)) (ci := 1) (q0 := 1) [1, 2, 3, 4, 5, 6, 7] hK hP hD rfl rfl rfl rfl) rfl rfl hl.1 rfl (lv_room (Nat.le_of_ble_eq_true rfl)) dX8_fallsOf_9 ⟨Nat.le_of_ble_eq_true rfl, Nat.le_of_ble_eq_true rfl⟩) (fun H locs hP hD hS => ?_)
    refine va_get (D := my_D Γ) (ci := 3) (v := .int (va 6)) (C := RX4) (T := TX4) (N := 10) hx hb hts hinX4 hown hK hP 4 rfl rfl 6 (by decide) (hts (.fieldLink RX8 164 "BeltFloor$Robot" "falls" "I") (List.mem_of_getElem? (i := 2) rfl)) (fun _ h9 => h9) rfl dX8_fallsOf_12 ?_
    cases hm
    exact vx_ret (W.widen (k := 1) (n := 6) (Nat.le_of_ble_eq_true rfl) (Nat.le_of_ble_eq_true rfl) (W.iret (v := (va 6)) hx hb hr (fun t ht hW => ⟨_, _, rfl, ⟨rfl, by rw [ht]; exact hP⟩, hS.F ht⟩) hS.2.2 dX8_fallsOf_15))
  · replace hm := if_f hm c_2
    refine my_call1 (wc := (wFloor Γ q_fl q_k q_c q_a q_pa q_b q_pb vi vj vk vc va vpa vb vpb)) (w1 := (wFloor Γ q_fl q_k q_c q_a q_pa q_b q_pb vi vj vk vc va vpa vb vpb)) (ws1 := (wBF Γ q_bf q_tx q_fl q_flT q_hi q_s1 q_s2 q_fd q_kc q_kr  ++ wFloor Γ q_fl q_k q_c q_a q_pa q_b q_pb vi vj vk vc va vpa vb vpb)) hP hD hS hA [1, 2, 3, 4, 5, 6, 7] rfl rfl rfl (va_runV (As := [.int x0]) (rest := []) ⟨hx, hb, hml, hown, hts⟩ (kX1_robot_1 l Γ q_fl q_k q_c q_a q_pa q_b q_pb vi vj vk vc va vpa vb vpb x0 c_2 _) (cwV 1 hts gX8_fallsOf_X1_robot rfl rfl rfl (by decide +kernel) ⟨Nat.le_of_ble_eq_true rfl, Nat.le_of_ble_eq_true rfl⟩) (my_preV (wc := (wFloor Γ q_fl q_k q_c q_a q_pa q_b q_pb vi vj vk vc va vpa vb vpb)) (ci := 1) (q0 := 1) [1, 2, 3, 4, 5, 6, 7] hK hP hD rfl rfl rfl rfl) rfl rfl hl.1 rfl (lv_room (Nat.le_of_ble_eq_true rfl)) dX8_fallsOf_9 ⟨Nat.le_of_ble_eq_true rfl, Nat.le_of_ble_eq_true rfl⟩) (fun H locs hP hD hS => ?_)
    refine va_get (D := my_D Γ) (ci := 3) (v := .int (vb 6)) (C := RX4) (T := TX4) (N := 10) hx hb hts hinX4 hown hK hP 6 rfl rfl 6 (by decide) (hts (.fieldLink RX8 164 "BeltFloor$Robot" "falls" "I") (List.mem_of_getElem? (i := 2) rfl)) (fun _ h9 => h9) rfl dX8_fallsOf_12 ?_
    cases hm
    exact vx_ret (W.widen (k := 1) (n := 6) (Nat.le_of_ble_eq_true rfl) (Nat.le_of_ble_eq_true rfl) (W.iret (v := (vb 6)) hx hb hr (fun t ht hW => ⟨_, _, rfl, ⟨rfl, by rw [ht]; exact hP⟩, hS.F ht⟩) hS.2.2 dX8_fallsOf_15))
def mX8_steps (vi : Nat → Int32) : Int32 := (vi 11)
set_option maxHeartbeats 4000000 in
set_option maxRecDepth 100000 in
theorem kX8_steps (l : Launch) (Γ : my_G) (q_bf q_fl q_k q_c q_a q_pa q_b q_pb q_tx q_flT q_hi q_s1 q_s2 q_fd q_kc q_kr : Nat) (vi : Nat → Int32) (vj : Nat → Int64) (vk : Nat → Int32) (vc : Nat → Int32) (va : Nat → Int32) (vpa : Nat → Int32) (vb : Nat → Int32) (vpb : Nat → Int32)  (rr : Int32) (hm : mX8_steps vi = rr) : Mn l yX8_steps wsX8_steps ({ frames := 0, cells := 0, slots := 0, locals := 0 } : Room) Γ [.ref q_bf] (wBF Γ q_bf q_tx q_fl q_flT q_hi q_s1 q_s2 q_fd q_kc q_kr  ++ wFloor Γ q_fl q_k q_c q_a q_pa q_b q_pb vi vj vk vc va vpa vb vpb) (some (.int rr)) (wBF Γ q_bf q_tx q_fl q_flT q_hi q_s1 q_s2 q_fd q_kc q_kr  ++ wFloor Γ q_fl q_k q_c q_a q_pa q_b q_pb vi vj vk vc va vpa vb vpb) := by
  intro sz
  refine Met.ofW (cc := cX8_steps) (maxL := 1) (ret := (some .int)) (by decide) rfl ?_
  intro p e s m args below meth c s₁ B hml hv
  obtain ⟨rfl, hsz, hP, hK, hD0⟩ := hv
  have hx := B.exec
  have hb := B.bytes
  have hr := B.returns
  have hts := atoms_spec (ws := wsX8_steps) B.pre
  have hown : s.vm.findClass RX8 = some m.cls := findClass_of_methodNamed B.named
  have hlocks := B.notSynchronized
  have hinX1 : ∀ w ∈ u_ws RX1 TX1 12, w ∈ wsX8_steps := fun w h => List.mem_cons_of_mem _ (List.mem_append_right _ h)
  have hinX8 : ∀ w ∈ u_ws RX8 TX8 9, w ∈ wsX8_steps := fun w h => List.mem_cons_of_mem _ (List.mem_append_left _ (List.mem_append_right _ h))
  subst hsz
  have hD := hD0.self (sz := s.heap.size)
  have hA : ∀ q : Nat, s.heap.size ≤ q → va_A (wBF Γ q_bf q_tx q_fl q_flT q_hi q_s1 q_s2 q_fd q_kc q_kr  ++ wFloor Γ q_fl q_k q_c q_a q_pa q_b q_pb vi vj vk vc va vpa vb vpb) s.heap.size q := fun q h => Or.inr h
  generalize va_A (wBF Γ q_bf q_tx q_fl q_flT q_hi q_s1 q_s2 q_fd q_kc q_kr  ++ wFloor Γ q_fl q_k q_c q_a q_pa q_b q_pb vi vj vk vc va vpa vb vpb) s.heap.size = A at hD hA ⊢
  have hS : va_S A s.heap s.heap [] := va_S.rf
  have hl := lv_entry ([.ref q_bf]) (n := 1) (Nat.le_of_ble_eq_true rfl)
  rw [lg_entry_eq]
  generalize (lg_sl ([.ref q_bf]) ++ List.replicate (1 - (lg_sl ([.ref q_bf])).length) Slot.unset).toArray = ls at hl ⊢
  replace hl : lv_has ls 1 [(0, .ref q_bf)] := hl
  unfold mX8_steps at hm
  refine lv_aload_n hx hb dX8_steps_0 rfl (lv_at hl 0 rfl) ?_
  refine va_get (D := my_D Γ) (ci := 6) (v := .ref q_fl) (C := RX8) (T := TX8) (N := 9) hx hb hts hinX8 hown hK hP 0 rfl rfl 1 (by decide) (hts (.fieldLink RX8 19 "BeltFloor" "floor" "LBeltFloor$Floor;") (List.mem_of_getElem? (i := 1) rfl)) (fun _ h9 => h9) rfl dX8_steps_1 ?_
  refine va_get (D := my_D Γ) (ci := 1) (v := .int (vi 11)) (C := RX1) (T := TX1) (N := 12) hx hb hts hinX1 hown hK hP 1 rfl rfl 11 (by decide) (hts (.fieldLink RX8 167 "BeltFloor$Floor" "stepsMade" "I") (List.mem_of_getElem? (i := 2) rfl)) (fun _ h9 => h9) rfl dX8_steps_4 ?_
  have hf0 := hm
  subst hf0
  exact W.iret (v := (vi 11)) hx hb hr (fun t ht hW => ⟨⟨rfl, by rw [ht]; exact hP⟩, hS.F ht⟩) hS.2.2 dX8_steps_7
def mX8_lengthOf (va : Nat → Int32) (vb : Nat → Int32) (x0 : Int32) : (Int32) ⊕ String := (tx1 (mX8_checkRobot x0) (fun _ => (if x0 = 0 then (Sum.inl (va 8)) else (Sum.inl (vb 8)))))
set_option maxHeartbeats 4000000 in
set_option maxRecDepth 100000 in
theorem kX8_lengthOf (l : Launch) (Γ : my_G) (hfl : l.stackTraces = false) (q_bf q_fl q_k q_c q_a q_pa q_b q_pb q_tx q_flT q_hi q_s1 q_s2 q_fd q_kc q_kr : Nat) (vi : Nat → Int32) (vj : Nat → Int64) (vk : Nat → Int32) (vc : Nat → Int32) (va : Nat → Int32) (vpa : Nat → Int32) (vb : Nat → Int32) (vpb : Nat → Int32) (x0 : Int32) (mr : (Int32) ⊕ String) (hm : mX8_lengthOf va vb x0 = mr) : MnX l yX8_lengthOf wsX8_lengthOf ({ frames := 7, cells := 1, slots := 6, locals := 116 } : Room) Γ [.ref q_bf, .int x0] (wBF Γ q_bf q_tx q_fl q_flT q_hi q_s1 q_s2 q_fd q_kc q_kr  ++ wFloor Γ q_fl q_k q_c q_a q_pa q_b q_pb vi vj vk vc va vpa vb vpb) (my_map (fun q : Int32 => ((some (.int q)), (wBF Γ q_bf q_tx q_fl q_flT q_hi q_s1 q_s2 q_fd q_kc q_kr  ++ wFloor Γ q_fl q_k q_c q_a q_pa q_b q_pb vi vj vk vc va vpa vb vpb))) mr) 1 6 := by
  intro sz
  refine vx_ofW (cc := cX8_lengthOf) (maxL := 2) (ret := (some .int)) (by decide) rfl ?_
  intro p e s m args below meth c s₁ B hml htab hv
  obtain ⟨rfl, ⟨hsz, hP, hK, hD0⟩, hZ, hstr⟩ := hv
  have hx := B.exec
  have hb := B.bytes
  have hr := B.returns
  have hts := atoms_spec (ws := wsX8_lengthOf) B.pre
  have hown : s.vm.findClass RX8 = some m.cls := findClass_of_methodNamed B.named
  have hlocks := B.notSynchronized
  have hinX1 : ∀ w ∈ u_ws RX1 TX1 12, w ∈ wsX8_lengthOf := fun w h => List.mem_cons_of_mem _ (List.mem_append_left _ (List.mem_append_right _ h))
  have hinX4 : ∀ w ∈ u_ws RX4 TX4 10, w ∈ wsX8_lengthOf := fun w h => List.mem_cons_of_mem _ (List.mem_append_left _ (List.mem_append_left _ (List.mem_append_right _ h)))
  have hinX8 : ∀ w ∈ u_ws RX8 TX8 9, w ∈ wsX8_lengthOf := fun w h => List.mem_cons_of_mem _ (List.mem_append_left _ (List.mem_append_left _ (List.mem_append_left _ (List.mem_append_right _ h))))
  subst hsz
  have hD := hD0.self (sz := s.heap.size)
  have hA : ∀ q : Nat, s.heap.size ≤ q → va_A (wBF Γ q_bf q_tx q_fl q_flT q_hi q_s1 q_s2 q_fd q_kc q_kr  ++ wFloor Γ q_fl q_k q_c q_a q_pa q_b q_pb vi vj vk vc va vpa vb vpb) s.heap.size q := fun q h => Or.inr h
  generalize va_A (wBF Γ q_bf q_tx q_fl q_flT q_hi q_s1 q_s2 q_fd q_kc q_kr  ++ wFloor Γ q_fl q_k q_c q_a q_pa q_b q_pb vi vj vk vc va vpa vb vpb) s.heap.size = A at hD hA hZ ⊢
  obtain ⟨W0_, hW0_⟩ : ∃ w : va_W, (wBF Γ q_bf q_tx q_fl q_flT q_hi q_s1 q_s2 q_fd q_kc q_kr  ++ wFloor Γ q_fl q_k q_c q_a q_pa q_b q_pb vi vj vk vc va vpa vb vpb) = w := ⟨_, rfl⟩
  rw [show my_XC Γ A (wBF Γ q_bf q_tx q_fl q_flT q_hi q_s1 q_s2 q_fd q_kc q_kr  ++ wFloor Γ q_fl q_k q_c q_a q_pa q_b q_pb vi vj vk vc va vpa vb vpb) (my_map (fun q : Int32 => ((some (.int q)), (wBF Γ q_bf q_tx q_fl q_flT q_hi q_s1 q_s2 q_fd q_kc q_kr  ++ wFloor Γ q_fl q_k q_c q_a q_pa q_b q_pb vi vj vk vc va vpa vb vpb))) mr) = my_XC Γ A W0_ (my_map (fun q : Int32 => ((some (.int q)), (wBF Γ q_bf q_tx q_fl q_flT q_hi q_s1 q_s2 q_fd q_kc q_kr  ++ wFloor Γ q_fl q_k q_c q_a q_pa q_b q_pb vi vj vk vc va vpa vb vpb))) mr) from congrArg (fun w => my_XC Γ A w (my_map (fun q : Int32 => ((some (.int q)), (wBF Γ q_bf q_tx q_fl q_flT q_hi q_s1 q_s2 q_fd q_kc q_kr  ++ wFloor Γ q_fl q_k q_c q_a q_pa q_b q_pb vi vj vk vc va vpa vb vpb))) mr)) hW0_]
  have hS : va_S A s.heap s.heap [] := va_S.rf
  have hl := lv_entry ([.ref q_bf, .int x0]) (n := 2) (Nat.le_of_ble_eq_true rfl)
  rw [lg_entry_eq]
  generalize (lg_sl ([.ref q_bf, .int x0]) ++ List.replicate (2 - (lg_sl ([.ref q_bf, .int x0])).length) Slot.unset).toArray = ls at hl ⊢
  replace hl : lv_has ls 2 [(0, .ref q_bf), (1, .int x0)] := hl
  unfold mX8_lengthOf at hm
  refine lv_iload_n hx hb dX8_lengthOf_0 rfl (lv_at hl 1 rfl) ?_
  refine my_callX (wc := []) hP hD hS hA [] rfl rfl (fun res w1 h9 => my_had h9) (vx_runS (As := [.int x0]) (rest := []) ⟨hx, hb, hml, hown, hts⟩ (kX8_checkRobot l Γ hfl x0 _ rfl _) (va_cwS 1 hts gX8_lengthOf_X8_checkRobot rfl rfl rfl (by decide +kernel) ⟨Nat.le_of_ble_eq_true rfl, Nat.le_of_ble_eq_true rfl⟩) (my_preSX (wc := []) [] hK hP hD hS hA hZ hstr rfl rfl) rfl rfl hl.1 rfl (lv_room (Nat.le_of_ble_eq_true rfl)) dX8_lengthOf_1 ⟨Nat.le_of_ble_eq_true rfl, Nat.le_of_ble_eq_true rfl⟩) (fun E_ H locs q9 ce hro hP hS h1_ h2_ h3_ => ?_) (fun res_ w1_ H locs hro hP hD hS => ?_)
  · rcases tx1_s hm with ⟨a_, hc_, hm⟩ | ⟨E2_, hc_, hm⟩
    · rw [hc_] at hro; exact (my_map_lr hro).elim
    · rw [hc_] at hro; obtain rfl := my_map_rr hro; subst hm
      exact vx_out (fun x hx9 => absurd (htab x hx9) id) hlocks h1_ h2_ h3_ (fun t ht ha => ⟨rfl, by rw [ht, ← hW0_]; exact hP, hS.F ht⟩) hS.2.2 (Nat.le_of_ble_eq_true rfl) (Nat.le_of_ble_eq_true rfl)
  rcases tx1_s hm with ⟨a_, hc_, hm⟩ | ⟨E2_, hc_, hm⟩
  rotate_left
  · rw [hc_] at hro; exact (my_map_rl hro).elim
  rw [hc_] at hro
  obtain ⟨rfl, rfl⟩ := my_map_ll hro
  replace hP : va_P (my_D Γ) vwCl (wBF Γ q_bf q_tx q_fl q_flT q_hi q_s1 q_s2 q_fd q_kc q_kr  ++ wFloor Γ q_fl q_k q_c q_a q_pa q_b q_pb vi vj vk vc va vpa vb vpb) H := hP
  replace hD : va_D A (wBF Γ q_bf q_tx q_fl q_flT q_hi q_s1 q_s2 q_fd q_kc q_kr  ++ wFloor Γ q_fl q_k q_c q_a q_pa q_b q_pb vi vj vk vc va vpa vb vpb) := hD
  refine lv_aload_n hx hb dX8_lengthOf_4 rfl (lv_at hl 0 rfl) ?_
  refine va_get (D := my_D Γ) (ci := 6) (v := .ref q_fl) (C := RX8) (T := TX8) (N := 9) hx hb hts hinX8 hown hK hP 0 rfl rfl 1 (by decide) (hts (.fieldLink RX8 19 "BeltFloor" "floor" "LBeltFloor$Floor;") (List.mem_of_getElem? (i := 1) rfl)) (fun _ h9 => h9) rfl dX8_lengthOf_5 ?_
  refine lv_iload_n hx hb dX8_lengthOf_8 rfl (lv_at hl 1 rfl) ?_
  by_cases c_2 : x0 = 0
  · replace hm := if_s hm c_2
    refine my_call1 (wc := (wFloor Γ q_fl q_k q_c q_a q_pa q_b q_pb vi vj vk vc va vpa vb vpb)) (w1 := (wFloor Γ q_fl q_k q_c q_a q_pa q_b q_pb vi vj vk vc va vpa vb vpb)) (ws1 := (wBF Γ q_bf q_tx q_fl q_flT q_hi q_s1 q_s2 q_fd q_kc q_kr  ++ wFloor Γ q_fl q_k q_c q_a q_pa q_b q_pb vi vj vk vc va vpa vb vpb)) hP hD hS hA [1, 2, 3, 4, 5, 6, 7] rfl rfl rfl (va_runV (As := [.int x0]) (rest := []) ⟨hx, hb, hml, hown, hts⟩ (kX1_robot_0 l Γ q_fl q_k q_c q_a q_pa q_b q_pb vi vj vk vc va vpa vb vpb x0 c_2 _) (cwV 1 hts gX8_lengthOf_X1_robot rfl rfl rfl (by decide +kernel) ⟨Nat.le_of_ble_eq_true rfl, Nat.le_of_ble_eq_true rfl⟩) (my_preV (wc := (wFloor Γ q_fl q_k q_c q_a q_pa q_b q_pb vi vj vk vc va vpa vb vpb)) (ci := 1) (q0 := 1) [1, 2, 3, 4, 5, 6, 7] hK hP hD rfl rfl rfl rfl) rfl rfl hl.1 rfl (lv_room (Nat.le_of_ble_eq_true rfl)) dX8_lengthOf_9 ⟨Nat.le_of_ble_eq_true rfl, Nat.le_of_ble_eq_true rfl⟩) (fun H locs hP hD hS => ?_)
    refine va_get (D := my_D Γ) (ci := 3) (v := .int (va 8)) (C := RX4) (T := TX4) (N := 10) hx hb hts hinX4 hown hK hP 4 rfl rfl 8 (by decide) (hts (.fieldLink RX8 170 "BeltFloor$Robot" "length" "I") (List.mem_of_getElem? (i := 2) rfl)) (fun _ h9 => h9) rfl dX8_lengthOf_12 ?_
    cases hm
    exact vx_ret (W.widen (k := 1) (n := 6) (Nat.le_of_ble_eq_true rfl) (Nat.le_of_ble_eq_true rfl) (W.iret (v := (va 8)) hx hb hr (fun t ht hW => ⟨_, _, rfl, ⟨rfl, by rw [ht]; exact hP⟩, hS.F ht⟩) hS.2.2 dX8_lengthOf_15))
  · replace hm := if_f hm c_2
    refine my_call1 (wc := (wFloor Γ q_fl q_k q_c q_a q_pa q_b q_pb vi vj vk vc va vpa vb vpb)) (w1 := (wFloor Γ q_fl q_k q_c q_a q_pa q_b q_pb vi vj vk vc va vpa vb vpb)) (ws1 := (wBF Γ q_bf q_tx q_fl q_flT q_hi q_s1 q_s2 q_fd q_kc q_kr  ++ wFloor Γ q_fl q_k q_c q_a q_pa q_b q_pb vi vj vk vc va vpa vb vpb)) hP hD hS hA [1, 2, 3, 4, 5, 6, 7] rfl rfl rfl (va_runV (As := [.int x0]) (rest := []) ⟨hx, hb, hml, hown, hts⟩ (kX1_robot_1 l Γ q_fl q_k q_c q_a q_pa q_b q_pb vi vj vk vc va vpa vb vpb x0 c_2 _) (cwV 1 hts gX8_lengthOf_X1_robot rfl rfl rfl (by decide +kernel) ⟨Nat.le_of_ble_eq_true rfl, Nat.le_of_ble_eq_true rfl⟩) (my_preV (wc := (wFloor Γ q_fl q_k q_c q_a q_pa q_b q_pb vi vj vk vc va vpa vb vpb)) (ci := 1) (q0 := 1) [1, 2, 3, 4, 5, 6, 7] hK hP hD rfl rfl rfl rfl) rfl rfl hl.1 rfl (lv_room (Nat.le_of_ble_eq_true rfl)) dX8_lengthOf_9 ⟨Nat.le_of_ble_eq_true rfl, Nat.le_of_ble_eq_true rfl⟩) (fun H locs hP hD hS => ?_)
    refine va_get (D := my_D Γ) (ci := 3) (v := .int (vb 8)) (C := RX4) (T := TX4) (N := 10) hx hb hts hinX4 hown hK hP 6 rfl rfl 8 (by decide) (hts (.fieldLink RX8 170 "BeltFloor$Robot" "length" "I") (List.mem_of_getElem? (i := 2) rfl)) (fun _ h9 => h9) rfl dX8_lengthOf_12 ?_
    cases hm
    exact vx_ret (W.widen (k := 1) (n := 6) (Nat.le_of_ble_eq_true rfl) (Nat.le_of_ble_eq_true rfl) (W.iret (v := (vb 8)) hx hb hr (fun t ht hW => ⟨_, _, rfl, ⟨rfl, by rw [ht]; exact hP⟩, hS.F ht⟩) hS.2.2 dX8_lengthOf_15))
def mX8_instructionAt (va : Nat → Int32) (vpa : Nat → Int32) (vb : Nat → Int32) (vpb : Nat → Int32) (x0 : Int32) (x1 : Int32) : (Int32) ⊕ String := (tx1 (mX8_checkRobot x0) (fun _ => (if x0 = 0 then (if (mX4_instruction va vpa x1) = (-1 : Int32) then (Sum.inr "java/lang/IndexOutOfBoundsException") else (Sum.inl (mX4_instruction va vpa x1))) else (if (mX4_instruction vb vpb x1) = (-1 : Int32) then (Sum.inr "java/lang/IndexOutOfBoundsException") else (Sum.inl (mX4_instruction vb vpb x1))))))
set_option maxHeartbeats 4000000 in
set_option maxRecDepth 100000 in
theorem kX8_instructionAt (l : Launch) (Γ : my_G) (hfl : l.stackTraces = false) (q_bf q_fl q_k q_c q_a q_pa q_b q_pb q_tx q_flT q_hi q_s1 q_s2 q_fd q_kc q_kr : Nat) (vi : Nat → Int32) (vj : Nat → Int64) (vk : Nat → Int32) (vc : Nat → Int32) (va : Nat → Int32) (vpa : Nat → Int32) (vb : Nat → Int32) (vpb : Nat → Int32) (x0 : Int32) (x1 : Int32) (mr : (Int32) ⊕ String) (hm : mX8_instructionAt va vpa vb vpb x0 x1 = mr) : MnX l yX8_instructionAt wsX8_instructionAt ({ frames := 7, cells := 2, slots := 12, locals := 116 } : Room) Γ [.ref q_bf, .int x0, .int x1] (wBF Γ q_bf q_tx q_fl q_flT q_hi q_s1 q_s2 q_fd q_kc q_kr  ++ wFloor Γ q_fl q_k q_c q_a q_pa q_b q_pb vi vj vk vc va vpa vb vpb) (my_map (fun q : Int32 => ((some (.int q)), (wBF Γ q_bf q_tx q_fl q_flT q_hi q_s1 q_s2 q_fd q_kc q_kr  ++ wFloor Γ q_fl q_k q_c q_a q_pa q_b q_pb vi vj vk vc va vpa vb vpb))) mr) 2 12 := by
  intro sz
  refine vx_ofW (cc := cX8_instructionAt) (maxL := 4) (ret := (some .int)) (by decide) rfl ?_
  intro p e s m args below meth c s₁ B hml htab hv
  obtain ⟨rfl, ⟨hsz, hP, hK, hD0⟩, hZ, hstr⟩ := hv
  have hx := B.exec
  have hb := B.bytes
  have hr := B.returns
  have hts := atoms_spec (ws := wsX8_instructionAt) B.pre
  have hown : s.vm.findClass RX8 = some m.cls := findClass_of_methodNamed B.named
  have hlocks := B.notSynchronized
  have hinX1 : ∀ w ∈ u_ws RX1 TX1 12, w ∈ wsX8_instructionAt := fun w h => List.mem_cons_of_mem _ (List.mem_append_left _ (List.mem_append_left _ (List.mem_append_right _ h)))
  have hinX4 : ∀ w ∈ u_ws RX4 TX4 10, w ∈ wsX8_instructionAt := fun w h => List.mem_cons_of_mem _ (List.mem_append_left _ (List.mem_append_right _ h))
  have hinX8 : ∀ w ∈ u_ws RX8 TX8 9, w ∈ wsX8_instructionAt := fun w h => List.mem_cons_of_mem _ (List.mem_append_left _ (List.mem_append_left _ (List.mem_append_left _ (List.mem_append_right _ h))))
  subst hsz
  have hD := hD0.self (sz := s.heap.size)
  have hA : ∀ q : Nat, s.heap.size ≤ q → va_A (wBF Γ q_bf q_tx q_fl q_flT q_hi q_s1 q_s2 q_fd q_kc q_kr  ++ wFloor Γ q_fl q_k q_c q_a q_pa q_b q_pb vi vj vk vc va vpa vb vpb) s.heap.size q := fun q h => Or.inr h
  generalize va_A (wBF Γ q_bf q_tx q_fl q_flT q_hi q_s1 q_s2 q_fd q_kc q_kr  ++ wFloor Γ q_fl q_k q_c q_a q_pa q_b q_pb vi vj vk vc va vpa vb vpb) s.heap.size = A at hD hA hZ ⊢
  obtain ⟨W0_, hW0_⟩ : ∃ w : va_W, (wBF Γ q_bf q_tx q_fl q_flT q_hi q_s1 q_s2 q_fd q_kc q_kr  ++ wFloor Γ q_fl q_k q_c q_a q_pa q_b q_pb vi vj vk vc va vpa vb vpb) = w := ⟨_, rfl⟩
  rw [show my_XC Γ A (wBF Γ q_bf q_tx q_fl q_flT q_hi q_s1 q_s2 q_fd q_kc q_kr  ++ wFloor Γ q_fl q_k q_c q_a q_pa q_b q_pb vi vj vk vc va vpa vb vpb) (my_map (fun q : Int32 => ((some (.int q)), (wBF Γ q_bf q_tx q_fl q_flT q_hi q_s1 q_s2 q_fd q_kc q_kr  ++ wFloor Γ q_fl q_k q_c q_a q_pa q_b q_pb vi vj vk vc va vpa vb vpb))) mr) = my_XC Γ A W0_ (my_map (fun q : Int32 => ((some (.int q)), (wBF Γ q_bf q_tx q_fl q_flT q_hi q_s1 q_s2 q_fd q_kc q_kr  ++ wFloor Γ q_fl q_k q_c q_a q_pa q_b q_pb vi vj vk vc va vpa vb vpb))) mr) from congrArg (fun w => my_XC Γ A w (my_map (fun q : Int32 => ((some (.int q)), (wBF Γ q_bf q_tx q_fl q_flT q_hi q_s1 q_s2 q_fd q_kc q_kr  ++ wFloor Γ q_fl q_k q_c q_a q_pa q_b q_pb vi vj vk vc va vpa vb vpb))) mr)) hW0_]
  have hS : va_S A s.heap s.heap [] := va_S.rf
  have hl := lv_entry ([.ref q_bf, .int x0, .int x1]) (n := 4) (Nat.le_of_ble_eq_true rfl)
  rw [lg_entry_eq]
  generalize (lg_sl ([.ref q_bf, .int x0, .int x1]) ++ List.replicate (4 - (lg_sl ([.ref q_bf, .int x0, .int x1])).length) Slot.unset).toArray = ls at hl ⊢
  replace hl : lv_has ls 4 [(0, .ref q_bf), (1, .int x0), (2, .int x1)] := hl
  unfold mX8_instructionAt at hm
  refine lv_iload_n hx hb dX8_instructionAt_0 rfl (lv_at hl 1 rfl) ?_
  refine my_callX (wc := []) hP hD hS hA [] rfl rfl (fun res w1 h9 => my_had h9) (vx_runS (As := [.int x0]) (rest := []) ⟨hx, hb, hml, hown, hts⟩ (kX8_checkRobot l Γ hfl x0 _ rfl _) (va_cwS 1 hts gX8_instructionAt_X8_checkRobot rfl rfl rfl (by decide +kernel) ⟨Nat.le_of_ble_eq_true rfl, Nat.le_of_ble_eq_true rfl⟩) (my_preSX (wc := []) [] hK hP hD hS hA hZ hstr rfl rfl) rfl rfl hl.1 rfl (lv_room (Nat.le_of_ble_eq_true rfl)) dX8_instructionAt_1 ⟨Nat.le_of_ble_eq_true rfl, Nat.le_of_ble_eq_true rfl⟩) (fun E_ H locs q9 ce hro hP hS h1_ h2_ h3_ => ?_) (fun res_ w1_ H locs hro hP hD hS => ?_)
  · rcases tx1_s hm with ⟨a_, hc_, hm⟩ | ⟨E2_, hc_, hm⟩
    · rw [hc_] at hro; exact (my_map_lr hro).elim
    · rw [hc_] at hro; obtain rfl := my_map_rr hro; subst hm
      exact vx_out (fun x hx9 => absurd (htab x hx9) id) hlocks h1_ h2_ h3_ (fun t ht ha => ⟨rfl, by rw [ht, ← hW0_]; exact hP, hS.F ht⟩) hS.2.2 (Nat.le_of_ble_eq_true rfl) (Nat.le_of_ble_eq_true rfl)
  rcases tx1_s hm with ⟨a_, hc_, hm⟩ | ⟨E2_, hc_, hm⟩
  rotate_left
  · rw [hc_] at hro; exact (my_map_rl hro).elim
  rw [hc_] at hro
  obtain ⟨rfl, rfl⟩ := my_map_ll hro
  replace hP : va_P (my_D Γ) vwCl (wBF Γ q_bf q_tx q_fl q_flT q_hi q_s1 q_s2 q_fd q_kc q_kr  ++ wFloor Γ q_fl q_k q_c q_a q_pa q_b q_pb vi vj vk vc va vpa vb vpb) H := hP
  replace hD : va_D A (wBF Γ q_bf q_tx q_fl q_flT q_hi q_s1 q_s2 q_fd q_kc q_kr  ++ wFloor Γ q_fl q_k q_c q_a q_pa q_b q_pb vi vj vk vc va vpa vb vpb) := hD
  refine lv_aload_n hx hb dX8_instructionAt_4 rfl (lv_at hl 0 rfl) ?_
  refine va_get (D := my_D Γ) (ci := 6) (v := .ref q_fl) (C := RX8) (T := TX8) (N := 9) hx hb hts hinX8 hown hK hP 0 rfl rfl 1 (by decide) (hts (.fieldLink RX8 19 "BeltFloor" "floor" "LBeltFloor$Floor;") (List.mem_of_getElem? (i := 3) rfl)) (fun _ h9 => h9) rfl dX8_instructionAt_5 ?_
  refine lv_iload_n hx hb dX8_instructionAt_8 rfl (lv_at hl 1 rfl) ?_
  by_cases c_2 : x0 = 0
  · replace hm := if_s hm c_2
    refine my_call1 (wc := (wFloor Γ q_fl q_k q_c q_a q_pa q_b q_pb vi vj vk vc va vpa vb vpb)) (w1 := (wFloor Γ q_fl q_k q_c q_a q_pa q_b q_pb vi vj vk vc va vpa vb vpb)) (ws1 := (wBF Γ q_bf q_tx q_fl q_flT q_hi q_s1 q_s2 q_fd q_kc q_kr  ++ wFloor Γ q_fl q_k q_c q_a q_pa q_b q_pb vi vj vk vc va vpa vb vpb)) hP hD hS hA [1, 2, 3, 4, 5, 6, 7] rfl rfl rfl (va_runV (As := [.int x0]) (rest := []) ⟨hx, hb, hml, hown, hts⟩ (kX1_robot_0 l Γ q_fl q_k q_c q_a q_pa q_b q_pb vi vj vk vc va vpa vb vpb x0 c_2 _) (cwV 1 hts gX8_instructionAt_X1_robot rfl rfl rfl (by decide +kernel) ⟨Nat.le_of_ble_eq_true rfl, Nat.le_of_ble_eq_true rfl⟩) (my_preV (wc := (wFloor Γ q_fl q_k q_c q_a q_pa q_b q_pb vi vj vk vc va vpa vb vpb)) (ci := 1) (q0 := 1) [1, 2, 3, 4, 5, 6, 7] hK hP hD rfl rfl rfl rfl) rfl rfl hl.1 rfl (lv_room (Nat.le_of_ble_eq_true rfl)) dX8_instructionAt_9 ⟨Nat.le_of_ble_eq_true rfl, Nat.le_of_ble_eq_true rfl⟩) (fun H locs hP hD hS => ?_)
    refine lv_iload_n hx hb dX8_instructionAt_12 rfl (lv_at hl 2 rfl) ?_
    refine my_call1 (wc := (wRobot Γ q_a q_pa va vpa)) (w1 := (wRobot Γ q_a q_pa va vpa)) (ws1 := (wBF Γ q_bf q_tx q_fl q_flT q_hi q_s1 q_s2 q_fd q_kc q_kr  ++ wFloor Γ q_fl q_k q_c q_a q_pa q_b q_pb vi vj vk vc va vpa vb vpb)) hP hD hS hA [4, 5] rfl rfl rfl (va_runV (As := [.int x1]) (rest := []) ⟨hx, hb, hml, hown, hts⟩ (kX4_instruction l Γ q_a q_pa va vpa x1 (mX4_instruction va vpa x1) rfl _) (cwV 1 hts gX8_instructionAt_X4_instruction rfl rfl rfl (by decide +kernel) ⟨Nat.le_of_ble_eq_true rfl, Nat.le_of_ble_eq_true rfl⟩) (my_preV (wc := (wRobot Γ q_a q_pa va vpa)) (ci := 3) (q0 := 4) [4, 5] hK hP hD rfl rfl rfl rfl) rfl rfl hl.1 rfl (lv_room (Nat.le_of_ble_eq_true rfl)) dX8_instructionAt_13 ⟨Nat.le_of_ble_eq_true rfl, Nat.le_of_ble_eq_true rfl⟩) (fun H locs hP hD hS => ?_)
    refine lv_istore_n (lv' := [(3, .int (mX4_instruction va vpa x1)), (0, .ref q_bf), (1, .int x0), (2, .int x1)]) hx hb dX8_instructionAt_16 rfl hl (by decide) rfl (fun ls hl => ?_)
    refine lv_iload_n hx hb dX8_instructionAt_17 rfl (lv_at hl 0 rfl) ?_
    refine lv_iconst (v := (-1 : Int32)) hx hb dX8_instructionAt_18 (by decide) ?_
    refine lv_icmp_ne (tgt := 32) hx hb dX8_instructionAt_19 (by decide) (fun c_3 => ?_) (fun c_3 => ?_)
    · replace hm := if_f hm c_3
      refine lv_iload_n hx hb dX8_instructionAt_32 rfl (lv_at hl 0 rfl) ?_
      cases hm
      exact vx_ret (W.widen (k := 2) (n := 12) (Nat.le_of_ble_eq_true rfl) (Nat.le_of_ble_eq_true rfl) (W.iret (v := (mX4_instruction va vpa x1)) hx hb hr (fun t ht hW => ⟨_, _, rfl, ⟨rfl, by rw [ht]; exact hP⟩, hS.F ht⟩) hS.2.2 dX8_instructionAt_33))
    · replace hm := if_s hm c_3
      obtain ⟨sa_, hsa_⟩ := hstr.1 (174, "no such place") (List.mem_of_getElem? (i := 1) rfl)
      cases hm
      exact vx_throwS (cls := "java/lang/IndexOutOfBoundsException") (names := ["java/lang/RuntimeException", "java/lang/Exception"]) hx hb hfl hown my_fitB my_fitN (hts (.classLink RX8 132 "java/lang/IndexOutOfBoundsException") (List.mem_of_getElem? (i := 1) rfl)) (hts (.initialized "java/lang/IndexOutOfBoundsException") (List.mem_of_getElem? (i := 2) rfl)) hsa_ (vx_hat (fun w h => hts w (List.mem_cons_of_mem _ (List.mem_append_right _ h))) my_ngB (vx_c (va_Nw.use rfl hstr.2.1) (vx_c (va_Nw.use rfl hstr.2.2.2.2.1) (vx_c (va_Nw.use rfl hstr.2.2.2.2.2.1) (vx_c (va_Nw.use rfl hstr.2.2.2.2.2.2) vx_n))))) my_gdB hZ.1 hZ.2 hS (hl.1.trans hml.symm) dX8_instructionAt_22 dX8_instructionAt_25 dX8_instructionAt_26 dX8_instructionAt_28 dX8_instructionAt_31 (fun x hx9 => absurd (htab x hx9) id) (Nat.le_of_ble_eq_true rfl) (Nat.le_of_ble_eq_true rfl) (Nat.le_of_ble_eq_true rfl) (Nat.le_of_ble_eq_true rfl) hlocks (fun t ha hz hk => ⟨rfl, by rw [← hW0_]; exact my_thr hP hS hz hk⟩) hS.2.2 (Nat.le_of_ble_eq_true rfl) (Nat.le_of_ble_eq_true rfl)
  · replace hm := if_f hm c_2
    refine my_call1 (wc := (wFloor Γ q_fl q_k q_c q_a q_pa q_b q_pb vi vj vk vc va vpa vb vpb)) (w1 := (wFloor Γ q_fl q_k q_c q_a q_pa q_b q_pb vi vj vk vc va vpa vb vpb)) (ws1 := (wBF Γ q_bf q_tx q_fl q_flT q_hi q_s1 q_s2 q_fd q_kc q_kr  ++ wFloor Γ q_fl q_k q_c q_a q_pa q_b q_pb vi vj vk vc va vpa vb vpb)) hP hD hS hA [1, 2, 3, 4, 5, 6, 7] rfl rfl rfl (va_runV (As := [.int x0]) (rest := []) ⟨hx, hb, hml, hown, hts⟩ (kX1_robot_1 l Γ q_fl q_k q_c q_a q_pa q_b q_pb vi vj vk vc va vpa vb vpb x0 c_2 _) (cwV 1 hts gX8_instructionAt_X1_robot rfl rfl rfl (by decide +kernel) ⟨Nat.le_of_ble_eq_true rfl, Nat.le_of_ble_eq_true rfl⟩) (my_preV (wc := (wFloor Γ q_fl q_k q_c q_a q_pa q_b q_pb vi vj vk vc va vpa vb vpb)) (ci := 1) (q0 := 1) [1, 2, 3, 4, 5, 6, 7] hK hP hD rfl rfl rfl rfl) rfl rfl hl.1 rfl (lv_room (Nat.le_of_ble_eq_true rfl)) dX8_instructionAt_9 ⟨Nat.le_of_ble_eq_true rfl, Nat.le_of_ble_eq_true rfl⟩) (fun H locs hP hD hS => ?_)
    refine lv_iload_n hx hb dX8_instructionAt_12 rfl (lv_at hl 2 rfl) ?_
    refine my_call1 (wc := (wRobot Γ q_b q_pb vb vpb)) (w1 := (wRobot Γ q_b q_pb vb vpb)) (ws1 := (wBF Γ q_bf q_tx q_fl q_flT q_hi q_s1 q_s2 q_fd q_kc q_kr  ++ wFloor Γ q_fl q_k q_c q_a q_pa q_b q_pb vi vj vk vc va vpa vb vpb)) hP hD hS hA [6, 7] rfl rfl rfl (va_runV (As := [.int x1]) (rest := []) ⟨hx, hb, hml, hown, hts⟩ (kX4_instruction l Γ q_b q_pb vb vpb x1 (mX4_instruction vb vpb x1) rfl _) (cwV 1 hts gX8_instructionAt_X4_instruction rfl rfl rfl (by decide +kernel) ⟨Nat.le_of_ble_eq_true rfl, Nat.le_of_ble_eq_true rfl⟩) (my_preV (wc := (wRobot Γ q_b q_pb vb vpb)) (ci := 3) (q0 := 6) [6, 7] hK hP hD rfl rfl rfl rfl) rfl rfl hl.1 rfl (lv_room (Nat.le_of_ble_eq_true rfl)) dX8_instructionAt_13 ⟨Nat.le_of_ble_eq_true rfl, Nat.le_of_ble_eq_true rfl⟩) (fun H locs hP hD hS => ?_)
    refine lv_istore_n (lv' := [(3, .int (mX4_instruction vb vpb x1)), (0, .ref q_bf), (1, .int x0), (2, .int x1)]) hx hb dX8_instructionAt_16 rfl hl (by decide) rfl (fun ls hl => ?_)
    refine lv_iload_n hx hb dX8_instructionAt_17 rfl (lv_at hl 0 rfl) ?_
    refine lv_iconst (v := (-1 : Int32)) hx hb dX8_instructionAt_18 (by decide) ?_
    refine lv_icmp_ne (tgt := 32) hx hb dX8_instructionAt_19 (by decide) (fun c_4 => ?_) (fun c_4 => ?_)
    · replace hm := if_f hm c_4
      refine lv_iload_n hx hb dX8_instructionAt_32 rfl (lv_at hl 0 rfl) ?_
      cases hm
      exact vx_ret (W.widen (k := 2) (n := 12) (Nat.le_of_ble_eq_true rfl) (Nat.le_of_ble_eq_true rfl) (W.iret (v := (mX4_instruction vb vpb x1)) hx hb hr (fun t ht hW => ⟨_, _, rfl, ⟨rfl, by rw [ht]; exact hP⟩, hS.F ht⟩) hS.2.2 dX8_instructionAt_33))
    · replace hm := if_s hm c_4
      obtain ⟨sa_, hsa_⟩ := hstr.1 (174, "no such place") (List.mem_of_getElem? (i := 1) rfl)
      cases hm
      exact vx_throwS (cls := "java/lang/IndexOutOfBoundsException") (names := ["java/lang/RuntimeException", "java/lang/Exception"]) hx hb hfl hown my_fitB my_fitN (hts (.classLink RX8 132 "java/lang/IndexOutOfBoundsException") (List.mem_of_getElem? (i := 1) rfl)) (hts (.initialized "java/lang/IndexOutOfBoundsException") (List.mem_of_getElem? (i := 2) rfl)) hsa_ (vx_hat (fun w h => hts w (List.mem_cons_of_mem _ (List.mem_append_right _ h))) my_ngB (vx_c (va_Nw.use rfl hstr.2.1) (vx_c (va_Nw.use rfl hstr.2.2.2.2.1) (vx_c (va_Nw.use rfl hstr.2.2.2.2.2.1) (vx_c (va_Nw.use rfl hstr.2.2.2.2.2.2) vx_n))))) my_gdB hZ.1 hZ.2 hS (hl.1.trans hml.symm) dX8_instructionAt_22 dX8_instructionAt_25 dX8_instructionAt_26 dX8_instructionAt_28 dX8_instructionAt_31 (fun x hx9 => absurd (htab x hx9) id) (Nat.le_of_ble_eq_true rfl) (Nat.le_of_ble_eq_true rfl) (Nat.le_of_ble_eq_true rfl) (Nat.le_of_ble_eq_true rfl) hlocks (fun t ha hz hk => ⟨rfl, by rw [← hW0_]; exact my_thr hP hS hz hk⟩) hS.2.2 (Nat.le_of_ble_eq_true rfl) (Nat.le_of_ble_eq_true rfl)
def mX8_placeOf (va : Nat → Int32) (vb : Nat → Int32) (x0 : Int32) : (Int32) ⊕ String := (tx1 (mX8_checkRobot x0) (fun _ => (if x0 = 0 then (Sum.inl (va 7)) else (Sum.inl (vb 7)))))
set_option maxHeartbeats 4000000 in
set_option maxRecDepth 100000 in
theorem kX8_placeOf (l : Launch) (Γ : my_G) (hfl : l.stackTraces = false) (q_bf q_fl q_k q_c q_a q_pa q_b q_pb q_tx q_flT q_hi q_s1 q_s2 q_fd q_kc q_kr : Nat) (vi : Nat → Int32) (vj : Nat → Int64) (vk : Nat → Int32) (vc : Nat → Int32) (va : Nat → Int32) (vpa : Nat → Int32) (vb : Nat → Int32) (vpb : Nat → Int32) (x0 : Int32) (mr : (Int32) ⊕ String) (hm : mX8_placeOf va vb x0 = mr) : MnX l yX8_placeOf wsX8_placeOf ({ frames := 7, cells := 1, slots := 6, locals := 116 } : Room) Γ [.ref q_bf, .int x0] (wBF Γ q_bf q_tx q_fl q_flT q_hi q_s1 q_s2 q_fd q_kc q_kr  ++ wFloor Γ q_fl q_k q_c q_a q_pa q_b q_pb vi vj vk vc va vpa vb vpb) (my_map (fun q : Int32 => ((some (.int q)), (wBF Γ q_bf q_tx q_fl q_flT q_hi q_s1 q_s2 q_fd q_kc q_kr  ++ wFloor Γ q_fl q_k q_c q_a q_pa q_b q_pb vi vj vk vc va vpa vb vpb))) mr) 1 6 := by
  intro sz
  refine vx_ofW (cc := cX8_placeOf) (maxL := 2) (ret := (some .int)) (by decide) rfl ?_
  intro p e s m args below meth c s₁ B hml htab hv
  obtain ⟨rfl, ⟨hsz, hP, hK, hD0⟩, hZ, hstr⟩ := hv
  have hx := B.exec
  have hb := B.bytes
  have hr := B.returns
  have hts := atoms_spec (ws := wsX8_placeOf) B.pre
  have hown : s.vm.findClass RX8 = some m.cls := findClass_of_methodNamed B.named
  have hlocks := B.notSynchronized
  have hinX1 : ∀ w ∈ u_ws RX1 TX1 12, w ∈ wsX8_placeOf := fun w h => List.mem_cons_of_mem _ (List.mem_append_left _ (List.mem_append_right _ h))
  have hinX4 : ∀ w ∈ u_ws RX4 TX4 10, w ∈ wsX8_placeOf := fun w h => List.mem_cons_of_mem _ (List.mem_append_left _ (List.mem_append_left _ (List.mem_append_right _ h)))
  have hinX8 : ∀ w ∈ u_ws RX8 TX8 9, w ∈ wsX8_placeOf := fun w h => List.mem_cons_of_mem _ (List.mem_append_left _ (List.mem_append_left _ (List.mem_append_left _ (List.mem_append_right _ h))))
  subst hsz
  have hD := hD0.self (sz := s.heap.size)
  have hA : ∀ q : Nat, s.heap.size ≤ q → va_A (wBF Γ q_bf q_tx q_fl q_flT q_hi q_s1 q_s2 q_fd q_kc q_kr  ++ wFloor Γ q_fl q_k q_c q_a q_pa q_b q_pb vi vj vk vc va vpa vb vpb) s.heap.size q := fun q h => Or.inr h
  generalize va_A (wBF Γ q_bf q_tx q_fl q_flT q_hi q_s1 q_s2 q_fd q_kc q_kr  ++ wFloor Γ q_fl q_k q_c q_a q_pa q_b q_pb vi vj vk vc va vpa vb vpb) s.heap.size = A at hD hA hZ ⊢
  obtain ⟨W0_, hW0_⟩ : ∃ w : va_W, (wBF Γ q_bf q_tx q_fl q_flT q_hi q_s1 q_s2 q_fd q_kc q_kr  ++ wFloor Γ q_fl q_k q_c q_a q_pa q_b q_pb vi vj vk vc va vpa vb vpb) = w := ⟨_, rfl⟩
  rw [show my_XC Γ A (wBF Γ q_bf q_tx q_fl q_flT q_hi q_s1 q_s2 q_fd q_kc q_kr  ++ wFloor Γ q_fl q_k q_c q_a q_pa q_b q_pb vi vj vk vc va vpa vb vpb) (my_map (fun q : Int32 => ((some (.int q)), (wBF Γ q_bf q_tx q_fl q_flT q_hi q_s1 q_s2 q_fd q_kc q_kr  ++ wFloor Γ q_fl q_k q_c q_a q_pa q_b q_pb vi vj vk vc va vpa vb vpb))) mr) = my_XC Γ A W0_ (my_map (fun q : Int32 => ((some (.int q)), (wBF Γ q_bf q_tx q_fl q_flT q_hi q_s1 q_s2 q_fd q_kc q_kr  ++ wFloor Γ q_fl q_k q_c q_a q_pa q_b q_pb vi vj vk vc va vpa vb vpb))) mr) from congrArg (fun w => my_XC Γ A w (my_map (fun q : Int32 => ((some (.int q)), (wBF Γ q_bf q_tx q_fl q_flT q_hi q_s1 q_s2 q_fd q_kc q_kr  ++ wFloor Γ q_fl q_k q_c q_a q_pa q_b q_pb vi vj vk vc va vpa vb vpb))) mr)) hW0_]
  have hS : va_S A s.heap s.heap [] := va_S.rf
  have hl := lv_entry ([.ref q_bf, .int x0]) (n := 2) (Nat.le_of_ble_eq_true rfl)
  rw [lg_entry_eq]
  generalize (lg_sl ([.ref q_bf, .int x0]) ++ List.replicate (2 - (lg_sl ([.ref q_bf, .int x0])).length) Slot.unset).toArray = ls at hl ⊢
  replace hl : lv_has ls 2 [(0, .ref q_bf), (1, .int x0)] := hl
  unfold mX8_placeOf at hm
  refine lv_iload_n hx hb dX8_placeOf_0 rfl (lv_at hl 1 rfl) ?_
  refine my_callX (wc := []) hP hD hS hA [] rfl rfl (fun res w1 h9 => my_had h9) (vx_runS (As := [.int x0]) (rest := []) ⟨hx, hb, hml, hown, hts⟩ (kX8_checkRobot l Γ hfl x0 _ rfl _) (va_cwS 1 hts gX8_placeOf_X8_checkRobot rfl rfl rfl (by decide +kernel) ⟨Nat.le_of_ble_eq_true rfl, Nat.le_of_ble_eq_true rfl⟩) (my_preSX (wc := []) [] hK hP hD hS hA hZ hstr rfl rfl) rfl rfl hl.1 rfl (lv_room (Nat.le_of_ble_eq_true rfl)) dX8_placeOf_1 ⟨Nat.le_of_ble_eq_true rfl, Nat.le_of_ble_eq_true rfl⟩) (fun E_ H locs q9 ce hro hP hS h1_ h2_ h3_ => ?_) (fun res_ w1_ H locs hro hP hD hS => ?_)
  · rcases tx1_s hm with ⟨a_, hc_, hm⟩ | ⟨E2_, hc_, hm⟩
    · rw [hc_] at hro; exact (my_map_lr hro).elim
    · rw [hc_] at hro; obtain rfl := my_map_rr hro; subst hm
      exact vx_out (fun x hx9 => absurd (htab x hx9) id) hlocks h1_ h2_ h3_ (fun t ht ha => ⟨rfl, by rw [ht, ← hW0_]; exact hP, hS.F ht⟩) hS.2.2 (Nat.le_of_ble_eq_true rfl) (Nat.le_of_ble_eq_true rfl)
  rcases tx1_s hm with ⟨a_, hc_, hm⟩ | ⟨E2_, hc_, hm⟩
  rotate_left
  · rw [hc_] at hro; exact (my_map_rl hro).elim
  rw [hc_] at hro
  obtain ⟨rfl, rfl⟩ := my_map_ll hro
  replace hP : va_P (my_D Γ) vwCl (wBF Γ q_bf q_tx q_fl q_flT q_hi q_s1 q_s2 q_fd q_kc q_kr  ++ wFloor Γ q_fl q_k q_c q_a q_pa q_b q_pb vi vj vk vc va vpa vb vpb) H := hP
  replace hD : va_D A (wBF Γ q_bf q_tx q_fl q_flT q_hi q_s1 q_s2 q_fd q_kc q_kr  ++ wFloor Γ q_fl q_k q_c q_a q_pa q_b q_pb vi vj vk vc va vpa vb vpb) := hD
  refine lv_aload_n hx hb dX8_placeOf_4 rfl (lv_at hl 0 rfl) ?_
  refine va_get (D := my_D Γ) (ci := 6) (v := .ref q_fl) (C := RX8) (T := TX8) (N := 9) hx hb hts hinX8 hown hK hP 0 rfl rfl 1 (by decide) (hts (.fieldLink RX8 19 "BeltFloor" "floor" "LBeltFloor$Floor;") (List.mem_of_getElem? (i := 1) rfl)) (fun _ h9 => h9) rfl dX8_placeOf_5 ?_
  refine lv_iload_n hx hb dX8_placeOf_8 rfl (lv_at hl 1 rfl) ?_
  by_cases c_2 : x0 = 0
  · replace hm := if_s hm c_2
    refine my_call1 (wc := (wFloor Γ q_fl q_k q_c q_a q_pa q_b q_pb vi vj vk vc va vpa vb vpb)) (w1 := (wFloor Γ q_fl q_k q_c q_a q_pa q_b q_pb vi vj vk vc va vpa vb vpb)) (ws1 := (wBF Γ q_bf q_tx q_fl q_flT q_hi q_s1 q_s2 q_fd q_kc q_kr  ++ wFloor Γ q_fl q_k q_c q_a q_pa q_b q_pb vi vj vk vc va vpa vb vpb)) hP hD hS hA [1, 2, 3, 4, 5, 6, 7] rfl rfl rfl (va_runV (As := [.int x0]) (rest := []) ⟨hx, hb, hml, hown, hts⟩ (kX1_robot_0 l Γ q_fl q_k q_c q_a q_pa q_b q_pb vi vj vk vc va vpa vb vpb x0 c_2 _) (cwV 1 hts gX8_placeOf_X1_robot rfl rfl rfl (by decide +kernel) ⟨Nat.le_of_ble_eq_true rfl, Nat.le_of_ble_eq_true rfl⟩) (my_preV (wc := (wFloor Γ q_fl q_k q_c q_a q_pa q_b q_pb vi vj vk vc va vpa vb vpb)) (ci := 1) (q0 := 1) [1, 2, 3, 4, 5, 6, 7] hK hP hD rfl rfl rfl rfl) rfl rfl hl.1 rfl (lv_room (Nat.le_of_ble_eq_true rfl)) dX8_placeOf_9 ⟨Nat.le_of_ble_eq_true rfl, Nat.le_of_ble_eq_true rfl⟩) (fun H locs hP hD hS => ?_)
    refine va_get (D := my_D Γ) (ci := 3) (v := .int (va 7)) (C := RX4) (T := TX4) (N := 10) hx hb hts hinX4 hown hK hP 4 rfl rfl 7 (by decide) (hts (.fieldLink RX8 176 "BeltFloor$Robot" "place" "I") (List.mem_of_getElem? (i := 2) rfl)) (fun _ h9 => h9) rfl dX8_placeOf_12 ?_
    cases hm
    exact vx_ret (W.widen (k := 1) (n := 6) (Nat.le_of_ble_eq_true rfl) (Nat.le_of_ble_eq_true rfl) (W.iret (v := (va 7)) hx hb hr (fun t ht hW => ⟨_, _, rfl, ⟨rfl, by rw [ht]; exact hP⟩, hS.F ht⟩) hS.2.2 dX8_placeOf_15))
  · replace hm := if_f hm c_2
    refine my_call1 (wc := (wFloor Γ q_fl q_k q_c q_a q_pa q_b q_pb vi vj vk vc va vpa vb vpb)) (w1 := (wFloor Γ q_fl q_k q_c q_a q_pa q_b q_pb vi vj vk vc va vpa vb vpb)) (ws1 := (wBF Γ q_bf q_tx q_fl q_flT q_hi q_s1 q_s2 q_fd q_kc q_kr  ++ wFloor Γ q_fl q_k q_c q_a q_pa q_b q_pb vi vj vk vc va vpa vb vpb)) hP hD hS hA [1, 2, 3, 4, 5, 6, 7] rfl rfl rfl (va_runV (As := [.int x0]) (rest := []) ⟨hx, hb, hml, hown, hts⟩ (kX1_robot_1 l Γ q_fl q_k q_c q_a q_pa q_b q_pb vi vj vk vc va vpa vb vpb x0 c_2 _) (cwV 1 hts gX8_placeOf_X1_robot rfl rfl rfl (by decide +kernel) ⟨Nat.le_of_ble_eq_true rfl, Nat.le_of_ble_eq_true rfl⟩) (my_preV (wc := (wFloor Γ q_fl q_k q_c q_a q_pa q_b q_pb vi vj vk vc va vpa vb vpb)) (ci := 1) (q0 := 1) [1, 2, 3, 4, 5, 6, 7] hK hP hD rfl rfl rfl rfl) rfl rfl hl.1 rfl (lv_room (Nat.le_of_ble_eq_true rfl)) dX8_placeOf_9 ⟨Nat.le_of_ble_eq_true rfl, Nat.le_of_ble_eq_true rfl⟩) (fun H locs hP hD hS => ?_)
    refine va_get (D := my_D Γ) (ci := 3) (v := .int (vb 7)) (C := RX4) (T := TX4) (N := 10) hx hb hts hinX4 hown hK hP 6 rfl rfl 7 (by decide) (hts (.fieldLink RX8 176 "BeltFloor$Robot" "place" "I") (List.mem_of_getElem? (i := 2) rfl)) (fun _ h9 => h9) rfl dX8_placeOf_12 ?_
    cases hm
    exact vx_ret (W.widen (k := 1) (n := 6) (Nat.le_of_ble_eq_true rfl) (Nat.le_of_ble_eq_true rfl) (W.iret (v := (vb 7)) hx hb hr (fun t ht hW => ⟨_, _, rfl, ⟨rfl, by rw [ht]; exact hP⟩, hS.F ht⟩) hS.2.2 dX8_placeOf_15))
def mX8_rowAhead (vj : Nat → Int64) (vk : Nat → Int32) (va : Nat → Int32) (vb : Nat → Int32) (x0 : Int32) : Option ((Int32) ⊕ String) := (bx1 (mX8_checkRobot x0) (fun _ => (if x0 = 0 then (bo1 (mX6_wayFrom vj vk va vb (va 0) (va 1)) (fun r_3 => (if (lg_cmp r_3 (0 : Int64)) = 0 then (some (Sum.inl (-1 : Int32))) else (some (Sum.inl (mJ13_bitCount_95d88 (mX6_rowOf_a vj va vb r_3))))))) else (bo1 (mX6_wayFrom vj vk va vb (vb 0) (vb 1)) (fun r_6 => (if (lg_cmp r_6 (0 : Int64)) = 0 then (some (Sum.inl (-1 : Int32))) else (some (Sum.inl (mJ13_bitCount_95d88 (mX6_rowOf_b vj va vb r_6))))))))))
set_option maxHeartbeats 4000000 in
set_option maxRecDepth 100000 in
theorem kX8_rowAhead (l : Launch) (Γ : my_G) (hfl : l.stackTraces = false) (q_bf q_fl q_k q_c q_a q_pa q_b q_pb q_tx q_flT q_hi q_s1 q_s2 q_fd q_kc q_kr : Nat) (vi : Nat → Int32) (vj : Nat → Int64) (vk : Nat → Int32) (vc : Nat → Int32) (va : Nat → Int32) (vpa : Nat → Int32) (vb : Nat → Int32) (vpb : Nat → Int32) (x0 : Int32) (mr : (Int32) ⊕ String) (hm : mX8_rowAhead vj vk va vb x0 = (some mr)) : MnX l yX8_rowAhead wsX8_rowAhead ({ frames := 7, cells := 1, slots := 6, locals := 116 } : Room) Γ [.ref q_bf, .int x0] (wBF Γ q_bf q_tx q_fl q_flT q_hi q_s1 q_s2 q_fd q_kc q_kr  ++ wFloor Γ q_fl q_k q_c q_a q_pa q_b q_pb vi vj vk vc va vpa vb vpb) (my_map (fun q : Int32 => ((some (.int q)), (wBF Γ q_bf q_tx q_fl q_flT q_hi q_s1 q_s2 q_fd q_kc q_kr  ++ wFloor Γ q_fl q_k q_c q_a q_pa q_b q_pb vi vj vk vc va vpa vb vpb))) mr) 1 6 := by
  intro sz
  refine vx_ofW (cc := cX8_rowAhead) (maxL := 5) (ret := (some .int)) (by decide) rfl ?_
  intro p e s m args below meth c s₁ B hml htab hv
  obtain ⟨rfl, ⟨hsz, hP, hK, hD0⟩, hZ, hstr⟩ := hv
  have hx := B.exec
  have hb := B.bytes
  have hr := B.returns
  have hts := atoms_spec (ws := wsX8_rowAhead) B.pre
  have hown : s.vm.findClass RX8 = some m.cls := findClass_of_methodNamed B.named
  have hlocks := B.notSynchronized
  have hinX1 : ∀ w ∈ u_ws RX1 TX1 12, w ∈ wsX8_rowAhead := fun w h => List.mem_cons_of_mem _ (List.mem_append_left _ (List.mem_append_right _ h))
  have hinX4 : ∀ w ∈ u_ws RX4 TX4 10, w ∈ wsX8_rowAhead := fun w h => List.mem_cons_of_mem _ (List.mem_append_left _ (List.mem_append_left _ (List.mem_append_right _ h)))
  have hinX8 : ∀ w ∈ u_ws RX8 TX8 9, w ∈ wsX8_rowAhead := fun w h => List.mem_cons_of_mem _ (List.mem_append_left _ (List.mem_append_left _ (List.mem_append_left _ (List.mem_append_right _ h))))
  subst hsz
  have hD := hD0.self (sz := s.heap.size)
  have hA : ∀ q : Nat, s.heap.size ≤ q → va_A (wBF Γ q_bf q_tx q_fl q_flT q_hi q_s1 q_s2 q_fd q_kc q_kr  ++ wFloor Γ q_fl q_k q_c q_a q_pa q_b q_pb vi vj vk vc va vpa vb vpb) s.heap.size q := fun q h => Or.inr h
  generalize va_A (wBF Γ q_bf q_tx q_fl q_flT q_hi q_s1 q_s2 q_fd q_kc q_kr  ++ wFloor Γ q_fl q_k q_c q_a q_pa q_b q_pb vi vj vk vc va vpa vb vpb) s.heap.size = A at hD hA hZ ⊢
  obtain ⟨W0_, hW0_⟩ : ∃ w : va_W, (wBF Γ q_bf q_tx q_fl q_flT q_hi q_s1 q_s2 q_fd q_kc q_kr  ++ wFloor Γ q_fl q_k q_c q_a q_pa q_b q_pb vi vj vk vc va vpa vb vpb) = w := ⟨_, rfl⟩
  rw [show my_XC Γ A (wBF Γ q_bf q_tx q_fl q_flT q_hi q_s1 q_s2 q_fd q_kc q_kr  ++ wFloor Γ q_fl q_k q_c q_a q_pa q_b q_pb vi vj vk vc va vpa vb vpb) (my_map (fun q : Int32 => ((some (.int q)), (wBF Γ q_bf q_tx q_fl q_flT q_hi q_s1 q_s2 q_fd q_kc q_kr  ++ wFloor Γ q_fl q_k q_c q_a q_pa q_b q_pb vi vj vk vc va vpa vb vpb))) mr) = my_XC Γ A W0_ (my_map (fun q : Int32 => ((some (.int q)), (wBF Γ q_bf q_tx q_fl q_flT q_hi q_s1 q_s2 q_fd q_kc q_kr  ++ wFloor Γ q_fl q_k q_c q_a q_pa q_b q_pb vi vj vk vc va vpa vb vpb))) mr) from congrArg (fun w => my_XC Γ A w (my_map (fun q : Int32 => ((some (.int q)), (wBF Γ q_bf q_tx q_fl q_flT q_hi q_s1 q_s2 q_fd q_kc q_kr  ++ wFloor Γ q_fl q_k q_c q_a q_pa q_b q_pb vi vj vk vc va vpa vb vpb))) mr)) hW0_]
  have hS : va_S A s.heap s.heap [] := va_S.rf
  have hl := lv_entry ([.ref q_bf, .int x0]) (n := 5) (Nat.le_of_ble_eq_true rfl)
  rw [lg_entry_eq]
  generalize (lg_sl ([.ref q_bf, .int x0]) ++ List.replicate (5 - (lg_sl ([.ref q_bf, .int x0])).length) Slot.unset).toArray = ls at hl ⊢
  replace hl : lv_has ls 5 [(0, .ref q_bf), (1, .int x0)] := hl
  unfold mX8_rowAhead at hm
  refine lv_iload_n hx hb dX8_rowAhead_0 rfl (lv_at hl 1 rfl) ?_
  refine my_callX (wc := []) hP hD hS hA [] rfl rfl (fun res w1 h9 => my_had h9) (vx_runS (As := [.int x0]) (rest := []) ⟨hx, hb, hml, hown, hts⟩ (kX8_checkRobot l Γ hfl x0 _ rfl _) (va_cwS 1 hts gX8_rowAhead_X8_checkRobot rfl rfl rfl (by decide +kernel) ⟨Nat.le_of_ble_eq_true rfl, Nat.le_of_ble_eq_true rfl⟩) (my_preSX (wc := []) [] hK hP hD hS hA hZ hstr rfl rfl) rfl rfl hl.1 rfl (lv_room (Nat.le_of_ble_eq_true rfl)) dX8_rowAhead_1 ⟨Nat.le_of_ble_eq_true rfl, Nat.le_of_ble_eq_true rfl⟩) (fun E_ H locs q9 ce hro hP hS h1_ h2_ h3_ => ?_) (fun res_ w1_ H locs hro hP hD hS => ?_)
  · rcases bx1_s hm with ⟨a_, hc_, hm⟩ | ⟨E2_, hc_, hm⟩
    · rw [hc_] at hro; exact (my_map_lr hro).elim
    · rw [hc_] at hro; obtain rfl := my_map_rr hro; subst hm
      exact vx_out (fun x hx9 => absurd (htab x hx9) id) hlocks h1_ h2_ h3_ (fun t ht ha => ⟨rfl, by rw [ht, ← hW0_]; exact hP, hS.F ht⟩) hS.2.2 (Nat.le_of_ble_eq_true rfl) (Nat.le_of_ble_eq_true rfl)
  rcases bx1_s hm with ⟨a_, hc_, hm⟩ | ⟨E2_, hc_, hm⟩
  rotate_left
  · rw [hc_] at hro; exact (my_map_rl hro).elim
  rw [hc_] at hro
  obtain ⟨rfl, rfl⟩ := my_map_ll hro
  replace hP : va_P (my_D Γ) vwCl (wBF Γ q_bf q_tx q_fl q_flT q_hi q_s1 q_s2 q_fd q_kc q_kr  ++ wFloor Γ q_fl q_k q_c q_a q_pa q_b q_pb vi vj vk vc va vpa vb vpb) H := hP
  replace hD : va_D A (wBF Γ q_bf q_tx q_fl q_flT q_hi q_s1 q_s2 q_fd q_kc q_kr  ++ wFloor Γ q_fl q_k q_c q_a q_pa q_b q_pb vi vj vk vc va vpa vb vpb) := hD
  refine lv_aload_n hx hb dX8_rowAhead_4 rfl (lv_at hl 0 rfl) ?_
  refine va_get (D := my_D Γ) (ci := 6) (v := .ref q_fl) (C := RX8) (T := TX8) (N := 9) hx hb hts hinX8 hown hK hP 0 rfl rfl 1 (by decide) (hts (.fieldLink RX8 19 "BeltFloor" "floor" "LBeltFloor$Floor;") (List.mem_of_getElem? (i := 1) rfl)) (fun _ h9 => h9) rfl dX8_rowAhead_5 ?_
  refine lv_iload_n hx hb dX8_rowAhead_8 rfl (lv_at hl 1 rfl) ?_
  by_cases c_2 : x0 = 0
  · replace hm := if_s hm c_2
    refine my_call1 (wc := (wFloor Γ q_fl q_k q_c q_a q_pa q_b q_pb vi vj vk vc va vpa vb vpb)) (w1 := (wFloor Γ q_fl q_k q_c q_a q_pa q_b q_pb vi vj vk vc va vpa vb vpb)) (ws1 := (wBF Γ q_bf q_tx q_fl q_flT q_hi q_s1 q_s2 q_fd q_kc q_kr  ++ wFloor Γ q_fl q_k q_c q_a q_pa q_b q_pb vi vj vk vc va vpa vb vpb)) hP hD hS hA [1, 2, 3, 4, 5, 6, 7] rfl rfl rfl (va_runV (As := [.int x0]) (rest := []) ⟨hx, hb, hml, hown, hts⟩ (kX1_robot_0 l Γ q_fl q_k q_c q_a q_pa q_b q_pb vi vj vk vc va vpa vb vpb x0 c_2 _) (cwV 1 hts gX8_rowAhead_X1_robot rfl rfl rfl (by decide +kernel) ⟨Nat.le_of_ble_eq_true rfl, Nat.le_of_ble_eq_true rfl⟩) (my_preV (wc := (wFloor Γ q_fl q_k q_c q_a q_pa q_b q_pb vi vj vk vc va vpa vb vpb)) (ci := 1) (q0 := 1) [1, 2, 3, 4, 5, 6, 7] hK hP hD rfl rfl rfl rfl) rfl rfl hl.1 rfl (lv_room (Nat.le_of_ble_eq_true rfl)) dX8_rowAhead_9 ⟨Nat.le_of_ble_eq_true rfl, Nat.le_of_ble_eq_true rfl⟩) (fun H locs hP hD hS => ?_)
    refine lv_astore_n (lv' := [(2, .ref q_a), (0, .ref q_bf), (1, .int x0)]) hx hb dX8_rowAhead_12 rfl hl (by decide) rfl (fun ls hl => ?_)
    refine lv_aload_n hx hb dX8_rowAhead_13 rfl (lv_at hl 1 rfl) ?_
    refine va_get (D := my_D Γ) (ci := 6) (v := .ref q_fl) (C := RX8) (T := TX8) (N := 9) hx hb hts hinX8 hown hK hP 0 rfl rfl 1 (by decide) (hts (.fieldLink RX8 19 "BeltFloor" "floor" "LBeltFloor$Floor;") (List.mem_of_getElem? (i := 1) rfl)) (fun _ h9 => h9) rfl dX8_rowAhead_14 ?_
    refine lv_aload_n hx hb dX8_rowAhead_17 rfl (lv_at hl 0 rfl) ?_
    refine va_get (D := my_D Γ) (ci := 3) (v := .int (va 0)) (C := RX4) (T := TX4) (N := 10) hx hb hts hinX4 hown hK hP 4 rfl rfl 0 (by decide) (hts (.fieldLink RX8 144 "BeltFloor$Robot" "cell" "I") (List.mem_of_getElem? (i := 2) rfl)) (fun _ h9 => h9) rfl dX8_rowAhead_18 ?_
    refine lv_aload_n hx hb dX8_rowAhead_21 rfl (lv_at hl 0 rfl) ?_
    refine va_get (D := my_D Γ) (ci := 3) (v := .int (va 1)) (C := RX4) (T := TX4) (N := 10) hx hb hts hinX4 hown hK hP 4 rfl rfl 1 (by decide) (hts (.fieldLink RX8 149 "BeltFloor$Robot" "facing" "I") (List.mem_of_getElem? (i := 3) rfl)) (fun _ h9 => h9) rfl dX8_rowAhead_22 ?_
    obtain ⟨r_3, hc_4, hm⟩ := bo1_s hm
    refine my_call1 (wc := (wFloor Γ q_fl q_k q_c q_a q_pa q_b q_pb vi vj vk vc va vpa vb vpb)) (w1 := (wFloor Γ q_fl q_k q_c q_a q_pa q_b q_pb vi vj vk vc va vpa vb vpb)) (ws1 := (wBF Γ q_bf q_tx q_fl q_flT q_hi q_s1 q_s2 q_fd q_kc q_kr  ++ wFloor Γ q_fl q_k q_c q_a q_pa q_b q_pb vi vj vk vc va vpa vb vpb)) hP hD hS hA [1, 2, 3, 4, 5, 6, 7] rfl rfl rfl (va_runS (As := [.ref q_fl, .int (va 0), .int (va 1)]) (rest := []) ⟨hx, hb, hml, hown, hts⟩ (kX6_wayFrom l Γ q_fl q_k q_c q_a q_pa q_b q_pb vi vj vk vc va vpa vb vpb (va 0) (va 1) r_3 hc_4 _) (va_cwS 3 hts gX8_rowAhead_X6_wayFrom rfl rfl rfl (by decide +kernel) ⟨Nat.le_of_ble_eq_true rfl, Nat.le_of_ble_eq_true rfl⟩) (my_preS (wc := (wFloor Γ q_fl q_k q_c q_a q_pa q_b q_pb vi vj vk vc va vpa vb vpb)) [1, 2, 3, 4, 5, 6, 7] hK hP hD rfl rfl) rfl rfl hl.1 rfl (lv_room (Nat.le_of_ble_eq_true rfl)) dX8_rowAhead_25 ⟨Nat.le_of_ble_eq_true rfl, Nat.le_of_ble_eq_true rfl⟩) (fun H locs hP hD hS => ?_)
    refine lv_lstore_n (lv' := [(3, .long r_3), (2, .ref q_a), (0, .ref q_bf), (1, .int x0)]) hx hb dX8_rowAhead_28 rfl hl (by decide) rfl (fun ls hl => ?_)
    refine lv_lload_n hx hb dX8_rowAhead_29 rfl (lv_at hl 0 rfl) ?_
    refine lv_lconst (v := (0 : Int64)) hx hb dX8_rowAhead_30 (by decide) ?_
    refine W.lcmp hx hb dX8_rowAhead_31 ?_
    refine lv_if_ne (tgt := 39) hx hb dX8_rowAhead_32 (by decide) (fun c_5 => ?_) (fun c_5 => ?_)
    · replace hm := if_f hm c_5
      refine lv_aload_n hx hb dX8_rowAhead_39 rfl (lv_at hl 2 rfl) ?_
      refine va_get (D := my_D Γ) (ci := 6) (v := .ref q_fl) (C := RX8) (T := TX8) (N := 9) hx hb hts hinX8 hown hK hP 0 rfl rfl 1 (by decide) (hts (.fieldLink RX8 19 "BeltFloor" "floor" "LBeltFloor$Floor;") (List.mem_of_getElem? (i := 1) rfl)) (fun _ h9 => h9) rfl dX8_rowAhead_40 ?_
      refine lv_aload_n hx hb dX8_rowAhead_43 rfl (lv_at hl 1 rfl) ?_
      refine lv_lload_n hx hb dX8_rowAhead_44 rfl (lv_at hl 0 rfl) ?_
      refine my_call1 (wc := (wFloor Γ q_fl q_k q_c q_a q_pa q_b q_pb vi vj vk vc va vpa vb vpb)) (w1 := (wFloor Γ q_fl q_k q_c q_a q_pa q_b q_pb vi vj vk vc va vpa vb vpb)) (ws1 := (wBF Γ q_bf q_tx q_fl q_flT q_hi q_s1 q_s2 q_fd q_kc q_kr  ++ wFloor Γ q_fl q_k q_c q_a q_pa q_b q_pb vi vj vk vc va vpa vb vpb)) hP hD hS hA [1, 2, 3, 4, 5, 6, 7] rfl rfl rfl (va_runS (As := [.ref q_fl, .ref q_a, .long r_3]) (rest := []) ⟨hx, hb, hml, hown, hts⟩ (kX6_rowOf_a l Γ q_fl q_k q_c q_a q_pa q_b q_pb vi vj vk vc va vpa vb vpb r_3 (mX6_rowOf_a vj va vb r_3) rfl _) (va_cwS 3 hts gX8_rowAhead_X6_rowOf rfl rfl rfl (by decide +kernel) ⟨Nat.le_of_ble_eq_true rfl, Nat.le_of_ble_eq_true rfl⟩) (my_preS (wc := (wFloor Γ q_fl q_k q_c q_a q_pa q_b q_pb vi vj vk vc va vpa vb vpb)) [1, 2, 3, 4, 5, 6, 7] hK hP hD rfl rfl) rfl rfl hl.1 rfl (lv_room (Nat.le_of_ble_eq_true rfl)) dX8_rowAhead_45 ⟨Nat.le_of_ble_eq_true rfl, Nat.le_of_ble_eq_true rfl⟩) (fun H locs hP hD hS => ?_)
      refine my_call1 (wc := ([] : va_W)) (w1 := ([] : va_W)) (ws1 := (wBF Γ q_bf q_tx q_fl q_flT q_hi q_s1 q_s2 q_fd q_kc q_kr  ++ wFloor Γ q_fl q_k q_c q_a q_pa q_b q_pb vi vj vk vc va vpa vb vpb)) hP hD hS hA [] rfl rfl rfl (va_runS (As := [.long (mX6_rowOf_a vj va vb r_3)]) (rest := []) ⟨hx, hb, hml, hown, hts⟩ (kJ13_bitCount_95d88 l Γ (mX6_rowOf_a vj va vb r_3) (mJ13_bitCount_95d88 (mX6_rowOf_a vj va vb r_3)) rfl _) (va_cwS 1 hts gX8_rowAhead_J13_bitCount_95d88 rfl rfl rfl (by decide +kernel) ⟨Nat.le_of_ble_eq_true rfl, Nat.le_of_ble_eq_true rfl⟩) (my_preS (wc := ([] : va_W)) [] hK hP hD rfl rfl) rfl rfl hl.1 rfl (lv_room (Nat.le_of_ble_eq_true rfl)) dX8_rowAhead_48 ⟨Nat.le_of_ble_eq_true rfl, Nat.le_of_ble_eq_true rfl⟩) (fun H locs hP hD hS => ?_)
      cases hm
      exact vx_ret (W.widen (k := 1) (n := 6) (Nat.le_of_ble_eq_true rfl) (Nat.le_of_ble_eq_true rfl) (W.iret (v := (mJ13_bitCount_95d88 (mX6_rowOf_a vj va vb r_3))) hx hb hr (fun t ht hW => ⟨_, _, rfl, ⟨rfl, by rw [ht]; exact hP⟩, hS.F ht⟩) hS.2.2 dX8_rowAhead_51))
    · replace hm := if_s hm c_5
      refine lv_iconst (v := (-1 : Int32)) hx hb dX8_rowAhead_35 (by decide) ?_
      refine lv_goto (tgt := 51) hx hb dX8_rowAhead_36 (by decide) ?_
      cases hm
      exact vx_ret (W.widen (k := 1) (n := 6) (Nat.le_of_ble_eq_true rfl) (Nat.le_of_ble_eq_true rfl) (W.iret (v := (-1 : Int32)) hx hb hr (fun t ht hW => ⟨_, _, rfl, ⟨rfl, by rw [ht]; exact hP⟩, hS.F ht⟩) hS.2.2 dX8_rowAhead_51))
  · replace hm := if_f hm c_2
    refine my_call1 (wc := (wFloor Γ q_fl q_k q_c q_a q_pa q_b q_pb vi vj vk vc va vpa vb vpb)) (w1 := (wFloor Γ q_fl q_k q_c q_a q_pa q_b q_pb vi vj vk vc va vpa vb vpb)) (ws1 := (wBF Γ q_bf q_tx q_fl q_flT q_hi q_s1 q_s2 q_fd q_kc q_kr  ++ wFloor Γ q_fl q_k q_c q_a q_pa q_b q_pb vi vj vk vc va vpa vb vpb)) hP hD hS hA [1, 2, 3, 4, 5, 6, 7] rfl rfl rfl (va_runV (As := [.int x0]) (rest := []) ⟨hx, hb, hml, hown, hts⟩ (kX1_robot_1 l Γ q_fl q_k q_c q_a q_pa q_b q_pb vi vj vk vc va vpa vb vpb x0 c_2 _) (cwV 1 hts gX8_rowAhead_X1_robot rfl rfl rfl (by decide +kernel) ⟨Nat.le_of_ble_eq_true rfl, Nat.le_of_ble_eq_true rfl⟩) (my_preV (wc := (wFloor Γ q_fl q_k q_c q_a q_pa q_b q_pb vi vj vk vc va vpa vb vpb)) (ci := 1) (q0 := 1) [1, 2, 3, 4, 5, 6, 7] hK hP hD rfl rfl rfl rfl) rfl rfl hl.1 rfl (lv_room (Nat.le_of_ble_eq_true rfl)) dX8_rowAhead_9 ⟨Nat.le_of_ble_eq_true rfl, Nat.le_of_ble_eq_true rfl⟩) (fun H locs hP hD hS => ?_)
    refine lv_astore_n (lv' := [(2, .ref q_b), (0, .ref q_bf), (1, .int x0)]) hx hb dX8_rowAhead_12 rfl hl (by decide) rfl (fun ls hl => ?_)
    refine lv_aload_n hx hb dX8_rowAhead_13 rfl (lv_at hl 1 rfl) ?_
    refine va_get (D := my_D Γ) (ci := 6) (v := .ref q_fl) (C := RX8) (T := TX8) (N := 9) hx hb hts hinX8 hown hK hP 0 rfl rfl 1 (by decide) (hts (.fieldLink RX8 19 "BeltFloor" "floor" "LBeltFloor$Floor;") (List.mem_of_getElem? (i := 1) rfl)) (fun _ h9 => h9) rfl dX8_rowAhead_14 ?_
    refine lv_aload_n hx hb dX8_rowAhead_17 rfl (lv_at hl 0 rfl) ?_
    refine va_get (D := my_D Γ) (ci := 3) (v := .int (vb 0)) (C := RX4) (T := TX4) (N := 10) hx hb hts hinX4 hown hK hP 6 rfl rfl 0 (by decide) (hts (.fieldLink RX8 144 "BeltFloor$Robot" "cell" "I") (List.mem_of_getElem? (i := 2) rfl)) (fun _ h9 => h9) rfl dX8_rowAhead_18 ?_
    refine lv_aload_n hx hb dX8_rowAhead_21 rfl (lv_at hl 0 rfl) ?_
    refine va_get (D := my_D Γ) (ci := 3) (v := .int (vb 1)) (C := RX4) (T := TX4) (N := 10) hx hb hts hinX4 hown hK hP 6 rfl rfl 1 (by decide) (hts (.fieldLink RX8 149 "BeltFloor$Robot" "facing" "I") (List.mem_of_getElem? (i := 3) rfl)) (fun _ h9 => h9) rfl dX8_rowAhead_22 ?_
    obtain ⟨r_6, hc_7, hm⟩ := bo1_s hm
    refine my_call1 (wc := (wFloor Γ q_fl q_k q_c q_a q_pa q_b q_pb vi vj vk vc va vpa vb vpb)) (w1 := (wFloor Γ q_fl q_k q_c q_a q_pa q_b q_pb vi vj vk vc va vpa vb vpb)) (ws1 := (wBF Γ q_bf q_tx q_fl q_flT q_hi q_s1 q_s2 q_fd q_kc q_kr  ++ wFloor Γ q_fl q_k q_c q_a q_pa q_b q_pb vi vj vk vc va vpa vb vpb)) hP hD hS hA [1, 2, 3, 4, 5, 6, 7] rfl rfl rfl (va_runS (As := [.ref q_fl, .int (vb 0), .int (vb 1)]) (rest := []) ⟨hx, hb, hml, hown, hts⟩ (kX6_wayFrom l Γ q_fl q_k q_c q_a q_pa q_b q_pb vi vj vk vc va vpa vb vpb (vb 0) (vb 1) r_6 hc_7 _) (va_cwS 3 hts gX8_rowAhead_X6_wayFrom rfl rfl rfl (by decide +kernel) ⟨Nat.le_of_ble_eq_true rfl, Nat.le_of_ble_eq_true rfl⟩) (my_preS (wc := (wFloor Γ q_fl q_k q_c q_a q_pa q_b q_pb vi vj vk vc va vpa vb vpb)) [1, 2, 3, 4, 5, 6, 7] hK hP hD rfl rfl) rfl rfl hl.1 rfl (lv_room (Nat.le_of_ble_eq_true rfl)) dX8_rowAhead_25 ⟨Nat.le_of_ble_eq_true rfl, Nat.le_of_ble_eq_true rfl⟩) (fun H locs hP hD hS => ?_)
    refine lv_lstore_n (lv' := [(3, .long r_6), (2, .ref q_b), (0, .ref q_bf), (1, .int x0)]) hx hb dX8_rowAhead_28 rfl hl (by decide) rfl (fun ls hl => ?_)
    refine lv_lload_n hx hb dX8_rowAhead_29 rfl (lv_at hl 0 rfl) ?_
    refine lv_lconst (v := (0 : Int64)) hx hb dX8_rowAhead_30 (by decide) ?_
    refine W.lcmp hx hb dX8_rowAhead_31 ?_
    refine lv_if_ne (tgt := 39) hx hb dX8_rowAhead_32 (by decide) (fun c_8 => ?_) (fun c_8 => ?_)
    · replace hm := if_f hm c_8
      refine lv_aload_n hx hb dX8_rowAhead_39 rfl (lv_at hl 2 rfl) ?_
      refine va_get (D := my_D Γ) (ci := 6) (v := .ref q_fl) (C := RX8) (T := TX8) (N := 9) hx hb hts hinX8 hown hK hP 0 rfl rfl 1 (by decide) (hts (.fieldLink RX8 19 "BeltFloor" "floor" "LBeltFloor$Floor;") (List.mem_of_getElem? (i := 1) rfl)) (fun _ h9 => h9) rfl dX8_rowAhead_40 ?_
      refine lv_aload_n hx hb dX8_rowAhead_43 rfl (lv_at hl 1 rfl) ?_
      refine lv_lload_n hx hb dX8_rowAhead_44 rfl (lv_at hl 0 rfl) ?_
      refine my_call1 (wc := (wFloor Γ q_fl q_k q_c q_a q_pa q_b q_pb vi vj vk vc va vpa vb vpb)) (w1 := (wFloor Γ q_fl q_k q_c q_a q_pa q_b q_pb vi vj vk vc va vpa vb vpb)) (ws1 := (wBF Γ q_bf q_tx q_fl q_flT q_hi q_s1 q_s2 q_fd q_kc q_kr  ++ wFloor Γ q_fl q_k q_c q_a q_pa q_b q_pb vi vj vk vc va vpa vb vpb)) hP hD hS hA [1, 2, 3, 4, 5, 6, 7] rfl rfl rfl (va_runS (As := [.ref q_fl, .ref q_b, .long r_6]) (rest := []) ⟨hx, hb, hml, hown, hts⟩ (kX6_rowOf_b l Γ q_fl q_k q_c q_a q_pa q_b q_pb vi vj vk vc va vpa vb vpb r_6 (mX6_rowOf_b vj va vb r_6) rfl _) (va_cwS 3 hts gX8_rowAhead_X6_rowOf rfl rfl rfl (by decide +kernel) ⟨Nat.le_of_ble_eq_true rfl, Nat.le_of_ble_eq_true rfl⟩) (my_preS (wc := (wFloor Γ q_fl q_k q_c q_a q_pa q_b q_pb vi vj vk vc va vpa vb vpb)) [1, 2, 3, 4, 5, 6, 7] hK hP hD rfl rfl) rfl rfl hl.1 rfl (lv_room (Nat.le_of_ble_eq_true rfl)) dX8_rowAhead_45 ⟨Nat.le_of_ble_eq_true rfl, Nat.le_of_ble_eq_true rfl⟩) (fun H locs hP hD hS => ?_)
      refine my_call1 (wc := ([] : va_W)) (w1 := ([] : va_W)) (ws1 := (wBF Γ q_bf q_tx q_fl q_flT q_hi q_s1 q_s2 q_fd q_kc q_kr  ++ wFloor Γ q_fl q_k q_c q_a q_pa q_b q_pb vi vj vk vc va vpa vb vpb)) hP hD hS hA [] rfl rfl rfl (va_runS (As := [.long (mX6_rowOf_b vj va vb r_6)]) (rest := []) ⟨hx, hb, hml, hown, hts⟩ (kJ13_bitCount_95d88 l Γ (mX6_rowOf_b vj va vb r_6) (mJ13_bitCount_95d88 (mX6_rowOf_b vj va vb r_6)) rfl _) (va_cwS 1 hts gX8_rowAhead_J13_bitCount_95d88 rfl rfl rfl (by decide +kernel) ⟨Nat.le_of_ble_eq_true rfl, Nat.le_of_ble_eq_true rfl⟩) (my_preS (wc := ([] : va_W)) [] hK hP hD rfl rfl) rfl rfl hl.1 rfl (lv_room (Nat.le_of_ble_eq_true rfl)) dX8_rowAhead_48 ⟨Nat.le_of_ble_eq_true rfl, Nat.le_of_ble_eq_true rfl⟩) (fun H locs hP hD hS => ?_)
      cases hm
      exact vx_ret (W.widen (k := 1) (n := 6) (Nat.le_of_ble_eq_true rfl) (Nat.le_of_ble_eq_true rfl) (W.iret (v := (mJ13_bitCount_95d88 (mX6_rowOf_b vj va vb r_6))) hx hb hr (fun t ht hW => ⟨_, _, rfl, ⟨rfl, by rw [ht]; exact hP⟩, hS.F ht⟩) hS.2.2 dX8_rowAhead_51))
    · replace hm := if_s hm c_8
      refine lv_iconst (v := (-1 : Int32)) hx hb dX8_rowAhead_35 (by decide) ?_
      refine lv_goto (tgt := 51) hx hb dX8_rowAhead_36 (by decide) ?_
      cases hm
      exact vx_ret (W.widen (k := 1) (n := 6) (Nat.le_of_ble_eq_true rfl) (Nat.le_of_ble_eq_true rfl) (W.iret (v := (-1 : Int32)) hx hb hr (fun t ht hW => ⟨_, _, rfl, ⟨rfl, by rw [ht]; exact hP⟩, hS.F ht⟩) hS.2.2 dX8_rowAhead_51))
def mX8_wouldClash (vj : Nat → Int64) (vk : Nat → Int32) (va : Nat → Int32) (vpa : Nat → Int32) (vb : Nat → Int32) (vpb : Nat → Int32) : Option (Int32) := (bo1 (mX6_wayOf_a vj vk va vpa vb) (fun r_1 => (bo1 (mX6_wayOf_b vj vk va vb vpb) (fun r_3 => (some (mX6_clash r_1 r_3))))))
set_option maxHeartbeats 4000000 in
set_option maxRecDepth 100000 in
theorem kX8_wouldClash (l : Launch) (Γ : my_G) (q_bf q_fl q_k q_c q_a q_pa q_b q_pb q_tx q_flT q_hi q_s1 q_s2 q_fd q_kc q_kr : Nat) (vi : Nat → Int32) (vj : Nat → Int64) (vk : Nat → Int32) (vc : Nat → Int32) (va : Nat → Int32) (vpa : Nat → Int32) (vb : Nat → Int32) (vpb : Nat → Int32)  (rr : Int32) (hm : mX8_wouldClash vj vk va vpa vb vpb = (some rr)) : Mn l yX8_wouldClash wsX8_wouldClash ({ frames := 4, cells := 0, slots := 0, locals := 90 } : Room) Γ [.ref q_bf] (wBF Γ q_bf q_tx q_fl q_flT q_hi q_s1 q_s2 q_fd q_kc q_kr  ++ wFloor Γ q_fl q_k q_c q_a q_pa q_b q_pb vi vj vk vc va vpa vb vpb) (some (.int rr)) (wBF Γ q_bf q_tx q_fl q_flT q_hi q_s1 q_s2 q_fd q_kc q_kr  ++ wFloor Γ q_fl q_k q_c q_a q_pa q_b q_pb vi vj vk vc va vpa vb vpb) := by
  intro sz
  refine Met.ofW (cc := cX8_wouldClash) (maxL := 1) (ret := (some .boolean)) (by decide) rfl ?_
  intro p e s m args below meth c s₁ B hml hv
  obtain ⟨rfl, hsz, hP, hK, hD0⟩ := hv
  have hx := B.exec
  have hb := B.bytes
  have hr := B.returns
  have hts := atoms_spec (ws := wsX8_wouldClash) B.pre
  have hown : s.vm.findClass RX8 = some m.cls := findClass_of_methodNamed B.named
  have hlocks := B.notSynchronized
  have hinX1 : ∀ w ∈ u_ws RX1 TX1 12, w ∈ wsX8_wouldClash := fun w h => List.mem_cons_of_mem _ (List.mem_append_left _ (List.mem_append_right _ h))
  have hinX4 : ∀ w ∈ u_ws RX4 TX4 10, w ∈ wsX8_wouldClash := fun w h => List.mem_cons_of_mem _ (List.mem_append_right _ h)
  have hinX8 : ∀ w ∈ u_ws RX8 TX8 9, w ∈ wsX8_wouldClash := fun w h => List.mem_cons_of_mem _ (List.mem_append_left _ (List.mem_append_left _ (List.mem_append_right _ h)))
  subst hsz
  have hD := hD0.self (sz := s.heap.size)
  have hA : ∀ q : Nat, s.heap.size ≤ q → va_A (wBF Γ q_bf q_tx q_fl q_flT q_hi q_s1 q_s2 q_fd q_kc q_kr  ++ wFloor Γ q_fl q_k q_c q_a q_pa q_b q_pb vi vj vk vc va vpa vb vpb) s.heap.size q := fun q h => Or.inr h
  generalize va_A (wBF Γ q_bf q_tx q_fl q_flT q_hi q_s1 q_s2 q_fd q_kc q_kr  ++ wFloor Γ q_fl q_k q_c q_a q_pa q_b q_pb vi vj vk vc va vpa vb vpb) s.heap.size = A at hD hA ⊢
  have hS : va_S A s.heap s.heap [] := va_S.rf
  have hl := lv_entry ([.ref q_bf]) (n := 1) (Nat.le_of_ble_eq_true rfl)
  rw [lg_entry_eq]
  generalize (lg_sl ([.ref q_bf]) ++ List.replicate (1 - (lg_sl ([.ref q_bf])).length) Slot.unset).toArray = ls at hl ⊢
  replace hl : lv_has ls 1 [(0, .ref q_bf)] := hl
  unfold mX8_wouldClash at hm
  refine lv_aload_n hx hb dX8_wouldClash_0 rfl (lv_at hl 0 rfl) ?_
  refine va_get (D := my_D Γ) (ci := 6) (v := .ref q_fl) (C := RX8) (T := TX8) (N := 9) hx hb hts hinX8 hown hK hP 0 rfl rfl 1 (by decide) (hts (.fieldLink RX8 19 "BeltFloor" "floor" "LBeltFloor$Floor;") (List.mem_of_getElem? (i := 1) rfl)) (fun _ h9 => h9) rfl dX8_wouldClash_1 ?_
  refine lv_aload_n hx hb dX8_wouldClash_4 rfl (lv_at hl 0 rfl) ?_
  refine va_get (D := my_D Γ) (ci := 6) (v := .ref q_fl) (C := RX8) (T := TX8) (N := 9) hx hb hts hinX8 hown hK hP 0 rfl rfl 1 (by decide) (hts (.fieldLink RX8 19 "BeltFloor" "floor" "LBeltFloor$Floor;") (List.mem_of_getElem? (i := 1) rfl)) (fun _ h9 => h9) rfl dX8_wouldClash_5 ?_
  refine va_get (D := my_D Γ) (ci := 1) (v := .ref q_a) (C := RX1) (T := TX1) (N := 12) hx hb hts hinX1 hown hK hP 1 rfl rfl 2 (by decide) (hts (.fieldLink RX8 264 "BeltFloor$Floor" "first" "LBeltFloor$Robot;") (List.mem_of_getElem? (i := 2) rfl)) (fun _ h9 => h9) rfl dX8_wouldClash_8 ?_
  obtain ⟨r_1, hc_2, hm⟩ := bo1_s hm
  refine my_call1 (wc := (wFloor Γ q_fl q_k q_c q_a q_pa q_b q_pb vi vj vk vc va vpa vb vpb)) (w1 := (wFloor Γ q_fl q_k q_c q_a q_pa q_b q_pb vi vj vk vc va vpa vb vpb)) (ws1 := (wBF Γ q_bf q_tx q_fl q_flT q_hi q_s1 q_s2 q_fd q_kc q_kr  ++ wFloor Γ q_fl q_k q_c q_a q_pa q_b q_pb vi vj vk vc va vpa vb vpb)) hP hD hS hA [1, 2, 3, 4, 5, 6, 7] rfl rfl rfl (va_runS (As := [.ref q_fl, .ref q_a]) (rest := []) ⟨hx, hb, hml, hown, hts⟩ (kX6_wayOf_a l Γ q_fl q_k q_c q_a q_pa q_b q_pb vi vj vk vc va vpa vb vpb r_1 hc_2 _) (va_cwS 2 hts gX8_wouldClash_X6_wayOf rfl rfl rfl (by decide +kernel) ⟨Nat.le_of_ble_eq_true rfl, Nat.le_of_ble_eq_true rfl⟩) (my_preS (wc := (wFloor Γ q_fl q_k q_c q_a q_pa q_b q_pb vi vj vk vc va vpa vb vpb)) [1, 2, 3, 4, 5, 6, 7] hK hP hD rfl rfl) rfl rfl hl.1 rfl (lv_room (Nat.le_of_ble_eq_true rfl)) dX8_wouldClash_11 ⟨Nat.le_of_ble_eq_true rfl, Nat.le_of_ble_eq_true rfl⟩) (fun H locs hP hD hS => ?_)
  refine lv_aload_n hx hb dX8_wouldClash_14 rfl (lv_at hl 0 rfl) ?_
  refine va_get (D := my_D Γ) (ci := 6) (v := .ref q_fl) (C := RX8) (T := TX8) (N := 9) hx hb hts hinX8 hown hK hP 0 rfl rfl 1 (by decide) (hts (.fieldLink RX8 19 "BeltFloor" "floor" "LBeltFloor$Floor;") (List.mem_of_getElem? (i := 1) rfl)) (fun _ h9 => h9) rfl dX8_wouldClash_15 ?_
  refine lv_aload_n hx hb dX8_wouldClash_18 rfl (lv_at hl 0 rfl) ?_
  refine va_get (D := my_D Γ) (ci := 6) (v := .ref q_fl) (C := RX8) (T := TX8) (N := 9) hx hb hts hinX8 hown hK hP 0 rfl rfl 1 (by decide) (hts (.fieldLink RX8 19 "BeltFloor" "floor" "LBeltFloor$Floor;") (List.mem_of_getElem? (i := 1) rfl)) (fun _ h9 => h9) rfl dX8_wouldClash_19 ?_
  refine va_get (D := my_D Γ) (ci := 1) (v := .ref q_b) (C := RX1) (T := TX1) (N := 12) hx hb hts hinX1 hown hK hP 1 rfl rfl 3 (by decide) (hts (.fieldLink RX8 272 "BeltFloor$Floor" "second" "LBeltFloor$Robot;") (List.mem_of_getElem? (i := 3) rfl)) (fun _ h9 => h9) rfl dX8_wouldClash_22 ?_
  obtain ⟨r_3, hc_4, hm⟩ := bo1_s hm
  refine my_call1 (wc := (wFloor Γ q_fl q_k q_c q_a q_pa q_b q_pb vi vj vk vc va vpa vb vpb)) (w1 := (wFloor Γ q_fl q_k q_c q_a q_pa q_b q_pb vi vj vk vc va vpa vb vpb)) (ws1 := (wBF Γ q_bf q_tx q_fl q_flT q_hi q_s1 q_s2 q_fd q_kc q_kr  ++ wFloor Γ q_fl q_k q_c q_a q_pa q_b q_pb vi vj vk vc va vpa vb vpb)) hP hD hS hA [1, 2, 3, 4, 5, 6, 7] rfl rfl rfl (va_runS (As := [.ref q_fl, .ref q_b]) (rest := [.long r_1]) ⟨hx, hb, hml, hown, hts⟩ (kX6_wayOf_b l Γ q_fl q_k q_c q_a q_pa q_b q_pb vi vj vk vc va vpa vb vpb r_3 hc_4 _) (va_cwS 2 hts gX8_wouldClash_X6_wayOf rfl rfl rfl (by decide +kernel) ⟨Nat.le_of_ble_eq_true rfl, Nat.le_of_ble_eq_true rfl⟩) (my_preS (wc := (wFloor Γ q_fl q_k q_c q_a q_pa q_b q_pb vi vj vk vc va vpa vb vpb)) [1, 2, 3, 4, 5, 6, 7] hK hP hD rfl rfl) rfl rfl hl.1 rfl (lv_room (Nat.le_of_ble_eq_true rfl)) dX8_wouldClash_25 ⟨Nat.le_of_ble_eq_true rfl, Nat.le_of_ble_eq_true rfl⟩) (fun H locs hP hD hS => ?_)
  refine my_call1 (wc := ([] : va_W)) (w1 := ([] : va_W)) (ws1 := (wBF Γ q_bf q_tx q_fl q_flT q_hi q_s1 q_s2 q_fd q_kc q_kr  ++ wFloor Γ q_fl q_k q_c q_a q_pa q_b q_pb vi vj vk vc va vpa vb vpb)) hP hD hS hA [] rfl rfl rfl (va_runS (As := [.long r_1, .long r_3]) (rest := []) ⟨hx, hb, hml, hown, hts⟩ (kX6_clash l Γ r_1 r_3 (mX6_clash r_1 r_3) rfl _) (va_cwS 2 hts gX8_wouldClash_X6_clash rfl rfl rfl (by decide +kernel) ⟨Nat.le_of_ble_eq_true rfl, Nat.le_of_ble_eq_true rfl⟩) (my_preS (wc := ([] : va_W)) [] hK hP hD rfl rfl) rfl rfl hl.1 rfl (lv_room (Nat.le_of_ble_eq_true rfl)) dX8_wouldClash_28 ⟨Nat.le_of_ble_eq_true rfl, Nat.le_of_ble_eq_true rfl⟩) (fun H locs hP hD hS => ?_)
  obtain hf0 := Option.some.inj hm
  subst hf0
  exact W.zret (v := (mX6_clash r_1 r_3)) hx hb hr (nbX6_clash r_1 r_3) (fun t ht hW => ⟨⟨rfl, by rw [ht]; exact hP⟩, hS.F ht⟩) hS.2.2 dX8_wouldClash_31
def mX8_append (ti : Nat → Int32) (sg : Nat → Int32) (x0 : Int32) : (Int32 × (Nat → Int32) × (Nat → Int32)) ⊕ String := (if x0 < 0 then (Sum.inr "java/lang/IllegalArgumentException") else (if x0 ≤ (255 : Int32) then (if (ti 1) < (120 : Int32) then (bt2 (mX7_add ti sg x0) (fun ti_4 sg_5 => (Sum.inl ((ti_4 1), ti_4, sg_5)))) else (Sum.inr "java/lang/IllegalStateException")) else (Sum.inr "java/lang/IllegalArgumentException")))
set_option maxHeartbeats 4000000 in
set_option maxRecDepth 100000 in
theorem kX8_append (l : Launch) (Γ : my_G) (hfl : l.stackTraces = false) (q_bf q_tx q_sg q_fl q_flT q_hi q_s1 q_s2 q_fd q_kc q_kr : Nat) (ti : Nat → Int32) (sg : Nat → Int32) (x0 : Int32) (mr : (Int32 × (Nat → Int32) × (Nat → Int32)) ⊕ String) (hm : mX8_append ti sg x0 = mr) : MnX l yX8_append wsX8_append ({ frames := 6, cells := 1, slots := 6, locals := 96 } : Room) Γ [.ref q_bf, .int x0] (wBF Γ q_bf q_tx q_fl q_flT q_hi q_s1 q_s2 q_fd q_kc q_kr  ++ wText Γ q_tx q_sg ti sg) (my_map (fun q : Int32 × (Nat → Int32) × (Nat → Int32) => ((some (.int (q.1))), (wBF Γ q_bf q_tx q_fl q_flT q_hi q_s1 q_s2 q_fd q_kc q_kr  ++ wText Γ q_tx q_sg (q.2.1) (q.2.2)))) mr) 1 6 := by
  intro sz
  refine vx_ofW (cc := cX8_append) (maxL := 2) (ret := (some .int)) (by decide) rfl ?_
  intro p e s m args below meth c s₁ B hml htab hv
  obtain ⟨rfl, ⟨hsz, hP, hK, hD0⟩, hZ, hstr⟩ := hv
  have hx := B.exec
  have hb := B.bytes
  have hr := B.returns
  have hts := atoms_spec (ws := wsX8_append) B.pre
  have hown : s.vm.findClass RX8 = some m.cls := findClass_of_methodNamed B.named
  have hlocks := B.notSynchronized
  have hinX7 : ∀ w ∈ u_ws RX7 TX7 2, w ∈ wsX8_append := fun w h => List.mem_cons_of_mem _ (List.mem_append_left _ (List.mem_append_left _ (List.mem_append_right _ h)))
  have hinX8 : ∀ w ∈ u_ws RX8 TX8 9, w ∈ wsX8_append := fun w h => List.mem_cons_of_mem _ (List.mem_append_left _ (List.mem_append_left _ (List.mem_append_left _ (List.mem_append_right _ h))))
  subst hsz
  have hD := hD0.self (sz := s.heap.size)
  have hA : ∀ q : Nat, s.heap.size ≤ q → va_A (wBF Γ q_bf q_tx q_fl q_flT q_hi q_s1 q_s2 q_fd q_kc q_kr  ++ wText Γ q_tx q_sg ti sg) s.heap.size q := fun q h => Or.inr h
  generalize va_A (wBF Γ q_bf q_tx q_fl q_flT q_hi q_s1 q_s2 q_fd q_kc q_kr  ++ wText Γ q_tx q_sg ti sg) s.heap.size = A at hD hA hZ ⊢
  obtain ⟨W0_, hW0_⟩ : ∃ w : va_W, (wBF Γ q_bf q_tx q_fl q_flT q_hi q_s1 q_s2 q_fd q_kc q_kr  ++ wText Γ q_tx q_sg ti sg) = w := ⟨_, rfl⟩
  rw [show my_XC Γ A (wBF Γ q_bf q_tx q_fl q_flT q_hi q_s1 q_s2 q_fd q_kc q_kr  ++ wText Γ q_tx q_sg ti sg) (my_map (fun q : Int32 × (Nat → Int32) × (Nat → Int32) => ((some (.int (q.1))), (wBF Γ q_bf q_tx q_fl q_flT q_hi q_s1 q_s2 q_fd q_kc q_kr  ++ wText Γ q_tx q_sg (q.2.1) (q.2.2)))) mr) = my_XC Γ A W0_ (my_map (fun q : Int32 × (Nat → Int32) × (Nat → Int32) => ((some (.int (q.1))), (wBF Γ q_bf q_tx q_fl q_flT q_hi q_s1 q_s2 q_fd q_kc q_kr  ++ wText Γ q_tx q_sg (q.2.1) (q.2.2)))) mr) from congrArg (fun w => my_XC Γ A w (my_map (fun q : Int32 × (Nat → Int32) × (Nat → Int32) => ((some (.int (q.1))), (wBF Γ q_bf q_tx q_fl q_flT q_hi q_s1 q_s2 q_fd q_kc q_kr  ++ wText Γ q_tx q_sg (q.2.1) (q.2.2)))) mr)) hW0_]
  have hS : va_S A s.heap s.heap [] := va_S.rf
  have hl := lv_entry ([.ref q_bf, .int x0]) (n := 2) (Nat.le_of_ble_eq_true rfl)
  rw [lg_entry_eq]
  generalize (lg_sl ([.ref q_bf, .int x0]) ++ List.replicate (2 - (lg_sl ([.ref q_bf, .int x0])).length) Slot.unset).toArray = ls at hl ⊢
  replace hl : lv_has ls 2 [(0, .ref q_bf), (1, .int x0)] := hl
  unfold mX8_append at hm
  refine lv_iload_n hx hb dX8_append_0 rfl (lv_at hl 1 rfl) ?_
  refine lv_if_lt (tgt := 11) hx hb dX8_append_1 (by decide) (fun c_1 => ?_) (fun c_1 => ?_)
  · replace hm := if_s hm c_1
    obtain ⟨sa_, hsa_⟩ := hstr.1 (59, "no such character code") (List.mem_of_getElem? (i := 18) rfl)
    cases hm
    exact vx_throwS (cls := "java/lang/IllegalArgumentException") (names := ["java/lang/RuntimeException", "java/lang/Exception"]) hx hb hfl hown my_fitA my_fitN (hts (.classLink RX8 57 "java/lang/IllegalArgumentException") (List.mem_of_getElem? (i := 1) rfl)) (hts (.initialized "java/lang/IllegalArgumentException") (List.mem_of_getElem? (i := 2) rfl)) hsa_ (vx_hat (fun w h => hts w (List.mem_cons_of_mem _ (List.mem_append_left _ (List.mem_append_right _ h)))) my_ngA (vx_c (va_Nw.use rfl hstr.2.2.1) (vx_c (va_Nw.use rfl hstr.2.2.2.2.1) (vx_c (va_Nw.use rfl hstr.2.2.2.2.2.1) (vx_c (va_Nw.use rfl hstr.2.2.2.2.2.2) vx_n))))) my_gdA hZ.1 hZ.2 hS (hl.1.trans hml.symm) dX8_append_11 dX8_append_14 dX8_append_15 dX8_append_17 dX8_append_20 (fun x hx9 => absurd (htab x hx9) id) (Nat.le_of_ble_eq_true rfl) (Nat.le_of_ble_eq_true rfl) (Nat.le_of_ble_eq_true rfl) (Nat.le_of_ble_eq_true rfl) hlocks (fun t ha hz hk => ⟨rfl, by rw [← hW0_]; exact my_thr hP hS hz hk⟩) hS.2.2 (Nat.le_of_ble_eq_true rfl) (Nat.le_of_ble_eq_true rfl)
  · replace hm := if_f hm c_1
    refine lv_iload_n hx hb dX8_append_4 rfl (lv_at hl 1 rfl) ?_
    refine lv_sipush (v := (255 : Int32)) hx hb dX8_append_5 (by decide) ?_
    refine lv_icmp_le (tgt := 21) hx hb dX8_append_8 (by decide) (fun c_2 => ?_) (fun c_2 => ?_)
    · replace hm := if_s hm c_2
      refine lv_aload_n hx hb dX8_append_21 rfl (lv_at hl 0 rfl) ?_
      refine va_get (D := my_D Γ) (ci := 6) (v := .ref q_tx) (C := RX8) (T := TX8) (N := 9) hx hb hts hinX8 hown hK hP 0 rfl rfl 0 (by decide) (hts (.fieldLink RX8 12 "BeltFloor" "text" "LBeltFloor$Text;") (List.mem_of_getElem? (i := 5) rfl)) (fun _ h9 => h9) rfl dX8_append_22 ?_
      refine va_get (D := my_D Γ) (ci := 5) (v := .int (ti 1)) (C := RX7) (T := TX7) (N := 2) hx hb hts hinX7 hown hK hP 1 rfl rfl 1 (by decide) (hts (.fieldLink RX8 64 "BeltFloor$Text" "length" "I") (List.mem_of_getElem? (i := 6) rfl)) (fun _ h9 => h9) rfl dX8_append_25 ?_
      refine lv_bipush (v := (120 : Int32)) hx hb dX8_append_28 (by decide) ?_
      refine lv_icmp_lt (tgt := 43) hx hb dX8_append_30 (by decide) (fun c_3 => ?_) (fun c_3 => ?_)
      · replace hm := if_s hm c_3
        refine lv_aload_n hx hb dX8_append_43 rfl (lv_at hl 0 rfl) ?_
        refine va_get (D := my_D Γ) (ci := 6) (v := .ref q_tx) (C := RX8) (T := TX8) (N := 9) hx hb hts hinX8 hown hK hP 0 rfl rfl 0 (by decide) (hts (.fieldLink RX8 12 "BeltFloor" "text" "LBeltFloor$Text;") (List.mem_of_getElem? (i := 5) rfl)) (fun _ h9 => h9) rfl dX8_append_44 ?_
        refine lv_iload_n hx hb dX8_append_47 rfl (lv_at hl 1 rfl) ?_
        obtain ⟨ti_4, sg_5, hc_6, hm⟩ := bt2_s hm
        refine my_call0 (wc := (wText Γ q_tx q_sg ti sg)) (w1 := (wText Γ q_tx q_sg ti_4 sg_5)) (ws1 := (wBF Γ q_bf q_tx q_fl q_flT q_hi q_s1 q_s2 q_fd q_kc q_kr  ++ wText Γ q_tx q_sg ti_4 sg_5)) hP hD hS hA [1, 2] rfl rfl rfl (va_runV (As := [.int x0]) (rest := []) ⟨hx, hb, hml, hown, hts⟩ (kX7_add l Γ q_tx q_sg ti sg x0 ti_4 sg_5 hc_6 _) (cwV 1 hts gX8_append_X7_add rfl rfl rfl (by decide +kernel) ⟨Nat.le_of_ble_eq_true rfl, Nat.le_of_ble_eq_true rfl⟩) (my_preV (wc := (wText Γ q_tx q_sg ti sg)) (ci := 5) (q0 := 1) [1, 2] hK hP hD rfl rfl rfl rfl) rfl rfl hl.1 rfl (lv_room (Nat.le_of_ble_eq_true rfl)) dX8_append_48 ⟨Nat.le_of_ble_eq_true rfl, Nat.le_of_ble_eq_true rfl⟩) (fun H locs hP hD hS => ?_)
        refine lv_aload_n hx hb dX8_append_51 rfl (lv_at hl 0 rfl) ?_
        refine va_get (D := my_D Γ) (ci := 6) (v := .ref q_tx) (C := RX8) (T := TX8) (N := 9) hx hb hts hinX8 hown hK hP 0 rfl rfl 0 (by decide) (hts (.fieldLink RX8 12 "BeltFloor" "text" "LBeltFloor$Text;") (List.mem_of_getElem? (i := 5) rfl)) (fun _ h9 => h9) rfl dX8_append_52 ?_
        refine va_get (D := my_D Γ) (ci := 5) (v := .int (ti_4 1)) (C := RX7) (T := TX7) (N := 2) hx hb hts hinX7 hown hK hP 1 rfl rfl 1 (by decide) (hts (.fieldLink RX8 64 "BeltFloor$Text" "length" "I") (List.mem_of_getElem? (i := 6) rfl)) (fun _ h9 => h9) rfl dX8_append_55 ?_
        cases hm
        exact vx_ret (W.widen (k := 1) (n := 6) (Nat.le_of_ble_eq_true rfl) (Nat.le_of_ble_eq_true rfl) (W.iret (v := (ti_4 1)) hx hb hr (fun t ht hW => ⟨_, _, rfl, ⟨rfl, by rw [ht]; exact hP⟩, hS.F ht⟩) hS.2.2 dX8_append_58))
      · replace hm := if_f hm c_3
        obtain ⟨sa_, hsa_⟩ := hstr.1 (70, "the text is full") (List.mem_of_getElem? (i := 19) rfl)
        cases hm
        exact vx_throwS (cls := "java/lang/IllegalStateException") (names := ["java/lang/RuntimeException", "java/lang/Exception"]) hx hb hfl hown my_fitS my_fitN (hts (.classLink RX8 68 "java/lang/IllegalStateException") (List.mem_of_getElem? (i := 3) rfl)) (hts (.initialized "java/lang/IllegalStateException") (List.mem_of_getElem? (i := 4) rfl)) hsa_ (vx_hat (fun w h => hts w (List.mem_cons_of_mem _ (List.mem_append_right _ h))) my_ngS (vx_c (va_Nw.use rfl hstr.2.2.2.1) (vx_c (va_Nw.use rfl hstr.2.2.2.2.1) (vx_c (va_Nw.use rfl hstr.2.2.2.2.2.1) (vx_c (va_Nw.use rfl hstr.2.2.2.2.2.2) vx_n))))) my_gdS hZ.1 hZ.2 hS (hl.1.trans hml.symm) dX8_append_33 dX8_append_36 dX8_append_37 dX8_append_39 dX8_append_42 (fun x hx9 => absurd (htab x hx9) id) (Nat.le_of_ble_eq_true rfl) (Nat.le_of_ble_eq_true rfl) (Nat.le_of_ble_eq_true rfl) (Nat.le_of_ble_eq_true rfl) hlocks (fun t ha hz hk => ⟨rfl, by rw [← hW0_]; exact my_thr hP hS hz hk⟩) hS.2.2 (Nat.le_of_ble_eq_true rfl) (Nat.le_of_ble_eq_true rfl)
    · replace hm := if_f hm c_2
      obtain ⟨sa_, hsa_⟩ := hstr.1 (59, "no such character code") (List.mem_of_getElem? (i := 18) rfl)
      cases hm
      exact vx_throwS (cls := "java/lang/IllegalArgumentException") (names := ["java/lang/RuntimeException", "java/lang/Exception"]) hx hb hfl hown my_fitA my_fitN (hts (.classLink RX8 57 "java/lang/IllegalArgumentException") (List.mem_of_getElem? (i := 1) rfl)) (hts (.initialized "java/lang/IllegalArgumentException") (List.mem_of_getElem? (i := 2) rfl)) hsa_ (vx_hat (fun w h => hts w (List.mem_cons_of_mem _ (List.mem_append_left _ (List.mem_append_right _ h)))) my_ngA (vx_c (va_Nw.use rfl hstr.2.2.1) (vx_c (va_Nw.use rfl hstr.2.2.2.2.1) (vx_c (va_Nw.use rfl hstr.2.2.2.2.2.1) (vx_c (va_Nw.use rfl hstr.2.2.2.2.2.2) vx_n))))) my_gdA hZ.1 hZ.2 hS (hl.1.trans hml.symm) dX8_append_11 dX8_append_14 dX8_append_15 dX8_append_17 dX8_append_20 (fun x hx9 => absurd (htab x hx9) id) (Nat.le_of_ble_eq_true rfl) (Nat.le_of_ble_eq_true rfl) (Nat.le_of_ble_eq_true rfl) (Nat.le_of_ble_eq_true rfl) hlocks (fun t ha hz hk => ⟨rfl, by rw [← hW0_]; exact my_thr hP hS hz hk⟩) hS.2.2 (Nat.le_of_ble_eq_true rfl) (Nat.le_of_ble_eq_true rfl)
def mX8_clearText (ti : Nat → Int32) : Int32 × (Nat → Int32) := ((ti 1), (upd ti 1 (0 : Int32)))
set_option maxHeartbeats 4000000 in
set_option maxRecDepth 100000 in
theorem kX8_clearText (l : Launch) (Γ : my_G) (q_bf q_tx q_sg q_fl q_flT q_hi q_s1 q_s2 q_fd q_kc q_kr : Nat) (ti : Nat → Int32) (sg : Nat → Int32)  (rr : Int32) (ti_z : Nat → Int32) (hm : mX8_clearText ti = (rr, ti_z)) : Mn l yX8_clearText wsX8_clearText ({ frames := 0, cells := 0, slots := 0, locals := 0 } : Room) Γ [.ref q_bf] (wBF Γ q_bf q_tx q_fl q_flT q_hi q_s1 q_s2 q_fd q_kc q_kr  ++ wText Γ q_tx q_sg ti sg) (some (.int rr)) (wBF Γ q_bf q_tx q_fl q_flT q_hi q_s1 q_s2 q_fd q_kc q_kr  ++ wText Γ q_tx q_sg ti_z sg) := by
  intro sz
  refine Met.ofW (cc := cX8_clearText) (maxL := 2) (ret := (some .int)) (by decide) rfl ?_
  intro p e s m args below meth c s₁ B hml hv
  obtain ⟨rfl, hsz, hP, hK, hD0⟩ := hv
  have hx := B.exec
  have hb := B.bytes
  have hr := B.returns
  have hts := atoms_spec (ws := wsX8_clearText) B.pre
  have hown : s.vm.findClass RX8 = some m.cls := findClass_of_methodNamed B.named
  have hlocks := B.notSynchronized
  have hinX7 : ∀ w ∈ u_ws RX7 TX7 2, w ∈ wsX8_clearText := fun w h => List.mem_cons_of_mem _ (List.mem_append_right _ h)
  have hinX8 : ∀ w ∈ u_ws RX8 TX8 9, w ∈ wsX8_clearText := fun w h => List.mem_cons_of_mem _ (List.mem_append_left _ (List.mem_append_right _ h))
  subst hsz
  have hD := hD0.self (sz := s.heap.size)
  have hA : ∀ q : Nat, s.heap.size ≤ q → va_A (wBF Γ q_bf q_tx q_fl q_flT q_hi q_s1 q_s2 q_fd q_kc q_kr  ++ wText Γ q_tx q_sg ti sg) s.heap.size q := fun q h => Or.inr h
  generalize va_A (wBF Γ q_bf q_tx q_fl q_flT q_hi q_s1 q_s2 q_fd q_kc q_kr  ++ wText Γ q_tx q_sg ti sg) s.heap.size = A at hD hA ⊢
  have hS : va_S A s.heap s.heap [] := va_S.rf
  have hl := lv_entry ([.ref q_bf]) (n := 2) (Nat.le_of_ble_eq_true rfl)
  rw [lg_entry_eq]
  generalize (lg_sl ([.ref q_bf]) ++ List.replicate (2 - (lg_sl ([.ref q_bf])).length) Slot.unset).toArray = ls at hl ⊢
  replace hl : lv_has ls 2 [(0, .ref q_bf)] := hl
  unfold mX8_clearText at hm
  refine lv_aload_n hx hb dX8_clearText_0 rfl (lv_at hl 0 rfl) ?_
  refine va_get (D := my_D Γ) (ci := 6) (v := .ref q_tx) (C := RX8) (T := TX8) (N := 9) hx hb hts hinX8 hown hK hP 0 rfl rfl 0 (by decide) (hts (.fieldLink RX8 12 "BeltFloor" "text" "LBeltFloor$Text;") (List.mem_of_getElem? (i := 1) rfl)) (fun _ h9 => h9) rfl dX8_clearText_1 ?_
  refine va_get (D := my_D Γ) (ci := 5) (v := .int (ti 1)) (C := RX7) (T := TX7) (N := 2) hx hb hts hinX7 hown hK hP 1 rfl rfl 1 (by decide) (hts (.fieldLink RX8 64 "BeltFloor$Text" "length" "I") (List.mem_of_getElem? (i := 2) rfl)) (fun _ h9 => h9) rfl dX8_clearText_4 ?_
  refine lv_istore_n (lv' := [(1, .int (ti 1)), (0, .ref q_bf)]) hx hb dX8_clearText_7 rfl hl (by decide) rfl (fun ls hl => ?_)
  refine lv_aload_n hx hb dX8_clearText_8 rfl (lv_at hl 1 rfl) ?_
  refine va_get (D := my_D Γ) (ci := 6) (v := .ref q_tx) (C := RX8) (T := TX8) (N := 9) hx hb hts hinX8 hown hK hP 0 rfl rfl 0 (by decide) (hts (.fieldLink RX8 12 "BeltFloor" "text" "LBeltFloor$Text;") (List.mem_of_getElem? (i := 1) rfl)) (fun _ h9 => h9) rfl dX8_clearText_9 ?_
  refine lv_iconst (v := (0 : Int32)) hx hb dX8_clearText_12 (by decide) ?_
  refine va_put (D := my_D Γ) (ci := 5) (v := .int (0 : Int32)) (ty := .int) (C := RX7) (T := TX7) (N := 2) hx hb hts hinX7 tyX7 tyX7_ok nmX7 hown hK hP hD hS 1 rfl rfl 1 (by decide) (hts (.fieldLink RX8 64 "BeltFloor$Text" "length" "I") (List.mem_of_getElem? (i := 2) rfl)) (fun _ h9 => h9) rfl (by decide +kernel) rfl rfl (Nat.le_of_ble_eq_true rfl) dX8_clearText_13 (fun H locs hP hD hS => ?_)
  replace hP : va_P (my_D Γ) vwCl (wBF Γ q_bf q_tx q_fl q_flT q_hi q_s1 q_s2 q_fd q_kc q_kr  ++ wText Γ q_tx q_sg (upd ti 1 (0 : Int32)) sg) H := hP
  replace hD : va_D A (wBF Γ q_bf q_tx q_fl q_flT q_hi q_s1 q_s2 q_fd q_kc q_kr  ++ wText Γ q_tx q_sg (upd ti 1 (0 : Int32)) sg) := hD
  refine lv_iload_n hx hb dX8_clearText_16 rfl (lv_at hl 0 rfl) ?_
  obtain ⟨hf0, hf1⟩ := ti2 hm
  subst hf0
  subst hf1
  exact W.iret (v := (ti 1)) hx hb hr (fun t ht hW => ⟨⟨rfl, by rw [ht]; exact hP⟩, hS.F ht⟩) hS.2.2 dX8_clearText_17
def mX8_errorPosition (ti : Nat → Int32) (sg : Nat → Int32) : Option (Int32) := (bo1 (mX7_firstError ti sg) (fun r_1 => (some r_1)))
set_option maxHeartbeats 4000000 in
set_option maxRecDepth 100000 in
theorem kX8_errorPosition (l : Launch) (Γ : my_G) (q_bf q_tx q_sg q_fl q_flT q_hi q_s1 q_s2 q_fd q_kc q_kr : Nat) (ti : Nat → Int32) (sg : Nat → Int32)  (rr : Int32) (hm : mX8_errorPosition ti sg = (some rr)) : Mn l yX8_errorPosition wsX8_errorPosition ({ frames := 6, cells := 0, slots := 0, locals := 133 } : Room) Γ [.ref q_bf] (wBF Γ q_bf q_tx q_fl q_flT q_hi q_s1 q_s2 q_fd q_kc q_kr  ++ wText Γ q_tx q_sg ti sg) (some (.int rr)) (wBF Γ q_bf q_tx q_fl q_flT q_hi q_s1 q_s2 q_fd q_kc q_kr  ++ wText Γ q_tx q_sg ti sg) := by
  intro sz
  refine Met.ofW (cc := cX8_errorPosition) (maxL := 1) (ret := (some .int)) (by decide) rfl ?_
  intro p e s m args below meth c s₁ B hml hv
  obtain ⟨rfl, hsz, hP, hK, hD0⟩ := hv
  have hx := B.exec
  have hb := B.bytes
  have hr := B.returns
  have hts := atoms_spec (ws := wsX8_errorPosition) B.pre
  have hown : s.vm.findClass RX8 = some m.cls := findClass_of_methodNamed B.named
  have hlocks := B.notSynchronized
  have hinX7 : ∀ w ∈ u_ws RX7 TX7 2, w ∈ wsX8_errorPosition := fun w h => List.mem_cons_of_mem _ (List.mem_append_right _ h)
  have hinX8 : ∀ w ∈ u_ws RX8 TX8 9, w ∈ wsX8_errorPosition := fun w h => List.mem_cons_of_mem _ (List.mem_append_left _ (List.mem_append_right _ h))
  subst hsz
  have hD := hD0.self (sz := s.heap.size)
  have hA : ∀ q : Nat, s.heap.size ≤ q → va_A (wBF Γ q_bf q_tx q_fl q_flT q_hi q_s1 q_s2 q_fd q_kc q_kr  ++ wText Γ q_tx q_sg ti sg) s.heap.size q := fun q h => Or.inr h
  generalize va_A (wBF Γ q_bf q_tx q_fl q_flT q_hi q_s1 q_s2 q_fd q_kc q_kr  ++ wText Γ q_tx q_sg ti sg) s.heap.size = A at hD hA ⊢
  have hS : va_S A s.heap s.heap [] := va_S.rf
  have hl := lv_entry ([.ref q_bf]) (n := 1) (Nat.le_of_ble_eq_true rfl)
  rw [lg_entry_eq]
  generalize (lg_sl ([.ref q_bf]) ++ List.replicate (1 - (lg_sl ([.ref q_bf])).length) Slot.unset).toArray = ls at hl ⊢
  replace hl : lv_has ls 1 [(0, .ref q_bf)] := hl
  unfold mX8_errorPosition at hm
  refine lv_aload_n hx hb dX8_errorPosition_0 rfl (lv_at hl 0 rfl) ?_
  refine va_get (D := my_D Γ) (ci := 6) (v := .ref q_tx) (C := RX8) (T := TX8) (N := 9) hx hb hts hinX8 hown hK hP 0 rfl rfl 0 (by decide) (hts (.fieldLink RX8 12 "BeltFloor" "text" "LBeltFloor$Text;") (List.mem_of_getElem? (i := 1) rfl)) (fun _ h9 => h9) rfl dX8_errorPosition_1 ?_
  obtain ⟨r_1, hc_2, hm⟩ := bo1_s hm
  refine my_call1 (wc := (wText Γ q_tx q_sg ti sg)) (w1 := (wText Γ q_tx q_sg ti sg)) (ws1 := (wBF Γ q_bf q_tx q_fl q_flT q_hi q_s1 q_s2 q_fd q_kc q_kr  ++ wText Γ q_tx q_sg ti sg)) hP hD hS hA [1, 2] rfl rfl rfl (va_runV (As := []) (rest := []) ⟨hx, hb, hml, hown, hts⟩ (kX7_firstError l Γ q_tx q_sg ti sg r_1 hc_2 _) (cwV 0 hts gX8_errorPosition_X7_firstError rfl rfl rfl (by decide +kernel) ⟨Nat.le_of_ble_eq_true rfl, Nat.le_of_ble_eq_true rfl⟩) (my_preV (wc := (wText Γ q_tx q_sg ti sg)) (ci := 5) (q0 := 1) [1, 2] hK hP hD rfl rfl rfl rfl) rfl rfl hl.1 rfl (lv_room (Nat.le_of_ble_eq_true rfl)) dX8_errorPosition_4 ⟨Nat.le_of_ble_eq_true rfl, Nat.le_of_ble_eq_true rfl⟩) (fun H locs hP hD hS => ?_)
  obtain hf0 := Option.some.inj hm
  subst hf0
  exact W.iret (v := r_1) hx hb hr (fun t ht hW => ⟨⟨rfl, by rw [ht]; exact hP⟩, hS.F ht⟩) hS.2.2 dX8_errorPosition_7
