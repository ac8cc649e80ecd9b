def mX9_kindOf (mi : Nat → Int32) (vnw : Nat → Int32) (x0 : Int32) : Option (Int32 × (Nat → Int32)) := (bo2 (mX9_noCell mi x0) (fun r_1 mi_2 => (if r_1 = 0 then (if ¬ (x0 < 0 ∨ 117 ≤ x0.toNatClampNeg) then (some ((vnw x0.toNatClampNeg), mi_2)) else none) else (some ((0 : Int32), mi_2)))))
set_option maxHeartbeats 4000000 in
set_option maxRecDepth 100000 in
theorem kX9_kindOf (l : Launch) (Γ : my_G) (q_mo q_tt q_nw q_tr q_ot q_di q_kp q_ik q_wy q_ah q_tg q_ws q_fr q_rw : Nat) (mi : Nat → Int32) (vtt : Nat → Int32) (vnw : Nat → Int32) (vtr : Nat → Int32) (vot : Nat → Int32) (vdi : Nat → Int32) (vkp : Nat → Int32) (vik : Nat → Int32) (vwy : Nat → Int32) (vah : Nat → Int32) (vtg : Nat → Int32) (vws : Nat → Int32) (vfr : Nat → Int32) (vrw : Nat → Int32) (x0 : Int32) (rr : Int32) (mi_z : Nat → Int32) (hm : mX9_kindOf mi vnw x0 = (some (rr, mi_z))) : Mn l yX9_kindOf wsX9_kindOf ({ frames := 3, cells := 0, slots := 0, locals := 66 } : Room) Γ [.ref q_mo, .int x0] (wModel Γ q_mo q_tt q_nw q_tr q_ot q_di q_kp q_ik q_wy q_ah q_tg q_ws q_fr q_rw mi vtt vnw vtr vot vdi vkp vik vwy vah vtg vws vfr vrw) (some (.int rr)) (wModel Γ q_mo q_tt q_nw q_tr q_ot q_di q_kp q_ik q_wy q_ah q_tg q_ws q_fr q_rw mi_z vtt vnw vtr vot vdi vkp vik vwy vah vtg vws vfr vrw) := by
  intro sz
  refine Met.ofW (cc := cX9_kindOf) (maxL := 2) (ret := (some .int)) (by decide) rfl ?_
  intro p e s m args below meth c s₁ B hml hv
  obtain ⟨rfl, hsz, hP, hK, hD0⟩ := hv
  have hx := B.exec
  have hb := B.bytes
  have hr := B.returns
  have hts := atoms_spec (ws := wsX9_kindOf) B.pre
  have hown : s.vm.findClass RX9 = some m.cls := findClass_of_methodNamed B.named
  have hlocks := B.notSynchronized
  have hinX9 : ∀ w ∈ u_ws RX9 TX9 19, w ∈ wsX9_kindOf := fun w h => List.mem_cons_of_mem _ (List.mem_append_right _ h)
  subst hsz
  have hD := hD0.self (sz := s.heap.size)
  have hA : ∀ q : Nat, s.heap.size ≤ q → va_A (wModel Γ q_mo q_tt q_nw q_tr q_ot q_di q_kp q_ik q_wy q_ah q_tg q_ws q_fr q_rw mi vtt vnw vtr vot vdi vkp vik vwy vah vtg vws vfr vrw) s.heap.size q := fun q h => Or.inr h
  generalize va_A (wModel Γ q_mo q_tt q_nw q_tr q_ot q_di q_kp q_ik q_wy q_ah q_tg q_ws q_fr q_rw mi vtt vnw vtr vot vdi vkp vik vwy vah vtg vws vfr vrw) s.heap.size = A at hD hA ⊢
  have hS : va_S A s.heap s.heap [] := va_S.rf
  have hl := lv_entry ([.ref q_mo, .int x0]) (n := 2) (Nat.le_of_ble_eq_true rfl)
  rw [lg_entry_eq]
  generalize (lg_sl ([.ref q_mo, .int x0]) ++ List.replicate (2 - (lg_sl ([.ref q_mo, .int x0])).length) Slot.unset).toArray = ls at hl ⊢
  replace hl : lv_has ls 2 [(0, .ref q_mo), (1, .int x0)] := hl
  unfold mX9_kindOf at hm
  refine lv_aload_n hx hb dX9_kindOf_0 rfl (lv_at hl 0 rfl) ?_
  refine lv_iload_n hx hb dX9_kindOf_1 rfl (lv_at hl 1 rfl) ?_
  obtain ⟨r_1, mi_2, hc_3, hm⟩ := bo2_s hm
  refine my_callP1 (wc := (wMo Γ q_mo q_tt q_nw q_tr q_ot q_di q_kp q_ik q_wy q_ah q_tg q_ws q_fr q_rw mi)) (w1 := (wMo Γ q_mo q_tt q_nw q_tr q_ot q_di q_kp q_ik q_wy q_ah q_tg q_ws q_fr q_rw mi_2)) (ws1 := (wModel Γ q_mo q_tt q_nw q_tr q_ot q_di q_kp q_ik q_wy q_ah q_tg q_ws q_fr q_rw mi_2 vtt vnw vtr vot vdi vkp vik vwy vah vtg vws vfr vrw)) hP hD hS hA [0] rfl rfl rfl (va_runV (As := [.int x0]) (rest := []) ⟨hx, hb, hml, hown, hts⟩ (kX9_noCell l Γ q_mo q_tt q_nw q_tr q_ot q_di q_kp q_ik q_wy q_ah q_tg q_ws q_fr q_rw mi x0 r_1 mi_2 hc_3 _) (cwV 1 hts gX9_kindOf_X9_noCell rfl rfl rfl (by decide +kernel) ⟨Nat.le_of_ble_eq_true rfl, Nat.le_of_ble_eq_true rfl⟩) (my_preV (wc := (wMo Γ q_mo q_tt q_nw q_tr q_ot q_di q_kp q_ik q_wy q_ah q_tg q_ws q_fr q_rw mi)) (ci := 7) (q0 := 0) [0] hK hP hD rfl rfl rfl rfl) rfl rfl hl.1 rfl (lv_room (Nat.le_of_ble_eq_true rfl)) dX9_kindOf_2 ⟨Nat.le_of_ble_eq_true rfl, Nat.le_of_ble_eq_true rfl⟩) (fun H locs hP hD hS => ?_)
  refine lv_if_eq (tgt := 12) hx hb dX9_kindOf_5 (by decide) (fun c_4 => ?_) (fun c_4 => ?_)
  · replace hm := if_s hm c_4
    refine lv_aload_n hx hb dX9_kindOf_12 rfl (lv_at hl 0 rfl) ?_
    refine va_get (D := my_D Γ) (ci := 7) (v := .ref q_nw) (C := RX9) (T := TX9) (N := 19) hx hb hts hinX9 hown hK hP 0 rfl rfl 3 (by decide) (hts (.fieldLink RX9 13 "BeltFloorModel" "now" "[I") (List.mem_of_getElem? (i := 1) rfl)) (fun _ h9 => h9) rfl dX9_kindOf_13 ?_
    refine lv_iload_n hx hb dX9_kindOf_16 rfl (lv_at hl 1 rfl) ?_
    obtain ⟨hi_5, hm⟩ := if_in hm
    refine va_iald hx hb hK hP 2 0 rfl rfl hi_5 dX9_kindOf_17 ?_
    obtain ⟨hf0, hf1⟩ := si2 hm
    subst hf0
    subst hf1
    exact W.iret (v := (vnw x0.toNatClampNeg)) hx hb hr (fun t ht hW => ⟨⟨rfl, by rw [ht]; exact hP⟩, hS.F ht⟩) hS.2.2 dX9_kindOf_18
  · replace hm := if_f hm c_4
    refine lv_iconst (v := (0 : Int32)) hx hb dX9_kindOf_8 (by decide) ?_
    refine lv_goto (tgt := 18) hx hb dX9_kindOf_9 (by decide) ?_
    obtain ⟨hf0, hf1⟩ := si2 hm
    subst hf0
    subst hf1
    exact W.iret (v := (0 : Int32)) hx hb hr (fun t ht hW => ⟨⟨rfl, by rw [ht]; exact hP⟩, hS.F ht⟩) hS.2.2 dX9_kindOf_18
def mX9_hasCrate (mi : Nat → Int32) (vnw : Nat → Int32) (x0 : Int32) : Option (Int32 × (Nat → Int32)) := (bo2 (mX9_noCell mi x0) (fun r_1 mi_2 => (if r_1 = 0 then (if ¬ (((36 : Int32) + x0) < 0 ∨ 117 ≤ ((36 : Int32) + x0).toNatClampNeg) then (if (vnw ((36 : Int32) + x0).toNatClampNeg) = (1 : Int32) then (some ((1 : Int32), mi_2)) else (some ((0 : Int32), mi_2))) else none) else (some ((0 : Int32), mi_2)))))
set_option maxHeartbeats 4000000 in
set_option maxRecDepth 100000 in
theorem kX9_hasCrate (l : Launch) (Γ : my_G) (q_mo q_tt q_nw q_tr q_ot q_di q_kp q_ik q_wy q_ah q_tg q_ws q_fr q_rw : Nat) (mi : Nat → Int32) (vtt : Nat → Int32) (vnw : Nat → Int32) (vtr : Nat → Int32) (vot : Nat → Int32) (vdi : Nat → Int32) (vkp : Nat → Int32) (vik : Nat → Int32) (vwy : Nat → Int32) (vah : Nat → Int32) (vtg : Nat → Int32) (vws : Nat → Int32) (vfr : Nat → Int32) (vrw : Nat → Int32) (x0 : Int32) (rr : Int32) (mi_z : Nat → Int32) (hm : mX9_hasCrate mi vnw x0 = (some (rr, mi_z))) : Mn l yX9_hasCrate wsX9_hasCrate ({ frames := 3, cells := 0, slots := 0, locals := 66 } : Room) Γ [.ref q_mo, .int x0] (wModel Γ q_mo q_tt q_nw q_tr q_ot q_di q_kp q_ik q_wy q_ah q_tg q_ws q_fr q_rw mi vtt vnw vtr vot vdi vkp vik vwy vah vtg vws vfr vrw) (some (.int rr)) (wModel Γ q_mo q_tt q_nw q_tr q_ot q_di q_kp q_ik q_wy q_ah q_tg q_ws q_fr q_rw mi_z vtt vnw vtr vot vdi vkp vik vwy vah vtg vws vfr vrw) := by
  intro sz
  refine Met.ofW (cc := cX9_hasCrate) (maxL := 2) (ret := (some .boolean)) (by decide) rfl ?_
  intro p e s m args below meth c s₁ B hml hv
  obtain ⟨rfl, hsz, hP, hK, hD0⟩ := hv
  have hx := B.exec
  have hb := B.bytes
  have hr := B.returns
  have hts := atoms_spec (ws := wsX9_hasCrate) B.pre
  have hown : s.vm.findClass RX9 = some m.cls := findClass_of_methodNamed B.named
  have hlocks := B.notSynchronized
  have hinX9 : ∀ w ∈ u_ws RX9 TX9 19, w ∈ wsX9_hasCrate := fun w h => List.mem_cons_of_mem _ (List.mem_append_right _ h)
  subst hsz
  have hD := hD0.self (sz := s.heap.size)
  have hA : ∀ q : Nat, s.heap.size ≤ q → va_A (wModel Γ q_mo q_tt q_nw q_tr q_ot q_di q_kp q_ik q_wy q_ah q_tg q_ws q_fr q_rw mi vtt vnw vtr vot vdi vkp vik vwy vah vtg vws vfr vrw) s.heap.size q := fun q h => Or.inr h
  generalize va_A (wModel Γ q_mo q_tt q_nw q_tr q_ot q_di q_kp q_ik q_wy q_ah q_tg q_ws q_fr q_rw mi vtt vnw vtr vot vdi vkp vik vwy vah vtg vws vfr vrw) s.heap.size = A at hD hA ⊢
  have hS : va_S A s.heap s.heap [] := va_S.rf
  have hl := lv_entry ([.ref q_mo, .int x0]) (n := 2) (Nat.le_of_ble_eq_true rfl)
  rw [lg_entry_eq]
  generalize (lg_sl ([.ref q_mo, .int x0]) ++ List.replicate (2 - (lg_sl ([.ref q_mo, .int x0])).length) Slot.unset).toArray = ls at hl ⊢
  replace hl : lv_has ls 2 [(0, .ref q_mo), (1, .int x0)] := hl
  unfold mX9_hasCrate at hm
  refine lv_aload_n hx hb dX9_hasCrate_0 rfl (lv_at hl 0 rfl) ?_
  refine lv_iload_n hx hb dX9_hasCrate_1 rfl (lv_at hl 1 rfl) ?_
  obtain ⟨r_1, mi_2, hc_3, hm⟩ := bo2_s hm
  refine my_callP1 (wc := (wMo Γ q_mo q_tt q_nw q_tr q_ot q_di q_kp q_ik q_wy q_ah q_tg q_ws q_fr q_rw mi)) (w1 := (wMo Γ q_mo q_tt q_nw q_tr q_ot q_di q_kp q_ik q_wy q_ah q_tg q_ws q_fr q_rw mi_2)) (ws1 := (wModel Γ q_mo q_tt q_nw q_tr q_ot q_di q_kp q_ik q_wy q_ah q_tg q_ws q_fr q_rw mi_2 vtt vnw vtr vot vdi vkp vik vwy vah vtg vws vfr vrw)) hP hD hS hA [0] rfl rfl rfl (va_runV (As := [.int x0]) (rest := []) ⟨hx, hb, hml, hown, hts⟩ (kX9_noCell l Γ q_mo q_tt q_nw q_tr q_ot q_di q_kp q_ik q_wy q_ah q_tg q_ws q_fr q_rw mi x0 r_1 mi_2 hc_3 _) (cwV 1 hts gX9_hasCrate_X9_noCell rfl rfl rfl (by decide +kernel) ⟨Nat.le_of_ble_eq_true rfl, Nat.le_of_ble_eq_true rfl⟩) (my_preV (wc := (wMo Γ q_mo q_tt q_nw q_tr q_ot q_di q_kp q_ik q_wy q_ah q_tg q_ws q_fr q_rw mi)) (ci := 7) (q0 := 0) [0] hK hP hD rfl rfl rfl rfl) rfl rfl hl.1 rfl (lv_room (Nat.le_of_ble_eq_true rfl)) dX9_hasCrate_2 ⟨Nat.le_of_ble_eq_true rfl, Nat.le_of_ble_eq_true rfl⟩) (fun H locs hP hD hS => ?_)
  refine lv_if_ne (tgt := 25) hx hb dX9_hasCrate_5 (by decide) (fun c_4 => ?_) (fun c_4 => ?_)
  · replace hm := if_f hm c_4
    refine lv_iconst (v := (0 : Int32)) hx hb dX9_hasCrate_25 (by decide) ?_
    obtain ⟨hf0, hf1⟩ := si2 hm
    subst hf0
    subst hf1
    exact W.zret (v := (0 : Int32)) hx hb hr rfl (fun t ht hW => ⟨⟨rfl, by rw [ht]; exact hP⟩, hS.F ht⟩) hS.2.2 dX9_hasCrate_26
  · replace hm := if_s hm c_4
    refine lv_aload_n hx hb dX9_hasCrate_8 rfl (lv_at hl 0 rfl) ?_
    refine va_get (D := my_D Γ) (ci := 7) (v := .ref q_nw) (C := RX9) (T := TX9) (N := 19) hx hb hts hinX9 hown hK hP 0 rfl rfl 3 (by decide) (hts (.fieldLink RX9 13 "BeltFloorModel" "now" "[I") (List.mem_of_getElem? (i := 1) rfl)) (fun _ h9 => h9) rfl dX9_hasCrate_9 ?_
    refine lv_bipush (v := (36 : Int32)) hx hb dX9_hasCrate_12 (by decide) ?_
    refine lv_iload_n hx hb dX9_hasCrate_14 rfl (lv_at hl 1 rfl) ?_
    refine lv_iadd hx hb dX9_hasCrate_15 ?_
    obtain ⟨hi_5, hm⟩ := if_in hm
    refine va_iald hx hb hK hP 2 0 rfl rfl hi_5 dX9_hasCrate_16 ?_
    refine lv_iconst (v := (1 : Int32)) hx hb dX9_hasCrate_17 (by decide) ?_
    refine lv_icmp_ne (tgt := 25) hx hb dX9_hasCrate_18 (by decide) (fun c_6 => ?_) (fun c_6 => ?_)
    · replace hm := if_f hm c_6
      refine lv_iconst (v := (0 : Int32)) hx hb dX9_hasCrate_25 (by decide) ?_
      obtain ⟨hf0, hf1⟩ := si2 hm
      subst hf0
      subst hf1
      exact W.zret (v := (0 : Int32)) hx hb hr rfl (fun t ht hW => ⟨⟨rfl, by rw [ht]; exact hP⟩, hS.F ht⟩) hS.2.2 dX9_hasCrate_26
    · replace hm := if_s hm c_6
      refine lv_iconst (v := (1 : Int32)) hx hb dX9_hasCrate_21 (by decide) ?_
      refine lv_goto (tgt := 26) hx hb dX9_hasCrate_22 (by decide) ?_
      obtain ⟨hf0, hf1⟩ := si2 hm
      subst hf0
      subst hf1
      exact W.zret (v := (1 : Int32)) hx hb hr rfl (fun t ht hW => ⟨⟨rfl, by rw [ht]; exact hP⟩, hS.F ht⟩) hS.2.2 dX9_hasCrate_26
def mX9_cratesByCells (mi : Nat → Int32) (vnw : Nat → Int32) : Option (Int32 × (Nat → Int32)) := (bo1 (mX9_cratesOn vnw) (fun r_1 => (bt2 (mX9_told mi r_1) (fun r_3 mi_4 => (some (r_3, mi_4))))))
set_option maxHeartbeats 4000000 in
set_option maxRecDepth 100000 in
theorem kX9_cratesByCells (l : Launch) (Γ : my_G) (q_mo q_tt q_nw q_tr q_ot q_di q_kp q_ik q_wy q_ah q_tg q_ws q_fr q_rw : Nat) (mi : Nat → Int32) (vtt : Nat → Int32) (vnw : Nat → Int32) (vtr : Nat → Int32) (vot : Nat → Int32) (vdi : Nat → Int32) (vkp : Nat → Int32) (vik : Nat → Int32) (vwy : Nat → Int32) (vah : Nat → Int32) (vtg : Nat → Int32) (vws : Nat → Int32) (vfr : Nat → Int32) (vrw : Nat → Int32)  (rr : Int32) (mi_z : Nat → Int32) (hm : mX9_cratesByCells mi vnw = (some (rr, mi_z))) : Mn l yX9_cratesByCells wsX9_cratesByCells ({ frames := 1, cells := 0, slots := 0, locals := 22 } : Room) Γ [.ref q_mo] (wModel Γ q_mo q_tt q_nw q_tr q_ot q_di q_kp q_ik q_wy q_ah q_tg q_ws q_fr q_rw mi vtt vnw vtr vot vdi vkp vik vwy vah vtg vws vfr vrw) (some (.int rr)) (wModel Γ q_mo q_tt q_nw q_tr q_ot q_di q_kp q_ik q_wy q_ah q_tg q_ws q_fr q_rw mi_z vtt vnw vtr vot vdi vkp vik vwy vah vtg vws vfr vrw) := by
  intro sz
  refine Met.ofW (cc := cX9_cratesByCells) (maxL := 1) (ret := (some .int)) (by decide) rfl ?_
  intro p e s m args below meth c s₁ B hml hv
  obtain ⟨rfl, hsz, hP, hK, hD0⟩ := hv
  have hx := B.exec
  have hb := B.bytes
  have hr := B.returns
  have hts := atoms_spec (ws := wsX9_cratesByCells) B.pre
  have hown : s.vm.findClass RX9 = some m.cls := findClass_of_methodNamed B.named
  have hlocks := B.notSynchronized
  have hinX9 : ∀ w ∈ u_ws RX9 TX9 19, w ∈ wsX9_cratesByCells := fun w h => List.mem_cons_of_mem _ (List.mem_append_right _ h)
  subst hsz
  have hD := hD0.self (sz := s.heap.size)
  have hA : ∀ q : Nat, s.heap.size ≤ q → va_A (wModel Γ q_mo q_tt q_nw q_tr q_ot q_di q_kp q_ik q_wy q_ah q_tg q_ws q_fr q_rw mi vtt vnw vtr vot vdi vkp vik vwy vah vtg vws vfr vrw) s.heap.size q := fun q h => Or.inr h
  generalize va_A (wModel Γ q_mo q_tt q_nw q_tr q_ot q_di q_kp q_ik q_wy q_ah q_tg q_ws q_fr q_rw mi vtt vnw vtr vot vdi vkp vik vwy vah vtg vws vfr vrw) s.heap.size = A at hD hA ⊢
  have hS : va_S A s.heap s.heap [] := va_S.rf
  have hl := lv_entry ([.ref q_mo]) (n := 1) (Nat.le_of_ble_eq_true rfl)
  rw [lg_entry_eq]
  generalize (lg_sl ([.ref q_mo]) ++ List.replicate (1 - (lg_sl ([.ref q_mo])).length) Slot.unset).toArray = ls at hl ⊢
  replace hl : lv_has ls 1 [(0, .ref q_mo)] := hl
  unfold mX9_cratesByCells at hm
  refine lv_aload_n hx hb dX9_cratesByCells_0 rfl (lv_at hl 0 rfl) ?_
  refine lv_aload_n hx hb dX9_cratesByCells_1 rfl (lv_at hl 0 rfl) ?_
  refine va_get (D := my_D Γ) (ci := 7) (v := .ref q_nw) (C := RX9) (T := TX9) (N := 19) hx hb hts hinX9 hown hK hP 0 rfl rfl 3 (by decide) (hts (.fieldLink RX9 13 "BeltFloorModel" "now" "[I") (List.mem_of_getElem? (i := 1) rfl)) (fun _ h9 => h9) rfl dX9_cratesByCells_2 ?_
  obtain ⟨r_1, hc_2, hm⟩ := bo1_s hm
  refine my_callP1 (wc := (wArr117 Γ q_nw vnw)) (w1 := (wArr117 Γ q_nw vnw)) (ws1 := (wModel Γ q_mo q_tt q_nw q_tr q_ot q_di q_kp q_ik q_wy q_ah q_tg q_ws q_fr q_rw mi vtt vnw vtr vot vdi vkp vik vwy vah vtg vws vfr vrw)) hP hD hS hA [2] rfl rfl rfl (va_runS (As := [.ref q_nw]) (rest := [.ref q_mo]) ⟨hx, hb, hml, hown, hts⟩ (kX9_cratesOn l Γ q_nw vnw r_1 hc_2 _) (va_cwS 1 hts gX9_cratesByCells_X9_cratesOn rfl rfl rfl (by decide +kernel) ⟨Nat.le_of_ble_eq_true rfl, Nat.le_of_ble_eq_true rfl⟩) (my_preS (wc := (wArr117 Γ q_nw vnw)) [2] hK hP hD rfl rfl) rfl rfl hl.1 rfl (lv_room (Nat.le_of_ble_eq_true rfl)) dX9_cratesByCells_5 ⟨Nat.le_of_ble_eq_true rfl, Nat.le_of_ble_eq_true rfl⟩) (fun H locs hP hD hS => ?_)
  obtain ⟨r_3, mi_4, hc_5, hm⟩ := bt2_s hm
  refine my_callP1 (wc := (wMo Γ q_mo q_tt q_nw q_tr q_ot q_di q_kp q_ik q_wy q_ah q_tg q_ws q_fr q_rw mi)) (w1 := (wMo Γ q_mo q_tt q_nw q_tr q_ot q_di q_kp q_ik q_wy q_ah q_tg q_ws q_fr q_rw mi_4)) (ws1 := (wModel Γ q_mo q_tt q_nw q_tr q_ot q_di q_kp q_ik q_wy q_ah q_tg q_ws q_fr q_rw mi_4 vtt vnw vtr vot vdi vkp vik vwy vah vtg vws vfr vrw)) hP hD hS hA [0] rfl rfl rfl (va_runV (As := [.int r_1]) (rest := []) ⟨hx, hb, hml, hown, hts⟩ (kX9_told l Γ q_mo q_tt q_nw q_tr q_ot q_di q_kp q_ik q_wy q_ah q_tg q_ws q_fr q_rw mi r_1 r_3 mi_4 hc_5 _) (cwV 1 hts gX9_cratesByCells_X9_told rfl rfl rfl (by decide +kernel) ⟨Nat.le_of_ble_eq_true rfl, Nat.le_of_ble_eq_true rfl⟩) (my_preV (wc := (wMo Γ q_mo q_tt q_nw q_tr q_ot q_di q_kp q_ik q_wy q_ah q_tg q_ws q_fr q_rw mi)) (ci := 7) (q0 := 0) [0] hK hP hD rfl rfl rfl rfl) rfl rfl hl.1 rfl (lv_room (Nat.le_of_ble_eq_true rfl)) dX9_cratesByCells_8 ⟨Nat.le_of_ble_eq_true rfl, Nat.le_of_ble_eq_true rfl⟩) (fun H locs hP hD hS => ?_)
  obtain ⟨hf0, hf1⟩ := si2 hm
  subst hf0
  subst hf1
  exact W.iret (v := r_3) hx hb hr (fun t ht hW => ⟨⟨rfl, by rw [ht]; exact hP⟩, hS.F ht⟩) hS.2.2 dX9_cratesByCells_11
def mX9_cratesByAccounts (mi : Nat → Int32) (vnw : Nat → Int32) : Option (Int32 × (Nat → Int32)) := (bo1 (mX9_cratesOn vnw) (fun r_1 => (bt2 (mX9_told mi r_1) (fun r_3 mi_4 => (some (r_3, mi_4))))))
set_option maxHeartbeats 4000000 in
set_option maxRecDepth 100000 in
theorem kX9_cratesByAccounts (l : Launch) (Γ : my_G) (q_mo q_tt q_nw q_tr q_ot q_di q_kp q_ik q_wy q_ah q_tg q_ws q_fr q_rw : Nat) (mi : Nat → Int32) (vtt : Nat → Int32) (vnw : Nat → Int32) (vtr : Nat → Int32) (vot : Nat → Int32) (vdi : Nat → Int32) (vkp : Nat → Int32) (vik : Nat → Int32) (vwy : Nat → Int32) (vah : Nat → Int32) (vtg : Nat → Int32) (vws : Nat → Int32) (vfr : Nat → Int32) (vrw : Nat → Int32)  (rr : Int32) (mi_z : Nat → Int32) (hm : mX9_cratesByAccounts mi vnw = (some (rr, mi_z))) : Mn l yX9_cratesByAccounts wsX9_cratesByAccounts ({ frames := 1, cells := 0, slots := 0, locals := 22 } : Room) Γ [.ref q_mo] (wModel Γ q_mo q_tt q_nw q_tr q_ot q_di q_kp q_ik q_wy q_ah q_tg q_ws q_fr q_rw mi vtt vnw vtr vot vdi vkp vik vwy vah vtg vws vfr vrw) (some (.int rr)) (wModel Γ q_mo q_tt q_nw q_tr q_ot q_di q_kp q_ik q_wy q_ah q_tg q_ws q_fr q_rw mi_z vtt vnw vtr vot vdi vkp vik vwy vah vtg vws vfr vrw) := by
  intro sz
  refine Met.ofW (cc := cX9_cratesByAccounts) (maxL := 1) (ret := (some .int)) (by decide) rfl ?_
  intro p e s m args below meth c s₁ B hml hv
  obtain ⟨rfl, hsz, hP, hK, hD0⟩ := hv
  have hx := B.exec
  have hb := B.bytes
  have hr := B.returns
  have hts := atoms_spec (ws := wsX9_cratesByAccounts) B.pre
  have hown : s.vm.findClass RX9 = some m.cls := findClass_of_methodNamed B.named
  have hlocks := B.notSynchronized
  have hinX9 : ∀ w ∈ u_ws RX9 TX9 19, w ∈ wsX9_cratesByAccounts := fun w h => List.mem_cons_of_mem _ (List.mem_append_right _ h)
  subst hsz
  have hD := hD0.self (sz := s.heap.size)
  have hA : ∀ q : Nat, s.heap.size ≤ q → va_A (wModel Γ q_mo q_tt q_nw q_tr q_ot q_di q_kp q_ik q_wy q_ah q_tg q_ws q_fr q_rw mi vtt vnw vtr vot vdi vkp vik vwy vah vtg vws vfr vrw) s.heap.size q := fun q h => Or.inr h
  generalize va_A (wModel Γ q_mo q_tt q_nw q_tr q_ot q_di q_kp q_ik q_wy q_ah q_tg q_ws q_fr q_rw mi vtt vnw vtr vot vdi vkp vik vwy vah vtg vws vfr vrw) s.heap.size = A at hD hA ⊢
  have hS : va_S A s.heap s.heap [] := va_S.rf
  have hl := lv_entry ([.ref q_mo]) (n := 1) (Nat.le_of_ble_eq_true rfl)
  rw [lg_entry_eq]
  generalize (lg_sl ([.ref q_mo]) ++ List.replicate (1 - (lg_sl ([.ref q_mo])).length) Slot.unset).toArray = ls at hl ⊢
  replace hl : lv_has ls 1 [(0, .ref q_mo)] := hl
  unfold mX9_cratesByAccounts at hm
  refine lv_aload_n hx hb dX9_cratesByAccounts_0 rfl (lv_at hl 0 rfl) ?_
  refine lv_aload_n hx hb dX9_cratesByAccounts_1 rfl (lv_at hl 0 rfl) ?_
  refine va_get (D := my_D Γ) (ci := 7) (v := .ref q_nw) (C := RX9) (T := TX9) (N := 19) hx hb hts hinX9 hown hK hP 0 rfl rfl 3 (by decide) (hts (.fieldLink RX9 13 "BeltFloorModel" "now" "[I") (List.mem_of_getElem? (i := 1) rfl)) (fun _ h9 => h9) rfl dX9_cratesByAccounts_2 ?_
  obtain ⟨r_1, hc_2, hm⟩ := bo1_s hm
  refine my_callP1 (wc := (wArr117 Γ q_nw vnw)) (w1 := (wArr117 Γ q_nw vnw)) (ws1 := (wModel Γ q_mo q_tt q_nw q_tr q_ot q_di q_kp q_ik q_wy q_ah q_tg q_ws q_fr q_rw mi vtt vnw vtr vot vdi vkp vik vwy vah vtg vws vfr vrw)) hP hD hS hA [2] rfl rfl rfl (va_runS (As := [.ref q_nw]) (rest := [.ref q_mo]) ⟨hx, hb, hml, hown, hts⟩ (kX9_cratesOn l Γ q_nw vnw r_1 hc_2 _) (va_cwS 1 hts gX9_cratesByAccounts_X9_cratesOn rfl rfl rfl (by decide +kernel) ⟨Nat.le_of_ble_eq_true rfl, Nat.le_of_ble_eq_true rfl⟩) (my_preS (wc := (wArr117 Γ q_nw vnw)) [2] hK hP hD rfl rfl) rfl rfl hl.1 rfl (lv_room (Nat.le_of_ble_eq_true rfl)) dX9_cratesByAccounts_5 ⟨Nat.le_of_ble_eq_true rfl, Nat.le_of_ble_eq_true rfl⟩) (fun H locs hP hD hS => ?_)
  obtain ⟨r_3, mi_4, hc_5, hm⟩ := bt2_s hm
  refine my_callP1 (wc := (wMo Γ q_mo q_tt q_nw q_tr q_ot q_di q_kp q_ik q_wy q_ah q_tg q_ws q_fr q_rw mi)) (w1 := (wMo Γ q_mo q_tt q_nw q_tr q_ot q_di q_kp q_ik q_wy q_ah q_tg q_ws q_fr q_rw mi_4)) (ws1 := (wModel Γ q_mo q_tt q_nw q_tr q_ot q_di q_kp q_ik q_wy q_ah q_tg q_ws q_fr q_rw mi_4 vtt vnw vtr vot vdi vkp vik vwy vah vtg vws vfr vrw)) hP hD hS hA [0] rfl rfl rfl (va_runV (As := [.int r_1]) (rest := []) ⟨hx, hb, hml, hown, hts⟩ (kX9_told l Γ q_mo q_tt q_nw q_tr q_ot q_di q_kp q_ik q_wy q_ah q_tg q_ws q_fr q_rw mi r_1 r_3 mi_4 hc_5 _) (cwV 1 hts gX9_cratesByAccounts_X9_told rfl rfl rfl (by decide +kernel) ⟨Nat.le_of_ble_eq_true rfl, Nat.le_of_ble_eq_true rfl⟩) (my_preV (wc := (wMo Γ q_mo q_tt q_nw q_tr q_ot q_di q_kp q_ik q_wy q_ah q_tg q_ws q_fr q_rw mi)) (ci := 7) (q0 := 0) [0] hK hP hD rfl rfl rfl rfl) rfl rfl hl.1 rfl (lv_room (Nat.le_of_ble_eq_true rfl)) dX9_cratesByAccounts_8 ⟨Nat.le_of_ble_eq_true rfl, Nat.le_of_ble_eq_true rfl⟩) (fun H locs hP hD hS => ?_)
  obtain ⟨hf0, hf1⟩ := si2 hm
  subst hf0
  subst hf1
  exact W.iret (v := r_3) hx hb hr (fun t ht hW => ⟨⟨rfl, by rw [ht]; exact hP⟩, hS.F ht⟩) hS.2.2 dX9_cratesByAccounts_11
def mX9_lost (mi : Nat → Int32) (vnw : Nat → Int32) : Int32 × (Nat → Int32) := (bt2 (mX9_told mi (vnw (115 : Int32).toNatClampNeg)) (fun r_1 mi_2 => (r_1, mi_2)))
set_option maxHeartbeats 4000000 in
set_option maxRecDepth 100000 in
theorem kX9_lost (l : Launch) (Γ : my_G) (q_mo q_tt q_nw q_tr q_ot q_di q_kp q_ik q_wy q_ah q_tg q_ws q_fr q_rw : Nat) (mi : Nat → Int32) (vtt : Nat → Int32) (vnw : Nat → Int32) (vtr : Nat → Int32) (vot : Nat → Int32) (vdi : Nat → Int32) (vkp : Nat → Int32) (vik : Nat → Int32) (vwy : Nat → Int32) (vah : Nat → Int32) (vtg : Nat → Int32) (vws : Nat → Int32) (vfr : Nat → Int32) (vrw : Nat → Int32)  (rr : Int32) (mi_z : Nat → Int32) (hm : mX9_lost mi vnw = (rr, mi_z)) : Mn l yX9_lost wsX9_lost ({ frames := 1, cells := 0, slots := 0, locals := 21 } : Room) Γ [.ref q_mo] (wModel Γ q_mo q_tt q_nw q_tr q_ot q_di q_kp q_ik q_wy q_ah q_tg q_ws q_fr q_rw mi vtt vnw vtr vot vdi vkp vik vwy vah vtg vws vfr vrw) (some (.int rr)) (wModel Γ q_mo q_tt q_nw q_tr q_ot q_di q_kp q_ik q_wy q_ah q_tg q_ws q_fr q_rw mi_z vtt vnw vtr vot vdi vkp vik vwy vah vtg vws vfr vrw) := by
  intro sz
  refine Met.ofW (cc := cX9_lost) (maxL := 1) (ret := (some .int)) (by decide) rfl ?_
  intro p e s m args below meth c s₁ B hml hv
  obtain ⟨rfl, hsz, hP, hK, hD0⟩ := hv
  have hx := B.exec
  have hb := B.bytes
  have hr := B.returns
  have hts := atoms_spec (ws := wsX9_lost) B.pre
  have hown : s.vm.findClass RX9 = some m.cls := findClass_of_methodNamed B.named
  have hlocks := B.notSynchronized
  have hinX9 : ∀ w ∈ u_ws RX9 TX9 19, w ∈ wsX9_lost := fun w h => List.mem_cons_of_mem _ (List.mem_append_right _ h)
  subst hsz
  have hD := hD0.self (sz := s.heap.size)
  have hA : ∀ q : Nat, s.heap.size ≤ q → va_A (wModel Γ q_mo q_tt q_nw q_tr q_ot q_di q_kp q_ik q_wy q_ah q_tg q_ws q_fr q_rw mi vtt vnw vtr vot vdi vkp vik vwy vah vtg vws vfr vrw) s.heap.size q := fun q h => Or.inr h
  generalize va_A (wModel Γ q_mo q_tt q_nw q_tr q_ot q_di q_kp q_ik q_wy q_ah q_tg q_ws q_fr q_rw mi vtt vnw vtr vot vdi vkp vik vwy vah vtg vws vfr vrw) s.heap.size = A at hD hA ⊢
  have hS : va_S A s.heap s.heap [] := va_S.rf
  have hl := lv_entry ([.ref q_mo]) (n := 1) (Nat.le_of_ble_eq_true rfl)
  rw [lg_entry_eq]
  generalize (lg_sl ([.ref q_mo]) ++ List.replicate (1 - (lg_sl ([.ref q_mo])).length) Slot.unset).toArray = ls at hl ⊢
  replace hl : lv_has ls 1 [(0, .ref q_mo)] := hl
  unfold mX9_lost at hm
  refine lv_aload_n hx hb dX9_lost_0 rfl (lv_at hl 0 rfl) ?_
  refine lv_aload_n hx hb dX9_lost_1 rfl (lv_at hl 0 rfl) ?_
  refine va_get (D := my_D Γ) (ci := 7) (v := .ref q_nw) (C := RX9) (T := TX9) (N := 19) hx hb hts hinX9 hown hK hP 0 rfl rfl 3 (by decide) (hts (.fieldLink RX9 13 "BeltFloorModel" "now" "[I") (List.mem_of_getElem? (i := 1) rfl)) (fun _ h9 => h9) rfl dX9_lost_2 ?_
  refine lv_bipush (v := (115 : Int32)) hx hb dX9_lost_5 (by decide) ?_
  refine va_iald hx hb hK hP 2 0 rfl rfl (show vp_in (115 : Int32) 117 from (by decide : ¬ ((115 : Int32) < 0 ∨ 117 ≤ (115 : Int32).toNatClampNeg))) dX9_lost_7 ?_
  obtain ⟨r_1, mi_2, hc_3, hm⟩ := bt2_s hm
  refine my_callP1 (wc := (wMo Γ q_mo q_tt q_nw q_tr q_ot q_di q_kp q_ik q_wy q_ah q_tg q_ws q_fr q_rw mi)) (w1 := (wMo Γ q_mo q_tt q_nw q_tr q_ot q_di q_kp q_ik q_wy q_ah q_tg q_ws q_fr q_rw mi_2)) (ws1 := (wModel Γ q_mo q_tt q_nw q_tr q_ot q_di q_kp q_ik q_wy q_ah q_tg q_ws q_fr q_rw mi_2 vtt vnw vtr vot vdi vkp vik vwy vah vtg vws vfr vrw)) hP hD hS hA [0] rfl rfl rfl (va_runV (As := [.int (vnw (115 : Int32).toNatClampNeg)]) (rest := []) ⟨hx, hb, hml, hown, hts⟩ (kX9_told l Γ q_mo q_tt q_nw q_tr q_ot q_di q_kp q_ik q_wy q_ah q_tg q_ws q_fr q_rw mi (vnw (115 : Int32).toNatClampNeg) r_1 mi_2 hc_3 _) (cwV 1 hts gX9_lost_X9_told rfl rfl rfl (by decide +kernel) ⟨Nat.le_of_ble_eq_true rfl, Nat.le_of_ble_eq_true rfl⟩) (my_preV (wc := (wMo Γ q_mo q_tt q_nw q_tr q_ot q_di q_kp q_ik q_wy q_ah q_tg q_ws q_fr q_rw mi)) (ci := 7) (q0 := 0) [0] hK hP hD rfl rfl rfl rfl) rfl rfl hl.1 rfl (lv_room (Nat.le_of_ble_eq_true rfl)) dX9_lost_8 ⟨Nat.le_of_ble_eq_true rfl, Nat.le_of_ble_eq_true rfl⟩) (fun H locs hP hD hS => ?_)
  obtain ⟨hf0, hf1⟩ := ti2 hm
  subst hf0
  subst hf1
  exact W.iret (v := r_1) hx hb hr (fun t ht hW => ⟨⟨rfl, by rw [ht]; exact hP⟩, hS.F ht⟩) hS.2.2 dX9_lost_11
def mX9_checkpoints (mi : Nat → Int32) (vnw : Nat → Int32) : Int32 × (Nat → Int32) := (bt2 (mX9_told mi (vnw (110 : Int32).toNatClampNeg)) (fun r_1 mi_2 => (r_1, mi_2)))
set_option maxHeartbeats 4000000 in
set_option maxRecDepth 100000 in
theorem kX9_checkpoints (l : Launch) (Γ : my_G) (q_mo q_tt q_nw q_tr q_ot q_di q_kp q_ik q_wy q_ah q_tg q_ws q_fr q_rw : Nat) (mi : Nat → Int32) (vtt : Nat → Int32) (vnw : Nat → Int32) (vtr : Nat → Int32) (vot : Nat → Int32) (vdi : Nat → Int32) (vkp : Nat → Int32) (vik : Nat → Int32) (vwy : Nat → Int32) (vah : Nat → Int32) (vtg : Nat → Int32) (vws : Nat → Int32) (vfr : Nat → Int32) (vrw : Nat → Int32)  (rr : Int32) (mi_z : Nat → Int32) (hm : mX9_checkpoints mi vnw = (rr, mi_z)) : Mn l yX9_checkpoints wsX9_checkpoints ({ frames := 1, cells := 0, slots := 0, locals := 21 } : Room) Γ [.ref q_mo] (wModel Γ q_mo q_tt q_nw q_tr q_ot q_di q_kp q_ik q_wy q_ah q_tg q_ws q_fr q_rw mi vtt vnw vtr vot vdi vkp vik vwy vah vtg vws vfr vrw) (some (.int rr)) (wModel Γ q_mo q_tt q_nw q_tr q_ot q_di q_kp q_ik q_wy q_ah q_tg q_ws q_fr q_rw mi_z vtt vnw vtr vot vdi vkp vik vwy vah vtg vws vfr vrw) := by
  intro sz
  refine Met.ofW (cc := cX9_checkpoints) (maxL := 1) (ret := (some .int)) (by decide) rfl ?_
  intro p e s m args below meth c s₁ B hml hv
  obtain ⟨rfl, hsz, hP, hK, hD0⟩ := hv
  have hx := B.exec
  have hb := B.bytes
  have hr := B.returns
  have hts := atoms_spec (ws := wsX9_checkpoints) B.pre
  have hown : s.vm.findClass RX9 = some m.cls := findClass_of_methodNamed B.named
  have hlocks := B.notSynchronized
  have hinX9 : ∀ w ∈ u_ws RX9 TX9 19, w ∈ wsX9_checkpoints := fun w h => List.mem_cons_of_mem _ (List.mem_append_right _ h)
  subst hsz
  have hD := hD0.self (sz := s.heap.size)
  have hA : ∀ q : Nat, s.heap.size ≤ q → va_A (wModel Γ q_mo q_tt q_nw q_tr q_ot q_di q_kp q_ik q_wy q_ah q_tg q_ws q_fr q_rw mi vtt vnw vtr vot vdi vkp vik vwy vah vtg vws vfr vrw) s.heap.size q := fun q h => Or.inr h
  generalize va_A (wModel Γ q_mo q_tt q_nw q_tr q_ot q_di q_kp q_ik q_wy q_ah q_tg q_ws q_fr q_rw mi vtt vnw vtr vot vdi vkp vik vwy vah vtg vws vfr vrw) s.heap.size = A at hD hA ⊢
  have hS : va_S A s.heap s.heap [] := va_S.rf
  have hl := lv_entry ([.ref q_mo]) (n := 1) (Nat.le_of_ble_eq_true rfl)
  rw [lg_entry_eq]
  generalize (lg_sl ([.ref q_mo]) ++ List.replicate (1 - (lg_sl ([.ref q_mo])).length) Slot.unset).toArray = ls at hl ⊢
  replace hl : lv_has ls 1 [(0, .ref q_mo)] := hl
  unfold mX9_checkpoints at hm
  refine lv_aload_n hx hb dX9_checkpoints_0 rfl (lv_at hl 0 rfl) ?_
  refine lv_aload_n hx hb dX9_checkpoints_1 rfl (lv_at hl 0 rfl) ?_
  refine va_get (D := my_D Γ) (ci := 7) (v := .ref q_nw) (C := RX9) (T := TX9) (N := 19) hx hb hts hinX9 hown hK hP 0 rfl rfl 3 (by decide) (hts (.fieldLink RX9 13 "BeltFloorModel" "now" "[I") (List.mem_of_getElem? (i := 1) rfl)) (fun _ h9 => h9) rfl dX9_checkpoints_2 ?_
  refine lv_bipush (v := (110 : Int32)) hx hb dX9_checkpoints_5 (by decide) ?_
  refine va_iald hx hb hK hP 2 0 rfl rfl (show vp_in (110 : Int32) 117 from (by decide : ¬ ((110 : Int32) < 0 ∨ 117 ≤ (110 : Int32).toNatClampNeg))) dX9_checkpoints_7 ?_
  obtain ⟨r_1, mi_2, hc_3, hm⟩ := bt2_s hm
  refine my_callP1 (wc := (wMo Γ q_mo q_tt q_nw q_tr q_ot q_di q_kp q_ik q_wy q_ah q_tg q_ws q_fr q_rw mi)) (w1 := (wMo Γ q_mo q_tt q_nw q_tr q_ot q_di q_kp q_ik q_wy q_ah q_tg q_ws q_fr q_rw mi_2)) (ws1 := (wModel Γ q_mo q_tt q_nw q_tr q_ot q_di q_kp q_ik q_wy q_ah q_tg q_ws q_fr q_rw mi_2 vtt vnw vtr vot vdi vkp vik vwy vah vtg vws vfr vrw)) hP hD hS hA [0] rfl rfl rfl (va_runV (As := [.int (vnw (110 : Int32).toNatClampNeg)]) (rest := []) ⟨hx, hb, hml, hown, hts⟩ (kX9_told l Γ q_mo q_tt q_nw q_tr q_ot q_di q_kp q_ik q_wy q_ah q_tg q_ws q_fr q_rw mi (vnw (110 : Int32).toNatClampNeg) r_1 mi_2 hc_3 _) (cwV 1 hts gX9_checkpoints_X9_told rfl rfl rfl (by decide +kernel) ⟨Nat.le_of_ble_eq_true rfl, Nat.le_of_ble_eq_true rfl⟩) (my_preV (wc := (wMo Γ q_mo q_tt q_nw q_tr q_ot q_di q_kp q_ik q_wy q_ah q_tg q_ws q_fr q_rw mi)) (ci := 7) (q0 := 0) [0] hK hP hD rfl rfl rfl rfl) rfl rfl hl.1 rfl (lv_room (Nat.le_of_ble_eq_true rfl)) dX9_checkpoints_8 ⟨Nat.le_of_ble_eq_true rfl, Nat.le_of_ble_eq_true rfl⟩) (fun H locs hP hD hS => ?_)
  obtain ⟨hf0, hf1⟩ := ti2 hm
  subst hf0
  subst hf1
  exact W.iret (v := r_1) hx hb hr (fun t ht hW => ⟨⟨rfl, by rw [ht]; exact hP⟩, hS.F ht⟩) hS.2.2 dX9_checkpoints_11
def mX9_cellOfCheckpoint_J23  (mi : Nat → Int32) (vnw : Nat → Int32) (l1 : Int32) (s1 : Int32) : Option (Int32 × (Nat → Int32)) := (bt2 (mX9_refused mi s1) (fun r_2 mi_3 => (if r_2 = 0 then (if ¬ (((110 : Int32) + l1) < 0 ∨ 117 ≤ ((110 : Int32) + l1).toNatClampNeg) then (some ((vnw ((110 : Int32) + l1).toNatClampNeg), mi_3)) else none) else (some ((0 : Int32), mi_3)))))
def mX9_cellOfCheckpoint (mi : Nat → Int32) (vnw : Nat → Int32) (x0 : Int32) : Option (Int32 × (Nat → Int32)) := (if (mX9_in (x0.toInt64) (1 : Int64) ((vnw (110 : Int32).toNatClampNeg).toInt64)) = 0 then (mX9_cellOfCheckpoint_J23 mi vnw x0 (1 : Int32)) else (mX9_cellOfCheckpoint_J23 mi vnw x0 (0 : Int32)))
set_option maxHeartbeats 4000000 in
set_option maxRecDepth 100000 in
theorem kX9_cellOfCheckpoint (l : Launch) (Γ : my_G) (q_mo q_tt q_nw q_tr q_ot q_di q_kp q_ik q_wy q_ah q_tg q_ws q_fr q_rw : Nat) (mi : Nat → Int32) (vtt : Nat → Int32) (vnw : Nat → Int32) (vtr : Nat → Int32) (vot : Nat → Int32) (vdi : Nat → Int32) (vkp : Nat → Int32) (vik : Nat → Int32) (vwy : Nat → Int32) (vah : Nat → Int32) (vtg : Nat → Int32) (vws : Nat → Int32) (vfr : Nat → Int32) (vrw : Nat → Int32) (x0 : Int32) (rr : Int32) (mi_z : Nat → Int32) (hm : mX9_cellOfCheckpoint mi vnw x0 = (some (rr, mi_z))) : Mn l yX9_cellOfCheckpoint wsX9_cellOfCheckpoint ({ frames := 1, cells := 0, slots := 0, locals := 25 } : Room) Γ [.ref q_mo, .int x0] (wModel Γ q_mo q_tt q_nw q_tr q_ot q_di q_kp q_ik q_wy q_ah q_tg q_ws q_fr q_rw mi vtt vnw vtr vot vdi vkp vik vwy vah vtg vws vfr vrw) (some (.int rr)) (wModel Γ q_mo q_tt q_nw q_tr q_ot q_di q_kp q_ik q_wy q_ah q_tg q_ws q_fr q_rw mi_z vtt vnw vtr vot vdi vkp vik vwy vah vtg vws vfr vrw) := by
  intro sz
  refine Met.ofW (cc := cX9_cellOfCheckpoint) (maxL := 2) (ret := (some .int)) (by decide) rfl ?_
  intro p e s m args below meth c s₁ B hml hv
  obtain ⟨rfl, hsz, hP, hK, hD0⟩ := hv
  have hx := B.exec
  have hb := B.bytes
  have hr := B.returns
  have hts := atoms_spec (ws := wsX9_cellOfCheckpoint) B.pre
  have hown : s.vm.findClass RX9 = some m.cls := findClass_of_methodNamed B.named
  have hlocks := B.notSynchronized
  have hinX9 : ∀ w ∈ u_ws RX9 TX9 19, w ∈ wsX9_cellOfCheckpoint := fun w h => List.mem_cons_of_mem _ (List.mem_append_right _ h)
  subst hsz
  have hD := hD0.self (sz := s.heap.size)
  have hA : ∀ q : Nat, s.heap.size ≤ q → va_A (wModel Γ q_mo q_tt q_nw q_tr q_ot q_di q_kp q_ik q_wy q_ah q_tg q_ws q_fr q_rw mi vtt vnw vtr vot vdi vkp vik vwy vah vtg vws vfr vrw) s.heap.size q := fun q h => Or.inr h
  generalize va_A (wModel Γ q_mo q_tt q_nw q_tr q_ot q_di q_kp q_ik q_wy q_ah q_tg q_ws q_fr q_rw mi vtt vnw vtr vot vdi vkp vik vwy vah vtg vws vfr vrw) s.heap.size = A at hD hA ⊢
  have hS : va_S A s.heap s.heap [] := va_S.rf
  have hl := lv_entry ([.ref q_mo, .int x0]) (n := 2) (Nat.le_of_ble_eq_true rfl)
  rw [lg_entry_eq]
  generalize (lg_sl ([.ref q_mo, .int x0]) ++ List.replicate (2 - (lg_sl ([.ref q_mo, .int x0])).length) Slot.unset).toArray = ls at hl ⊢
  replace hl : lv_has ls 2 [(0, .ref q_mo), (1, .int x0)] := hl
  have J_23 : ∀ (mi : Nat → Int32) (vnw : Nat → Int32) (l1 : Int32) (s1 : Int32) (H : Heap) (locs : List Loc) (ls : Array Slot), va_P (my_D Γ) vwCl (wModel Γ q_mo q_tt q_nw q_tr q_ot q_di q_kp q_ik q_wy q_ah q_tg q_ws q_fr q_rw mi vtt vnw vtr vot vdi vkp vik vwy vah vtg vws vfr vrw) H → va_D A (wModel Γ q_mo q_tt q_nw q_tr q_ot q_di q_kp q_ik q_wy q_ah q_tg q_ws q_fr q_rw mi vtt vnw vtr vot vdi vkp vik vwy vah vtg vws vfr vrw) → va_S A s.heap H locs → lv_has ls 2 [(0, .ref q_mo), (1, .int l1)] → mX9_cellOfCheckpoint_J23 mi vnw l1 s1 = (some (rr, mi_z)) → W p l e (headSpec wsX9_cellOfCheckpoint ({ frames := 1, cells := 0, slots := 0, locals := 25 } : Room)).room s m ([.ref q_mo, .int x0] : List Value).toArray below meth c H locs 0 0 (MQ below (my_Q Γ A (some (.int rr)) (wModel Γ q_mo q_tt q_nw q_tr q_ot q_di q_kp q_ik q_wy q_ah q_tg q_ws q_fr q_rw mi_z vtt vnw vtr vot vdi vkp vik vwy vah vtg vws vfr vrw)) ([.ref q_mo, .int x0] : List Value).toArray s 0 0 A) (F0 m 23 ls [.int s1, .ref q_mo]) := by
    intro  mi vnw l1 s1 H locs ls hP hD hS hl hm
    unfold mX9_cellOfCheckpoint_J23 at hm
    obtain ⟨r_2, mi_3, hc_4, hm⟩ := bt2_s hm
    refine my_callP1 (wc := (wMo Γ q_mo q_tt q_nw q_tr q_ot q_di q_kp q_ik q_wy q_ah q_tg q_ws q_fr q_rw mi)) (w1 := (wMo Γ q_mo q_tt q_nw q_tr q_ot q_di q_kp q_ik q_wy q_ah q_tg q_ws q_fr q_rw mi_3)) (ws1 := (wModel Γ q_mo q_tt q_nw q_tr q_ot q_di q_kp q_ik q_wy q_ah q_tg q_ws q_fr q_rw mi_3 vtt vnw vtr vot vdi vkp vik vwy vah vtg vws vfr vrw)) hP hD hS hA [0] rfl rfl rfl (va_runV (As := [.int s1]) (rest := []) ⟨hx, hb, hml, hown, hts⟩ (kX9_refused l Γ q_mo q_tt q_nw q_tr q_ot q_di q_kp q_ik q_wy q_ah q_tg q_ws q_fr q_rw mi s1 r_2 mi_3 hc_4 _) (cwV 1 hts gX9_cellOfCheckpoint_X9_refused rfl rfl rfl (by decide +kernel) ⟨Nat.le_of_ble_eq_true rfl, Nat.le_of_ble_eq_true rfl⟩) (my_preV (wc := (wMo Γ q_mo q_tt q_nw q_tr q_ot q_di q_kp q_ik q_wy q_ah q_tg q_ws q_fr q_rw mi)) (ci := 7) (q0 := 0) [0] hK hP hD rfl rfl rfl rfl) rfl rfl hl.1 rfl (lv_room (Nat.le_of_ble_eq_true rfl)) dX9_cellOfCheckpoint_23 ⟨Nat.le_of_ble_eq_true rfl, Nat.le_of_ble_eq_true rfl⟩) (fun H locs hP hD hS => ?_)
    refine lv_if_eq (tgt := 33) hx hb dX9_cellOfCheckpoint_26 (by decide) (fun c_5 => ?_) (fun c_5 => ?_)
    · replace hm := if_s hm c_5
      refine lv_aload_n hx hb dX9_cellOfCheckpoint_33 rfl (lv_at hl 0 rfl) ?_
      refine va_get (D := my_D Γ) (ci := 7) (v := .ref q_nw) (C := RX9) (T := TX9) (N := 19) hx hb hts hinX9 hown hK hP 0 rfl rfl 3 (by decide) (hts (.fieldLink RX9 13 "BeltFloorModel" "now" "[I") (List.mem_of_getElem? (i := 1) rfl)) (fun _ h9 => h9) rfl dX9_cellOfCheckpoint_34 ?_
      refine lv_bipush (v := (110 : Int32)) hx hb dX9_cellOfCheckpoint_37 (by decide) ?_
      refine lv_iload_n hx hb dX9_cellOfCheckpoint_39 rfl (lv_at hl 1 rfl) ?_
      refine lv_iadd hx hb dX9_cellOfCheckpoint_40 ?_
      obtain ⟨hi_6, hm⟩ := if_in hm
      refine va_iald hx hb hK hP 2 0 rfl rfl hi_6 dX9_cellOfCheckpoint_41 ?_
      obtain ⟨hf0, hf1⟩ := si2 hm
      subst hf0
      subst hf1
      exact W.iret (v := (vnw ((110 : Int32) + l1).toNatClampNeg)) hx hb hr (fun t ht hW => ⟨⟨rfl, by rw [ht]; exact hP⟩, hS.F ht⟩) hS.2.2 dX9_cellOfCheckpoint_42
    · replace hm := if_f hm c_5
      refine lv_iconst (v := (0 : Int32)) hx hb dX9_cellOfCheckpoint_29 (by decide) ?_
      refine lv_goto (tgt := 42) hx hb dX9_cellOfCheckpoint_30 (by decide) ?_
      obtain ⟨hf0, hf1⟩ := si2 hm
      subst hf0
      subst hf1
      exact W.iret (v := (0 : Int32)) hx hb hr (fun t ht hW => ⟨⟨rfl, by rw [ht]; exact hP⟩, hS.F ht⟩) hS.2.2 dX9_cellOfCheckpoint_42
  unfold mX9_cellOfCheckpoint at hm
  refine lv_aload_n hx hb dX9_cellOfCheckpoint_0 rfl (lv_at hl 0 rfl) ?_
  refine lv_iload_n hx hb dX9_cellOfCheckpoint_1 rfl (lv_at hl 1 rfl) ?_
  refine lv_i2l (v := x0.toInt64) hx hb dX9_cellOfCheckpoint_2 rfl ?_
  refine lv_lconst (v := (1 : Int64)) hx hb dX9_cellOfCheckpoint_3 (by decide) ?_
  refine lv_aload_n hx hb dX9_cellOfCheckpoint_4 rfl (lv_at hl 0 rfl) ?_
  refine va_get (D := my_D Γ) (ci := 7) (v := .ref q_nw) (C := RX9) (T := TX9) (N := 19) hx hb hts hinX9 hown hK hP 0 rfl rfl 3 (by decide) (hts (.fieldLink RX9 13 "BeltFloorModel" "now" "[I") (List.mem_of_getElem? (i := 1) rfl)) (fun _ h9 => h9) rfl dX9_cellOfCheckpoint_5 ?_
  refine lv_bipush (v := (110 : Int32)) hx hb dX9_cellOfCheckpoint_8 (by decide) ?_
  refine va_iald hx hb hK hP 2 0 rfl rfl (show vp_in (110 : Int32) 117 from (by decide : ¬ ((110 : Int32) < 0 ∨ 117 ≤ (110 : Int32).toNatClampNeg))) dX9_cellOfCheckpoint_10 ?_
  refine lv_i2l (v := (vnw (110 : Int32).toNatClampNeg).toInt64) hx hb dX9_cellOfCheckpoint_11 rfl ?_
  refine my_callP1 (wc := ([] : va_W)) (w1 := ([] : va_W)) (ws1 := (wModel Γ q_mo q_tt q_nw q_tr q_ot q_di q_kp q_ik q_wy q_ah q_tg q_ws q_fr q_rw mi vtt vnw vtr vot vdi vkp vik vwy vah vtg vws vfr vrw)) hP hD hS hA [] rfl rfl rfl (va_runS (As := [.long (x0.toInt64), .long (1 : Int64), .long ((vnw (110 : Int32).toNatClampNeg).toInt64)]) (rest := [.ref q_mo]) ⟨hx, hb, hml, hown, hts⟩ (kX9_in l Γ (x0.toInt64) (1 : Int64) ((vnw (110 : Int32).toNatClampNeg).toInt64) (mX9_in (x0.toInt64) (1 : Int64) ((vnw (110 : Int32).toNatClampNeg).toInt64)) rfl _) (va_cwS 3 hts gX9_cellOfCheckpoint_X9_in rfl rfl rfl (by decide +kernel) ⟨Nat.le_of_ble_eq_true rfl, Nat.le_of_ble_eq_true rfl⟩) (my_preS (wc := ([] : va_W)) [] hK hP hD rfl rfl) rfl rfl hl.1 rfl (lv_room (Nat.le_of_ble_eq_true rfl)) dX9_cellOfCheckpoint_12 ⟨Nat.le_of_ble_eq_true rfl, Nat.le_of_ble_eq_true rfl⟩) (fun H locs hP hD hS => ?_)
  refine lv_if_eq (tgt := 22) hx hb dX9_cellOfCheckpoint_15 (by decide) (fun c_1 => ?_) (fun c_1 => ?_)
  · replace hm := if_s hm c_1
    refine lv_iconst (v := (1 : Int32)) hx hb dX9_cellOfCheckpoint_22 (by decide) ?_
    exact J_23 mi vnw x0 (1 : Int32) _ _ _ hP hD hS (lv_sub hl [0, 1] rfl) hm
  · replace hm := if_f hm c_1
    refine lv_iconst (v := (0 : Int32)) hx hb dX9_cellOfCheckpoint_18 (by decide) ?_
    refine lv_goto (tgt := 23) hx hb dX9_cellOfCheckpoint_19 (by decide) ?_
    exact J_23 mi vnw x0 (0 : Int32) _ _ _ hP hD hS (lv_sub hl [0, 1] rfl) hm
def mX9_cellOf (mi : Nat → Int32) (vnw : Nat → Int32) (x0 : Int32) : Option (Int32 × (Nat → Int32)) := (bo2 (mX9_ofRobot mi vnw x0 (0 : Int32)) (fun r_1 mi_2 => (some (r_1, mi_2))))
set_option maxHeartbeats 4000000 in
set_option maxRecDepth 100000 in
theorem kX9_cellOf (l : Launch) (Γ : my_G) (q_mo q_tt q_nw q_tr q_ot q_di q_kp q_ik q_wy q_ah q_tg q_ws q_fr q_rw : Nat) (mi : Nat → Int32) (vtt : Nat → Int32) (vnw : Nat → Int32) (vtr : Nat → Int32) (vot : Nat → Int32) (vdi : Nat → Int32) (vkp : Nat → Int32) (vik : Nat → Int32) (vwy : Nat → Int32) (vah : Nat → Int32) (vtg : Nat → Int32) (vws : Nat → Int32) (vfr : Nat → Int32) (vrw : Nat → Int32) (x0 : Int32) (rr : Int32) (mi_z : Nat → Int32) (hm : mX9_cellOf mi vnw x0 = (some (rr, mi_z))) : Mn l yX9_cellOf wsX9_cellOf ({ frames := 4, cells := 0, slots := 0, locals := 88 } : Room) Γ [.ref q_mo, .int x0] (wModel Γ q_mo q_tt q_nw q_tr q_ot q_di q_kp q_ik q_wy q_ah q_tg q_ws q_fr q_rw mi vtt vnw vtr vot vdi vkp vik vwy vah vtg vws vfr vrw) (some (.int rr)) (wModel Γ q_mo q_tt q_nw q_tr q_ot q_di q_kp q_ik q_wy q_ah q_tg q_ws q_fr q_rw mi_z vtt vnw vtr vot vdi vkp vik vwy vah vtg vws vfr vrw) := by
  intro sz
  refine Met.ofW (cc := cX9_cellOf) (maxL := 2) (ret := (some .int)) (by decide) rfl ?_
  intro p e s m args below meth c s₁ B hml hv
  obtain ⟨rfl, hsz, hP, hK, hD0⟩ := hv
  have hx := B.exec
  have hb := B.bytes
  have hr := B.returns
  have hts := atoms_spec (ws := wsX9_cellOf) B.pre
  have hown : s.vm.findClass RX9 = some m.cls := findClass_of_methodNamed B.named
  have hlocks := B.notSynchronized
  have hinX9 : ∀ w ∈ u_ws RX9 TX9 19, w ∈ wsX9_cellOf := fun w h => List.mem_cons_of_mem _ (List.mem_append_right _ h)
  subst hsz
  have hD := hD0.self (sz := s.heap.size)
  have hA : ∀ q : Nat, s.heap.size ≤ q → va_A (wModel Γ q_mo q_tt q_nw q_tr q_ot q_di q_kp q_ik q_wy q_ah q_tg q_ws q_fr q_rw mi vtt vnw vtr vot vdi vkp vik vwy vah vtg vws vfr vrw) s.heap.size q := fun q h => Or.inr h
  generalize va_A (wModel Γ q_mo q_tt q_nw q_tr q_ot q_di q_kp q_ik q_wy q_ah q_tg q_ws q_fr q_rw mi vtt vnw vtr vot vdi vkp vik vwy vah vtg vws vfr vrw) s.heap.size = A at hD hA ⊢
  have hS : va_S A s.heap s.heap [] := va_S.rf
  have hl := lv_entry ([.ref q_mo, .int x0]) (n := 2) (Nat.le_of_ble_eq_true rfl)
  rw [lg_entry_eq]
  generalize (lg_sl ([.ref q_mo, .int x0]) ++ List.replicate (2 - (lg_sl ([.ref q_mo, .int x0])).length) Slot.unset).toArray = ls at hl ⊢
  replace hl : lv_has ls 2 [(0, .ref q_mo), (1, .int x0)] := hl
  unfold mX9_cellOf at hm
  refine lv_aload_n hx hb dX9_cellOf_0 rfl (lv_at hl 0 rfl) ?_
  refine lv_iload_n hx hb dX9_cellOf_1 rfl (lv_at hl 1 rfl) ?_
  refine lv_iconst (v := (0 : Int32)) hx hb dX9_cellOf_2 (by decide) ?_
  obtain ⟨r_1, mi_2, hc_3, hm⟩ := bo2_s hm
  refine my_callP1 (wc := (wModel Γ q_mo q_tt q_nw q_tr q_ot q_di q_kp q_ik q_wy q_ah q_tg q_ws q_fr q_rw mi vtt vnw vtr vot vdi vkp vik vwy vah vtg vws vfr vrw)) (w1 := (wModel Γ q_mo q_tt q_nw q_tr q_ot q_di q_kp q_ik q_wy q_ah q_tg q_ws q_fr q_rw mi_2 vtt vnw vtr vot vdi vkp vik vwy vah vtg vws vfr vrw)) (ws1 := (wModel Γ q_mo q_tt q_nw q_tr q_ot q_di q_kp q_ik q_wy q_ah q_tg q_ws q_fr q_rw mi_2 vtt vnw vtr vot vdi vkp vik vwy vah vtg vws vfr vrw)) hP hD hS hA [0, 1, 2, 3, 4, 5, 6, 7, 8, 9, 10, 11, 12, 13] rfl rfl rfl (va_runV (As := [.int x0, .int (0 : Int32)]) (rest := []) ⟨hx, hb, hml, hown, hts⟩ (kX9_ofRobot l Γ q_mo q_tt q_nw q_tr q_ot q_di q_kp q_ik q_wy q_ah q_tg q_ws q_fr q_rw mi vtt vnw vtr vot vdi vkp vik vwy vah vtg vws vfr vrw x0 (0 : Int32) r_1 mi_2 hc_3 _) (cwV 2 hts gX9_cellOf_X9_ofRobot rfl rfl rfl (by decide +kernel) ⟨Nat.le_of_ble_eq_true rfl, Nat.le_of_ble_eq_true rfl⟩) (my_preV (wc := (wModel Γ q_mo q_tt q_nw q_tr q_ot q_di q_kp q_ik q_wy q_ah q_tg q_ws q_fr q_rw mi vtt vnw vtr vot vdi vkp vik vwy vah vtg vws vfr vrw)) (ci := 7) (q0 := 0) [0, 1, 2, 3, 4, 5, 6, 7, 8, 9, 10, 11, 12, 13] hK hP hD rfl rfl rfl rfl) rfl rfl hl.1 rfl (lv_room (Nat.le_of_ble_eq_true rfl)) dX9_cellOf_3 ⟨Nat.le_of_ble_eq_true rfl, Nat.le_of_ble_eq_true rfl⟩) (fun H locs hP hD hS => ?_)
  obtain ⟨hf0, hf1⟩ := si2 hm
  subst hf0
  subst hf1
  exact W.iret (v := r_1) hx hb hr (fun t ht hW => ⟨⟨rfl, by rw [ht]; exact hP⟩, hS.F ht⟩) hS.2.2 dX9_cellOf_6
def mX9_facingOf (mi : Nat → Int32) (vnw : Nat → Int32) (x0 : Int32) : Option (Int32 × (Nat → Int32)) := (bo2 (mX9_ofRobot mi vnw x0 (1 : Int32)) (fun r_1 mi_2 => (some (r_1, mi_2))))
set_option maxHeartbeats 4000000 in
set_option maxRecDepth 100000 in
theorem kX9_facingOf (l : Launch) (Γ : my_G) (q_mo q_tt q_nw q_tr q_ot q_di q_kp q_ik q_wy q_ah q_tg q_ws q_fr q_rw : Nat) (mi : Nat → Int32) (vtt : Nat → Int32) (vnw : Nat → Int32) (vtr : Nat → Int32) (vot : Nat → Int32) (vdi : Nat → Int32) (vkp : Nat → Int32) (vik : Nat → Int32) (vwy : Nat → Int32) (vah : Nat → Int32) (vtg : Nat → Int32) (vws : Nat → Int32) (vfr : Nat → Int32) (vrw : Nat → Int32) (x0 : Int32) (rr : Int32) (mi_z : Nat → Int32) (hm : mX9_facingOf mi vnw x0 = (some (rr, mi_z))) : Mn l yX9_facingOf wsX9_facingOf ({ frames := 4, cells := 0, slots := 0, locals := 88 } : Room) Γ [.ref q_mo, .int x0] (wModel Γ q_mo q_tt q_nw q_tr q_ot q_di q_kp q_ik q_wy q_ah q_tg q_ws q_fr q_rw mi vtt vnw vtr vot vdi vkp vik vwy vah vtg vws vfr vrw) (some (.int rr)) (wModel Γ q_mo q_tt q_nw q_tr q_ot q_di q_kp q_ik q_wy q_ah q_tg q_ws q_fr q_rw mi_z vtt vnw vtr vot vdi vkp vik vwy vah vtg vws vfr vrw) := by
  intro sz
  refine Met.ofW (cc := cX9_facingOf) (maxL := 2) (ret := (some .int)) (by decide) rfl ?_
  intro p e s m args below meth c s₁ B hml hv
  obtain ⟨rfl, hsz, hP, hK, hD0⟩ := hv
  have hx := B.exec
  have hb := B.bytes
  have hr := B.returns
  have hts := atoms_spec (ws := wsX9_facingOf) B.pre
  have hown : s.vm.findClass RX9 = some m.cls := findClass_of_methodNamed B.named
  have hlocks := B.notSynchronized
  have hinX9 : ∀ w ∈ u_ws RX9 TX9 19, w ∈ wsX9_facingOf := fun w h => List.mem_cons_of_mem _ (List.mem_append_right _ h)
  subst hsz
  have hD := hD0.self (sz := s.heap.size)
  have hA : ∀ q : Nat, s.heap.size ≤ q → va_A (wModel Γ q_mo q_tt q_nw q_tr q_ot q_di q_kp q_ik q_wy q_ah q_tg q_ws q_fr q_rw mi vtt vnw vtr vot vdi vkp vik vwy vah vtg vws vfr vrw) s.heap.size q := fun q h => Or.inr h
  generalize va_A (wModel Γ q_mo q_tt q_nw q_tr q_ot q_di q_kp q_ik q_wy q_ah q_tg q_ws q_fr q_rw mi vtt vnw vtr vot vdi vkp vik vwy vah vtg vws vfr vrw) s.heap.size = A at hD hA ⊢
  have hS : va_S A s.heap s.heap [] := va_S.rf
  have hl := lv_entry ([.ref q_mo, .int x0]) (n := 2) (Nat.le_of_ble_eq_true rfl)
  rw [lg_entry_eq]
  generalize (lg_sl ([.ref q_mo, .int x0]) ++ List.replicate (2 - (lg_sl ([.ref q_mo, .int x0])).length) Slot.unset).toArray = ls at hl ⊢
  replace hl : lv_has ls 2 [(0, .ref q_mo), (1, .int x0)] := hl
  unfold mX9_facingOf at hm
  refine lv_aload_n hx hb dX9_facingOf_0 rfl (lv_at hl 0 rfl) ?_
  refine lv_iload_n hx hb dX9_facingOf_1 rfl (lv_at hl 1 rfl) ?_
  refine lv_iconst (v := (1 : Int32)) hx hb dX9_facingOf_2 (by decide) ?_
  obtain ⟨r_1, mi_2, hc_3, hm⟩ := bo2_s hm
  refine my_callP1 (wc := (wModel Γ q_mo q_tt q_nw q_tr q_ot q_di q_kp q_ik q_wy q_ah q_tg q_ws q_fr q_rw mi vtt vnw vtr vot vdi vkp vik vwy vah vtg vws vfr vrw)) (w1 := (wModel Γ q_mo q_tt q_nw q_tr q_ot q_di q_kp q_ik q_wy q_ah q_tg q_ws q_fr q_rw mi_2 vtt vnw vtr vot vdi vkp vik vwy vah vtg vws vfr vrw)) (ws1 := (wModel Γ q_mo q_tt q_nw q_tr q_ot q_di q_kp q_ik q_wy q_ah q_tg q_ws q_fr q_rw mi_2 vtt vnw vtr vot vdi vkp vik vwy vah vtg vws vfr vrw)) hP hD hS hA [0, 1, 2, 3, 4, 5, 6, 7, 8, 9, 10, 11, 12, 13] rfl rfl rfl (va_runV (As := [.int x0, .int (1 : Int32)]) (rest := []) ⟨hx, hb, hml, hown, hts⟩ (kX9_ofRobot l Γ q_mo q_tt q_nw q_tr q_ot q_di q_kp q_ik q_wy q_ah q_tg q_ws q_fr q_rw mi vtt vnw vtr vot vdi vkp vik vwy vah vtg vws vfr vrw x0 (1 : Int32) r_1 mi_2 hc_3 _) (cwV 2 hts gX9_facingOf_X9_ofRobot rfl rfl rfl (by decide +kernel) ⟨Nat.le_of_ble_eq_true rfl, Nat.le_of_ble_eq_true rfl⟩) (my_preV (wc := (wModel Γ q_mo q_tt q_nw q_tr q_ot q_di q_kp q_ik q_wy q_ah q_tg q_ws q_fr q_rw mi vtt vnw vtr vot vdi vkp vik vwy vah vtg vws vfr vrw)) (ci := 7) (q0 := 0) [0, 1, 2, 3, 4, 5, 6, 7, 8, 9, 10, 11, 12, 13] hK hP hD rfl rfl rfl rfl) rfl rfl hl.1 rfl (lv_room (Nat.le_of_ble_eq_true rfl)) dX9_facingOf_3 ⟨Nat.le_of_ble_eq_true rfl, Nat.le_of_ble_eq_true rfl⟩) (fun H locs hP hD hS => ?_)
  obtain ⟨hf0, hf1⟩ := si2 hm
  subst hf0
  subst hf1
  exact W.iret (v := r_1) hx hb hr (fun t ht hW => ⟨⟨rfl, by rw [ht]; exact hP⟩, hS.F ht⟩) hS.2.2 dX9_facingOf_6
def mX9_nextOf (mi : Nat → Int32) (vnw : Nat → Int32) (x0 : Int32) : Option (Int32 × (Nat → Int32)) := (bo2 (mX9_ofRobot mi vnw x0 (2 : Int32)) (fun r_1 mi_2 => (some (r_1, mi_2))))
set_option maxHeartbeats 4000000 in
set_option maxRecDepth 100000 in
theorem kX9_nextOf (l : Launch) (Γ : my_G) (q_mo q_tt q_nw q_tr q_ot q_di q_kp q_ik q_wy q_ah q_tg q_ws q_fr q_rw : Nat) (mi : Nat → Int32) (vtt : Nat → Int32) (vnw : Nat → Int32) (vtr : Nat → Int32) (vot : Nat → Int32) (vdi : Nat → Int32) (vkp : Nat → Int32) (vik : Nat → Int32) (vwy : Nat → Int32) (vah : Nat → Int32) (vtg : Nat → Int32) (vws : Nat → Int32) (vfr : Nat → Int32) (vrw : Nat → Int32) (x0 : Int32) (rr : Int32) (mi_z : Nat → Int32) (hm : mX9_nextOf mi vnw x0 = (some (rr, mi_z))) : Mn l yX9_nextOf wsX9_nextOf ({ frames := 4, cells := 0, slots := 0, locals := 88 } : Room) Γ [.ref q_mo, .int x0] (wModel Γ q_mo q_tt q_nw q_tr q_ot q_di q_kp q_ik q_wy q_ah q_tg q_ws q_fr q_rw mi vtt vnw vtr vot vdi vkp vik vwy vah vtg vws vfr vrw) (some (.int rr)) (wModel Γ q_mo q_tt q_nw q_tr q_ot q_di q_kp q_ik q_wy q_ah q_tg q_ws q_fr q_rw mi_z vtt vnw vtr vot vdi vkp vik vwy vah vtg vws vfr vrw) := by
  intro sz
  refine Met.ofW (cc := cX9_nextOf) (maxL := 2) (ret := (some .int)) (by decide) rfl ?_
  intro p e s m args below meth c s₁ B hml hv
  obtain ⟨rfl, hsz, hP, hK, hD0⟩ := hv
  have hx := B.exec
  have hb := B.bytes
  have hr := B.returns
  have hts := atoms_spec (ws := wsX9_nextOf) B.pre
  have hown : s.vm.findClass RX9 = some m.cls := findClass_of_methodNamed B.named
  have hlocks := B.notSynchronized
  have hinX9 : ∀ w ∈ u_ws RX9 TX9 19, w ∈ wsX9_nextOf := fun w h => List.mem_cons_of_mem _ (List.mem_append_right _ h)
  subst hsz
  have hD := hD0.self (sz := s.heap.size)
  have hA : ∀ q : Nat, s.heap.size ≤ q → va_A (wModel Γ q_mo q_tt q_nw q_tr q_ot q_di q_kp q_ik q_wy q_ah q_tg q_ws q_fr q_rw mi vtt vnw vtr vot vdi vkp vik vwy vah vtg vws vfr vrw) s.heap.size q := fun q h => Or.inr h
  generalize va_A (wModel Γ q_mo q_tt q_nw q_tr q_ot q_di q_kp q_ik q_wy q_ah q_tg q_ws q_fr q_rw mi vtt vnw vtr vot vdi vkp vik vwy vah vtg vws vfr vrw) s.heap.size = A at hD hA ⊢
  have hS : va_S A s.heap s.heap [] := va_S.rf
  have hl := lv_entry ([.ref q_mo, .int x0]) (n := 2) (Nat.le_of_ble_eq_true rfl)
  rw [lg_entry_eq]
  generalize (lg_sl ([.ref q_mo, .int x0]) ++ List.replicate (2 - (lg_sl ([.ref q_mo, .int x0])).length) Slot.unset).toArray = ls at hl ⊢
  replace hl : lv_has ls 2 [(0, .ref q_mo), (1, .int x0)] := hl
  unfold mX9_nextOf at hm
  refine lv_aload_n hx hb dX9_nextOf_0 rfl (lv_at hl 0 rfl) ?_
  refine lv_iload_n hx hb dX9_nextOf_1 rfl (lv_at hl 1 rfl) ?_
  refine lv_iconst (v := (2 : Int32)) hx hb dX9_nextOf_2 (by decide) ?_
  obtain ⟨r_1, mi_2, hc_3, hm⟩ := bo2_s hm
  refine my_callP1 (wc := (wModel Γ q_mo q_tt q_nw q_tr q_ot q_di q_kp q_ik q_wy q_ah q_tg q_ws q_fr q_rw mi vtt vnw vtr vot vdi vkp vik vwy vah vtg vws vfr vrw)) (w1 := (wModel Γ q_mo q_tt q_nw q_tr q_ot q_di q_kp q_ik q_wy q_ah q_tg q_ws q_fr q_rw mi_2 vtt vnw vtr vot vdi vkp vik vwy vah vtg vws vfr vrw)) (ws1 := (wModel Γ q_mo q_tt q_nw q_tr q_ot q_di q_kp q_ik q_wy q_ah q_tg q_ws q_fr q_rw mi_2 vtt vnw vtr vot vdi vkp vik vwy vah vtg vws vfr vrw)) hP hD hS hA [0, 1, 2, 3, 4, 5, 6, 7, 8, 9, 10, 11, 12, 13] rfl rfl rfl (va_runV (As := [.int x0, .int (2 : Int32)]) (rest := []) ⟨hx, hb, hml, hown, hts⟩ (kX9_ofRobot l Γ q_mo q_tt q_nw q_tr q_ot q_di q_kp q_ik q_wy q_ah q_tg q_ws q_fr q_rw mi vtt vnw vtr vot vdi vkp vik vwy vah vtg vws vfr vrw x0 (2 : Int32) r_1 mi_2 hc_3 _) (cwV 2 hts gX9_nextOf_X9_ofRobot rfl rfl rfl (by decide +kernel) ⟨Nat.le_of_ble_eq_true rfl, Nat.le_of_ble_eq_true rfl⟩) (my_preV (wc := (wModel Γ q_mo q_tt q_nw q_tr q_ot q_di q_kp q_ik q_wy q_ah q_tg q_ws q_fr q_rw mi vtt vnw vtr vot vdi vkp vik vwy vah vtg vws vfr vrw)) (ci := 7) (q0 := 0) [0, 1, 2, 3, 4, 5, 6, 7, 8, 9, 10, 11, 12, 13] hK hP hD rfl rfl rfl rfl) rfl rfl hl.1 rfl (lv_room (Nat.le_of_ble_eq_true rfl)) dX9_nextOf_3 ⟨Nat.le_of_ble_eq_true rfl, Nat.le_of_ble_eq_true rfl⟩) (fun H locs hP hD hS => ?_)
  obtain ⟨hf0, hf1⟩ := si2 hm
  subst hf0
  subst hf1
  exact W.iret (v := r_1) hx hb hr (fun t ht hW => ⟨⟨rfl, by rw [ht]; exact hP⟩, hS.F ht⟩) hS.2.2 dX9_nextOf_6
def mX9_isHome (mi : Nat → Int32) (vnw : Nat → Int32) (x0 : Int32) : Option (Int32 × (Nat → Int32)) := (bo2 (mX9_noRobot mi x0) (fun r_1 mi_2 => (if r_1 = 0 then (if (vnw (110 : Int32).toNatClampNeg) ≤ 0 then (some ((0 : Int32), mi_2)) else (bo1 (mX9_of vnw x0 (2 : Int32)) (fun r_6 => (if r_6 ≤ (vnw (110 : Int32).toNatClampNeg) then (some ((0 : Int32), mi_2)) else (some ((1 : Int32), mi_2)))))) else (some ((0 : Int32), mi_2)))))
set_option maxHeartbeats 4000000 in
set_option maxRecDepth 100000 in
theorem kX9_isHome (l : Launch) (Γ : my_G) (q_mo q_tt q_nw q_tr q_ot q_di q_kp q_ik q_wy q_ah q_tg q_ws q_fr q_rw : Nat) (mi : Nat → Int32) (vtt : Nat → Int32) (vnw : Nat → Int32) (vtr : Nat → Int32) (vot : Nat → Int32) (vdi : Nat → Int32) (vkp : Nat → Int32) (vik : Nat → Int32) (vwy : Nat → Int32) (vah : Nat → Int32) (vtg : Nat → Int32) (vws : Nat → Int32) (vfr : Nat → Int32) (vrw : Nat → Int32) (x0 : Int32) (rr : Int32) (mi_z : Nat → Int32) (hm : mX9_isHome mi vnw x0 = (some (rr, mi_z))) : Mn l yX9_isHome wsX9_isHome ({ frames := 3, cells := 0, slots := 0, locals := 66 } : Room) Γ [.ref q_mo, .int x0] (wModel Γ q_mo q_tt q_nw q_tr q_ot q_di q_kp q_ik q_wy q_ah q_tg q_ws q_fr q_rw mi vtt vnw vtr vot vdi vkp vik vwy vah vtg vws vfr vrw) (some (.int rr)) (wModel Γ q_mo q_tt q_nw q_tr q_ot q_di q_kp q_ik q_wy q_ah q_tg q_ws q_fr q_rw mi_z vtt vnw vtr vot vdi vkp vik vwy vah vtg vws vfr vrw) := by
  intro sz
  refine Met.ofW (cc := cX9_isHome) (maxL := 2) (ret := (some .boolean)) (by decide) rfl ?_
  intro p e s m args below meth c s₁ B hml hv
  obtain ⟨rfl, hsz, hP, hK, hD0⟩ := hv
  have hx := B.exec
  have hb := B.bytes
  have hr := B.returns
  have hts := atoms_spec (ws := wsX9_isHome) B.pre
  have hown : s.vm.findClass RX9 = some m.cls := findClass_of_methodNamed B.named
  have hlocks := B.notSynchronized
  have hinX9 : ∀ w ∈ u_ws RX9 TX9 19, w ∈ wsX9_isHome := fun w h => List.mem_cons_of_mem _ (List.mem_append_right _ h)
  subst hsz
  have hD := hD0.self (sz := s.heap.size)
  have hA : ∀ q : Nat, s.heap.size ≤ q → va_A (wModel Γ q_mo q_tt q_nw q_tr q_ot q_di q_kp q_ik q_wy q_ah q_tg q_ws q_fr q_rw mi vtt vnw vtr vot vdi vkp vik vwy vah vtg vws vfr vrw) s.heap.size q := fun q h => Or.inr h
  generalize va_A (wModel Γ q_mo q_tt q_nw q_tr q_ot q_di q_kp q_ik q_wy q_ah q_tg q_ws q_fr q_rw mi vtt vnw vtr vot vdi vkp vik vwy vah vtg vws vfr vrw) s.heap.size = A at hD hA ⊢
  have hS : va_S A s.heap s.heap [] := va_S.rf
  have hl := lv_entry ([.ref q_mo, .int x0]) (n := 2) (Nat.le_of_ble_eq_true rfl)
  rw [lg_entry_eq]
  generalize (lg_sl ([.ref q_mo, .int x0]) ++ List.replicate (2 - (lg_sl ([.ref q_mo, .int x0])).length) Slot.unset).toArray = ls at hl ⊢
  replace hl : lv_has ls 2 [(0, .ref q_mo), (1, .int x0)] := hl
  unfold mX9_isHome at hm
  refine lv_aload_n hx hb dX9_isHome_0 rfl (lv_at hl 0 rfl) ?_
  refine lv_iload_n hx hb dX9_isHome_1 rfl (lv_at hl 1 rfl) ?_
  obtain ⟨r_1, mi_2, hc_3, hm⟩ := bo2_s hm
  refine my_callP1 (wc := (wMo Γ q_mo q_tt q_nw q_tr q_ot q_di q_kp q_ik q_wy q_ah q_tg q_ws q_fr q_rw mi)) (w1 := (wMo Γ q_mo q_tt q_nw q_tr q_ot q_di q_kp q_ik q_wy q_ah q_tg q_ws q_fr q_rw mi_2)) (ws1 := (wModel Γ q_mo q_tt q_nw q_tr q_ot q_di q_kp q_ik q_wy q_ah q_tg q_ws q_fr q_rw mi_2 vtt vnw vtr vot vdi vkp vik vwy vah vtg vws vfr vrw)) hP hD hS hA [0] rfl rfl rfl (va_runV (As := [.int x0]) (rest := []) ⟨hx, hb, hml, hown, hts⟩ (kX9_noRobot l Γ q_mo q_tt q_nw q_tr q_ot q_di q_kp q_ik q_wy q_ah q_tg q_ws q_fr q_rw mi x0 r_1 mi_2 hc_3 _) (cwV 1 hts gX9_isHome_X9_noRobot rfl rfl rfl (by decide +kernel) ⟨Nat.le_of_ble_eq_true rfl, Nat.le_of_ble_eq_true rfl⟩) (my_preV (wc := (wMo Γ q_mo q_tt q_nw q_tr q_ot q_di q_kp q_ik q_wy q_ah q_tg q_ws q_fr q_rw mi)) (ci := 7) (q0 := 0) [0] hK hP hD rfl rfl rfl rfl) rfl rfl hl.1 rfl (lv_room (Nat.le_of_ble_eq_true rfl)) dX9_isHome_2 ⟨Nat.le_of_ble_eq_true rfl, Nat.le_of_ble_eq_true rfl⟩) (fun H locs hP hD hS => ?_)
  refine lv_if_ne (tgt := 41) hx hb dX9_isHome_5 (by decide) (fun c_4 => ?_) (fun c_4 => ?_)
  · replace hm := if_f hm c_4
    refine lv_iconst (v := (0 : Int32)) hx hb dX9_isHome_41 (by decide) ?_
    obtain ⟨hf0, hf1⟩ := si2 hm
    subst hf0
    subst hf1
    exact W.zret (v := (0 : Int32)) hx hb hr rfl (fun t ht hW => ⟨⟨rfl, by rw [ht]; exact hP⟩, hS.F ht⟩) hS.2.2 dX9_isHome_42
  · replace hm := if_s hm c_4
    refine lv_aload_n hx hb dX9_isHome_8 rfl (lv_at hl 0 rfl) ?_
    refine va_get (D := my_D Γ) (ci := 7) (v := .ref q_nw) (C := RX9) (T := TX9) (N := 19) hx hb hts hinX9 hown hK hP 0 rfl rfl 3 (by decide) (hts (.fieldLink RX9 13 "BeltFloorModel" "now" "[I") (List.mem_of_getElem? (i := 1) rfl)) (fun _ h9 => h9) rfl dX9_isHome_9 ?_
    refine lv_bipush (v := (110 : Int32)) hx hb dX9_isHome_12 (by decide) ?_
    refine va_iald hx hb hK hP 2 0 rfl rfl (show vp_in (110 : Int32) 117 from (by decide : ¬ ((110 : Int32) < 0 ∨ 117 ≤ (110 : Int32).toNatClampNeg))) dX9_isHome_14 ?_
    refine lv_if_le (tgt := 41) hx hb dX9_isHome_15 (by decide) (fun c_5 => ?_) (fun c_5 => ?_)
    · replace hm := if_s hm c_5
      refine lv_iconst (v := (0 : Int32)) hx hb dX9_isHome_41 (by decide) ?_
      obtain ⟨hf0, hf1⟩ := si2 hm
      subst hf0
      subst hf1
      exact W.zret (v := (0 : Int32)) hx hb hr rfl (fun t ht hW => ⟨⟨rfl, by rw [ht]; exact hP⟩, hS.F ht⟩) hS.2.2 dX9_isHome_42
    · replace hm := if_f hm c_5
      refine lv_aload_n hx hb dX9_isHome_18 rfl (lv_at hl 0 rfl) ?_
      refine va_get (D := my_D Γ) (ci := 7) (v := .ref q_nw) (C := RX9) (T := TX9) (N := 19) hx hb hts hinX9 hown hK hP 0 rfl rfl 3 (by decide) (hts (.fieldLink RX9 13 "BeltFloorModel" "now" "[I") (List.mem_of_getElem? (i := 1) rfl)) (fun _ h9 => h9) rfl dX9_isHome_19 ?_
      refine lv_iload_n hx hb dX9_isHome_22 rfl (lv_at hl 1 rfl) ?_
      refine lv_iconst (v := (2 : Int32)) hx hb dX9_isHome_23 (by decide) ?_
      obtain ⟨r_6, hc_7, hm⟩ := bo1_s hm
      refine my_callP1 (wc := (wArr117 Γ q_nw vnw)) (w1 := (wArr117 Γ q_nw vnw)) (ws1 := (wModel Γ q_mo q_tt q_nw q_tr q_ot q_di q_kp q_ik q_wy q_ah q_tg q_ws q_fr q_rw mi_2 vtt vnw vtr vot vdi vkp vik vwy vah vtg vws vfr vrw)) hP hD hS hA [2] rfl rfl rfl (va_runS (As := [.ref q_nw, .int x0, .int (2 : Int32)]) (rest := []) ⟨hx, hb, hml, hown, hts⟩ (kX9_of l Γ q_nw vnw x0 (2 : Int32) r_6 hc_7 _) (va_cwS 3 hts gX9_isHome_X9_of rfl rfl rfl (by decide +kernel) ⟨Nat.le_of_ble_eq_true rfl, Nat.le_of_ble_eq_true rfl⟩) (my_preS (wc := (wArr117 Γ q_nw vnw)) [2] hK hP hD rfl rfl) rfl rfl hl.1 rfl (lv_room (Nat.le_of_ble_eq_true rfl)) dX9_isHome_24 ⟨Nat.le_of_ble_eq_true rfl, Nat.le_of_ble_eq_true rfl⟩) (fun H locs hP hD hS => ?_)
      refine lv_aload_n hx hb dX9_isHome_27 rfl (lv_at hl 0 rfl) ?_
      refine va_get (D := my_D Γ) (ci := 7) (v := .ref q_nw) (C := RX9) (T := TX9) (N := 19) hx hb hts hinX9 hown hK hP 0 rfl rfl 3 (by decide) (hts (.fieldLink RX9 13 "BeltFloorModel" "now" "[I") (List.mem_of_getElem? (i := 1) rfl)) (fun _ h9 => h9) rfl dX9_isHome_28 ?_
      refine lv_bipush (v := (110 : Int32)) hx hb dX9_isHome_31 (by decide) ?_
      refine va_iald hx hb hK hP 2 0 rfl rfl (show vp_in (110 : Int32) 117 from (by decide : ¬ ((110 : Int32) < 0 ∨ 117 ≤ (110 : Int32).toNatClampNeg))) dX9_isHome_33 ?_
      refine lv_icmp_le (tgt := 41) hx hb dX9_isHome_34 (by decide) (fun c_8 => ?_) (fun c_8 => ?_)
      · replace hm := if_s hm c_8
        refine lv_iconst (v := (0 : Int32)) hx hb dX9_isHome_41 (by decide) ?_
        obtain ⟨hf0, hf1⟩ := si2 hm
        subst hf0
        subst hf1
        exact W.zret (v := (0 : Int32)) hx hb hr rfl (fun t ht hW => ⟨⟨rfl, by rw [ht]; exact hP⟩, hS.F ht⟩) hS.2.2 dX9_isHome_42
      · replace hm := if_f hm c_8
        refine lv_iconst (v := (1 : Int32)) hx hb dX9_isHome_37 (by decide) ?_
        refine lv_goto (tgt := 42) hx hb dX9_isHome_38 (by decide) ?_
        obtain ⟨hf0, hf1⟩ := si2 hm
        subst hf0
        subst hf1
        exact W.zret (v := (1 : Int32)) hx hb hr rfl (fun t ht hW => ⟨⟨rfl, by rw [ht]; exact hP⟩, hS.F ht⟩) hS.2.2 dX9_isHome_42
def mX9_movesOf (mi : Nat → Int32) (vnw : Nat → Int32) (x0 : Int32) : Option (Int32 × (Nat → Int32)) := (bo2 (mX9_ofRobot mi vnw x0 (3 : Int32)) (fun r_1 mi_2 => (some (r_1, mi_2))))
set_option maxHeartbeats 4000000 in
set_option maxRecDepth 100000 in
theorem kX9_movesOf (l : Launch) (Γ : my_G) (q_mo q_tt q_nw q_tr q_ot q_di q_kp q_ik q_wy q_ah q_tg q_ws q_fr q_rw : Nat) (mi : Nat → Int32) (vtt : Nat → Int32) (vnw : Nat → Int32) (vtr : Nat → Int32) (vot : Nat → Int32) (vdi : Nat → Int32) (vkp : Nat → Int32) (vik : Nat → Int32) (vwy : Nat → Int32) (vah : Nat → Int32) (vtg : Nat → Int32) (vws : Nat → Int32) (vfr : Nat → Int32) (vrw : Nat → Int32) (x0 : Int32) (rr : Int32) (mi_z : Nat → Int32) (hm : mX9_movesOf mi vnw x0 = (some (rr, mi_z))) : Mn l yX9_movesOf wsX9_movesOf ({ frames := 4, cells := 0, slots := 0, locals := 88 } : Room) Γ [.ref q_mo, .int x0] (wModel Γ q_mo q_tt q_nw q_tr q_ot q_di q_kp q_ik q_wy q_ah q_tg q_ws q_fr q_rw mi vtt vnw vtr vot vdi vkp vik vwy vah vtg vws vfr vrw) (some (.int rr)) (wModel Γ q_mo q_tt q_nw q_tr q_ot q_di q_kp q_ik q_wy q_ah q_tg q_ws q_fr q_rw mi_z vtt vnw vtr vot vdi vkp vik vwy vah vtg vws vfr vrw) := by
  intro sz
  refine Met.ofW (cc := cX9_movesOf) (maxL := 2) (ret := (some .int)) (by decide) rfl ?_
  intro p e s m args below meth c s₁ B hml hv
  obtain ⟨rfl, hsz, hP, hK, hD0⟩ := hv
  have hx := B.exec
  have hb := B.bytes
  have hr := B.returns
  have hts := atoms_spec (ws := wsX9_movesOf) B.pre
  have hown : s.vm.findClass RX9 = some m.cls := findClass_of_methodNamed B.named
  have hlocks := B.notSynchronized
  have hinX9 : ∀ w ∈ u_ws RX9 TX9 19, w ∈ wsX9_movesOf := fun w h => List.mem_cons_of_mem _ (List.mem_append_right _ h)
  subst hsz
  have hD := hD0.self (sz := s.heap.size)
  have hA : ∀ q : Nat, s.heap.size ≤ q → va_A (wModel Γ q_mo q_tt q_nw q_tr q_ot q_di q_kp q_ik q_wy q_ah q_tg q_ws q_fr q_rw mi vtt vnw vtr vot vdi vkp vik vwy vah vtg vws vfr vrw) s.heap.size q := fun q h => Or.inr h
  generalize va_A (wModel Γ q_mo q_tt q_nw q_tr q_ot q_di q_kp q_ik q_wy q_ah q_tg q_ws q_fr q_rw mi vtt vnw vtr vot vdi vkp vik vwy vah vtg vws vfr vrw) s.heap.size = A at hD hA ⊢
  have hS : va_S A s.heap s.heap [] := va_S.rf
  have hl := lv_entry ([.ref q_mo, .int x0]) (n := 2) (Nat.le_of_ble_eq_true rfl)
  rw [lg_entry_eq]
  generalize (lg_sl ([.ref q_mo, .int x0]) ++ List.replicate (2 - (lg_sl ([.ref q_mo, .int x0])).length) Slot.unset).toArray = ls at hl ⊢
  replace hl : lv_has ls 2 [(0, .ref q_mo), (1, .int x0)] := hl
  unfold mX9_movesOf at hm
  refine lv_aload_n hx hb dX9_movesOf_0 rfl (lv_at hl 0 rfl) ?_
  refine lv_iload_n hx hb dX9_movesOf_1 rfl (lv_at hl 1 rfl) ?_
  refine lv_iconst (v := (3 : Int32)) hx hb dX9_movesOf_2 (by decide) ?_
  obtain ⟨r_1, mi_2, hc_3, hm⟩ := bo2_s hm
  refine my_callP1 (wc := (wModel Γ q_mo q_tt q_nw q_tr q_ot q_di q_kp q_ik q_wy q_ah q_tg q_ws q_fr q_rw mi vtt vnw vtr vot vdi vkp vik vwy vah vtg vws vfr vrw)) (w1 := (wModel Γ q_mo q_tt q_nw q_tr q_ot q_di q_kp q_ik q_wy q_ah q_tg q_ws q_fr q_rw mi_2 vtt vnw vtr vot vdi vkp vik vwy vah vtg vws vfr vrw)) (ws1 := (wModel Γ q_mo q_tt q_nw q_tr q_ot q_di q_kp q_ik q_wy q_ah q_tg q_ws q_fr q_rw mi_2 vtt vnw vtr vot vdi vkp vik vwy vah vtg vws vfr vrw)) hP hD hS hA [0, 1, 2, 3, 4, 5, 6, 7, 8, 9, 10, 11, 12, 13] rfl rfl rfl (va_runV (As := [.int x0, .int (3 : Int32)]) (rest := []) ⟨hx, hb, hml, hown, hts⟩ (kX9_ofRobot l Γ q_mo q_tt q_nw q_tr q_ot q_di q_kp q_ik q_wy q_ah q_tg q_ws q_fr q_rw mi vtt vnw vtr vot vdi vkp vik vwy vah vtg vws vfr vrw x0 (3 : Int32) r_1 mi_2 hc_3 _) (cwV 2 hts gX9_movesOf_X9_ofRobot rfl rfl rfl (by decide +kernel) ⟨Nat.le_of_ble_eq_true rfl, Nat.le_of_ble_eq_true rfl⟩) (my_preV (wc := (wModel Γ q_mo q_tt q_nw q_tr q_ot q_di q_kp q_ik q_wy q_ah q_tg q_ws q_fr q_rw mi vtt vnw vtr vot vdi vkp vik vwy vah vtg vws vfr vrw)) (ci := 7) (q0 := 0) [0, 1, 2, 3, 4, 5, 6, 7, 8, 9, 10, 11, 12, 13] hK hP hD rfl rfl rfl rfl) rfl rfl hl.1 rfl (lv_room (Nat.le_of_ble_eq_true rfl)) dX9_movesOf_3 ⟨Nat.le_of_ble_eq_true rfl, Nat.le_of_ble_eq_true rfl⟩) (fun H locs hP hD hS => ?_)
  obtain ⟨hf0, hf1⟩ := si2 hm
  subst hf0
  subst hf1
  exact W.iret (v := r_1) hx hb hr (fun t ht hW => ⟨⟨rfl, by rw [ht]; exact hP⟩, hS.F ht⟩) hS.2.2 dX9_movesOf_6
def mX9_bumpsOf (mi : Nat → Int32) (vnw : Nat → Int32) (x0 : Int32) : Option (Int32 × (Nat → Int32)) := (bo2 (mX9_ofRobot mi vnw x0 (4 : Int32)) (fun r_1 mi_2 => (some (r_1, mi_2))))
set_option maxHeartbeats 4000000 in
set_option maxRecDepth 100000 in
theorem kX9_bumpsOf (l : Launch) (Γ : my_G) (q_mo q_tt q_nw q_tr q_ot q_di q_kp q_ik q_wy q_ah q_tg q_ws q_fr q_rw : Nat) (mi : Nat → Int32) (vtt : Nat → Int32) (vnw : Nat → Int32) (vtr : Nat → Int32) (vot : Nat → Int32) (vdi : Nat → Int32) (vkp : Nat → Int32) (vik : Nat → Int32) (vwy : Nat → Int32) (vah : Nat → Int32) (vtg : Nat → Int32) (vws : Nat → Int32) (vfr : Nat → Int32) (vrw : Nat → Int32) (x0 : Int32) (rr : Int32) (mi_z : Nat → Int32) (hm : mX9_bumpsOf mi vnw x0 = (some (rr, mi_z))) : Mn l yX9_bumpsOf wsX9_bumpsOf ({ frames := 4, cells := 0, slots := 0, locals := 88 } : Room) Γ [.ref q_mo, .int x0] (wModel Γ q_mo q_tt q_nw q_tr q_ot q_di q_kp q_ik q_wy q_ah q_tg q_ws q_fr q_rw mi vtt vnw vtr vot vdi vkp vik vwy vah vtg vws vfr vrw) (some (.int rr)) (wModel Γ q_mo q_tt q_nw q_tr q_ot q_di q_kp q_ik q_wy q_ah q_tg q_ws q_fr q_rw mi_z vtt vnw vtr vot vdi vkp vik vwy vah vtg vws vfr vrw) := by
  intro sz
  refine Met.ofW (cc := cX9_bumpsOf) (maxL := 2) (ret := (some .int)) (by decide) rfl ?_
  intro p e s m args below meth c s₁ B hml hv
  obtain ⟨rfl, hsz, hP, hK, hD0⟩ := hv
  have hx := B.exec
  have hb := B.bytes
  have hr := B.returns
  have hts := atoms_spec (ws := wsX9_bumpsOf) B.pre
  have hown : s.vm.findClass RX9 = some m.cls := findClass_of_methodNamed B.named
  have hlocks := B.notSynchronized
  have hinX9 : ∀ w ∈ u_ws RX9 TX9 19, w ∈ wsX9_bumpsOf := fun w h => List.mem_cons_of_mem _ (List.mem_append_right _ h)
  subst hsz
  have hD := hD0.self (sz := s.heap.size)
  have hA : ∀ q : Nat, s.heap.size ≤ q → va_A (wModel Γ q_mo q_tt q_nw q_tr q_ot q_di q_kp q_ik q_wy q_ah q_tg q_ws q_fr q_rw mi vtt vnw vtr vot vdi vkp vik vwy vah vtg vws vfr vrw) s.heap.size q := fun q h => Or.inr h
  generalize va_A (wModel Γ q_mo q_tt q_nw q_tr q_ot q_di q_kp q_ik q_wy q_ah q_tg q_ws q_fr q_rw mi vtt vnw vtr vot vdi vkp vik vwy vah vtg vws vfr vrw) s.heap.size = A at hD hA ⊢
  have hS : va_S A s.heap s.heap [] := va_S.rf
  have hl := lv_entry ([.ref q_mo, .int x0]) (n := 2) (Nat.le_of_ble_eq_true rfl)
  rw [lg_entry_eq]
  generalize (lg_sl ([.ref q_mo, .int x0]) ++ List.replicate (2 - (lg_sl ([.ref q_mo, .int x0])).length) Slot.unset).toArray = ls at hl ⊢
  replace hl : lv_has ls 2 [(0, .ref q_mo), (1, .int x0)] := hl
  unfold mX9_bumpsOf at hm
  refine lv_aload_n hx hb dX9_bumpsOf_0 rfl (lv_at hl 0 rfl) ?_
  refine lv_iload_n hx hb dX9_bumpsOf_1 rfl (lv_at hl 1 rfl) ?_
  refine lv_iconst (v := (4 : Int32)) hx hb dX9_bumpsOf_2 (by decide) ?_
  obtain ⟨r_1, mi_2, hc_3, hm⟩ := bo2_s hm
  refine my_callP1 (wc := (wModel Γ q_mo q_tt q_nw q_tr q_ot q_di q_kp q_ik q_wy q_ah q_tg q_ws q_fr q_rw mi vtt vnw vtr vot vdi vkp vik vwy vah vtg vws vfr vrw)) (w1 := (wModel Γ q_mo q_tt q_nw q_tr q_ot q_di q_kp q_ik q_wy q_ah q_tg q_ws q_fr q_rw mi_2 vtt vnw vtr vot vdi vkp vik vwy vah vtg vws vfr vrw)) (ws1 := (wModel Γ q_mo q_tt q_nw q_tr q_ot q_di q_kp q_ik q_wy q_ah q_tg q_ws q_fr q_rw mi_2 vtt vnw vtr vot vdi vkp vik vwy vah vtg vws vfr vrw)) hP hD hS hA [0, 1, 2, 3, 4, 5, 6, 7, 8, 9, 10, 11, 12, 13] rfl rfl rfl (va_runV (As := [.int x0, .int (4 : Int32)]) (rest := []) ⟨hx, hb, hml, hown, hts⟩ (kX9_ofRobot l Γ q_mo q_tt q_nw q_tr q_ot q_di q_kp q_ik q_wy q_ah q_tg q_ws q_fr q_rw mi vtt vnw vtr vot vdi vkp vik vwy vah vtg vws vfr vrw x0 (4 : Int32) r_1 mi_2 hc_3 _) (cwV 2 hts gX9_bumpsOf_X9_ofRobot rfl rfl rfl (by decide +kernel) ⟨Nat.le_of_ble_eq_true rfl, Nat.le_of_ble_eq_true rfl⟩) (my_preV (wc := (wModel Γ q_mo q_tt q_nw q_tr q_ot q_di q_kp q_ik q_wy q_ah q_tg q_ws q_fr q_rw mi vtt vnw vtr vot vdi vkp vik vwy vah vtg vws vfr vrw)) (ci := 7) (q0 := 0) [0, 1, 2, 3, 4, 5, 6, 7, 8, 9, 10, 11, 12, 13] hK hP hD rfl rfl rfl rfl) rfl rfl hl.1 rfl (lv_room (Nat.le_of_ble_eq_true rfl)) dX9_bumpsOf_3 ⟨Nat.le_of_ble_eq_true rfl, Nat.le_of_ble_eq_true rfl⟩) (fun H locs hP hD hS => ?_)
  obtain ⟨hf0, hf1⟩ := si2 hm
  subst hf0
  subst hf1
  exact W.iret (v := r_1) hx hb hr (fun t ht hW => ⟨⟨rfl, by rw [ht]; exact hP⟩, hS.F ht⟩) hS.2.2 dX9_bumpsOf_6
def mX9_pushesOf (mi : Nat → Int32) (vnw : Nat → Int32) (x0 : Int32) : Option (Int32 × (Nat → Int32)) := (bo2 (mX9_ofRobot mi vnw x0 (5 : Int32)) (fun r_1 mi_2 => (some (r_1, mi_2))))
set_option maxHeartbeats 4000000 in
set_option maxRecDepth 100000 in
theorem kX9_pushesOf (l : Launch) (Γ : my_G) (q_mo q_tt q_nw q_tr q_ot q_di q_kp q_ik q_wy q_ah q_tg q_ws q_fr q_rw : Nat) (mi : Nat → Int32) (vtt : Nat → Int32) (vnw : Nat → Int32) (vtr : Nat → Int32) (vot : Nat → Int32) (vdi : Nat → Int32) (vkp : Nat → Int32) (vik : Nat → Int32) (vwy : Nat → Int32) (vah : Nat → Int32) (vtg : Nat → Int32) (vws : Nat → Int32) (vfr : Nat → Int32) (vrw : Nat → Int32) (x0 : Int32) (rr : Int32) (mi_z : Nat → Int32) (hm : mX9_pushesOf mi vnw x0 = (some (rr, mi_z))) : Mn l yX9_pushesOf wsX9_pushesOf ({ frames := 4, cells := 0, slots := 0, locals := 88 } : Room) Γ [.ref q_mo, .int x0] (wModel Γ q_mo q_tt q_nw q_tr q_ot q_di q_kp q_ik q_wy q_ah q_tg q_ws q_fr q_rw mi vtt vnw vtr vot vdi vkp vik vwy vah vtg vws vfr vrw) (some (.int rr)) (wModel Γ q_mo q_tt q_nw q_tr q_ot q_di q_kp q_ik q_wy q_ah q_tg q_ws q_fr q_rw mi_z vtt vnw vtr vot vdi vkp vik vwy vah vtg vws vfr vrw) := by
  intro sz
  refine Met.ofW (cc := cX9_pushesOf) (maxL := 2) (ret := (some .int)) (by decide) rfl ?_
  intro p e s m args below meth c s₁ B hml hv
  obtain ⟨rfl, hsz, hP, hK, hD0⟩ := hv
  have hx := B.exec
  have hb := B.bytes
  have hr := B.returns
  have hts := atoms_spec (ws := wsX9_pushesOf) B.pre
  have hown : s.vm.findClass RX9 = some m.cls := findClass_of_methodNamed B.named
  have hlocks := B.notSynchronized
  have hinX9 : ∀ w ∈ u_ws RX9 TX9 19, w ∈ wsX9_pushesOf := fun w h => List.mem_cons_of_mem _ (List.mem_append_right _ h)
  subst hsz
  have hD := hD0.self (sz := s.heap.size)
  have hA : ∀ q : Nat, s.heap.size ≤ q → va_A (wModel Γ q_mo q_tt q_nw q_tr q_ot q_di q_kp q_ik q_wy q_ah q_tg q_ws q_fr q_rw mi vtt vnw vtr vot vdi vkp vik vwy vah vtg vws vfr vrw) s.heap.size q := fun q h => Or.inr h
  generalize va_A (wModel Γ q_mo q_tt q_nw q_tr q_ot q_di q_kp q_ik q_wy q_ah q_tg q_ws q_fr q_rw mi vtt vnw vtr vot vdi vkp vik vwy vah vtg vws vfr vrw) s.heap.size = A at hD hA ⊢
  have hS : va_S A s.heap s.heap [] := va_S.rf
  have hl := lv_entry ([.ref q_mo, .int x0]) (n := 2) (Nat.le_of_ble_eq_true rfl)
  rw [lg_entry_eq]
  generalize (lg_sl ([.ref q_mo, .int x0]) ++ List.replicate (2 - (lg_sl ([.ref q_mo, .int x0])).length) Slot.unset).toArray = ls at hl ⊢
  replace hl : lv_has ls 2 [(0, .ref q_mo), (1, .int x0)] := hl
  unfold mX9_pushesOf at hm
  refine lv_aload_n hx hb dX9_pushesOf_0 rfl (lv_at hl 0 rfl) ?_
  refine lv_iload_n hx hb dX9_pushesOf_1 rfl (lv_at hl 1 rfl) ?_
  refine lv_iconst (v := (5 : Int32)) hx hb dX9_pushesOf_2 (by decide) ?_
  obtain ⟨r_1, mi_2, hc_3, hm⟩ := bo2_s hm
  refine my_callP1 (wc := (wModel Γ q_mo q_tt q_nw q_tr q_ot q_di q_kp q_ik q_wy q_ah q_tg q_ws q_fr q_rw mi vtt vnw vtr vot vdi vkp vik vwy vah vtg vws vfr vrw)) (w1 := (wModel Γ q_mo q_tt q_nw q_tr q_ot q_di q_kp q_ik q_wy q_ah q_tg q_ws q_fr q_rw mi_2 vtt vnw vtr vot vdi vkp vik vwy vah vtg vws vfr vrw)) (ws1 := (wModel Γ q_mo q_tt q_nw q_tr q_ot q_di q_kp q_ik q_wy q_ah q_tg q_ws q_fr q_rw mi_2 vtt vnw vtr vot vdi vkp vik vwy vah vtg vws vfr vrw)) hP hD hS hA [0, 1, 2, 3, 4, 5, 6, 7, 8, 9, 10, 11, 12, 13] rfl rfl rfl (va_runV (As := [.int x0, .int (5 : Int32)]) (rest := []) ⟨hx, hb, hml, hown, hts⟩ (kX9_ofRobot l Γ q_mo q_tt q_nw q_tr q_ot q_di q_kp q_ik q_wy q_ah q_tg q_ws q_fr q_rw mi vtt vnw vtr vot vdi vkp vik vwy vah vtg vws vfr vrw x0 (5 : Int32) r_1 mi_2 hc_3 _) (cwV 2 hts gX9_pushesOf_X9_ofRobot rfl rfl rfl (by decide +kernel) ⟨Nat.le_of_ble_eq_true rfl, Nat.le_of_ble_eq_true rfl⟩) (my_preV (wc := (wModel Γ q_mo q_tt q_nw q_tr q_ot q_di q_kp q_ik q_wy q_ah q_tg q_ws q_fr q_rw mi vtt vnw vtr vot vdi vkp vik vwy vah vtg vws vfr vrw)) (ci := 7) (q0 := 0) [0, 1, 2, 3, 4, 5, 6, 7, 8, 9, 10, 11, 12, 13] hK hP hD rfl rfl rfl rfl) rfl rfl hl.1 rfl (lv_room (Nat.le_of_ble_eq_true rfl)) dX9_pushesOf_3 ⟨Nat.le_of_ble_eq_true rfl, Nat.le_of_ble_eq_true rfl⟩) (fun H locs hP hD hS => ?_)
  obtain ⟨hf0, hf1⟩ := si2 hm
  subst hf0
  subst hf1
  exact W.iret (v := r_1) hx hb hr (fun t ht hW => ⟨⟨rfl, by rw [ht]; exact hP⟩, hS.F ht⟩) hS.2.2 dX9_pushesOf_6
def mX9_fallsOf (mi : Nat → Int32) (vnw : Nat → Int32) (x0 : Int32) : Option (Int32 × (Nat → Int32)) := (bo2 (mX9_ofRobot mi vnw x0 (6 : Int32)) (fun r_1 mi_2 => (some (r_1, mi_2))))
set_option maxHeartbeats 4000000 in
set_option maxRecDepth 100000 in
theorem kX9_fallsOf (l : Launch) (Γ : my_G) (q_mo q_tt q_nw q_tr q_ot q_di q_kp q_ik q_wy q_ah q_tg q_ws q_fr q_rw : Nat) (mi : Nat → Int32) (vtt : Nat → Int32) (vnw : Nat → Int32) (vtr : Nat → Int32) (vot : Nat → Int32) (vdi : Nat → Int32) (vkp : Nat → Int32) (vik : Nat → Int32) (vwy : Nat → Int32) (vah : Nat → Int32) (vtg : Nat → Int32) (vws : Nat → Int32) (vfr : Nat → Int32) (vrw : Nat → Int32) (x0 : Int32) (rr : Int32) (mi_z : Nat → Int32) (hm : mX9_fallsOf mi vnw x0 = (some (rr, mi_z))) : Mn l yX9_fallsOf wsX9_fallsOf ({ frames := 4, cells := 0, slots := 0, locals := 88 } : Room) Γ [.ref q_mo, .int x0] (wModel Γ q_mo q_tt q_nw q_tr q_ot q_di q_kp q_ik q_wy q_ah q_tg q_ws q_fr q_rw mi vtt vnw vtr vot vdi vkp vik vwy vah vtg vws vfr vrw) (some (.int rr)) (wModel Γ q_mo q_tt q_nw q_tr q_ot q_di q_kp q_ik q_wy q_ah q_tg q_ws q_fr q_rw mi_z vtt vnw vtr vot vdi vkp vik vwy vah vtg vws vfr vrw) := by
  intro sz
  refine Met.ofW (cc := cX9_fallsOf) (maxL := 2) (ret := (some .int)) (by decide) rfl ?_
  intro p e s m args below meth c s₁ B hml hv
  obtain ⟨rfl, hsz, hP, hK, hD0⟩ := hv
  have hx := B.exec
  have hb := B.bytes
  have hr := B.returns
  have hts := atoms_spec (ws := wsX9_fallsOf) B.pre
  have hown : s.vm.findClass RX9 = some m.cls := findClass_of_methodNamed B.named
  have hlocks := B.notSynchronized
  have hinX9 : ∀ w ∈ u_ws RX9 TX9 19, w ∈ wsX9_fallsOf := fun w h => List.mem_cons_of_mem _ (List.mem_append_right _ h)
  subst hsz
  have hD := hD0.self (sz := s.heap.size)
  have hA : ∀ q : Nat, s.heap.size ≤ q → va_A (wModel Γ q_mo q_tt q_nw q_tr q_ot q_di q_kp q_ik q_wy q_ah q_tg q_ws q_fr q_rw mi vtt vnw vtr vot vdi vkp vik vwy vah vtg vws vfr vrw) s.heap.size q := fun q h => Or.inr h
  generalize va_A (wModel Γ q_mo q_tt q_nw q_tr q_ot q_di q_kp q_ik q_wy q_ah q_tg q_ws q_fr q_rw mi vtt vnw vtr vot vdi vkp vik vwy vah vtg vws vfr vrw) s.heap.size = A at hD hA ⊢
  have hS : va_S A s.heap s.heap [] := va_S.rf
  have hl := lv_entry ([.ref q_mo, .int x0]) (n := 2) (Nat.le_of_ble_eq_true rfl)
  rw [lg_entry_eq]
  generalize (lg_sl ([.ref q_mo, .int x0]) ++ List.replicate (2 - (lg_sl ([.ref q_mo, .int x0])).length) Slot.unset).toArray = ls at hl ⊢
  replace hl : lv_has ls 2 [(0, .ref q_mo), (1, .int x0)] := hl
  unfold mX9_fallsOf at hm
  refine lv_aload_n hx hb dX9_fallsOf_0 rfl (lv_at hl 0 rfl) ?_
  refine lv_iload_n hx hb dX9_fallsOf_1 rfl (lv_at hl 1 rfl) ?_
  refine lv_bipush (v := (6 : Int32)) hx hb dX9_fallsOf_2 (by decide) ?_
  obtain ⟨r_1, mi_2, hc_3, hm⟩ := bo2_s hm
  refine my_callP1 (wc := (wModel Γ q_mo q_tt q_nw q_tr q_ot q_di q_kp q_ik q_wy q_ah q_tg q_ws q_fr q_rw mi vtt vnw vtr vot vdi vkp vik vwy vah vtg vws vfr vrw)) (w1 := (wModel Γ q_mo q_tt q_nw q_tr q_ot q_di q_kp q_ik q_wy q_ah q_tg q_ws q_fr q_rw mi_2 vtt vnw vtr vot vdi vkp vik vwy vah vtg vws vfr vrw)) (ws1 := (wModel Γ q_mo q_tt q_nw q_tr q_ot q_di q_kp q_ik q_wy q_ah q_tg q_ws q_fr q_rw mi_2 vtt vnw vtr vot vdi vkp vik vwy vah vtg vws vfr vrw)) hP hD hS hA [0, 1, 2, 3, 4, 5, 6, 7, 8, 9, 10, 11, 12, 13] rfl rfl rfl (va_runV (As := [.int x0, .int (6 : Int32)]) (rest := []) ⟨hx, hb, hml, hown, hts⟩ (kX9_ofRobot l Γ q_mo q_tt q_nw q_tr q_ot q_di q_kp q_ik q_wy q_ah q_tg q_ws q_fr q_rw mi vtt vnw vtr vot vdi vkp vik vwy vah vtg vws vfr vrw x0 (6 : Int32) r_1 mi_2 hc_3 _) (cwV 2 hts gX9_fallsOf_X9_ofRobot rfl rfl rfl (by decide +kernel) ⟨Nat.le_of_ble_eq_true rfl, Nat.le_of_ble_eq_true rfl⟩) (my_preV (wc := (wModel Γ q_mo q_tt q_nw q_tr q_ot q_di q_kp q_ik q_wy q_ah q_tg q_ws q_fr q_rw mi vtt vnw vtr vot vdi vkp vik vwy vah vtg vws vfr vrw)) (ci := 7) (q0 := 0) [0, 1, 2, 3, 4, 5, 6, 7, 8, 9, 10, 11, 12, 13] hK hP hD rfl rfl rfl rfl) rfl rfl hl.1 rfl (lv_room (Nat.le_of_ble_eq_true rfl)) dX9_fallsOf_4 ⟨Nat.le_of_ble_eq_true rfl, Nat.le_of_ble_eq_true rfl⟩) (fun H locs hP hD hS => ?_)
  obtain ⟨hf0, hf1⟩ := si2 hm
  subst hf0
  subst hf1
  exact W.iret (v := r_1) hx hb hr (fun t ht hW => ⟨⟨rfl, by rw [ht]; exact hP⟩, hS.F ht⟩) hS.2.2 dX9_fallsOf_7
def mX9_steps (mi : Nat → Int32) (vnw : Nat → Int32) : Int32 × (Nat → Int32) := (bt2 (mX9_told mi (vnw (116 : Int32).toNatClampNeg)) (fun r_1 mi_2 => (r_1, mi_2)))
set_option maxHeartbeats 4000000 in
set_option maxRecDepth 100000 in
theorem kX9_steps (l : Launch) (Γ : my_G) (q_mo q_tt q_nw q_tr q_ot q_di q_kp q_ik q_wy q_ah q_tg q_ws q_fr q_rw : Nat) (mi : Nat → Int32) (vtt : Nat → Int32) (vnw : Nat → Int32) (vtr : Nat → Int32) (vot : Nat → Int32) (vdi : Nat → Int32) (vkp : Nat → Int32) (vik : Nat → Int32) (vwy : Nat → Int32) (vah : Nat → Int32) (vtg : Nat → Int32) (vws : Nat → Int32) (vfr : Nat → Int32) (vrw : Nat → Int32)  (rr : Int32) (mi_z : Nat → Int32) (hm : mX9_steps mi vnw = (rr, mi_z)) : Mn l yX9_steps wsX9_steps ({ frames := 1, cells := 0, slots := 0, locals := 21 } : Room) Γ [.ref q_mo] (wModel Γ q_mo q_tt q_nw q_tr q_ot q_di q_kp q_ik q_wy q_ah q_tg q_ws q_fr q_rw mi vtt vnw vtr vot vdi vkp vik vwy vah vtg vws vfr vrw) (some (.int rr)) (wModel Γ q_mo q_tt q_nw q_tr q_ot q_di q_kp q_ik q_wy q_ah q_tg q_ws q_fr q_rw mi_z vtt vnw vtr vot vdi vkp vik vwy vah vtg vws vfr vrw) := by
  intro sz
  refine Met.ofW (cc := cX9_steps) (maxL := 1) (ret := (some .int)) (by decide) rfl ?_
  intro p e s m args below meth c s₁ B hml hv
  obtain ⟨rfl, hsz, hP, hK, hD0⟩ := hv
  have hx := B.exec
  have hb := B.bytes
  have hr := B.returns
  have hts := atoms_spec (ws := wsX9_steps) B.pre
  have hown : s.vm.findClass RX9 = some m.cls := findClass_of_methodNamed B.named
  have hlocks := B.notSynchronized
  have hinX9 : ∀ w ∈ u_ws RX9 TX9 19, w ∈ wsX9_steps := fun w h => List.mem_cons_of_mem _ (List.mem_append_right _ h)
  subst hsz
  have hD := hD0.self (sz := s.heap.size)
  have hA : ∀ q : Nat, s.heap.size ≤ q → va_A (wModel Γ q_mo q_tt q_nw q_tr q_ot q_di q_kp q_ik q_wy q_ah q_tg q_ws q_fr q_rw mi vtt vnw vtr vot vdi vkp vik vwy vah vtg vws vfr vrw) s.heap.size q := fun q h => Or.inr h
  generalize va_A (wModel Γ q_mo q_tt q_nw q_tr q_ot q_di q_kp q_ik q_wy q_ah q_tg q_ws q_fr q_rw mi vtt vnw vtr vot vdi vkp vik vwy vah vtg vws vfr vrw) s.heap.size = A at hD hA ⊢
  have hS : va_S A s.heap s.heap [] := va_S.rf
  have hl := lv_entry ([.ref q_mo]) (n := 1) (Nat.le_of_ble_eq_true rfl)
  rw [lg_entry_eq]
  generalize (lg_sl ([.ref q_mo]) ++ List.replicate (1 - (lg_sl ([.ref q_mo])).length) Slot.unset).toArray = ls at hl ⊢
  replace hl : lv_has ls 1 [(0, .ref q_mo)] := hl
  unfold mX9_steps at hm
  refine lv_aload_n hx hb dX9_steps_0 rfl (lv_at hl 0 rfl) ?_
  refine lv_aload_n hx hb dX9_steps_1 rfl (lv_at hl 0 rfl) ?_
  refine va_get (D := my_D Γ) (ci := 7) (v := .ref q_nw) (C := RX9) (T := TX9) (N := 19) hx hb hts hinX9 hown hK hP 0 rfl rfl 3 (by decide) (hts (.fieldLink RX9 13 "BeltFloorModel" "now" "[I") (List.mem_of_getElem? (i := 1) rfl)) (fun _ h9 => h9) rfl dX9_steps_2 ?_
  refine lv_bipush (v := (116 : Int32)) hx hb dX9_steps_5 (by decide) ?_
  refine va_iald hx hb hK hP 2 0 rfl rfl (show vp_in (116 : Int32) 117 from (by decide : ¬ ((116 : Int32) < 0 ∨ 117 ≤ (116 : Int32).toNatClampNeg))) dX9_steps_7 ?_
  obtain ⟨r_1, mi_2, hc_3, hm⟩ := bt2_s hm
  refine my_callP1 (wc := (wMo Γ q_mo q_tt q_nw q_tr q_ot q_di q_kp q_ik q_wy q_ah q_tg q_ws q_fr q_rw mi)) (w1 := (wMo Γ q_mo q_tt q_nw q_tr q_ot q_di q_kp q_ik q_wy q_ah q_tg q_ws q_fr q_rw mi_2)) (ws1 := (wModel Γ q_mo q_tt q_nw q_tr q_ot q_di q_kp q_ik q_wy q_ah q_tg q_ws q_fr q_rw mi_2 vtt vnw vtr vot vdi vkp vik vwy vah vtg vws vfr vrw)) hP hD hS hA [0] rfl rfl rfl (va_runV (As := [.int (vnw (116 : Int32).toNatClampNeg)]) (rest := []) ⟨hx, hb, hml, hown, hts⟩ (kX9_told l Γ q_mo q_tt q_nw q_tr q_ot q_di q_kp q_ik q_wy q_ah q_tg q_ws q_fr q_rw mi (vnw (116 : Int32).toNatClampNeg) r_1 mi_2 hc_3 _) (cwV 1 hts gX9_steps_X9_told rfl rfl rfl (by decide +kernel) ⟨Nat.le_of_ble_eq_true rfl, Nat.le_of_ble_eq_true rfl⟩) (my_preV (wc := (wMo Γ q_mo q_tt q_nw q_tr q_ot q_di q_kp q_ik q_wy q_ah q_tg q_ws q_fr q_rw mi)) (ci := 7) (q0 := 0) [0] hK hP hD rfl rfl rfl rfl) rfl rfl hl.1 rfl (lv_room (Nat.le_of_ble_eq_true rfl)) dX9_steps_8 ⟨Nat.le_of_ble_eq_true rfl, Nat.le_of_ble_eq_true rfl⟩) (fun H locs hP hD hS => ?_)
  obtain ⟨hf0, hf1⟩ := ti2 hm
  subst hf0
  subst hf1
  exact W.iret (v := r_1) hx hb hr (fun t ht hW => ⟨⟨rfl, by rw [ht]; exact hP⟩, hS.F ht⟩) hS.2.2 dX9_steps_11
def mX9_lengthOf (mi : Nat → Int32) (vnw : Nat → Int32) (x0 : Int32) : Option (Int32 × (Nat → Int32)) := (bo2 (mX9_ofRobot mi vnw x0 (8 : Int32)) (fun r_1 mi_2 => (some (r_1, mi_2))))
set_option maxHeartbeats 4000000 in
set_option maxRecDepth 100000 in
theorem kX9_lengthOf (l : Launch) (Γ : my_G) (q_mo q_tt q_nw q_tr q_ot q_di q_kp q_ik q_wy q_ah q_tg q_ws q_fr q_rw : Nat) (mi : Nat → Int32) (vtt : Nat → Int32) (vnw : Nat → Int32) (vtr : Nat → Int32) (vot : Nat → Int32) (vdi : Nat → Int32) (vkp : Nat → Int32) (vik : Nat → Int32) (vwy : Nat → Int32) (vah : Nat → Int32) (vtg : Nat → Int32) (vws : Nat → Int32) (vfr : Nat → Int32) (vrw : Nat → Int32) (x0 : Int32) (rr : Int32) (mi_z : Nat → Int32) (hm : mX9_lengthOf mi vnw x0 = (some (rr, mi_z))) : Mn l yX9_lengthOf wsX9_lengthOf ({ frames := 4, cells := 0, slots := 0, locals := 88 } : Room) Γ [.ref q_mo, .int x0] (wModel Γ q_mo q_tt q_nw q_tr q_ot q_di q_kp q_ik q_wy q_ah q_tg q_ws q_fr q_rw mi vtt vnw vtr vot vdi vkp vik vwy vah vtg vws vfr vrw) (some (.int rr)) (wModel Γ q_mo q_tt q_nw q_tr q_ot q_di q_kp q_ik q_wy q_ah q_tg q_ws q_fr q_rw mi_z vtt vnw vtr vot vdi vkp vik vwy vah vtg vws vfr vrw) := by
  intro sz
  refine Met.ofW (cc := cX9_lengthOf) (maxL := 2) (ret := (some .int)) (by decide) rfl ?_
  intro p e s m args below meth c s₁ B hml hv
  obtain ⟨rfl, hsz, hP, hK, hD0⟩ := hv
  have hx := B.exec
  have hb := B.bytes
  have hr := B.returns
  have hts := atoms_spec (ws := wsX9_lengthOf) B.pre
  have hown : s.vm.findClass RX9 = some m.cls := findClass_of_methodNamed B.named
  have hlocks := B.notSynchronized
  have hinX9 : ∀ w ∈ u_ws RX9 TX9 19, w ∈ wsX9_lengthOf := fun w h => List.mem_cons_of_mem _ (List.mem_append_right _ h)
  subst hsz
  have hD := hD0.self (sz := s.heap.size)
  have hA : ∀ q : Nat, s.heap.size ≤ q → va_A (wModel Γ q_mo q_tt q_nw q_tr q_ot q_di q_kp q_ik q_wy q_ah q_tg q_ws q_fr q_rw mi vtt vnw vtr vot vdi vkp vik vwy vah vtg vws vfr vrw) s.heap.size q := fun q h => Or.inr h
  generalize va_A (wModel Γ q_mo q_tt q_nw q_tr q_ot q_di q_kp q_ik q_wy q_ah q_tg q_ws q_fr q_rw mi vtt vnw vtr vot vdi vkp vik vwy vah vtg vws vfr vrw) s.heap.size = A at hD hA ⊢
  have hS : va_S A s.heap s.heap [] := va_S.rf
  have hl := lv_entry ([.ref q_mo, .int x0]) (n := 2) (Nat.le_of_ble_eq_true rfl)
  rw [lg_entry_eq]
  generalize (lg_sl ([.ref q_mo, .int x0]) ++ List.replicate (2 - (lg_sl ([.ref q_mo, .int x0])).length) Slot.unset).toArray = ls at hl ⊢
  replace hl : lv_has ls 2 [(0, .ref q_mo), (1, .int x0)] := hl
  unfold mX9_lengthOf at hm
  refine lv_aload_n hx hb dX9_lengthOf_0 rfl (lv_at hl 0 rfl) ?_
  refine lv_iload_n hx hb dX9_lengthOf_1 rfl (lv_at hl 1 rfl) ?_
  refine lv_bipush (v := (8 : Int32)) hx hb dX9_lengthOf_2 (by decide) ?_
  obtain ⟨r_1, mi_2, hc_3, hm⟩ := bo2_s hm
  refine my_callP1 (wc := (wModel Γ q_mo q_tt q_nw q_tr q_ot q_di q_kp q_ik q_wy q_ah q_tg q_ws q_fr q_rw mi vtt vnw vtr vot vdi vkp vik vwy vah vtg vws vfr vrw)) (w1 := (wModel Γ q_mo q_tt q_nw q_tr q_ot q_di q_kp q_ik q_wy q_ah q_tg q_ws q_fr q_rw mi_2 vtt vnw vtr vot vdi vkp vik vwy vah vtg vws vfr vrw)) (ws1 := (wModel Γ q_mo q_tt q_nw q_tr q_ot q_di q_kp q_ik q_wy q_ah q_tg q_ws q_fr q_rw mi_2 vtt vnw vtr vot vdi vkp vik vwy vah vtg vws vfr vrw)) hP hD hS hA [0, 1, 2, 3, 4, 5, 6, 7, 8, 9, 10, 11, 12, 13] rfl rfl rfl (va_runV (As := [.int x0, .int (8 : Int32)]) (rest := []) ⟨hx, hb, hml, hown, hts⟩ (kX9_ofRobot l Γ q_mo q_tt q_nw q_tr q_ot q_di q_kp q_ik q_wy q_ah q_tg q_ws q_fr q_rw mi vtt vnw vtr vot vdi vkp vik vwy vah vtg vws vfr vrw x0 (8 : Int32) r_1 mi_2 hc_3 _) (cwV 2 hts gX9_lengthOf_X9_ofRobot rfl rfl rfl (by decide +kernel) ⟨Nat.le_of_ble_eq_true rfl, Nat.le_of_ble_eq_true rfl⟩) (my_preV (wc := (wModel Γ q_mo q_tt q_nw q_tr q_ot q_di q_kp q_ik q_wy q_ah q_tg q_ws q_fr q_rw mi vtt vnw vtr vot vdi vkp vik vwy vah vtg vws vfr vrw)) (ci := 7) (q0 := 0) [0, 1, 2, 3, 4, 5, 6, 7, 8, 9, 10, 11, 12, 13] hK hP hD rfl rfl rfl rfl) rfl rfl hl.1 rfl (lv_room (Nat.le_of_ble_eq_true rfl)) dX9_lengthOf_4 ⟨Nat.le_of_ble_eq_true rfl, Nat.le_of_ble_eq_true rfl⟩) (fun H locs hP hD hS => ?_)
  obtain ⟨hf0, hf1⟩ := si2 hm
  subst hf0
  subst hf1
  exact W.iret (v := r_1) hx hb hr (fun t ht hW => ⟨⟨rfl, by rw [ht]; exact hP⟩, hS.F ht⟩) hS.2.2 dX9_lengthOf_7
def mX9_instructionAt_J35  (mi : Nat → Int32) (vnw : Nat → Int32) (l1 : Int32) (l2 : Int32) (s1 : Int32) : Option (Int32 × (Nat → Int32)) := (bt2 (mX9_refused mi s1) (fun r_2 mi_3 => (if r_2 = 0 then (if ¬ ((((90 : Int32) + ((10 : Int32) * l1)) + l2) < 0 ∨ 117 ≤ (((90 : Int32) + ((10 : Int32) * l1)) + l2).toNatClampNeg) then (some ((vnw (((90 : Int32) + ((10 : Int32) * l1)) + l2).toNatClampNeg), mi_3)) else none) else (some ((0 : Int32), mi_3)))))
def mX9_instructionAt_J34  (mi : Nat → Int32) (vnw : Nat → Int32) (l1 : Int32) (l2 : Int32) : Option (Int32 × (Nat → Int32)) := (mX9_instructionAt_J35 mi vnw l1 l2 (1 : Int32))
def mX9_instructionAt (mi : Nat → Int32) (vnw : Nat → Int32) (x0 : Int32) (x1 : Int32) : Option (Int32 × (Nat → Int32)) := (if (mX9_isRobot x0) = 0 then (mX9_instructionAt_J34 mi vnw x0 x1) else (bo1 (mX9_of vnw x0 (8 : Int32)) (fun r_7 => (if (mX9_in (x1.toInt64) (0 : Int64) ((r_7 - (1 : Int32)).toInt64)) = 0 then (mX9_instructionAt_J34 mi vnw x0 x1) else (mX9_instructionAt_J35 mi vnw x0 x1 (0 : Int32))))))
set_option maxHeartbeats 4000000 in
set_option maxRecDepth 100000 in
theorem kX9_instructionAt (l : Launch) (Γ : my_G) (q_mo q_tt q_nw q_tr q_ot q_di q_kp q_ik q_wy q_ah q_tg q_ws q_fr q_rw : Nat) (mi : Nat → Int32) (vtt : Nat → Int32) (vnw : Nat → Int32) (vtr : Nat → Int32) (vot : Nat → Int32) (vdi : Nat → Int32) (vkp : Nat → Int32) (vik : Nat → Int32) (vwy : Nat → Int32) (vah : Nat → Int32) (vtg : Nat → Int32) (vws : Nat → Int32) (vfr : Nat → Int32) (vrw : Nat → Int32) (x0 : Int32) (x1 : Int32) (rr : Int32) (mi_z : Nat → Int32) (hm : mX9_instructionAt mi vnw x0 x1 = (some (rr, mi_z))) : Mn l yX9_instructionAt wsX9_instructionAt ({ frames := 2, cells := 0, slots := 0, locals := 45 } : Room) Γ [.ref q_mo, .int x0, .int x1] (wModel Γ q_mo q_tt q_nw q_tr q_ot q_di q_kp q_ik q_wy q_ah q_tg q_ws q_fr q_rw mi vtt vnw vtr vot vdi vkp vik vwy vah vtg vws vfr vrw) (some (.int rr)) (wModel Γ q_mo q_tt q_nw q_tr q_ot q_di q_kp q_ik q_wy q_ah q_tg q_ws q_fr q_rw mi_z vtt vnw vtr vot vdi vkp vik vwy vah vtg vws vfr vrw) := by
  intro sz
  refine Met.ofW (cc := cX9_instructionAt) (maxL := 3) (ret := (some .int)) (by decide) rfl ?_
  intro p e s m args below meth c s₁ B hml hv
  obtain ⟨rfl, hsz, hP, hK, hD0⟩ := hv
  have hx := B.exec
  have hb := B.bytes
  have hr := B.returns
  have hts := atoms_spec (ws := wsX9_instructionAt) B.pre
  have hown : s.vm.findClass RX9 = some m.cls := findClass_of_methodNamed B.named
  have hlocks := B.notSynchronized
  have hinX9 : ∀ w ∈ u_ws RX9 TX9 19, w ∈ wsX9_instructionAt := fun w h => List.mem_cons_of_mem _ (List.mem_append_right _ h)
  subst hsz
  have hD := hD0.self (sz := s.heap.size)
  have hA : ∀ q : Nat, s.heap.size ≤ q → va_A (wModel Γ q_mo q_tt q_nw q_tr q_ot q_di q_kp q_ik q_wy q_ah q_tg q_ws q_fr q_rw mi vtt vnw vtr vot vdi vkp vik vwy vah vtg vws vfr vrw) s.heap.size q := fun q h => Or.inr h
  generalize va_A (wModel Γ q_mo q_tt q_nw q_tr q_ot q_di q_kp q_ik q_wy q_ah q_tg q_ws q_fr q_rw mi vtt vnw vtr vot vdi vkp vik vwy vah vtg vws vfr vrw) s.heap.size = A at hD hA ⊢
  have hS : va_S A s.heap s.heap [] := va_S.rf
  have hl := lv_entry ([.ref q_mo, .int x0, .int x1]) (n := 3) (Nat.le_of_ble_eq_true rfl)
  rw [lg_entry_eq]
  generalize (lg_sl ([.ref q_mo, .int x0, .int x1]) ++ List.replicate (3 - (lg_sl ([.ref q_mo, .int x0, .int x1])).length) Slot.unset).toArray = ls at hl ⊢
  replace hl : lv_has ls 3 [(0, .ref q_mo), (1, .int x0), (2, .int x1)] := hl
  have J_35 : ∀ (mi : Nat → Int32) (vnw : Nat → Int32) (l1 : Int32) (l2 : Int32) (s1 : Int32) (H : Heap) (locs : List Loc) (ls : Array Slot), va_P (my_D Γ) vwCl (wModel Γ q_mo q_tt q_nw q_tr q_ot q_di q_kp q_ik q_wy q_ah q_tg q_ws q_fr q_rw mi vtt vnw vtr vot vdi vkp vik vwy vah vtg vws vfr vrw) H → va_D A (wModel Γ q_mo q_tt q_nw q_tr q_ot q_di q_kp q_ik q_wy q_ah q_tg q_ws q_fr q_rw mi vtt vnw vtr vot vdi vkp vik vwy vah vtg vws vfr vrw) → va_S A s.heap H locs → lv_has ls 3 [(0, .ref q_mo), (1, .int l1), (2, .int l2)] → mX9_instructionAt_J35 mi vnw l1 l2 s1 = (some (rr, mi_z)) → W p l e (headSpec wsX9_instructionAt ({ frames := 2, cells := 0, slots := 0, locals := 45 } : Room)).room s m ([.ref q_mo, .int x0, .int x1] : List Value).toArray below meth c H locs 0 0 (MQ below (my_Q Γ A (some (.int rr)) (wModel Γ q_mo q_tt q_nw q_tr q_ot q_di q_kp q_ik q_wy q_ah q_tg q_ws q_fr q_rw mi_z vtt vnw vtr vot vdi vkp vik vwy vah vtg vws vfr vrw)) ([.ref q_mo, .int x0, .int x1] : List Value).toArray s 0 0 A) (F0 m 35 ls [.int s1, .ref q_mo]) := by
    intro  mi vnw l1 l2 s1 H locs ls hP hD hS hl hm
    unfold mX9_instructionAt_J35 at hm
    obtain ⟨r_2, mi_3, hc_4, hm⟩ := bt2_s hm
    refine my_callP1 (wc := (wMo Γ q_mo q_tt q_nw q_tr q_ot q_di q_kp q_ik q_wy q_ah q_tg q_ws q_fr q_rw mi)) (w1 := (wMo Γ q_mo q_tt q_nw q_tr q_ot q_di q_kp q_ik q_wy q_ah q_tg q_ws q_fr q_rw mi_3)) (ws1 := (wModel Γ q_mo q_tt q_nw q_tr q_ot q_di q_kp q_ik q_wy q_ah q_tg q_ws q_fr q_rw mi_3 vtt vnw vtr vot vdi vkp vik vwy vah vtg vws vfr vrw)) hP hD hS hA [0] rfl rfl rfl (va_runV (As := [.int s1]) (rest := []) ⟨hx, hb, hml, hown, hts⟩ (kX9_refused l Γ q_mo q_tt q_nw q_tr q_ot q_di q_kp q_ik q_wy q_ah q_tg q_ws q_fr q_rw mi s1 r_2 mi_3 hc_4 _) (cwV 1 hts gX9_instructionAt_X9_refused rfl rfl rfl (by decide +kernel) ⟨Nat.le_of_ble_eq_true rfl, Nat.le_of_ble_eq_true rfl⟩) (my_preV (wc := (wMo Γ q_mo q_tt q_nw q_tr q_ot q_di q_kp q_ik q_wy q_ah q_tg q_ws q_fr q_rw mi)) (ci := 7) (q0 := 0) [0] hK hP hD rfl rfl rfl rfl) rfl rfl hl.1 rfl (lv_room (Nat.le_of_ble_eq_true rfl)) dX9_instructionAt_35 ⟨Nat.le_of_ble_eq_true rfl, Nat.le_of_ble_eq_true rfl⟩) (fun H locs hP hD hS => ?_)
    refine lv_if_eq (tgt := 45) hx hb dX9_instructionAt_38 (by decide) (fun c_5 => ?_) (fun c_5 => ?_)
    · replace hm := if_s hm c_5
      refine lv_aload_n hx hb dX9_instructionAt_45 rfl (lv_at hl 0 rfl) ?_
      refine va_get (D := my_D Γ) (ci := 7) (v := .ref q_nw) (C := RX9) (T := TX9) (N := 19) hx hb hts hinX9 hown hK hP 0 rfl rfl 3 (by decide) (hts (.fieldLink RX9 13 "BeltFloorModel" "now" "[I") (List.mem_of_getElem? (i := 1) rfl)) (fun _ h9 => h9) rfl dX9_instructionAt_46 ?_
      refine lv_bipush (v := (90 : Int32)) hx hb dX9_instructionAt_49 (by decide) ?_
      refine lv_bipush (v := (10 : Int32)) hx hb dX9_instructionAt_51 (by decide) ?_
      refine lv_iload_n hx hb dX9_instructionAt_53 rfl (lv_at hl 1 rfl) ?_
      refine lv_imul hx hb dX9_instructionAt_54 ?_
      refine lv_iadd hx hb dX9_instructionAt_55 ?_
      refine lv_iload_n hx hb dX9_instructionAt_56 rfl (lv_at hl 2 rfl) ?_
      refine lv_iadd hx hb dX9_instructionAt_57 ?_
      obtain ⟨hi_6, hm⟩ := if_in hm
      refine va_iald hx hb hK hP 2 0 rfl rfl hi_6 dX9_instructionAt_58 ?_
      obtain ⟨hf0, hf1⟩ := si2 hm
      subst hf0
      subst hf1
      exact W.iret (v := (vnw (((90 : Int32) + ((10 : Int32) * l1)) + l2).toNatClampNeg)) hx hb hr (fun t ht hW => ⟨⟨rfl, by rw [ht]; exact hP⟩, hS.F ht⟩) hS.2.2 dX9_instructionAt_59
    · replace hm := if_f hm c_5
      refine lv_iconst (v := (0 : Int32)) hx hb dX9_instructionAt_41 (by decide) ?_
      refine lv_goto (tgt := 59) hx hb dX9_instructionAt_42 (by decide) ?_
      obtain ⟨hf0, hf1⟩ := si2 hm
      subst hf0
      subst hf1
      exact W.iret (v := (0 : Int32)) hx hb hr (fun t ht hW => ⟨⟨rfl, by rw [ht]; exact hP⟩, hS.F ht⟩) hS.2.2 dX9_instructionAt_59
  have J_34 : ∀ (mi : Nat → Int32) (vnw : Nat → Int32) (l1 : Int32) (l2 : Int32) (H : Heap) (locs : List Loc) (ls : Array Slot), va_P (my_D Γ) vwCl (wModel Γ q_mo q_tt q_nw q_tr q_ot q_di q_kp q_ik q_wy q_ah q_tg q_ws q_fr q_rw mi vtt vnw vtr vot vdi vkp vik vwy vah vtg vws vfr vrw) H → va_D A (wModel Γ q_mo q_tt q_nw q_tr q_ot q_di q_kp q_ik q_wy q_ah q_tg q_ws q_fr q_rw mi vtt vnw vtr vot vdi vkp vik vwy vah vtg vws vfr vrw) → va_S A s.heap H locs → lv_has ls 3 [(0, .ref q_mo), (1, .int l1), (2, .int l2)] → mX9_instructionAt_J34 mi vnw l1 l2 = (some (rr, mi_z)) → W p l e (headSpec wsX9_instructionAt ({ frames := 2, cells := 0, slots := 0, locals := 45 } : Room)).room s m ([.ref q_mo, .int x0, .int x1] : List Value).toArray below meth c H locs 0 0 (MQ below (my_Q Γ A (some (.int rr)) (wModel Γ q_mo q_tt q_nw q_tr q_ot q_di q_kp q_ik q_wy q_ah q_tg q_ws q_fr q_rw mi_z vtt vnw vtr vot vdi vkp vik vwy vah vtg vws vfr vrw)) ([.ref q_mo, .int x0, .int x1] : List Value).toArray s 0 0 A) (F0 m 34 ls [.ref q_mo]) := by
    intro  mi vnw l1 l2 H locs ls hP hD hS hl hm
    unfold mX9_instructionAt_J34 at hm
    refine lv_iconst (v := (1 : Int32)) hx hb dX9_instructionAt_34 (by decide) ?_
    exact J_35 mi vnw l1 l2 (1 : Int32) _ _ _ hP hD hS (lv_sub hl [0, 1, 2] rfl) hm
  unfold mX9_instructionAt at hm
  refine lv_aload_n hx hb dX9_instructionAt_0 rfl (lv_at hl 0 rfl) ?_
  refine lv_iload_n hx hb dX9_instructionAt_1 rfl (lv_at hl 1 rfl) ?_
  refine my_callP1 (wc := ([] : va_W)) (w1 := ([] : va_W)) (ws1 := (wModel Γ q_mo q_tt q_nw q_tr q_ot q_di q_kp q_ik q_wy q_ah q_tg q_ws q_fr q_rw mi vtt vnw vtr vot vdi vkp vik vwy vah vtg vws vfr vrw)) hP hD hS hA [] rfl rfl rfl (va_runS (As := [.int x0]) (rest := [.ref q_mo]) ⟨hx, hb, hml, hown, hts⟩ (kX9_isRobot l Γ x0 (mX9_isRobot x0) rfl _) (va_cwS 1 hts gX9_instructionAt_X9_isRobot rfl rfl rfl (by decide +kernel) ⟨Nat.le_of_ble_eq_true rfl, Nat.le_of_ble_eq_true rfl⟩) (my_preS (wc := ([] : va_W)) [] hK hP hD rfl rfl) rfl rfl hl.1 rfl (lv_room (Nat.le_of_ble_eq_true rfl)) dX9_instructionAt_2 ⟨Nat.le_of_ble_eq_true rfl, Nat.le_of_ble_eq_true rfl⟩) (fun H locs hP hD hS => ?_)
  refine lv_if_eq (tgt := 34) hx hb dX9_instructionAt_5 (by decide) (fun c_1 => ?_) (fun c_1 => ?_)
  · replace hm := if_s hm c_1
    exact J_34 mi vnw x0 x1 _ _ _ hP hD hS (lv_sub hl [0, 1, 2] rfl) hm
  · replace hm := if_f hm c_1
    refine lv_iload_n hx hb dX9_instructionAt_8 rfl (lv_at hl 2 rfl) ?_
    refine lv_i2l (v := x1.toInt64) hx hb dX9_instructionAt_9 rfl ?_
    refine lv_lconst (v := (0 : Int64)) hx hb dX9_instructionAt_10 (by decide) ?_
    refine lv_aload_n hx hb dX9_instructionAt_11 rfl (lv_at hl 0 rfl) ?_
    refine va_get (D := my_D Γ) (ci := 7) (v := .ref q_nw) (C := RX9) (T := TX9) (N := 19) hx hb hts hinX9 hown hK hP 0 rfl rfl 3 (by decide) (hts (.fieldLink RX9 13 "BeltFloorModel" "now" "[I") (List.mem_of_getElem? (i := 1) rfl)) (fun _ h9 => h9) rfl dX9_instructionAt_12 ?_
    refine lv_iload_n hx hb dX9_instructionAt_15 rfl (lv_at hl 1 rfl) ?_
    refine lv_bipush (v := (8 : Int32)) hx hb dX9_instructionAt_16 (by decide) ?_
    obtain ⟨r_7, hc_8, hm⟩ := bo1_s hm
    refine my_callP1 (wc := (wArr117 Γ q_nw vnw)) (w1 := (wArr117 Γ q_nw vnw)) (ws1 := (wModel Γ q_mo q_tt q_nw q_tr q_ot q_di q_kp q_ik q_wy q_ah q_tg q_ws q_fr q_rw mi vtt vnw vtr vot vdi vkp vik vwy vah vtg vws vfr vrw)) hP hD hS hA [2] rfl rfl rfl (va_runS (As := [.ref q_nw, .int x0, .int (8 : Int32)]) (rest := [.long (0 : Int64), .long (x1.toInt64), .ref q_mo]) ⟨hx, hb, hml, hown, hts⟩ (kX9_of l Γ q_nw vnw x0 (8 : Int32) r_7 hc_8 _) (va_cwS 3 hts gX9_instructionAt_X9_of rfl rfl rfl (by decide +kernel) ⟨Nat.le_of_ble_eq_true rfl, Nat.le_of_ble_eq_true rfl⟩) (my_preS (wc := (wArr117 Γ q_nw vnw)) [2] hK hP hD rfl rfl) rfl rfl hl.1 rfl (lv_room (Nat.le_of_ble_eq_true rfl)) dX9_instructionAt_18 ⟨Nat.le_of_ble_eq_true rfl, Nat.le_of_ble_eq_true rfl⟩) (fun H locs hP hD hS => ?_)
    refine lv_iconst (v := (1 : Int32)) hx hb dX9_instructionAt_21 (by decide) ?_
    refine lv_isub hx hb dX9_instructionAt_22 ?_
    refine lv_i2l (v := (r_7 - (1 : Int32)).toInt64) hx hb dX9_instructionAt_23 rfl ?_
    refine my_callP1 (wc := ([] : va_W)) (w1 := ([] : va_W)) (ws1 := (wModel Γ q_mo q_tt q_nw q_tr q_ot q_di q_kp q_ik q_wy q_ah q_tg q_ws q_fr q_rw mi vtt vnw vtr vot vdi vkp vik vwy vah vtg vws vfr vrw)) hP hD hS hA [] rfl rfl rfl (va_runS (As := [.long (x1.toInt64), .long (0 : Int64), .long ((r_7 - (1 : Int32)).toInt64)]) (rest := [.ref q_mo]) ⟨hx, hb, hml, hown, hts⟩ (kX9_in l Γ (x1.toInt64) (0 : Int64) ((r_7 - (1 : Int32)).toInt64) (mX9_in (x1.toInt64) (0 : Int64) ((r_7 - (1 : Int32)).toInt64)) rfl _) (va_cwS 3 hts gX9_instructionAt_X9_in rfl rfl rfl (by decide +kernel) ⟨Nat.le_of_ble_eq_true rfl, Nat.le_of_ble_eq_true rfl⟩) (my_preS (wc := ([] : va_W)) [] hK hP hD rfl rfl) rfl rfl hl.1 rfl (lv_room (Nat.le_of_ble_eq_true rfl)) dX9_instructionAt_24 ⟨Nat.le_of_ble_eq_true rfl, Nat.le_of_ble_eq_true rfl⟩) (fun H locs hP hD hS => ?_)
    refine lv_if_eq (tgt := 34) hx hb dX9_instructionAt_27 (by decide) (fun c_9 => ?_) (fun c_9 => ?_)
    · replace hm := if_s hm c_9
      exact J_34 mi vnw x0 x1 _ _ _ hP hD hS (lv_sub hl [0, 1, 2] rfl) hm
    · replace hm := if_f hm c_9
      refine lv_iconst (v := (0 : Int32)) hx hb dX9_instructionAt_30 (by decide) ?_
      refine lv_goto (tgt := 35) hx hb dX9_instructionAt_31 (by decide) ?_
      exact J_35 mi vnw x0 x1 (0 : Int32) _ _ _ hP hD hS (lv_sub hl [0, 1, 2] rfl) hm
def mX9_placeOf (mi : Nat → Int32) (vnw : Nat → Int32) (x0 : Int32) : Option (Int32 × (Nat → Int32)) := (bo2 (mX9_ofRobot mi vnw x0 (7 : Int32)) (fun r_1 mi_2 => (some (r_1, mi_2))))
set_option maxHeartbeats 4000000 in
set_option maxRecDepth 100000 in
theorem kX9_placeOf (l : Launch) (Γ : my_G) (q_mo q_tt q_nw q_tr q_ot q_di q_kp q_ik q_wy q_ah q_tg q_ws q_fr q_rw : Nat) (mi : Nat → Int32) (vtt : Nat → Int32) (vnw : Nat → Int32) (vtr : Nat → Int32) (vot : Nat → Int32) (vdi : Nat → Int32) (vkp : Nat → Int32) (vik : Nat → Int32) (vwy : Nat → Int32) (vah : Nat → Int32) (vtg : Nat → Int32) (vws : Nat → Int32) (vfr : Nat → Int32) (vrw : Nat → Int32) (x0 : Int32) (rr : Int32) (mi_z : Nat → Int32) (hm : mX9_placeOf mi vnw x0 = (some (rr, mi_z))) : Mn l yX9_placeOf wsX9_placeOf ({ frames := 4, cells := 0, slots := 0, locals := 88 } : Room) Γ [.ref q_mo, .int x0] (wModel Γ q_mo q_tt q_nw q_tr q_ot q_di q_kp q_ik q_wy q_ah q_tg q_ws q_fr q_rw mi vtt vnw vtr vot vdi vkp vik vwy vah vtg vws vfr vrw) (some (.int rr)) (wModel Γ q_mo q_tt q_nw q_tr q_ot q_di q_kp q_ik q_wy q_ah q_tg q_ws q_fr q_rw mi_z vtt vnw vtr vot vdi vkp vik vwy vah vtg vws vfr vrw) := by
  intro sz
  refine Met.ofW (cc := cX9_placeOf) (maxL := 2) (ret := (some .int)) (by decide) rfl ?_
  intro p e s m args below meth c s₁ B hml hv
  obtain ⟨rfl, hsz, hP, hK, hD0⟩ := hv
  have hx := B.exec
  have hb := B.bytes
  have hr := B.returns
  have hts := atoms_spec (ws := wsX9_placeOf) B.pre
  have hown : s.vm.findClass RX9 = some m.cls := findClass_of_methodNamed B.named
  have hlocks := B.notSynchronized
  have hinX9 : ∀ w ∈ u_ws RX9 TX9 19, w ∈ wsX9_placeOf := fun w h => List.mem_cons_of_mem _ (List.mem_append_right _ h)
  subst hsz
  have hD := hD0.self (sz := s.heap.size)
  have hA : ∀ q : Nat, s.heap.size ≤ q → va_A (wModel Γ q_mo q_tt q_nw q_tr q_ot q_di q_kp q_ik q_wy q_ah q_tg q_ws q_fr q_rw mi vtt vnw vtr vot vdi vkp vik vwy vah vtg vws vfr vrw) s.heap.size q := fun q h => Or.inr h
  generalize va_A (wModel Γ q_mo q_tt q_nw q_tr q_ot q_di q_kp q_ik q_wy q_ah q_tg q_ws q_fr q_rw mi vtt vnw vtr vot vdi vkp vik vwy vah vtg vws vfr vrw) s.heap.size = A at hD hA ⊢
  have hS : va_S A s.heap s.heap [] := va_S.rf
  have hl := lv_entry ([.ref q_mo, .int x0]) (n := 2) (Nat.le_of_ble_eq_true rfl)
  rw [lg_entry_eq]
  generalize (lg_sl ([.ref q_mo, .int x0]) ++ List.replicate (2 - (lg_sl ([.ref q_mo, .int x0])).length) Slot.unset).toArray = ls at hl ⊢
  replace hl : lv_has ls 2 [(0, .ref q_mo), (1, .int x0)] := hl
  unfold mX9_placeOf at hm
  refine lv_aload_n hx hb dX9_placeOf_0 rfl (lv_at hl 0 rfl) ?_
  refine lv_iload_n hx hb dX9_placeOf_1 rfl (lv_at hl 1 rfl) ?_
  refine lv_bipush (v := (7 : Int32)) hx hb dX9_placeOf_2 (by decide) ?_
  obtain ⟨r_1, mi_2, hc_3, hm⟩ := bo2_s hm
  refine my_callP1 (wc := (wModel Γ q_mo q_tt q_nw q_tr q_ot q_di q_kp q_ik q_wy q_ah q_tg q_ws q_fr q_rw mi vtt vnw vtr vot vdi vkp vik vwy vah vtg vws vfr vrw)) (w1 := (wModel Γ q_mo q_tt q_nw q_tr q_ot q_di q_kp q_ik q_wy q_ah q_tg q_ws q_fr q_rw mi_2 vtt vnw vtr vot vdi vkp vik vwy vah vtg vws vfr vrw)) (ws1 := (wModel Γ q_mo q_tt q_nw q_tr q_ot q_di q_kp q_ik q_wy q_ah q_tg q_ws q_fr q_rw mi_2 vtt vnw vtr vot vdi vkp vik vwy vah vtg vws vfr vrw)) hP hD hS hA [0, 1, 2, 3, 4, 5, 6, 7, 8, 9, 10, 11, 12, 13] rfl rfl rfl (va_runV (As := [.int x0, .int (7 : Int32)]) (rest := []) ⟨hx, hb, hml, hown, hts⟩ (kX9_ofRobot l Γ q_mo q_tt q_nw q_tr q_ot q_di q_kp q_ik q_wy q_ah q_tg q_ws q_fr q_rw mi vtt vnw vtr vot vdi vkp vik vwy vah vtg vws vfr vrw x0 (7 : Int32) r_1 mi_2 hc_3 _) (cwV 2 hts gX9_placeOf_X9_ofRobot rfl rfl rfl (by decide +kernel) ⟨Nat.le_of_ble_eq_true rfl, Nat.le_of_ble_eq_true rfl⟩) (my_preV (wc := (wModel Γ q_mo q_tt q_nw q_tr q_ot q_di q_kp q_ik q_wy q_ah q_tg q_ws q_fr q_rw mi vtt vnw vtr vot vdi vkp vik vwy vah vtg vws vfr vrw)) (ci := 7) (q0 := 0) [0, 1, 2, 3, 4, 5, 6, 7, 8, 9, 10, 11, 12, 13] hK hP hD rfl rfl rfl rfl) rfl rfl hl.1 rfl (lv_room (Nat.le_of_ble_eq_true rfl)) dX9_placeOf_4 ⟨Nat.le_of_ble_eq_true rfl, Nat.le_of_ble_eq_true rfl⟩) (fun H locs hP hD hS => ?_)
  obtain ⟨hf0, hf1⟩ := si2 hm
  subst hf0
  subst hf1
  exact W.iret (v := r_1) hx hb hr (fun t ht hW => ⟨⟨rfl, by rw [ht]; exact hP⟩, hS.F ht⟩) hS.2.2 dX9_placeOf_7
def mX9_setKind_J45  (mi : Nat → Int32) (vnw : Nat → Int32) (vdi : Nat → Int32) (l1 : Int32) (l2 : Int32) (s1 : Int32) : Option (Int32 × (Nat → Int32) × (Nat → Int32) × (Nat → Int32)) := (bt2 (mX9_refused mi s1) (fun r_6 mi_7 => (if r_6 = 0 then (bo2 (mX9_remember mi_7 vnw vdi) (fun mi_10 vdi_11 => (bo2 (mX9_kindOn vnw l1 l2) (fun r_13 vnw_14 => (some (r_13, mi_10, vnw_14, vdi_11)))))) else (some ((0 : Int32), mi_7, vnw, vdi)))))
def mX9_setKind (mi : Nat → Int32) (vnw : Nat → Int32) (vdi : Nat → Int32) (x0 : Int32) (x1 : Int32) : Option (Int32 × (Nat → Int32) × (Nat → Int32) × (Nat → Int32)) := (if (mX9_isCell x0) = 0 then (mX9_setKind_J45 mi vnw vdi x0 x1 (1 : Int32)) else (if (mX9_in (x1.toInt64) (0 : Int64) (6 : Int64)) = 0 then (mX9_setKind_J45 mi vnw vdi x0 x1 (2 : Int32)) else (bo1 (mX9_canKind vnw x0 x1) (fun r_3 => (if r_3 = 0 then (mX9_setKind_J45 mi vnw vdi x0 x1 (3 : Int32)) else (mX9_setKind_J45 mi vnw vdi x0 x1 (0 : Int32)))))))
set_option maxHeartbeats 4000000 in
set_option maxRecDepth 100000 in
theorem kX9_setKind (l : Launch) (Γ : my_G) (q_mo q_tt q_nw q_tr q_ot q_di q_kp q_ik q_wy q_ah q_tg q_ws q_fr q_rw : Nat) (mi : Nat → Int32) (vtt : Nat → Int32) (vnw : Nat → Int32) (vtr : Nat → Int32) (vot : Nat → Int32) (vdi : Nat → Int32) (vkp : Nat → Int32) (vik : Nat → Int32) (vwy : Nat → Int32) (vah : Nat → Int32) (vtg : Nat → Int32) (vws : Nat → Int32) (vfr : Nat → Int32) (vrw : Nat → Int32) (x0 : Int32) (x1 : Int32) (rr : Int32) (mi_z : Nat → Int32) (vnw_z : Nat → Int32) (vdi_z : Nat → Int32) (hm : mX9_setKind mi vnw vdi x0 x1 = (some (rr, mi_z, vnw_z, vdi_z))) : Mn l yX9_setKind wsX9_setKind ({ frames := 4, cells := 0, slots := 0, locals := 86 } : Room) Γ [.ref q_mo, .int x0, .int x1] (wModel Γ q_mo q_tt q_nw q_tr q_ot q_di q_kp q_ik q_wy q_ah q_tg q_ws q_fr q_rw mi vtt vnw vtr vot vdi vkp vik vwy vah vtg vws vfr vrw) (some (.int rr)) (wModel Γ q_mo q_tt q_nw q_tr q_ot q_di q_kp q_ik q_wy q_ah q_tg q_ws q_fr q_rw mi_z vtt vnw_z vtr vot vdi_z vkp vik vwy vah vtg vws vfr vrw) := by
  intro sz
  refine Met.ofW (cc := cX9_setKind) (maxL := 3) (ret := (some .int)) (by decide) rfl ?_
  intro p e s m args below meth c s₁ B hml hv
  obtain ⟨rfl, hsz, hP, hK, hD0⟩ := hv
  have hx := B.exec
  have hb := B.bytes
  have hr := B.returns
  have hts := atoms_spec (ws := wsX9_setKind) B.pre
  have hown : s.vm.findClass RX9 = some m.cls := findClass_of_methodNamed B.named
  have hlocks := B.notSynchronized
  have hinX9 : ∀ w ∈ u_ws RX9 TX9 19, w ∈ wsX9_setKind := fun w h => List.mem_cons_of_mem _ (List.mem_append_right _ h)
  subst hsz
  have hD := hD0.self (sz := s.heap.size)
  have hA : ∀ q : Nat, s.heap.size ≤ q → va_A (wModel Γ q_mo q_tt q_nw q_tr q_ot q_di q_kp q_ik q_wy q_ah q_tg q_ws q_fr q_rw mi vtt vnw vtr vot vdi vkp vik vwy vah vtg vws vfr vrw) s.heap.size q := fun q h => Or.inr h
  generalize va_A (wModel Γ q_mo q_tt q_nw q_tr q_ot q_di q_kp q_ik q_wy q_ah q_tg q_ws q_fr q_rw mi vtt vnw vtr vot vdi vkp vik vwy vah vtg vws vfr vrw) s.heap.size = A at hD hA ⊢
  have hS : va_S A s.heap s.heap [] := va_S.rf
  have hl := lv_entry ([.ref q_mo, .int x0, .int x1]) (n := 3) (Nat.le_of_ble_eq_true rfl)
  rw [lg_entry_eq]
  generalize (lg_sl ([.ref q_mo, .int x0, .int x1]) ++ List.replicate (3 - (lg_sl ([.ref q_mo, .int x0, .int x1])).length) Slot.unset).toArray = ls at hl ⊢
  replace hl : lv_has ls 3 [(0, .ref q_mo), (1, .int x0), (2, .int x1)] := hl
  have J_45 : ∀ (mi : Nat → Int32) (vnw : Nat → Int32) (vdi : Nat → Int32) (l1 : Int32) (l2 : Int32) (s1 : Int32) (H : Heap) (locs : List Loc) (ls : Array Slot), va_P (my_D Γ) vwCl (wModel Γ q_mo q_tt q_nw q_tr q_ot q_di q_kp q_ik q_wy q_ah q_tg q_ws q_fr q_rw mi vtt vnw vtr vot vdi vkp vik vwy vah vtg vws vfr vrw) H → va_D A (wModel Γ q_mo q_tt q_nw q_tr q_ot q_di q_kp q_ik q_wy q_ah q_tg q_ws q_fr q_rw mi vtt vnw vtr vot vdi vkp vik vwy vah vtg vws vfr vrw) → va_S A s.heap H locs → lv_has ls 3 [(0, .ref q_mo), (1, .int l1), (2, .int l2)] → mX9_setKind_J45 mi vnw vdi l1 l2 s1 = (some (rr, mi_z, vnw_z, vdi_z)) → W p l e (headSpec wsX9_setKind ({ frames := 4, cells := 0, slots := 0, locals := 86 } : Room)).room s m ([.ref q_mo, .int x0, .int x1] : List Value).toArray below meth c H locs 0 0 (MQ below (my_Q Γ A (some (.int rr)) (wModel Γ q_mo q_tt q_nw q_tr q_ot q_di q_kp q_ik q_wy q_ah q_tg q_ws q_fr q_rw mi_z vtt vnw_z vtr vot vdi_z vkp vik vwy vah vtg vws vfr vrw)) ([.ref q_mo, .int x0, .int x1] : List Value).toArray s 0 0 A) (F0 m 45 ls [.int s1, .ref q_mo]) := by
    intro  mi vnw vdi l1 l2 s1 H locs ls hP hD hS hl hm
    unfold mX9_setKind_J45 at hm
    obtain ⟨r_6, mi_7, hc_8, hm⟩ := bt2_s hm
    refine my_callP1 (wc := (wMo Γ q_mo q_tt q_nw q_tr q_ot q_di q_kp q_ik q_wy q_ah q_tg q_ws q_fr q_rw mi)) (w1 := (wMo Γ q_mo q_tt q_nw q_tr q_ot q_di q_kp q_ik q_wy q_ah q_tg q_ws q_fr q_rw mi_7)) (ws1 := (wModel Γ q_mo q_tt q_nw q_tr q_ot q_di q_kp q_ik q_wy q_ah q_tg q_ws q_fr q_rw mi_7 vtt vnw vtr vot vdi vkp vik vwy vah vtg vws vfr vrw)) hP hD hS hA [0] rfl rfl rfl (va_runV (As := [.int s1]) (rest := []) ⟨hx, hb, hml, hown, hts⟩ (kX9_refused l Γ q_mo q_tt q_nw q_tr q_ot q_di q_kp q_ik q_wy q_ah q_tg q_ws q_fr q_rw mi s1 r_6 mi_7 hc_8 _) (cwV 1 hts gX9_setKind_X9_refused rfl rfl rfl (by decide +kernel) ⟨Nat.le_of_ble_eq_true rfl, Nat.le_of_ble_eq_true rfl⟩) (my_preV (wc := (wMo Γ q_mo q_tt q_nw q_tr q_ot q_di q_kp q_ik q_wy q_ah q_tg q_ws q_fr q_rw mi)) (ci := 7) (q0 := 0) [0] hK hP hD rfl rfl rfl rfl) rfl rfl hl.1 rfl (lv_room (Nat.le_of_ble_eq_true rfl)) dX9_setKind_45 ⟨Nat.le_of_ble_eq_true rfl, Nat.le_of_ble_eq_true rfl⟩) (fun H locs hP hD hS => ?_)
    refine lv_if_eq (tgt := 53) hx hb dX9_setKind_48 (by decide) (fun c_9 => ?_) (fun c_9 => ?_)
    · replace hm := if_s hm c_9
      refine lv_aload_n hx hb dX9_setKind_53 rfl (lv_at hl 0 rfl) ?_
      obtain ⟨mi_10, vdi_11, hc_12, hm⟩ := bo2_s hm
      refine my_callP0 (wc := (wModel Γ q_mo q_tt q_nw q_tr q_ot q_di q_kp q_ik q_wy q_ah q_tg q_ws q_fr q_rw mi_7 vtt vnw vtr vot vdi vkp vik vwy vah vtg vws vfr vrw)) (w1 := (wModel Γ q_mo q_tt q_nw q_tr q_ot q_di q_kp q_ik q_wy q_ah q_tg q_ws q_fr q_rw mi_10 vtt vnw vtr vot vdi_11 vkp vik vwy vah vtg vws vfr vrw)) (ws1 := (wModel Γ q_mo q_tt q_nw q_tr q_ot q_di q_kp q_ik q_wy q_ah q_tg q_ws q_fr q_rw mi_10 vtt vnw vtr vot vdi_11 vkp vik vwy vah vtg vws vfr vrw)) hP hD hS hA [0, 1, 2, 3, 4, 5, 6, 7, 8, 9, 10, 11, 12, 13] rfl rfl rfl (va_runV (As := []) (rest := []) ⟨hx, hb, hml, hown, hts⟩ (kX9_remember l Γ q_mo q_tt q_nw q_tr q_ot q_di q_kp q_ik q_wy q_ah q_tg q_ws q_fr q_rw mi_7 vtt vnw vtr vot vdi vkp vik vwy vah vtg vws vfr vrw mi_10 vdi_11 hc_12 _) (cwV 0 hts gX9_setKind_X9_remember rfl rfl rfl (by decide +kernel) ⟨Nat.le_of_ble_eq_true rfl, Nat.le_of_ble_eq_true rfl⟩) (my_preV (wc := (wModel Γ q_mo q_tt q_nw q_tr q_ot q_di q_kp q_ik q_wy q_ah q_tg q_ws q_fr q_rw mi_7 vtt vnw vtr vot vdi vkp vik vwy vah vtg vws vfr vrw)) (ci := 7) (q0 := 0) [0, 1, 2, 3, 4, 5, 6, 7, 8, 9, 10, 11, 12, 13] hK hP hD rfl rfl rfl rfl) rfl rfl hl.1 rfl (lv_room (Nat.le_of_ble_eq_true rfl)) dX9_setKind_54 ⟨Nat.le_of_ble_eq_true rfl, Nat.le_of_ble_eq_true rfl⟩) (fun H locs hP hD hS => ?_)
      refine lv_aload_n hx hb dX9_setKind_57 rfl (lv_at hl 0 rfl) ?_
      refine va_get (D := my_D Γ) (ci := 7) (v := .ref q_nw) (C := RX9) (T := TX9) (N := 19) hx hb hts hinX9 hown hK hP 0 rfl rfl 3 (by decide) (hts (.fieldLink RX9 13 "BeltFloorModel" "now" "[I") (List.mem_of_getElem? (i := 2) rfl)) (fun _ h9 => h9) rfl dX9_setKind_58 ?_
      refine lv_iload_n hx hb dX9_setKind_61 rfl (lv_at hl 1 rfl) ?_
      refine lv_iload_n hx hb dX9_setKind_62 rfl (lv_at hl 2 rfl) ?_
      obtain ⟨r_13, vnw_14, hc_15, hm⟩ := bo2_s hm
      refine my_callP1 (wc := (wArr117 Γ q_nw vnw)) (w1 := (wArr117 Γ q_nw vnw_14)) (ws1 := (wModel Γ q_mo q_tt q_nw q_tr q_ot q_di q_kp q_ik q_wy q_ah q_tg q_ws q_fr q_rw mi_10 vtt vnw_14 vtr vot vdi_11 vkp vik vwy vah vtg vws vfr vrw)) hP hD hS hA [2] rfl rfl rfl (va_runS (As := [.ref q_nw, .int l1, .int l2]) (rest := []) ⟨hx, hb, hml, hown, hts⟩ (kX9_kindOn l Γ q_nw vnw l1 l2 r_13 vnw_14 hc_15 _) (va_cwS 3 hts gX9_setKind_X9_kindOn rfl rfl rfl (by decide +kernel) ⟨Nat.le_of_ble_eq_true rfl, Nat.le_of_ble_eq_true rfl⟩) (my_preS (wc := (wArr117 Γ q_nw vnw)) [2] hK hP hD rfl rfl) rfl rfl hl.1 rfl (lv_room (Nat.le_of_ble_eq_true rfl)) dX9_setKind_63 ⟨Nat.le_of_ble_eq_true rfl, Nat.le_of_ble_eq_true rfl⟩) (fun H locs hP hD hS => ?_)
      obtain ⟨hf0, hf1, hf2, hf3⟩ := si4 hm
      subst hf0
      subst hf1
      subst hf2
      subst hf3
      exact W.iret (v := r_13) hx hb hr (fun t ht hW => ⟨⟨rfl, by rw [ht]; exact hP⟩, hS.F ht⟩) hS.2.2 dX9_setKind_66
    · replace hm := if_f hm c_9
      refine lv_iconst (v := (0 : Int32)) hx hb dX9_setKind_51 (by decide) ?_
      obtain ⟨hf0, hf1, hf2, hf3⟩ := si4 hm
      subst hf0
      subst hf1
      subst hf2
      subst hf3
      exact W.iret (v := (0 : Int32)) hx hb hr (fun t ht hW => ⟨⟨rfl, by rw [ht]; exact hP⟩, hS.F ht⟩) hS.2.2 dX9_setKind_52
  unfold mX9_setKind at hm
  refine lv_aload_n hx hb dX9_setKind_0 rfl (lv_at hl 0 rfl) ?_
  refine lv_iload_n hx hb dX9_setKind_1 rfl (lv_at hl 1 rfl) ?_
  refine my_callP1 (wc := ([] : va_W)) (w1 := ([] : va_W)) (ws1 := (wModel Γ q_mo q_tt q_nw q_tr q_ot q_di q_kp q_ik q_wy q_ah q_tg q_ws q_fr q_rw mi vtt vnw vtr vot vdi vkp vik vwy vah vtg vws vfr vrw)) hP hD hS hA [] rfl rfl rfl (va_runS (As := [.int x0]) (rest := [.ref q_mo]) ⟨hx, hb, hml, hown, hts⟩ (kX9_isCell l Γ x0 (mX9_isCell x0) rfl _) (va_cwS 1 hts gX9_setKind_X9_isCell rfl rfl rfl (by decide +kernel) ⟨Nat.le_of_ble_eq_true rfl, Nat.le_of_ble_eq_true rfl⟩) (my_preS (wc := ([] : va_W)) [] hK hP hD rfl rfl) rfl rfl hl.1 rfl (lv_room (Nat.le_of_ble_eq_true rfl)) dX9_setKind_2 ⟨Nat.le_of_ble_eq_true rfl, Nat.le_of_ble_eq_true rfl⟩) (fun H locs hP hD hS => ?_)
  refine lv_if_ne (tgt := 12) hx hb dX9_setKind_5 (by decide) (fun c_1 => ?_) (fun c_1 => ?_)
  · replace hm := if_f hm c_1
    refine lv_iload_n hx hb dX9_setKind_12 rfl (lv_at hl 2 rfl) ?_
    refine lv_i2l (v := x1.toInt64) hx hb dX9_setKind_13 rfl ?_
    refine lv_lconst (v := (0 : Int64)) hx hb dX9_setKind_14 (by decide) ?_
    refine lv_ldc2 (v := (6 : Int64)) hx hb hown (hts (.constantLong RX9 245 (6)) (List.mem_of_getElem? (i := 1) rfl)) dX9_setKind_15 ?_
    refine my_callP1 (wc := ([] : va_W)) (w1 := ([] : va_W)) (ws1 := (wModel Γ q_mo q_tt q_nw q_tr q_ot q_di q_kp q_ik q_wy q_ah q_tg q_ws q_fr q_rw mi vtt vnw vtr vot vdi vkp vik vwy vah vtg vws vfr vrw)) hP hD hS hA [] rfl rfl rfl (va_runS (As := [.long (x1.toInt64), .long (0 : Int64), .long (6 : Int64)]) (rest := [.ref q_mo]) ⟨hx, hb, hml, hown, hts⟩ (kX9_in l Γ (x1.toInt64) (0 : Int64) (6 : Int64) (mX9_in (x1.toInt64) (0 : Int64) (6 : Int64)) rfl _) (va_cwS 3 hts gX9_setKind_X9_in rfl rfl rfl (by decide +kernel) ⟨Nat.le_of_ble_eq_true rfl, Nat.le_of_ble_eq_true rfl⟩) (my_preS (wc := ([] : va_W)) [] hK hP hD rfl rfl) rfl rfl hl.1 rfl (lv_room (Nat.le_of_ble_eq_true rfl)) dX9_setKind_18 ⟨Nat.le_of_ble_eq_true rfl, Nat.le_of_ble_eq_true rfl⟩) (fun H locs hP hD hS => ?_)
    refine lv_if_ne (tgt := 28) hx hb dX9_setKind_21 (by decide) (fun c_2 => ?_) (fun c_2 => ?_)
    · replace hm := if_f hm c_2
      refine lv_aload_n hx hb dX9_setKind_28 rfl (lv_at hl 0 rfl) ?_
      refine va_get (D := my_D Γ) (ci := 7) (v := .ref q_nw) (C := RX9) (T := TX9) (N := 19) hx hb hts hinX9 hown hK hP 0 rfl rfl 3 (by decide) (hts (.fieldLink RX9 13 "BeltFloorModel" "now" "[I") (List.mem_of_getElem? (i := 2) rfl)) (fun _ h9 => h9) rfl dX9_setKind_29 ?_
      refine lv_iload_n hx hb dX9_setKind_32 rfl (lv_at hl 1 rfl) ?_
      refine lv_iload_n hx hb dX9_setKind_33 rfl (lv_at hl 2 rfl) ?_
      obtain ⟨r_3, hc_4, hm⟩ := bo1_s hm
      refine my_callP1 (wc := (wArr117 Γ q_nw vnw)) (w1 := (wArr117 Γ q_nw vnw)) (ws1 := (wModel Γ q_mo q_tt q_nw q_tr q_ot q_di q_kp q_ik q_wy q_ah q_tg q_ws q_fr q_rw mi vtt vnw vtr vot vdi vkp vik vwy vah vtg vws vfr vrw)) hP hD hS hA [2] rfl rfl rfl (va_runS (As := [.ref q_nw, .int x0, .int x1]) (rest := [.ref q_mo]) ⟨hx, hb, hml, hown, hts⟩ (kX9_canKind l Γ q_nw vnw x0 x1 r_3 hc_4 _) (va_cwS 3 hts gX9_setKind_X9_canKind rfl rfl rfl (by decide +kernel) ⟨Nat.le_of_ble_eq_true rfl, Nat.le_of_ble_eq_true rfl⟩) (my_preS (wc := (wArr117 Γ q_nw vnw)) [2] hK hP hD rfl rfl) rfl rfl hl.1 rfl (lv_room (Nat.le_of_ble_eq_true rfl)) dX9_setKind_34 ⟨Nat.le_of_ble_eq_true rfl, Nat.le_of_ble_eq_true rfl⟩) (fun H locs hP hD hS => ?_)
      refine lv_if_eq (tgt := 44) hx hb dX9_setKind_37 (by decide) (fun c_5 => ?_) (fun c_5 => ?_)
      · replace hm := if_s hm c_5
        refine lv_iconst (v := (3 : Int32)) hx hb dX9_setKind_44 (by decide) ?_
        exact J_45 mi vnw vdi x0 x1 (3 : Int32) _ _ _ hP hD hS (lv_sub hl [0, 1, 2] rfl) hm
      · replace hm := if_f hm c_5
        refine lv_iconst (v := (0 : Int32)) hx hb dX9_setKind_40 (by decide) ?_
        refine lv_goto (tgt := 45) hx hb dX9_setKind_41 (by decide) ?_
        exact J_45 mi vnw vdi x0 x1 (0 : Int32) _ _ _ hP hD hS (lv_sub hl [0, 1, 2] rfl) hm
    · replace hm := if_s hm c_2
      refine lv_iconst (v := (2 : Int32)) hx hb dX9_setKind_24 (by decide) ?_
      refine lv_goto (tgt := 45) hx hb dX9_setKind_25 (by decide) ?_
      exact J_45 mi vnw vdi x0 x1 (2 : Int32) _ _ _ hP hD hS (lv_sub hl [0, 1, 2] rfl) hm
  · replace hm := if_s hm c_1
    refine lv_iconst (v := (1 : Int32)) hx hb dX9_setKind_8 (by decide) ?_
    refine lv_goto (tgt := 45) hx hb dX9_setKind_9 (by decide) ?_
    exact J_45 mi vnw vdi x0 x1 (1 : Int32) _ _ _ hP hD hS (lv_sub hl [0, 1, 2] rfl) hm
def mX9_addCrate_J28  (mi : Nat → Int32) (vnw : Nat → Int32) (vdi : Nat → Int32) (l1 : Int32) (s1 : Int32) : Option (Int32 × (Nat → Int32) × (Nat → Int32) × (Nat → Int32)) := (bt2 (mX9_refused mi s1) (fun r_5 mi_6 => (if r_5 = 0 then (bo2 (mX9_remember mi_6 vnw vdi) (fun mi_9 vdi_10 => (bo2 (mX9_crateOn vnw l1) (fun r_12 vnw_13 => (some (r_12, mi_9, vnw_13, vdi_10)))))) else (some ((0 : Int32), mi_6, vnw, vdi)))))
def mX9_addCrate (mi : Nat → Int32) (vnw : Nat → Int32) (vdi : Nat → Int32) (x0 : Int32) : Option (Int32 × (Nat → Int32) × (Nat → Int32) × (Nat → Int32)) := (if (mX9_isCell x0) = 0 then (mX9_addCrate_J28 mi vnw vdi x0 (1 : Int32)) else (bo1 (mX9_canCrate vnw x0) (fun r_2 => (if r_2 = 0 then (mX9_addCrate_J28 mi vnw vdi x0 (2 : Int32)) else (mX9_addCrate_J28 mi vnw vdi x0 (0 : Int32))))))
set_option maxHeartbeats 4000000 in
set_option maxRecDepth 100000 in
theorem kX9_addCrate (l : Launch) (Γ : my_G) (q_mo q_tt q_nw q_tr q_ot q_di q_kp q_ik q_wy q_ah q_tg q_ws q_fr q_rw : Nat) (mi : Nat → Int32) (vtt : Nat → Int32) (vnw : Nat → Int32) (vtr : Nat → Int32) (vot : Nat → Int32) (vdi : Nat → Int32) (vkp : Nat → Int32) (vik : Nat → Int32) (vwy : Nat → Int32) (vah : Nat → Int32) (vtg : Nat → Int32) (vws : Nat → Int32) (vfr : Nat → Int32) (vrw : Nat → Int32) (x0 : Int32) (rr : Int32) (mi_z : Nat → Int32) (vnw_z : Nat → Int32) (vdi_z : Nat → Int32) (hm : mX9_addCrate mi vnw vdi x0 = (some (rr, mi_z, vnw_z, vdi_z))) : Mn l yX9_addCrate wsX9_addCrate ({ frames := 4, cells := 0, slots := 0, locals := 85 } : Room) Γ [.ref q_mo, .int x0] (wModel Γ q_mo q_tt q_nw q_tr q_ot q_di q_kp q_ik q_wy q_ah q_tg q_ws q_fr q_rw mi vtt vnw vtr vot vdi vkp vik vwy vah vtg vws vfr vrw) (some (.int rr)) (wModel Γ q_mo q_tt q_nw q_tr q_ot q_di q_kp q_ik q_wy q_ah q_tg q_ws q_fr q_rw mi_z vtt vnw_z vtr vot vdi_z vkp vik vwy vah vtg vws vfr vrw) := by
  intro sz
  refine Met.ofW (cc := cX9_addCrate) (maxL := 2) (ret := (some .int)) (by decide) rfl ?_
  intro p e s m args below meth c s₁ B hml hv
  obtain ⟨rfl, hsz, hP, hK, hD0⟩ := hv
  have hx := B.exec
  have hb := B.bytes
  have hr := B.returns
  have hts := atoms_spec (ws := wsX9_addCrate) B.pre
  have hown : s.vm.findClass RX9 = some m.cls := findClass_of_methodNamed B.named
  have hlocks := B.notSynchronized
  have hinX9 : ∀ w ∈ u_ws RX9 TX9 19, w ∈ wsX9_addCrate := fun w h => List.mem_cons_of_mem _ (List.mem_append_right _ h)
  subst hsz
  have hD := hD0.self (sz := s.heap.size)
  have hA : ∀ q : Nat, s.heap.size ≤ q → va_A (wModel Γ q_mo q_tt q_nw q_tr q_ot q_di q_kp q_ik q_wy q_ah q_tg q_ws q_fr q_rw mi vtt vnw vtr vot vdi vkp vik vwy vah vtg vws vfr vrw) s.heap.size q := fun q h => Or.inr h
  generalize va_A (wModel Γ q_mo q_tt q_nw q_tr q_ot q_di q_kp q_ik q_wy q_ah q_tg q_ws q_fr q_rw mi vtt vnw vtr vot vdi vkp vik vwy vah vtg vws vfr vrw) s.heap.size = A at hD hA ⊢
  have hS : va_S A s.heap s.heap [] := va_S.rf
  have hl := lv_entry ([.ref q_mo, .int x0]) (n := 2) (Nat.le_of_ble_eq_true rfl)
  rw [lg_entry_eq]
  generalize (lg_sl ([.ref q_mo, .int x0]) ++ List.replicate (2 - (lg_sl ([.ref q_mo, .int x0])).length) Slot.unset).toArray = ls at hl ⊢
  replace hl : lv_has ls 2 [(0, .ref q_mo), (1, .int x0)] := hl
  have J_28 : ∀ (mi : Nat → Int32) (vnw : Nat → Int32) (vdi : Nat → Int32) (l1 : Int32) (s1 : Int32) (H : Heap) (locs : List Loc) (ls : Array Slot), va_P (my_D Γ) vwCl (wModel Γ q_mo q_tt q_nw q_tr q_ot q_di q_kp q_ik q_wy q_ah q_tg q_ws q_fr q_rw mi vtt vnw vtr vot vdi vkp vik vwy vah vtg vws vfr vrw) H → va_D A (wModel Γ q_mo q_tt q_nw q_tr q_ot q_di q_kp q_ik q_wy q_ah q_tg q_ws q_fr q_rw mi vtt vnw vtr vot vdi vkp vik vwy vah vtg vws vfr vrw) → va_S A s.heap H locs → lv_has ls 2 [(0, .ref q_mo), (1, .int l1)] → mX9_addCrate_J28 mi vnw vdi l1 s1 = (some (rr, mi_z, vnw_z, vdi_z)) → W p l e (headSpec wsX9_addCrate ({ frames := 4, cells := 0, slots := 0, locals := 85 } : Room)).room s m ([.ref q_mo, .int x0] : List Value).toArray below meth c H locs 0 0 (MQ below (my_Q Γ A (some (.int rr)) (wModel Γ q_mo q_tt q_nw q_tr q_ot q_di q_kp q_ik q_wy q_ah q_tg q_ws q_fr q_rw mi_z vtt vnw_z vtr vot vdi_z vkp vik vwy vah vtg vws vfr vrw)) ([.ref q_mo, .int x0] : List Value).toArray s 0 0 A) (F0 m 28 ls [.int s1, .ref q_mo]) := by
    intro  mi vnw vdi l1 s1 H locs ls hP hD hS hl hm
    unfold mX9_addCrate_J28 at hm
    obtain ⟨r_5, mi_6, hc_7, hm⟩ := bt2_s hm
    refine my_callP1 (wc := (wMo Γ q_mo q_tt q_nw q_tr q_ot q_di q_kp q_ik q_wy q_ah q_tg q_ws q_fr q_rw mi)) (w1 := (wMo Γ q_mo q_tt q_nw q_tr q_ot q_di q_kp q_ik q_wy q_ah q_tg q_ws q_fr q_rw mi_6)) (ws1 := (wModel Γ q_mo q_tt q_nw q_tr q_ot q_di q_kp q_ik q_wy q_ah q_tg q_ws q_fr q_rw mi_6 vtt vnw vtr vot vdi vkp vik vwy vah vtg vws vfr vrw)) hP hD hS hA [0] rfl rfl rfl (va_runV (As := [.int s1]) (rest := []) ⟨hx, hb, hml, hown, hts⟩ (kX9_refused l Γ q_mo q_tt q_nw q_tr q_ot q_di q_kp q_ik q_wy q_ah q_tg q_ws q_fr q_rw mi s1 r_5 mi_6 hc_7 _) (cwV 1 hts gX9_addCrate_X9_refused rfl rfl rfl (by decide +kernel) ⟨Nat.le_of_ble_eq_true rfl, Nat.le_of_ble_eq_true rfl⟩) (my_preV (wc := (wMo Γ q_mo q_tt q_nw q_tr q_ot q_di q_kp q_ik q_wy q_ah q_tg q_ws q_fr q_rw mi)) (ci := 7) (q0 := 0) [0] hK hP hD rfl rfl rfl rfl) rfl rfl hl.1 rfl (lv_room (Nat.le_of_ble_eq_true rfl)) dX9_addCrate_28 ⟨Nat.le_of_ble_eq_true rfl, Nat.le_of_ble_eq_true rfl⟩) (fun H locs hP hD hS => ?_)
    refine lv_if_eq (tgt := 36) hx hb dX9_addCrate_31 (by decide) (fun c_8 => ?_) (fun c_8 => ?_)
    · replace hm := if_s hm c_8
      refine lv_aload_n hx hb dX9_addCrate_36 rfl (lv_at hl 0 rfl) ?_
      obtain ⟨mi_9, vdi_10, hc_11, hm⟩ := bo2_s hm
      refine my_callP0 (wc := (wModel Γ q_mo q_tt q_nw q_tr q_ot q_di q_kp q_ik q_wy q_ah q_tg q_ws q_fr q_rw mi_6 vtt vnw vtr vot vdi vkp vik vwy vah vtg vws vfr vrw)) (w1 := (wModel Γ q_mo q_tt q_nw q_tr q_ot q_di q_kp q_ik q_wy q_ah q_tg q_ws q_fr q_rw mi_9 vtt vnw vtr vot vdi_10 vkp vik vwy vah vtg vws vfr vrw)) (ws1 := (wModel Γ q_mo q_tt q_nw q_tr q_ot q_di q_kp q_ik q_wy q_ah q_tg q_ws q_fr q_rw mi_9 vtt vnw vtr vot vdi_10 vkp vik vwy vah vtg vws vfr vrw)) hP hD hS hA [0, 1, 2, 3, 4, 5, 6, 7, 8, 9, 10, 11, 12, 13] rfl rfl rfl (va_runV (As := []) (rest := []) ⟨hx, hb, hml, hown, hts⟩ (kX9_remember l Γ q_mo q_tt q_nw q_tr q_ot q_di q_kp q_ik q_wy q_ah q_tg q_ws q_fr q_rw mi_6 vtt vnw vtr vot vdi vkp vik vwy vah vtg vws vfr vrw mi_9 vdi_10 hc_11 _) (cwV 0 hts gX9_addCrate_X9_remember rfl rfl rfl (by decide +kernel) ⟨Nat.le_of_ble_eq_true rfl, Nat.le_of_ble_eq_true rfl⟩) (my_preV (wc := (wModel Γ q_mo q_tt q_nw q_tr q_ot q_di q_kp q_ik q_wy q_ah q_tg q_ws q_fr q_rw mi_6 vtt vnw vtr vot vdi vkp vik vwy vah vtg vws vfr vrw)) (ci := 7) (q0 := 0) [0, 1, 2, 3, 4, 5, 6, 7, 8, 9, 10, 11, 12, 13] hK hP hD rfl rfl rfl rfl) rfl rfl hl.1 rfl (lv_room (Nat.le_of_ble_eq_true rfl)) dX9_addCrate_37 ⟨Nat.le_of_ble_eq_true rfl, Nat.le_of_ble_eq_true rfl⟩) (fun H locs hP hD hS => ?_)
      refine lv_aload_n hx hb dX9_addCrate_40 rfl (lv_at hl 0 rfl) ?_
      refine va_get (D := my_D Γ) (ci := 7) (v := .ref q_nw) (C := RX9) (T := TX9) (N := 19) hx hb hts hinX9 hown hK hP 0 rfl rfl 3 (by decide) (hts (.fieldLink RX9 13 "BeltFloorModel" "now" "[I") (List.mem_of_getElem? (i := 1) rfl)) (fun _ h9 => h9) rfl dX9_addCrate_41 ?_
      refine lv_iload_n hx hb dX9_addCrate_44 rfl (lv_at hl 1 rfl) ?_
      obtain ⟨r_12, vnw_13, hc_14, hm⟩ := bo2_s hm
      refine my_callP1 (wc := (wArr117 Γ q_nw vnw)) (w1 := (wArr117 Γ q_nw vnw_13)) (ws1 := (wModel Γ q_mo q_tt q_nw q_tr q_ot q_di q_kp q_ik q_wy q_ah q_tg q_ws q_fr q_rw mi_9 vtt vnw_13 vtr vot vdi_10 vkp vik vwy vah vtg vws vfr vrw)) hP hD hS hA [2] rfl rfl rfl (va_runS (As := [.ref q_nw, .int l1]) (rest := []) ⟨hx, hb, hml, hown, hts⟩ (kX9_crateOn l Γ q_nw vnw l1 r_12 vnw_13 hc_14 _) (va_cwS 2 hts gX9_addCrate_X9_crateOn rfl rfl rfl (by decide +kernel) ⟨Nat.le_of_ble_eq_true rfl, Nat.le_of_ble_eq_true rfl⟩) (my_preS (wc := (wArr117 Γ q_nw vnw)) [2] hK hP hD rfl rfl) rfl rfl hl.1 rfl (lv_room (Nat.le_of_ble_eq_true rfl)) dX9_addCrate_45 ⟨Nat.le_of_ble_eq_true rfl, Nat.le_of_ble_eq_true rfl⟩) (fun H locs hP hD hS => ?_)
      obtain ⟨hf0, hf1, hf2, hf3⟩ := si4 hm
      subst hf0
      subst hf1
      subst hf2
      subst hf3
      exact W.iret (v := r_12) hx hb hr (fun t ht hW => ⟨⟨rfl, by rw [ht]; exact hP⟩, hS.F ht⟩) hS.2.2 dX9_addCrate_48
    · replace hm := if_f hm c_8
      refine lv_iconst (v := (0 : Int32)) hx hb dX9_addCrate_34 (by decide) ?_
      obtain ⟨hf0, hf1, hf2, hf3⟩ := si4 hm
      subst hf0
      subst hf1
      subst hf2
      subst hf3
      exact W.iret (v := (0 : Int32)) hx hb hr (fun t ht hW => ⟨⟨rfl, by rw [ht]; exact hP⟩, hS.F ht⟩) hS.2.2 dX9_addCrate_35
  unfold mX9_addCrate at hm
  refine lv_aload_n hx hb dX9_addCrate_0 rfl (lv_at hl 0 rfl) ?_
  refine lv_iload_n hx hb dX9_addCrate_1 rfl (lv_at hl 1 rfl) ?_
  refine my_callP1 (wc := ([] : va_W)) (w1 := ([] : va_W)) (ws1 := (wModel Γ q_mo q_tt q_nw q_tr q_ot q_di q_kp q_ik q_wy q_ah q_tg q_ws q_fr q_rw mi vtt vnw vtr vot vdi vkp vik vwy vah vtg vws vfr vrw)) hP hD hS hA [] rfl rfl rfl (va_runS (As := [.int x0]) (rest := [.ref q_mo]) ⟨hx, hb, hml, hown, hts⟩ (kX9_isCell l Γ x0 (mX9_isCell x0) rfl _) (va_cwS 1 hts gX9_addCrate_X9_isCell rfl rfl rfl (by decide +kernel) ⟨Nat.le_of_ble_eq_true rfl, Nat.le_of_ble_eq_true rfl⟩) (my_preS (wc := ([] : va_W)) [] hK hP hD rfl rfl) rfl rfl hl.1 rfl (lv_room (Nat.le_of_ble_eq_true rfl)) dX9_addCrate_2 ⟨Nat.le_of_ble_eq_true rfl, Nat.le_of_ble_eq_true rfl⟩) (fun H locs hP hD hS => ?_)
  refine lv_if_ne (tgt := 12) hx hb dX9_addCrate_5 (by decide) (fun c_1 => ?_) (fun c_1 => ?_)
  · replace hm := if_f hm c_1
    refine lv_aload_n hx hb dX9_addCrate_12 rfl (lv_at hl 0 rfl) ?_
    refine va_get (D := my_D Γ) (ci := 7) (v := .ref q_nw) (C := RX9) (T := TX9) (N := 19) hx hb hts hinX9 hown hK hP 0 rfl rfl 3 (by decide) (hts (.fieldLink RX9 13 "BeltFloorModel" "now" "[I") (List.mem_of_getElem? (i := 1) rfl)) (fun _ h9 => h9) rfl dX9_addCrate_13 ?_
    refine lv_iload_n hx hb dX9_addCrate_16 rfl (lv_at hl 1 rfl) ?_
    obtain ⟨r_2, hc_3, hm⟩ := bo1_s hm
    refine my_callP1 (wc := (wArr117 Γ q_nw vnw)) (w1 := (wArr117 Γ q_nw vnw)) (ws1 := (wModel Γ q_mo q_tt q_nw q_tr q_ot q_di q_kp q_ik q_wy q_ah q_tg q_ws q_fr q_rw mi vtt vnw vtr vot vdi vkp vik vwy vah vtg vws vfr vrw)) hP hD hS hA [2] rfl rfl rfl (va_runS (As := [.ref q_nw, .int x0]) (rest := [.ref q_mo]) ⟨hx, hb, hml, hown, hts⟩ (kX9_canCrate l Γ q_nw vnw x0 r_2 hc_3 _) (va_cwS 2 hts gX9_addCrate_X9_canCrate rfl rfl rfl (by decide +kernel) ⟨Nat.le_of_ble_eq_true rfl, Nat.le_of_ble_eq_true rfl⟩) (my_preS (wc := (wArr117 Γ q_nw vnw)) [2] hK hP hD rfl rfl) rfl rfl hl.1 rfl (lv_room (Nat.le_of_ble_eq_true rfl)) dX9_addCrate_17 ⟨Nat.le_of_ble_eq_true rfl, Nat.le_of_ble_eq_true rfl⟩) (fun H locs hP hD hS => ?_)
    refine lv_if_eq (tgt := 27) hx hb dX9_addCrate_20 (by decide) (fun c_4 => ?_) (fun c_4 => ?_)
    · replace hm := if_s hm c_4
      refine lv_iconst (v := (2 : Int32)) hx hb dX9_addCrate_27 (by decide) ?_
      exact J_28 mi vnw vdi x0 (2 : Int32) _ _ _ hP hD hS (lv_sub hl [0, 1] rfl) hm
    · replace hm := if_f hm c_4
      refine lv_iconst (v := (0 : Int32)) hx hb dX9_addCrate_23 (by decide) ?_
      refine lv_goto (tgt := 28) hx hb dX9_addCrate_24 (by decide) ?_
      exact J_28 mi vnw vdi x0 (0 : Int32) _ _ _ hP hD hS (lv_sub hl [0, 1] rfl) hm
  · replace hm := if_s hm c_1
    refine lv_iconst (v := (1 : Int32)) hx hb dX9_addCrate_8 (by decide) ?_
    refine lv_goto (tgt := 28) hx hb dX9_addCrate_9 (by decide) ?_
    exact J_28 mi vnw vdi x0 (1 : Int32) _ _ _ hP hD hS (lv_sub hl [0, 1] rfl) hm
def mX9_takeCrate_J30  (mi : Nat → Int32) (vnw : Nat → Int32) (vdi : Nat → Int32) (l1 : Int32) (s1 : Int32) : Option (Int32 × (Nat → Int32) × (Nat → Int32) × (Nat → Int32)) := (bt2 (mX9_refused mi s1) (fun r_4 mi_5 => (if r_4 = 0 then (bo2 (mX9_remember mi_5 vnw vdi) (fun mi_8 vdi_9 => (if ¬ (((36 : Int32) + l1) < 0 ∨ 117 ≤ ((36 : Int32) + l1).toNatClampNeg) then (bo1 (mX9_cratesOn (upd vnw ((36 : Int32) + l1).toNatClampNeg (0 : Int32))) (fun r_12 => (some (r_12, mi_8, (upd vnw ((36 : Int32) + l1).toNatClampNeg (0 : Int32)), vdi_9)))) else none))) else (some ((0 : Int32), mi_5, vnw, vdi)))))
def mX9_takeCrate (mi : Nat → Int32) (vnw : Nat → Int32) (vdi : Nat → Int32) (x0 : Int32) : Option (Int32 × (Nat → Int32) × (Nat → Int32) × (Nat → Int32)) := (if (mX9_isCell x0) = 0 then (mX9_takeCrate_J30 mi vnw vdi x0 (1 : Int32)) else (if ¬ (((36 : Int32) + x0) < 0 ∨ 117 ≤ ((36 : Int32) + x0).toNatClampNeg) then (if (vnw ((36 : Int32) + x0).toNatClampNeg) = (1 : Int32) then (mX9_takeCrate_J30 mi vnw vdi x0 (0 : Int32)) else (mX9_takeCrate_J30 mi vnw vdi x0 (2 : Int32))) else none))
set_option maxHeartbeats 4000000 in
set_option maxRecDepth 100000 in
theorem kX9_takeCrate (l : Launch) (Γ : my_G) (q_mo q_tt q_nw q_tr q_ot q_di q_kp q_ik q_wy q_ah q_tg q_ws q_fr q_rw : Nat) (mi : Nat → Int32) (vtt : Nat → Int32) (vnw : Nat → Int32) (vtr : Nat → Int32) (vot : Nat → Int32) (vdi : Nat → Int32) (vkp : Nat → Int32) (vik : Nat → Int32) (vwy : Nat → Int32) (vah : Nat → Int32) (vtg : Nat → Int32) (vws : Nat → Int32) (vfr : Nat → Int32) (vrw : Nat → Int32) (x0 : Int32) (rr : Int32) (mi_z : Nat → Int32) (vnw_z : Nat → Int32) (vdi_z : Nat → Int32) (hm : mX9_takeCrate mi vnw vdi x0 = (some (rr, mi_z, vnw_z, vdi_z))) : Mn l yX9_takeCrate wsX9_takeCrate ({ frames := 2, cells := 0, slots := 0, locals := 45 } : Room) Γ [.ref q_mo, .int x0] (wModel Γ q_mo q_tt q_nw q_tr q_ot q_di q_kp q_ik q_wy q_ah q_tg q_ws q_fr q_rw mi vtt vnw vtr vot vdi vkp vik vwy vah vtg vws vfr vrw) (some (.int rr)) (wModel Γ q_mo q_tt q_nw q_tr q_ot q_di q_kp q_ik q_wy q_ah q_tg q_ws q_fr q_rw mi_z vtt vnw_z vtr vot vdi_z vkp vik vwy vah vtg vws vfr vrw) := by
  intro sz
  refine Met.ofW (cc := cX9_takeCrate) (maxL := 2) (ret := (some .int)) (by decide) rfl ?_
  intro p e s m args below meth c s₁ B hml hv
  obtain ⟨rfl, hsz, hP, hK, hD0⟩ := hv
  have hx := B.exec
  have hb := B.bytes
  have hr := B.returns
  have hts := atoms_spec (ws := wsX9_takeCrate) B.pre
  have hown : s.vm.findClass RX9 = some m.cls := findClass_of_methodNamed B.named
  have hlocks := B.notSynchronized
  have hinX9 : ∀ w ∈ u_ws RX9 TX9 19, w ∈ wsX9_takeCrate := fun w h => List.mem_cons_of_mem _ (List.mem_append_right _ h)
  subst hsz
  have hD := hD0.self (sz := s.heap.size)
  have hA : ∀ q : Nat, s.heap.size ≤ q → va_A (wModel Γ q_mo q_tt q_nw q_tr q_ot q_di q_kp q_ik q_wy q_ah q_tg q_ws q_fr q_rw mi vtt vnw vtr vot vdi vkp vik vwy vah vtg vws vfr vrw) s.heap.size q := fun q h => Or.inr h
  generalize va_A (wModel Γ q_mo q_tt q_nw q_tr q_ot q_di q_kp q_ik q_wy q_ah q_tg q_ws q_fr q_rw mi vtt vnw vtr vot vdi vkp vik vwy vah vtg vws vfr vrw) s.heap.size = A at hD hA ⊢
  have hS : va_S A s.heap s.heap [] := va_S.rf
  have hl := lv_entry ([.ref q_mo, .int x0]) (n := 2) (Nat.le_of_ble_eq_true rfl)
  rw [lg_entry_eq]
  generalize (lg_sl ([.ref q_mo, .int x0]) ++ List.replicate (2 - (lg_sl ([.ref q_mo, .int x0])).length) Slot.unset).toArray = ls at hl ⊢
  replace hl : lv_has ls 2 [(0, .ref q_mo), (1, .int x0)] := hl
  have J_30 : ∀ (mi : Nat → Int32) (vnw : Nat → Int32) (vdi : Nat → Int32) (l1 : Int32) (s1 : Int32) (H : Heap) (locs : List Loc) (ls : Array Slot), va_P (my_D Γ) vwCl (wModel Γ q_mo q_tt q_nw q_tr q_ot q_di q_kp q_ik q_wy q_ah q_tg q_ws q_fr q_rw mi vtt vnw vtr vot vdi vkp vik vwy vah vtg vws vfr vrw) H → va_D A (wModel Γ q_mo q_tt q_nw q_tr q_ot q_di q_kp q_ik q_wy q_ah q_tg q_ws q_fr q_rw mi vtt vnw vtr vot vdi vkp vik vwy vah vtg vws vfr vrw) → va_S A s.heap H locs → lv_has ls 2 [(0, .ref q_mo), (1, .int l1)] → mX9_takeCrate_J30 mi vnw vdi l1 s1 = (some (rr, mi_z, vnw_z, vdi_z)) → W p l e (headSpec wsX9_takeCrate ({ frames := 2, cells := 0, slots := 0, locals := 45 } : Room)).room s m ([.ref q_mo, .int x0] : List Value).toArray below meth c H locs 0 0 (MQ below (my_Q Γ A (some (.int rr)) (wModel Γ q_mo q_tt q_nw q_tr q_ot q_di q_kp q_ik q_wy q_ah q_tg q_ws q_fr q_rw mi_z vtt vnw_z vtr vot vdi_z vkp vik vwy vah vtg vws vfr vrw)) ([.ref q_mo, .int x0] : List Value).toArray s 0 0 A) (F0 m 30 ls [.int s1, .ref q_mo]) := by
    intro  mi vnw vdi l1 s1 H locs ls hP hD hS hl hm
    unfold mX9_takeCrate_J30 at hm
    obtain ⟨r_4, mi_5, hc_6, hm⟩ := bt2_s hm
    refine my_callP1 (wc := (wMo Γ q_mo q_tt q_nw q_tr q_ot q_di q_kp q_ik q_wy q_ah q_tg q_ws q_fr q_rw mi)) (w1 := (wMo Γ q_mo q_tt q_nw q_tr q_ot q_di q_kp q_ik q_wy q_ah q_tg q_ws q_fr q_rw mi_5)) (ws1 := (wModel Γ q_mo q_tt q_nw q_tr q_ot q_di q_kp q_ik q_wy q_ah q_tg q_ws q_fr q_rw mi_5 vtt vnw vtr vot vdi vkp vik vwy vah vtg vws vfr vrw)) hP hD hS hA [0] rfl rfl rfl (va_runV (As := [.int s1]) (rest := []) ⟨hx, hb, hml, hown, hts⟩ (kX9_refused l Γ q_mo q_tt q_nw q_tr q_ot q_di q_kp q_ik q_wy q_ah q_tg q_ws q_fr q_rw mi s1 r_4 mi_5 hc_6 _) (cwV 1 hts gX9_takeCrate_X9_refused rfl rfl rfl (by decide +kernel) ⟨Nat.le_of_ble_eq_true rfl, Nat.le_of_ble_eq_true rfl⟩) (my_preV (wc := (wMo Γ q_mo q_tt q_nw q_tr q_ot q_di q_kp q_ik q_wy q_ah q_tg q_ws q_fr q_rw mi)) (ci := 7) (q0 := 0) [0] hK hP hD rfl rfl rfl rfl) rfl rfl hl.1 rfl (lv_room (Nat.le_of_ble_eq_true rfl)) dX9_takeCrate_30 ⟨Nat.le_of_ble_eq_true rfl, Nat.le_of_ble_eq_true rfl⟩) (fun H locs hP hD hS => ?_)
    refine lv_if_eq (tgt := 38) hx hb dX9_takeCrate_33 (by decide) (fun c_7 => ?_) (fun c_7 => ?_)
    · replace hm := if_s hm c_7
      refine lv_aload_n hx hb dX9_takeCrate_38 rfl (lv_at hl 0 rfl) ?_
      obtain ⟨mi_8, vdi_9, hc_10, hm⟩ := bo2_s hm
      refine my_callP0 (wc := (wModel Γ q_mo q_tt q_nw q_tr q_ot q_di q_kp q_ik q_wy q_ah q_tg q_ws q_fr q_rw mi_5 vtt vnw vtr vot vdi vkp vik vwy vah vtg vws vfr vrw)) (w1 := (wModel Γ q_mo q_tt q_nw q_tr q_ot q_di q_kp q_ik q_wy q_ah q_tg q_ws q_fr q_rw mi_8 vtt vnw vtr vot vdi_9 vkp vik vwy vah vtg vws vfr vrw)) (ws1 := (wModel Γ q_mo q_tt q_nw q_tr q_ot q_di q_kp q_ik q_wy q_ah q_tg q_ws q_fr q_rw mi_8 vtt vnw vtr vot vdi_9 vkp vik vwy vah vtg vws vfr vrw)) hP hD hS hA [0, 1, 2, 3, 4, 5, 6, 7, 8, 9, 10, 11, 12, 13] rfl rfl rfl (va_runV (As := []) (rest := []) ⟨hx, hb, hml, hown, hts⟩ (kX9_remember l Γ q_mo q_tt q_nw q_tr q_ot q_di q_kp q_ik q_wy q_ah q_tg q_ws q_fr q_rw mi_5 vtt vnw vtr vot vdi vkp vik vwy vah vtg vws vfr vrw mi_8 vdi_9 hc_10 _) (cwV 0 hts gX9_takeCrate_X9_remember rfl rfl rfl (by decide +kernel) ⟨Nat.le_of_ble_eq_true rfl, Nat.le_of_ble_eq_true rfl⟩) (my_preV (wc := (wModel Γ q_mo q_tt q_nw q_tr q_ot q_di q_kp q_ik q_wy q_ah q_tg q_ws q_fr q_rw mi_5 vtt vnw vtr vot vdi vkp vik vwy vah vtg vws vfr vrw)) (ci := 7) (q0 := 0) [0, 1, 2, 3, 4, 5, 6, 7, 8, 9, 10, 11, 12, 13] hK hP hD rfl rfl rfl rfl) rfl rfl hl.1 rfl (lv_room (Nat.le_of_ble_eq_true rfl)) dX9_takeCrate_39 ⟨Nat.le_of_ble_eq_true rfl, Nat.le_of_ble_eq_true rfl⟩) (fun H locs hP hD hS => ?_)
      refine lv_aload_n hx hb dX9_takeCrate_42 rfl (lv_at hl 0 rfl) ?_
      refine va_get (D := my_D Γ) (ci := 7) (v := .ref q_nw) (C := RX9) (T := TX9) (N := 19) hx hb hts hinX9 hown hK hP 0 rfl rfl 3 (by decide) (hts (.fieldLink RX9 13 "BeltFloorModel" "now" "[I") (List.mem_of_getElem? (i := 1) rfl)) (fun _ h9 => h9) rfl dX9_takeCrate_43 ?_
      refine lv_bipush (v := (36 : Int32)) hx hb dX9_takeCrate_46 (by decide) ?_
      refine lv_iload_n hx hb dX9_takeCrate_48 rfl (lv_at hl 1 rfl) ?_
      refine lv_iadd hx hb dX9_takeCrate_49 ?_
      refine lv_iconst (v := (0 : Int32)) hx hb dX9_takeCrate_50 (by decide) ?_
      obtain ⟨hi_11, hm⟩ := if_in hm
      refine va_iast hx hb hK hP hD hS 2 0 rfl rfl hi_11 dX9_takeCrate_51 (fun H locs hP hD hS => ?_)
      replace hP : va_P (my_D Γ) vwCl (wModel Γ q_mo q_tt q_nw q_tr q_ot q_di q_kp q_ik q_wy q_ah q_tg q_ws q_fr q_rw mi_8 vtt (upd vnw ((36 : Int32) + l1).toNatClampNeg (0 : Int32)) vtr vot vdi_9 vkp vik vwy vah vtg vws vfr vrw) H := hP
      replace hD : va_D A (wModel Γ q_mo q_tt q_nw q_tr q_ot q_di q_kp q_ik q_wy q_ah q_tg q_ws q_fr q_rw mi_8 vtt (upd vnw ((36 : Int32) + l1).toNatClampNeg (0 : Int32)) vtr vot vdi_9 vkp vik vwy vah vtg vws vfr vrw) := hD
      refine lv_aload_n hx hb dX9_takeCrate_52 rfl (lv_at hl 0 rfl) ?_
      refine va_get (D := my_D Γ) (ci := 7) (v := .ref q_nw) (C := RX9) (T := TX9) (N := 19) hx hb hts hinX9 hown hK hP 0 rfl rfl 3 (by decide) (hts (.fieldLink RX9 13 "BeltFloorModel" "now" "[I") (List.mem_of_getElem? (i := 1) rfl)) (fun _ h9 => h9) rfl dX9_takeCrate_53 ?_
      obtain ⟨r_12, hc_13, hm⟩ := bo1_s hm
      refine my_callP1 (wc := (wArr117 Γ q_nw (upd vnw ((36 : Int32) + l1).toNatClampNeg (0 : Int32)))) (w1 := (wArr117 Γ q_nw (upd vnw ((36 : Int32) + l1).toNatClampNeg (0 : Int32)))) (ws1 := (wModel Γ q_mo q_tt q_nw q_tr q_ot q_di q_kp q_ik q_wy q_ah q_tg q_ws q_fr q_rw mi_8 vtt (upd vnw ((36 : Int32) + l1).toNatClampNeg (0 : Int32)) vtr vot vdi_9 vkp vik vwy vah vtg vws vfr vrw)) hP hD hS hA [2] rfl rfl rfl (va_runS (As := [.ref q_nw]) (rest := []) ⟨hx, hb, hml, hown, hts⟩ (kX9_cratesOn l Γ q_nw (upd vnw ((36 : Int32) + l1).toNatClampNeg (0 : Int32)) r_12 hc_13 _) (va_cwS 1 hts gX9_takeCrate_X9_cratesOn rfl rfl rfl (by decide +kernel) ⟨Nat.le_of_ble_eq_true rfl, Nat.le_of_ble_eq_true rfl⟩) (my_preS (wc := (wArr117 Γ q_nw (upd vnw ((36 : Int32) + l1).toNatClampNeg (0 : Int32)))) [2] hK hP hD rfl rfl) rfl rfl hl.1 rfl (lv_room (Nat.le_of_ble_eq_true rfl)) dX9_takeCrate_56 ⟨Nat.le_of_ble_eq_true rfl, Nat.le_of_ble_eq_true rfl⟩) (fun H locs hP hD hS => ?_)
      obtain ⟨hf0, hf1, hf2, hf3⟩ := si4 hm
      subst hf0
      subst hf1
      subst hf2
      subst hf3
      exact W.iret (v := r_12) hx hb hr (fun t ht hW => ⟨⟨rfl, by rw [ht]; exact hP⟩, hS.F ht⟩) hS.2.2 dX9_takeCrate_59
    · replace hm := if_f hm c_7
      refine lv_iconst (v := (0 : Int32)) hx hb dX9_takeCrate_36 (by decide) ?_
      obtain ⟨hf0, hf1, hf2, hf3⟩ := si4 hm
      subst hf0
      subst hf1
      subst hf2
      subst hf3
      exact W.iret (v := (0 : Int32)) hx hb hr (fun t ht hW => ⟨⟨rfl, by rw [ht]; exact hP⟩, hS.F ht⟩) hS.2.2 dX9_takeCrate_37
  unfold mX9_takeCrate at hm
  refine lv_aload_n hx hb dX9_takeCrate_0 rfl (lv_at hl 0 rfl) ?_
  refine lv_iload_n hx hb dX9_takeCrate_1 rfl (lv_at hl 1 rfl) ?_
  refine my_callP1 (wc := ([] : va_W)) (w1 := ([] : va_W)) (ws1 := (wModel Γ q_mo q_tt q_nw q_tr q_ot q_di q_kp q_ik q_wy q_ah q_tg q_ws q_fr q_rw mi vtt vnw vtr vot vdi vkp vik vwy vah vtg vws vfr vrw)) hP hD hS hA [] rfl rfl rfl (va_runS (As := [.int x0]) (rest := [.ref q_mo]) ⟨hx, hb, hml, hown, hts⟩ (kX9_isCell l Γ x0 (mX9_isCell x0) rfl _) (va_cwS 1 hts gX9_takeCrate_X9_isCell rfl rfl rfl (by decide +kernel) ⟨Nat.le_of_ble_eq_true rfl, Nat.le_of_ble_eq_true rfl⟩) (my_preS (wc := ([] : va_W)) [] hK hP hD rfl rfl) rfl rfl hl.1 rfl (lv_room (Nat.le_of_ble_eq_true rfl)) dX9_takeCrate_2 ⟨Nat.le_of_ble_eq_true rfl, Nat.le_of_ble_eq_true rfl⟩) (fun H locs hP hD hS => ?_)
  refine lv_if_ne (tgt := 12) hx hb dX9_takeCrate_5 (by decide) (fun c_1 => ?_) (fun c_1 => ?_)
  · replace hm := if_f hm c_1
    refine lv_aload_n hx hb dX9_takeCrate_12 rfl (lv_at hl 0 rfl) ?_
    refine va_get (D := my_D Γ) (ci := 7) (v := .ref q_nw) (C := RX9) (T := TX9) (N := 19) hx hb hts hinX9 hown hK hP 0 rfl rfl 3 (by decide) (hts (.fieldLink RX9 13 "BeltFloorModel" "now" "[I") (List.mem_of_getElem? (i := 1) rfl)) (fun _ h9 => h9) rfl dX9_takeCrate_13 ?_
    refine lv_bipush (v := (36 : Int32)) hx hb dX9_takeCrate_16 (by decide) ?_
    refine lv_iload_n hx hb dX9_takeCrate_18 rfl (lv_at hl 1 rfl) ?_
    refine lv_iadd hx hb dX9_takeCrate_19 ?_
    obtain ⟨hi_2, hm⟩ := if_in hm
    refine va_iald hx hb hK hP 2 0 rfl rfl hi_2 dX9_takeCrate_20 ?_
    refine lv_iconst (v := (1 : Int32)) hx hb dX9_takeCrate_21 (by decide) ?_
    refine lv_icmp_ne (tgt := 29) hx hb dX9_takeCrate_22 (by decide) (fun c_3 => ?_) (fun c_3 => ?_)
    · replace hm := if_f hm c_3
      refine lv_iconst (v := (2 : Int32)) hx hb dX9_takeCrate_29 (by decide) ?_
      exact J_30 mi vnw vdi x0 (2 : Int32) _ _ _ hP hD hS (lv_sub hl [0, 1] rfl) hm
    · replace hm := if_s hm c_3
      refine lv_iconst (v := (0 : Int32)) hx hb dX9_takeCrate_25 (by decide) ?_
      refine lv_goto (tgt := 30) hx hb dX9_takeCrate_26 (by decide) ?_
      exact J_30 mi vnw vdi x0 (0 : Int32) _ _ _ hP hD hS (lv_sub hl [0, 1] rfl) hm
  · replace hm := if_s hm c_1
    refine lv_iconst (v := (1 : Int32)) hx hb dX9_takeCrate_8 (by decide) ?_
    refine lv_goto (tgt := 30) hx hb dX9_takeCrate_9 (by decide) ?_
    exact J_30 mi vnw vdi x0 (1 : Int32) _ _ _ hP hD hS (lv_sub hl [0, 1] rfl) hm
def mX9_addCheckpoint_J28  (mi : Nat → Int32) (vnw : Nat → Int32) (vdi : Nat → Int32) (l1 : Int32) (s1 : Int32) : Option (Int32 × (Nat → Int32) × (Nat → Int32) × (Nat → Int32)) := (bt2 (mX9_refused mi s1) (fun r_5 mi_6 => (if r_5 = 0 then (bo2 (mX9_remember mi_6 vnw vdi) (fun mi_9 vdi_10 => (bo2 (mX9_pointOn vnw l1) (fun r_12 vnw_13 => (some (r_12, mi_9, vnw_13, vdi_10)))))) else (some ((0 : Int32), mi_6, vnw, vdi)))))
def mX9_addCheckpoint (mi : Nat → Int32) (vnw : Nat → Int32) (vdi : Nat → Int32) (x0 : Int32) : Option (Int32 × (Nat → Int32) × (Nat → Int32) × (Nat → Int32)) := (if (mX9_isCell x0) = 0 then (mX9_addCheckpoint_J28 mi vnw vdi x0 (1 : Int32)) else (bo1 (mX9_canPoint vnw x0) (fun r_2 => (if r_2 = 0 then (mX9_addCheckpoint_J28 mi vnw vdi x0 (2 : Int32)) else (mX9_addCheckpoint_J28 mi vnw vdi x0 (0 : Int32))))))
set_option maxHeartbeats 4000000 in
set_option maxRecDepth 100000 in
theorem kX9_addCheckpoint (l : Launch) (Γ : my_G) (q_mo q_tt q_nw q_tr q_ot q_di q_kp q_ik q_wy q_ah q_tg q_ws q_fr q_rw : Nat) (mi : Nat → Int32) (vtt : Nat → Int32) (vnw : Nat → Int32) (vtr : Nat → Int32) (vot : Nat → Int32) (vdi : Nat → Int32) (vkp : Nat → Int32) (vik : Nat → Int32) (vwy : Nat → Int32) (vah : Nat → Int32) (vtg : Nat → Int32) (vws : Nat → Int32) (vfr : Nat → Int32) (vrw : Nat → Int32) (x0 : Int32) (rr : Int32) (mi_z : Nat → Int32) (vnw_z : Nat → Int32) (vdi_z : Nat → Int32) (hm : mX9_addCheckpoint mi vnw vdi x0 = (some (rr, mi_z, vnw_z, vdi_z))) : Mn l yX9_addCheckpoint wsX9_addCheckpoint ({ frames := 2, cells := 0, slots := 0, locals := 45 } : Room) Γ [.ref q_mo, .int x0] (wModel Γ q_mo q_tt q_nw q_tr q_ot q_di q_kp q_ik q_wy q_ah q_tg q_ws q_fr q_rw mi vtt vnw vtr vot vdi vkp vik vwy vah vtg vws vfr vrw) (some (.int rr)) (wModel Γ q_mo q_tt q_nw q_tr q_ot q_di q_kp q_ik q_wy q_ah q_tg q_ws q_fr q_rw mi_z vtt vnw_z vtr vot vdi_z vkp vik vwy vah vtg vws vfr vrw) := by
  intro sz
  refine Met.ofW (cc := cX9_addCheckpoint) (maxL := 2) (ret := (some .int)) (by decide) rfl ?_
  intro p e s m args below meth c s₁ B hml hv
  obtain ⟨rfl, hsz, hP, hK, hD0⟩ := hv
  have hx := B.exec
  have hb := B.bytes
  have hr := B.returns
  have hts := atoms_spec (ws := wsX9_addCheckpoint) B.pre
  have hown : s.vm.findClass RX9 = some m.cls := findClass_of_methodNamed B.named
  have hlocks := B.notSynchronized
  have hinX9 : ∀ w ∈ u_ws RX9 TX9 19, w ∈ wsX9_addCheckpoint := fun w h => List.mem_cons_of_mem _ (List.mem_append_right _ h)
  subst hsz
  have hD := hD0.self (sz := s.heap.size)
  have hA : ∀ q : Nat, s.heap.size ≤ q → va_A (wModel Γ q_mo q_tt q_nw q_tr q_ot q_di q_kp q_ik q_wy q_ah q_tg q_ws q_fr q_rw mi vtt vnw vtr vot vdi vkp vik vwy vah vtg vws vfr vrw) s.heap.size q := fun q h => Or.inr h
  generalize va_A (wModel Γ q_mo q_tt q_nw q_tr q_ot q_di q_kp q_ik q_wy q_ah q_tg q_ws q_fr q_rw mi vtt vnw vtr vot vdi vkp vik vwy vah vtg vws vfr vrw) s.heap.size = A at hD hA ⊢
  have hS : va_S A s.heap s.heap [] := va_S.rf
  have hl := lv_entry ([.ref q_mo, .int x0]) (n := 2) (Nat.le_of_ble_eq_true rfl)
  rw [lg_entry_eq]
  generalize (lg_sl ([.ref q_mo, .int x0]) ++ List.replicate (2 - (lg_sl ([.ref q_mo, .int x0])).length) Slot.unset).toArray = ls at hl ⊢
  replace hl : lv_has ls 2 [(0, .ref q_mo), (1, .int x0)] := hl
  have J_28 : ∀ (mi : Nat → Int32) (vnw : Nat → Int32) (vdi : Nat → Int32) (l1 : Int32) (s1 : Int32) (H : Heap) (locs : List Loc) (ls : Array Slot), va_P (my_D Γ) vwCl (wModel Γ q_mo q_tt q_nw q_tr q_ot q_di q_kp q_ik q_wy q_ah q_tg q_ws q_fr q_rw mi vtt vnw vtr vot vdi vkp vik vwy vah vtg vws vfr vrw) H → va_D A (wModel Γ q_mo q_tt q_nw q_tr q_ot q_di q_kp q_ik q_wy q_ah q_tg q_ws q_fr q_rw mi vtt vnw vtr vot vdi vkp vik vwy vah vtg vws vfr vrw) → va_S A s.heap H locs → lv_has ls 2 [(0, .ref q_mo), (1, .int l1)] → mX9_addCheckpoint_J28 mi vnw vdi l1 s1 = (some (rr, mi_z, vnw_z, vdi_z)) → W p l e (headSpec wsX9_addCheckpoint ({ frames := 2, cells := 0, slots := 0, locals := 45 } : Room)).room s m ([.ref q_mo, .int x0] : List Value).toArray below meth c H locs 0 0 (MQ below (my_Q Γ A (some (.int rr)) (wModel Γ q_mo q_tt q_nw q_tr q_ot q_di q_kp q_ik q_wy q_ah q_tg q_ws q_fr q_rw mi_z vtt vnw_z vtr vot vdi_z vkp vik vwy vah vtg vws vfr vrw)) ([.ref q_mo, .int x0] : List Value).toArray s 0 0 A) (F0 m 28 ls [.int s1, .ref q_mo]) := by
    intro  mi vnw vdi l1 s1 H locs ls hP hD hS hl hm
    unfold mX9_addCheckpoint_J28 at hm
    obtain ⟨r_5, mi_6, hc_7, hm⟩ := bt2_s hm
    refine my_callP1 (wc := (wMo Γ q_mo q_tt q_nw q_tr q_ot q_di q_kp q_ik q_wy q_ah q_tg q_ws q_fr q_rw mi)) (w1 := (wMo Γ q_mo q_tt q_nw q_tr q_ot q_di q_kp q_ik q_wy q_ah q_tg q_ws q_fr q_rw mi_6)) (ws1 := (wModel Γ q_mo q_tt q_nw q_tr q_ot q_di q_kp q_ik q_wy q_ah q_tg q_ws q_fr q_rw mi_6 vtt vnw vtr vot vdi vkp vik vwy vah vtg vws vfr vrw)) hP hD hS hA [0] rfl rfl rfl (va_runV (As := [.int s1]) (rest := []) ⟨hx, hb, hml, hown, hts⟩ (kX9_refused l Γ q_mo q_tt q_nw q_tr q_ot q_di q_kp q_ik q_wy q_ah q_tg q_ws q_fr q_rw mi s1 r_5 mi_6 hc_7 _) (cwV 1 hts gX9_addCheckpoint_X9_refused rfl rfl rfl (by decide +kernel) ⟨Nat.le_of_ble_eq_true rfl, Nat.le_of_ble_eq_true rfl⟩) (my_preV (wc := (wMo Γ q_mo q_tt q_nw q_tr q_ot q_di q_kp q_ik q_wy q_ah q_tg q_ws q_fr q_rw mi)) (ci := 7) (q0 := 0) [0] hK hP hD rfl rfl rfl rfl) rfl rfl hl.1 rfl (lv_room (Nat.le_of_ble_eq_true rfl)) dX9_addCheckpoint_28 ⟨Nat.le_of_ble_eq_true rfl, Nat.le_of_ble_eq_true rfl⟩) (fun H locs hP hD hS => ?_)
    refine lv_if_eq (tgt := 36) hx hb dX9_addCheckpoint_31 (by decide) (fun c_8 => ?_) (fun c_8 => ?_)
    · replace hm := if_s hm c_8
      refine lv_aload_n hx hb dX9_addCheckpoint_36 rfl (lv_at hl 0 rfl) ?_
      obtain ⟨mi_9, vdi_10, hc_11, hm⟩ := bo2_s hm
      refine my_callP0 (wc := (wModel Γ q_mo q_tt q_nw q_tr q_ot q_di q_kp q_ik q_wy q_ah q_tg q_ws q_fr q_rw mi_6 vtt vnw vtr vot vdi vkp vik vwy vah vtg vws vfr vrw)) (w1 := (wModel Γ q_mo q_tt q_nw q_tr q_ot q_di q_kp q_ik q_wy q_ah q_tg q_ws q_fr q_rw mi_9 vtt vnw vtr vot vdi_10 vkp vik vwy vah vtg vws vfr vrw)) (ws1 := (wModel Γ q_mo q_tt q_nw q_tr q_ot q_di q_kp q_ik q_wy q_ah q_tg q_ws q_fr q_rw mi_9 vtt vnw vtr vot vdi_10 vkp vik vwy vah vtg vws vfr vrw)) hP hD hS hA [0, 1, 2, 3, 4, 5, 6, 7, 8, 9, 10, 11, 12, 13] rfl rfl rfl (va_runV (As := []) (rest := []) ⟨hx, hb, hml, hown, hts⟩ (kX9_remember l Γ q_mo q_tt q_nw q_tr q_ot q_di q_kp q_ik q_wy q_ah q_tg q_ws q_fr q_rw mi_6 vtt vnw vtr vot vdi vkp vik vwy vah vtg vws vfr vrw mi_9 vdi_10 hc_11 _) (cwV 0 hts gX9_addCheckpoint_X9_remember rfl rfl rfl (by decide +kernel) ⟨Nat.le_of_ble_eq_true rfl, Nat.le_of_ble_eq_true rfl⟩) (my_preV (wc := (wModel Γ q_mo q_tt q_nw q_tr q_ot q_di q_kp q_ik q_wy q_ah q_tg q_ws q_fr q_rw mi_6 vtt vnw vtr vot vdi vkp vik vwy vah vtg vws vfr vrw)) (ci := 7) (q0 := 0) [0, 1, 2, 3, 4, 5, 6, 7, 8, 9, 10, 11, 12, 13] hK hP hD rfl rfl rfl rfl) rfl rfl hl.1 rfl (lv_room (Nat.le_of_ble_eq_true rfl)) dX9_addCheckpoint_37 ⟨Nat.le_of_ble_eq_true rfl, Nat.le_of_ble_eq_true rfl⟩) (fun H locs hP hD hS => ?_)
      refine lv_aload_n hx hb dX9_addCheckpoint_40 rfl (lv_at hl 0 rfl) ?_
      refine va_get (D := my_D Γ) (ci := 7) (v := .ref q_nw) (C := RX9) (T := TX9) (N := 19) hx hb hts hinX9 hown hK hP 0 rfl rfl 3 (by decide) (hts (.fieldLink RX9 13 "BeltFloorModel" "now" "[I") (List.mem_of_getElem? (i := 1) rfl)) (fun _ h9 => h9) rfl dX9_addCheckpoint_41 ?_
      refine lv_iload_n hx hb dX9_addCheckpoint_44 rfl (lv_at hl 1 rfl) ?_
      obtain ⟨r_12, vnw_13, hc_14, hm⟩ := bo2_s hm
      refine my_callP1 (wc := (wArr117 Γ q_nw vnw)) (w1 := (wArr117 Γ q_nw vnw_13)) (ws1 := (wModel Γ q_mo q_tt q_nw q_tr q_ot q_di q_kp q_ik q_wy q_ah q_tg q_ws q_fr q_rw mi_9 vtt vnw_13 vtr vot vdi_10 vkp vik vwy vah vtg vws vfr vrw)) hP hD hS hA [2] rfl rfl rfl (va_runS (As := [.ref q_nw, .int l1]) (rest := []) ⟨hx, hb, hml, hown, hts⟩ (kX9_pointOn l Γ q_nw vnw l1 r_12 vnw_13 hc_14 _) (va_cwS 2 hts gX9_addCheckpoint_X9_pointOn rfl rfl rfl (by decide +kernel) ⟨Nat.le_of_ble_eq_true rfl, Nat.le_of_ble_eq_true rfl⟩) (my_preS (wc := (wArr117 Γ q_nw vnw)) [2] hK hP hD rfl rfl) rfl rfl hl.1 rfl (lv_room (Nat.le_of_ble_eq_true rfl)) dX9_addCheckpoint_45 ⟨Nat.le_of_ble_eq_true rfl, Nat.le_of_ble_eq_true rfl⟩) (fun H locs hP hD hS => ?_)
      obtain ⟨hf0, hf1, hf2, hf3⟩ := si4 hm
      subst hf0
      subst hf1
      subst hf2
      subst hf3
      exact W.iret (v := r_12) hx hb hr (fun t ht hW => ⟨⟨rfl, by rw [ht]; exact hP⟩, hS.F ht⟩) hS.2.2 dX9_addCheckpoint_48
    · replace hm := if_f hm c_8
      refine lv_iconst (v := (0 : Int32)) hx hb dX9_addCheckpoint_34 (by decide) ?_
      obtain ⟨hf0, hf1, hf2, hf3⟩ := si4 hm
      subst hf0
      subst hf1
      subst hf2
      subst hf3
      exact W.iret (v := (0 : Int32)) hx hb hr (fun t ht hW => ⟨⟨rfl, by rw [ht]; exact hP⟩, hS.F ht⟩) hS.2.2 dX9_addCheckpoint_35
  unfold mX9_addCheckpoint at hm
  refine lv_aload_n hx hb dX9_addCheckpoint_0 rfl (lv_at hl 0 rfl) ?_
  refine lv_iload_n hx hb dX9_addCheckpoint_1 rfl (lv_at hl 1 rfl) ?_
  refine my_callP1 (wc := ([] : va_W)) (w1 := ([] : va_W)) (ws1 := (wModel Γ q_mo q_tt q_nw q_tr q_ot q_di q_kp q_ik q_wy q_ah q_tg q_ws q_fr q_rw mi vtt vnw vtr vot vdi vkp vik vwy vah vtg vws vfr vrw)) hP hD hS hA [] rfl rfl rfl (va_runS (As := [.int x0]) (rest := [.ref q_mo]) ⟨hx, hb, hml, hown, hts⟩ (kX9_isCell l Γ x0 (mX9_isCell x0) rfl _) (va_cwS 1 hts gX9_addCheckpoint_X9_isCell rfl rfl rfl (by decide +kernel) ⟨Nat.le_of_ble_eq_true rfl, Nat.le_of_ble_eq_true rfl⟩) (my_preS (wc := ([] : va_W)) [] hK hP hD rfl rfl) rfl rfl hl.1 rfl (lv_room (Nat.le_of_ble_eq_true rfl)) dX9_addCheckpoint_2 ⟨Nat.le_of_ble_eq_true rfl, Nat.le_of_ble_eq_true rfl⟩) (fun H locs hP hD hS => ?_)
  refine lv_if_ne (tgt := 12) hx hb dX9_addCheckpoint_5 (by decide) (fun c_1 => ?_) (fun c_1 => ?_)
  · replace hm := if_f hm c_1
    refine lv_aload_n hx hb dX9_addCheckpoint_12 rfl (lv_at hl 0 rfl) ?_
    refine va_get (D := my_D Γ) (ci := 7) (v := .ref q_nw) (C := RX9) (T := TX9) (N := 19) hx hb hts hinX9 hown hK hP 0 rfl rfl 3 (by decide) (hts (.fieldLink RX9 13 "BeltFloorModel" "now" "[I") (List.mem_of_getElem? (i := 1) rfl)) (fun _ h9 => h9) rfl dX9_addCheckpoint_13 ?_
    refine lv_iload_n hx hb dX9_addCheckpoint_16 rfl (lv_at hl 1 rfl) ?_
    obtain ⟨r_2, hc_3, hm⟩ := bo1_s hm
    refine my_callP1 (wc := (wArr117 Γ q_nw vnw)) (w1 := (wArr117 Γ q_nw vnw)) (ws1 := (wModel Γ q_mo q_tt q_nw q_tr q_ot q_di q_kp q_ik q_wy q_ah q_tg q_ws q_fr q_rw mi vtt vnw vtr vot vdi vkp vik vwy vah vtg vws vfr vrw)) hP hD hS hA [2] rfl rfl rfl (va_runS (As := [.ref q_nw, .int x0]) (rest := [.ref q_mo]) ⟨hx, hb, hml, hown, hts⟩ (kX9_canPoint l Γ q_nw vnw x0 r_2 hc_3 _) (va_cwS 2 hts gX9_addCheckpoint_X9_canPoint rfl rfl rfl (by decide +kernel) ⟨Nat.le_of_ble_eq_true rfl, Nat.le_of_ble_eq_true rfl⟩) (my_preS (wc := (wArr117 Γ q_nw vnw)) [2] hK hP hD rfl rfl) rfl rfl hl.1 rfl (lv_room (Nat.le_of_ble_eq_true rfl)) dX9_addCheckpoint_17 ⟨Nat.le_of_ble_eq_true rfl, Nat.le_of_ble_eq_true rfl⟩) (fun H locs hP hD hS => ?_)
    refine lv_if_eq (tgt := 27) hx hb dX9_addCheckpoint_20 (by decide) (fun c_4 => ?_) (fun c_4 => ?_)
    · replace hm := if_s hm c_4
      refine lv_iconst (v := (2 : Int32)) hx hb dX9_addCheckpoint_27 (by decide) ?_
      exact J_28 mi vnw vdi x0 (2 : Int32) _ _ _ hP hD hS (lv_sub hl [0, 1] rfl) hm
    · replace hm := if_f hm c_4
      refine lv_iconst (v := (0 : Int32)) hx hb dX9_addCheckpoint_23 (by decide) ?_
      refine lv_goto (tgt := 28) hx hb dX9_addCheckpoint_24 (by decide) ?_
      exact J_28 mi vnw vdi x0 (0 : Int32) _ _ _ hP hD hS (lv_sub hl [0, 1] rfl) hm
  · replace hm := if_s hm c_1
    refine lv_iconst (v := (1 : Int32)) hx hb dX9_addCheckpoint_8 (by decide) ?_
    refine lv_goto (tgt := 28) hx hb dX9_addCheckpoint_9 (by decide) ?_
    exact J_28 mi vnw vdi x0 (1 : Int32) _ _ _ hP hD hS (lv_sub hl [0, 1] rfl) hm
def mX9_putRobot_J52  (mi : Nat → Int32) (vnw : Nat → Int32) (vdi : Nat → Int32) (l1 : Int32) (l2 : Int32) (l3 : Int32) (s1 : Int32) : Option (Int32 × (Nat → Int32) × (Nat → Int32) × (Nat → Int32)) := (bt2 (mX9_refused mi s1) (fun r_2 mi_3 => (if r_2 = 0 then (bo2 (mX9_remember mi_3 vnw vdi) (fun mi_6 vdi_7 => (bo2 (mX9_putOn vnw l1 l2 l3) (fun r_9 vnw_10 => (some (r_9, mi_6, vnw_10, vdi_7)))))) else (some ((0 : Int32), mi_3, vnw, vdi)))))
def mX9_putRobot_J15  (mi : Nat → Int32) (vnw : Nat → Int32) (vdi : Nat → Int32) (l1 : Int32) (l2 : Int32) (l3 : Int32) : Option (Int32 × (Nat → Int32) × (Nat → Int32) × (Nat → Int32)) := (mX9_putRobot_J52 mi vnw vdi l1 l2 l3 (1 : Int32))
def mX9_putRobot (mi : Nat → Int32) (vnw : Nat → Int32) (vdi : Nat → Int32) (x0 : Int32) (x1 : Int32) (x2 : Int32) : Option (Int32 × (Nat → Int32) × (Nat → Int32) × (Nat → Int32)) := (if (mX9_isRobot x0) = 0 then (mX9_putRobot_J15 mi vnw vdi x0 x1 x2) else (if (mX9_isCell x1) = 0 then (mX9_putRobot_J15 mi vnw vdi x0 x1 x2) else (if (mX9_in (x2.toInt64) (0 : Int64) (3 : Int64)) = 0 then (mX9_putRobot_J52 mi vnw vdi x0 x1 x2 (2 : Int32)) else (bo1 (mX9_canPut vnw x0 x1) (fun r_14 => (if r_14 = 0 then (mX9_putRobot_J52 mi vnw vdi x0 x1 x2 (3 : Int32)) else (mX9_putRobot_J52 mi vnw vdi x0 x1 x2 (0 : Int32))))))))
set_option maxHeartbeats 4000000 in
set_option maxRecDepth 100000 in
theorem kX9_putRobot (l : Launch) (Γ : my_G) (q_mo q_tt q_nw q_tr q_ot q_di q_kp q_ik q_wy q_ah q_tg q_ws q_fr q_rw : Nat) (mi : Nat → Int32) (vtt : Nat → Int32) (vnw : Nat → Int32) (vtr : Nat → Int32) (vot : Nat → Int32) (vdi : Nat → Int32) (vkp : Nat → Int32) (vik : Nat → Int32) (vwy : Nat → Int32) (vah : Nat → Int32) (vtg : Nat → Int32) (vws : Nat → Int32) (vfr : Nat → Int32) (vrw : Nat → Int32) (x0 : Int32) (x1 : Int32) (x2 : Int32) (rr : Int32) (mi_z : Nat → Int32) (vnw_z : Nat → Int32) (vdi_z : Nat → Int32) (hm : mX9_putRobot mi vnw vdi x0 x1 x2 = (some (rr, mi_z, vnw_z, vdi_z))) : Mn l yX9_putRobot wsX9_putRobot ({ frames := 4, cells := 0, slots := 0, locals := 86 } : Room) Γ [.ref q_mo, .int x0, .int x1, .int x2] (wModel Γ q_mo q_tt q_nw q_tr q_ot q_di q_kp q_ik q_wy q_ah q_tg q_ws q_fr q_rw mi vtt vnw vtr vot vdi vkp vik vwy vah vtg vws vfr vrw) (some (.int rr)) (wModel Γ q_mo q_tt q_nw q_tr q_ot q_di q_kp q_ik q_wy q_ah q_tg q_ws q_fr q_rw mi_z vtt vnw_z vtr vot vdi_z vkp vik vwy vah vtg vws vfr vrw) := by
  intro sz
  refine Met.ofW (cc := cX9_putRobot) (maxL := 4) (ret := (some .int)) (by decide) rfl ?_
  intro p e s m args below meth c s₁ B hml hv
  obtain ⟨rfl, hsz, hP, hK, hD0⟩ := hv
  have hx := B.exec
  have hb := B.bytes
  have hr := B.returns
  have hts := atoms_spec (ws := wsX9_putRobot) B.pre
  have hown : s.vm.findClass RX9 = some m.cls := findClass_of_methodNamed B.named
  have hlocks := B.notSynchronized
  have hinX9 : ∀ w ∈ u_ws RX9 TX9 19, w ∈ wsX9_putRobot := fun w h => List.mem_cons_of_mem _ (List.mem_append_right _ h)
  subst hsz
  have hD := hD0.self (sz := s.heap.size)
  have hA : ∀ q : Nat, s.heap.size ≤ q → va_A (wModel Γ q_mo q_tt q_nw q_tr q_ot q_di q_kp q_ik q_wy q_ah q_tg q_ws q_fr q_rw mi vtt vnw vtr vot vdi vkp vik vwy vah vtg vws vfr vrw) s.heap.size q := fun q h => Or.inr h
  generalize va_A (wModel Γ q_mo q_tt q_nw q_tr q_ot q_di q_kp q_ik q_wy q_ah q_tg q_ws q_fr q_rw mi vtt vnw vtr vot vdi vkp vik vwy vah vtg vws vfr vrw) s.heap.size = A at hD hA ⊢
  have hS : va_S A s.heap s.heap [] := va_S.rf
  have hl := lv_entry ([.ref q_mo, .int x0, .int x1, .int x2]) (n := 4) (Nat.le_of_ble_eq_true rfl)
  rw [lg_entry_eq]
  generalize (lg_sl ([.ref q_mo, .int x0, .int x1, .int x2]) ++ List.replicate (4 - (lg_sl ([.ref q_mo, .int x0, .int x1, .int x2])).length) Slot.unset).toArray = ls at hl ⊢
  replace hl : lv_has ls 4 [(0, .ref q_mo), (1, .int x0), (2, .int x1), (3, .int x2)] := hl
  have J_52 : ∀ (mi : Nat → Int32) (vnw : Nat → Int32) (vdi : Nat → Int32) (l1 : Int32) (l2 : Int32) (l3 : Int32) (s1 : Int32) (H : Heap) (locs : List Loc) (ls : Array Slot), va_P (my_D Γ) vwCl (wModel Γ q_mo q_tt q_nw q_tr q_ot q_di q_kp q_ik q_wy q_ah q_tg q_ws q_fr q_rw mi vtt vnw vtr vot vdi vkp vik vwy vah vtg vws vfr vrw) H → va_D A (wModel Γ q_mo q_tt q_nw q_tr q_ot q_di q_kp q_ik q_wy q_ah q_tg q_ws q_fr q_rw mi vtt vnw vtr vot vdi vkp vik vwy vah vtg vws vfr vrw) → va_S A s.heap H locs → lv_has ls 4 [(0, .ref q_mo), (1, .int l1), (2, .int l2), (3, .int l3)] → mX9_putRobot_J52 mi vnw vdi l1 l2 l3 s1 = (some (rr, mi_z, vnw_z, vdi_z)) → W p l e (headSpec wsX9_putRobot ({ frames := 4, cells := 0, slots := 0, locals := 86 } : Room)).room s m ([.ref q_mo, .int x0, .int x1, .int x2] : List Value).toArray below meth c H locs 0 0 (MQ below (my_Q Γ A (some (.int rr)) (wModel Γ q_mo q_tt q_nw q_tr q_ot q_di q_kp q_ik q_wy q_ah q_tg q_ws q_fr q_rw mi_z vtt vnw_z vtr vot vdi_z vkp vik vwy vah vtg vws vfr vrw)) ([.ref q_mo, .int x0, .int x1, .int x2] : List Value).toArray s 0 0 A) (F0 m 52 ls [.int s1, .ref q_mo]) := by
    intro  mi vnw vdi l1 l2 l3 s1 H locs ls hP hD hS hl hm
    unfold mX9_putRobot_J52 at hm
    obtain ⟨r_2, mi_3, hc_4, hm⟩ := bt2_s hm
    refine my_callP1 (wc := (wMo Γ q_mo q_tt q_nw q_tr q_ot q_di q_kp q_ik q_wy q_ah q_tg q_ws q_fr q_rw mi)) (w1 := (wMo Γ q_mo q_tt q_nw q_tr q_ot q_di q_kp q_ik q_wy q_ah q_tg q_ws q_fr q_rw mi_3)) (ws1 := (wModel Γ q_mo q_tt q_nw q_tr q_ot q_di q_kp q_ik q_wy q_ah q_tg q_ws q_fr q_rw mi_3 vtt vnw vtr vot vdi vkp vik vwy vah vtg vws vfr vrw)) hP hD hS hA [0] rfl rfl rfl (va_runV (As := [.int s1]) (rest := []) ⟨hx, hb, hml, hown, hts⟩ (kX9_refused l Γ q_mo q_tt q_nw q_tr q_ot q_di q_kp q_ik q_wy q_ah q_tg q_ws q_fr q_rw mi s1 r_2 mi_3 hc_4 _) (cwV 1 hts gX9_putRobot_X9_refused rfl rfl rfl (by decide +kernel) ⟨Nat.le_of_ble_eq_true rfl, Nat.le_of_ble_eq_true rfl⟩) (my_preV (wc := (wMo Γ q_mo q_tt q_nw q_tr q_ot q_di q_kp q_ik q_wy q_ah q_tg q_ws q_fr q_rw mi)) (ci := 7) (q0 := 0) [0] hK hP hD rfl rfl rfl rfl) rfl rfl hl.1 rfl (lv_room (Nat.le_of_ble_eq_true rfl)) dX9_putRobot_52 ⟨Nat.le_of_ble_eq_true rfl, Nat.le_of_ble_eq_true rfl⟩) (fun H locs hP hD hS => ?_)
    refine lv_if_eq (tgt := 60) hx hb dX9_putRobot_55 (by decide) (fun c_5 => ?_) (fun c_5 => ?_)
    · replace hm := if_s hm c_5
      refine lv_aload_n hx hb dX9_putRobot_60 rfl (lv_at hl 0 rfl) ?_
      obtain ⟨mi_6, vdi_7, hc_8, hm⟩ := bo2_s hm
      refine my_callP0 (wc := (wModel Γ q_mo q_tt q_nw q_tr q_ot q_di q_kp q_ik q_wy q_ah q_tg q_ws q_fr q_rw mi_3 vtt vnw vtr vot vdi vkp vik vwy vah vtg vws vfr vrw)) (w1 := (wModel Γ q_mo q_tt q_nw q_tr q_ot q_di q_kp q_ik q_wy q_ah q_tg q_ws q_fr q_rw mi_6 vtt vnw vtr vot vdi_7 vkp vik vwy vah vtg vws vfr vrw)) (ws1 := (wModel Γ q_mo q_tt q_nw q_tr q_ot q_di q_kp q_ik q_wy q_ah q_tg q_ws q_fr q_rw mi_6 vtt vnw vtr vot vdi_7 vkp vik vwy vah vtg vws vfr vrw)) hP hD hS hA [0, 1, 2, 3, 4, 5, 6, 7, 8, 9, 10, 11, 12, 13] rfl rfl rfl (va_runV (As := []) (rest := []) ⟨hx, hb, hml, hown, hts⟩ (kX9_remember l Γ q_mo q_tt q_nw q_tr q_ot q_di q_kp q_ik q_wy q_ah q_tg q_ws q_fr q_rw mi_3 vtt vnw vtr vot vdi vkp vik vwy vah vtg vws vfr vrw mi_6 vdi_7 hc_8 _) (cwV 0 hts gX9_putRobot_X9_remember rfl rfl rfl (by decide +kernel) ⟨Nat.le_of_ble_eq_true rfl, Nat.le_of_ble_eq_true rfl⟩) (my_preV (wc := (wModel Γ q_mo q_tt q_nw q_tr q_ot q_di q_kp q_ik q_wy q_ah q_tg q_ws q_fr q_rw mi_3 vtt vnw vtr vot vdi vkp vik vwy vah vtg vws vfr vrw)) (ci := 7) (q0 := 0) [0, 1, 2, 3, 4, 5, 6, 7, 8, 9, 10, 11, 12, 13] hK hP hD rfl rfl rfl rfl) rfl rfl hl.1 rfl (lv_room (Nat.le_of_ble_eq_true rfl)) dX9_putRobot_61 ⟨Nat.le_of_ble_eq_true rfl, Nat.le_of_ble_eq_true rfl⟩) (fun H locs hP hD hS => ?_)
      refine lv_aload_n hx hb dX9_putRobot_64 rfl (lv_at hl 0 rfl) ?_
      refine va_get (D := my_D Γ) (ci := 7) (v := .ref q_nw) (C := RX9) (T := TX9) (N := 19) hx hb hts hinX9 hown hK hP 0 rfl rfl 3 (by decide) (hts (.fieldLink RX9 13 "BeltFloorModel" "now" "[I") (List.mem_of_getElem? (i := 2) rfl)) (fun _ h9 => h9) rfl dX9_putRobot_65 ?_
      refine lv_iload_n hx hb dX9_putRobot_68 rfl (lv_at hl 1 rfl) ?_
      refine lv_iload_n hx hb dX9_putRobot_69 rfl (lv_at hl 2 rfl) ?_
      refine lv_iload_n hx hb dX9_putRobot_70 rfl (lv_at hl 3 rfl) ?_
      obtain ⟨r_9, vnw_10, hc_11, hm⟩ := bo2_s hm
      refine my_callP1 (wc := (wArr117 Γ q_nw vnw)) (w1 := (wArr117 Γ q_nw vnw_10)) (ws1 := (wModel Γ q_mo q_tt q_nw q_tr q_ot q_di q_kp q_ik q_wy q_ah q_tg q_ws q_fr q_rw mi_6 vtt vnw_10 vtr vot vdi_7 vkp vik vwy vah vtg vws vfr vrw)) hP hD hS hA [2] rfl rfl rfl (va_runS (As := [.ref q_nw, .int l1, .int l2, .int l3]) (rest := []) ⟨hx, hb, hml, hown, hts⟩ (kX9_putOn l Γ q_nw vnw l1 l2 l3 r_9 vnw_10 hc_11 _) (va_cwS 4 hts gX9_putRobot_X9_putOn rfl rfl rfl (by decide +kernel) ⟨Nat.le_of_ble_eq_true rfl, Nat.le_of_ble_eq_true rfl⟩) (my_preS (wc := (wArr117 Γ q_nw vnw)) [2] hK hP hD rfl rfl) rfl rfl hl.1 rfl (lv_room (Nat.le_of_ble_eq_true rfl)) dX9_putRobot_71 ⟨Nat.le_of_ble_eq_true rfl, Nat.le_of_ble_eq_true rfl⟩) (fun H locs hP hD hS => ?_)
      obtain ⟨hf0, hf1, hf2, hf3⟩ := si4 hm
      subst hf0
      subst hf1
      subst hf2
      subst hf3
      exact W.iret (v := r_9) hx hb hr (fun t ht hW => ⟨⟨rfl, by rw [ht]; exact hP⟩, hS.F ht⟩) hS.2.2 dX9_putRobot_74
    · replace hm := if_f hm c_5
      refine lv_iconst (v := (0 : Int32)) hx hb dX9_putRobot_58 (by decide) ?_
      obtain ⟨hf0, hf1, hf2, hf3⟩ := si4 hm
      subst hf0
      subst hf1
      subst hf2
      subst hf3
      exact W.iret (v := (0 : Int32)) hx hb hr (fun t ht hW => ⟨⟨rfl, by rw [ht]; exact hP⟩, hS.F ht⟩) hS.2.2 dX9_putRobot_59
  have J_15 : ∀ (mi : Nat → Int32) (vnw : Nat → Int32) (vdi : Nat → Int32) (l1 : Int32) (l2 : Int32) (l3 : Int32) (H : Heap) (locs : List Loc) (ls : Array Slot), va_P (my_D Γ) vwCl (wModel Γ q_mo q_tt q_nw q_tr q_ot q_di q_kp q_ik q_wy q_ah q_tg q_ws q_fr q_rw mi vtt vnw vtr vot vdi vkp vik vwy vah vtg vws vfr vrw) H → va_D A (wModel Γ q_mo q_tt q_nw q_tr q_ot q_di q_kp q_ik q_wy q_ah q_tg q_ws q_fr q_rw mi vtt vnw vtr vot vdi vkp vik vwy vah vtg vws vfr vrw) → va_S A s.heap H locs → lv_has ls 4 [(0, .ref q_mo), (1, .int l1), (2, .int l2), (3, .int l3)] → mX9_putRobot_J15 mi vnw vdi l1 l2 l3 = (some (rr, mi_z, vnw_z, vdi_z)) → W p l e (headSpec wsX9_putRobot ({ frames := 4, cells := 0, slots := 0, locals := 86 } : Room)).room s m ([.ref q_mo, .int x0, .int x1, .int x2] : List Value).toArray below meth c H locs 0 0 (MQ below (my_Q Γ A (some (.int rr)) (wModel Γ q_mo q_tt q_nw q_tr q_ot q_di q_kp q_ik q_wy q_ah q_tg q_ws q_fr q_rw mi_z vtt vnw_z vtr vot vdi_z vkp vik vwy vah vtg vws vfr vrw)) ([.ref q_mo, .int x0, .int x1, .int x2] : List Value).toArray s 0 0 A) (F0 m 15 ls [.ref q_mo]) := by
    intro  mi vnw vdi l1 l2 l3 H locs ls hP hD hS hl hm
    unfold mX9_putRobot_J15 at hm
    refine lv_iconst (v := (1 : Int32)) hx hb dX9_putRobot_15 (by decide) ?_
    refine lv_goto (tgt := 52) hx hb dX9_putRobot_16 (by decide) ?_
    exact J_52 mi vnw vdi l1 l2 l3 (1 : Int32) _ _ _ hP hD hS (lv_sub hl [0, 1, 2, 3] rfl) hm
  unfold mX9_putRobot at hm
  refine lv_aload_n hx hb dX9_putRobot_0 rfl (lv_at hl 0 rfl) ?_
  refine lv_iload_n hx hb dX9_putRobot_1 rfl (lv_at hl 1 rfl) ?_
  refine my_callP1 (wc := ([] : va_W)) (w1 := ([] : va_W)) (ws1 := (wModel Γ q_mo q_tt q_nw q_tr q_ot q_di q_kp q_ik q_wy q_ah q_tg q_ws q_fr q_rw mi vtt vnw vtr vot vdi vkp vik vwy vah vtg vws vfr vrw)) hP hD hS hA [] rfl rfl rfl (va_runS (As := [.int x0]) (rest := [.ref q_mo]) ⟨hx, hb, hml, hown, hts⟩ (kX9_isRobot l Γ x0 (mX9_isRobot x0) rfl _) (va_cwS 1 hts gX9_putRobot_X9_isRobot rfl rfl rfl (by decide +kernel) ⟨Nat.le_of_ble_eq_true rfl, Nat.le_of_ble_eq_true rfl⟩) (my_preS (wc := ([] : va_W)) [] hK hP hD rfl rfl) rfl rfl hl.1 rfl (lv_room (Nat.le_of_ble_eq_true rfl)) dX9_putRobot_2 ⟨Nat.le_of_ble_eq_true rfl, Nat.le_of_ble_eq_true rfl⟩) (fun H locs hP hD hS => ?_)
  refine lv_if_eq (tgt := 15) hx hb dX9_putRobot_5 (by decide) (fun c_1 => ?_) (fun c_1 => ?_)
  · replace hm := if_s hm c_1
    exact J_15 mi vnw vdi x0 x1 x2 _ _ _ hP hD hS (lv_sub hl [0, 1, 2, 3] rfl) hm
  · replace hm := if_f hm c_1
    refine lv_iload_n hx hb dX9_putRobot_8 rfl (lv_at hl 2 rfl) ?_
    refine my_callP1 (wc := ([] : va_W)) (w1 := ([] : va_W)) (ws1 := (wModel Γ q_mo q_tt q_nw q_tr q_ot q_di q_kp q_ik q_wy q_ah q_tg q_ws q_fr q_rw mi vtt vnw vtr vot vdi vkp vik vwy vah vtg vws vfr vrw)) hP hD hS hA [] rfl rfl rfl (va_runS (As := [.int x1]) (rest := [.ref q_mo]) ⟨hx, hb, hml, hown, hts⟩ (kX9_isCell l Γ x1 (mX9_isCell x1) rfl _) (va_cwS 1 hts gX9_putRobot_X9_isCell rfl rfl rfl (by decide +kernel) ⟨Nat.le_of_ble_eq_true rfl, Nat.le_of_ble_eq_true rfl⟩) (my_preS (wc := ([] : va_W)) [] hK hP hD rfl rfl) rfl rfl hl.1 rfl (lv_room (Nat.le_of_ble_eq_true rfl)) dX9_putRobot_9 ⟨Nat.le_of_ble_eq_true rfl, Nat.le_of_ble_eq_true rfl⟩) (fun H locs hP hD hS => ?_)
    refine lv_if_ne (tgt := 19) hx hb dX9_putRobot_12 (by decide) (fun c_12 => ?_) (fun c_12 => ?_)
    · replace hm := if_f hm c_12
      refine lv_iload_n hx hb dX9_putRobot_19 rfl (lv_at hl 3 rfl) ?_
      refine lv_i2l (v := x2.toInt64) hx hb dX9_putRobot_20 rfl ?_
      refine lv_lconst (v := (0 : Int64)) hx hb dX9_putRobot_21 (by decide) ?_
      refine lv_ldc2 (v := (3 : Int64)) hx hb hown (hts (.constantLong RX9 253 (3)) (List.mem_of_getElem? (i := 1) rfl)) dX9_putRobot_22 ?_
      refine my_callP1 (wc := ([] : va_W)) (w1 := ([] : va_W)) (ws1 := (wModel Γ q_mo q_tt q_nw q_tr q_ot q_di q_kp q_ik q_wy q_ah q_tg q_ws q_fr q_rw mi vtt vnw vtr vot vdi vkp vik vwy vah vtg vws vfr vrw)) hP hD hS hA [] rfl rfl rfl (va_runS (As := [.long (x2.toInt64), .long (0 : Int64), .long (3 : Int64)]) (rest := [.ref q_mo]) ⟨hx, hb, hml, hown, hts⟩ (kX9_in l Γ (x2.toInt64) (0 : Int64) (3 : Int64) (mX9_in (x2.toInt64) (0 : Int64) (3 : Int64)) rfl _) (va_cwS 3 hts gX9_putRobot_X9_in rfl rfl rfl (by decide +kernel) ⟨Nat.le_of_ble_eq_true rfl, Nat.le_of_ble_eq_true rfl⟩) (my_preS (wc := ([] : va_W)) [] hK hP hD rfl rfl) rfl rfl hl.1 rfl (lv_room (Nat.le_of_ble_eq_true rfl)) dX9_putRobot_25 ⟨Nat.le_of_ble_eq_true rfl, Nat.le_of_ble_eq_true rfl⟩) (fun H locs hP hD hS => ?_)
      refine lv_if_ne (tgt := 35) hx hb dX9_putRobot_28 (by decide) (fun c_13 => ?_) (fun c_13 => ?_)
      · replace hm := if_f hm c_13
        refine lv_aload_n hx hb dX9_putRobot_35 rfl (lv_at hl 0 rfl) ?_
        refine va_get (D := my_D Γ) (ci := 7) (v := .ref q_nw) (C := RX9) (T := TX9) (N := 19) hx hb hts hinX9 hown hK hP 0 rfl rfl 3 (by decide) (hts (.fieldLink RX9 13 "BeltFloorModel" "now" "[I") (List.mem_of_getElem? (i := 2) rfl)) (fun _ h9 => h9) rfl dX9_putRobot_36 ?_
        refine lv_iload_n hx hb dX9_putRobot_39 rfl (lv_at hl 1 rfl) ?_
        refine lv_iload_n hx hb dX9_putRobot_40 rfl (lv_at hl 2 rfl) ?_
        obtain ⟨r_14, hc_15, hm⟩ := bo1_s hm
        refine my_callP1 (wc := (wArr117 Γ q_nw vnw)) (w1 := (wArr117 Γ q_nw vnw)) (ws1 := (wModel Γ q_mo q_tt q_nw q_tr q_ot q_di q_kp q_ik q_wy q_ah q_tg q_ws q_fr q_rw mi vtt vnw vtr vot vdi vkp vik vwy vah vtg vws vfr vrw)) hP hD hS hA [2] rfl rfl rfl (va_runS (As := [.ref q_nw, .int x0, .int x1]) (rest := [.ref q_mo]) ⟨hx, hb, hml, hown, hts⟩ (kX9_canPut l Γ q_nw vnw x0 x1 r_14 hc_15 _) (va_cwS 3 hts gX9_putRobot_X9_canPut rfl rfl rfl (by decide +kernel) ⟨Nat.le_of_ble_eq_true rfl, Nat.le_of_ble_eq_true rfl⟩) (my_preS (wc := (wArr117 Γ q_nw vnw)) [2] hK hP hD rfl rfl) rfl rfl hl.1 rfl (lv_room (Nat.le_of_ble_eq_true rfl)) dX9_putRobot_41 ⟨Nat.le_of_ble_eq_true rfl, Nat.le_of_ble_eq_true rfl⟩) (fun H locs hP hD hS => ?_)
        refine lv_if_eq (tgt := 51) hx hb dX9_putRobot_44 (by decide) (fun c_16 => ?_) (fun c_16 => ?_)
        · replace hm := if_s hm c_16
          refine lv_iconst (v := (3 : Int32)) hx hb dX9_putRobot_51 (by decide) ?_
          exact J_52 mi vnw vdi x0 x1 x2 (3 : Int32) _ _ _ hP hD hS (lv_sub hl [0, 1, 2, 3] rfl) hm
        · replace hm := if_f hm c_16
          refine lv_iconst (v := (0 : Int32)) hx hb dX9_putRobot_47 (by decide) ?_
          refine lv_goto (tgt := 52) hx hb dX9_putRobot_48 (by decide) ?_
          exact J_52 mi vnw vdi x0 x1 x2 (0 : Int32) _ _ _ hP hD hS (lv_sub hl [0, 1, 2, 3] rfl) hm
      · replace hm := if_s hm c_13
        refine lv_iconst (v := (2 : Int32)) hx hb dX9_putRobot_31 (by decide) ?_
        refine lv_goto (tgt := 52) hx hb dX9_putRobot_32 (by decide) ?_
        exact J_52 mi vnw vdi x0 x1 x2 (2 : Int32) _ _ _ hP hD hS (lv_sub hl [0, 1, 2, 3] rfl) hm
    · replace hm := if_s hm c_12
      exact J_15 mi vnw vdi x0 x1 x2 _ _ _ hP hD hS (lv_sub hl [0, 1, 2, 3] rfl) hm
def mX9_write_J48  (mi : Nat → Int32) (vnw : Nat → Int32) (vdi : Nat → Int32) (l1 : Int32) (l2 : Int32) (s1 : Int32) : Option (Int32 × (Nat → Int32) × (Nat → Int32) × (Nat → Int32)) := (bt2 (mX9_refused mi s1) (fun r_6 mi_7 => (if r_6 = 0 then (bo2 (mX9_remember mi_7 vnw vdi) (fun mi_10 vdi_11 => (bo2 (mX9_writeOn vnw l1 l2) (fun r_13 vnw_14 => (some (r_13, mi_10, vnw_14, vdi_11)))))) else (some ((0 : Int32), mi_7, vnw, vdi)))))
def mX9_write (mi : Nat → Int32) (vnw : Nat → Int32) (vdi : Nat → Int32) (x0 : Int32) (x1 : Int32) : Option (Int32 × (Nat → Int32) × (Nat → Int32) × (Nat → Int32)) := (if (mX9_isRobot x0) = 0 then (mX9_write_J48 mi vnw vdi x0 x1 (1 : Int32)) else (if (mX9_in (x1.toInt64) (0 : Int64) (5 : Int64)) = 0 then (mX9_write_J48 mi vnw vdi x0 x1 (2 : Int32)) else (bo1 (mX9_of vnw x0 (8 : Int32)) (fun r_3 => (if (10 : Int32) ≤ r_3 then (mX9_write_J48 mi vnw vdi x0 x1 (3 : Int32)) else (mX9_write_J48 mi vnw vdi x0 x1 (0 : Int32)))))))
set_option maxHeartbeats 4000000 in
set_option maxRecDepth 100000 in
theorem kX9_write (l : Launch) (Γ : my_G) (q_mo q_tt q_nw q_tr q_ot q_di q_kp q_ik q_wy q_ah q_tg q_ws q_fr q_rw : Nat) (mi : Nat → Int32) (vtt : Nat → Int32) (vnw : Nat → Int32) (vtr : Nat → Int32) (vot : Nat → Int32) (vdi : Nat → Int32) (vkp : Nat → Int32) (vik : Nat → Int32) (vwy : Nat → Int32) (vah : Nat → Int32) (vtg : Nat → Int32) (vws : Nat → Int32) (vfr : Nat → Int32) (vrw : Nat → Int32) (x0 : Int32) (x1 : Int32) (rr : Int32) (mi_z : Nat → Int32) (vnw_z : Nat → Int32) (vdi_z : Nat → Int32) (hm : mX9_write mi vnw vdi x0 x1 = (some (rr, mi_z, vnw_z, vdi_z))) : Mn l yX9_write wsX9_write ({ frames := 2, cells := 0, slots := 0, locals := 45 } : Room) Γ [.ref q_mo, .int x0, .int x1] (wModel Γ q_mo q_tt q_nw q_tr q_ot q_di q_kp q_ik q_wy q_ah q_tg q_ws q_fr q_rw mi vtt vnw vtr vot vdi vkp vik vwy vah vtg vws vfr vrw) (some (.int rr)) (wModel Γ q_mo q_tt q_nw q_tr q_ot q_di q_kp q_ik q_wy q_ah q_tg q_ws q_fr q_rw mi_z vtt vnw_z vtr vot vdi_z vkp vik vwy vah vtg vws vfr vrw) := by
  intro sz
  refine Met.ofW (cc := cX9_write) (maxL := 3) (ret := (some .int)) (by decide) rfl ?_
  intro p e s m args below meth c s₁ B hml hv
  obtain ⟨rfl, hsz, hP, hK, hD0⟩ := hv
  have hx := B.exec
  have hb := B.bytes
  have hr := B.returns
  have hts := atoms_spec (ws := wsX9_write) B.pre
  have hown : s.vm.findClass RX9 = some m.cls := findClass_of_methodNamed B.named
  have hlocks := B.notSynchronized
  have hinX9 : ∀ w ∈ u_ws RX9 TX9 19, w ∈ wsX9_write := fun w h => List.mem_cons_of_mem _ (List.mem_append_right _ h)
  subst hsz
  have hD := hD0.self (sz := s.heap.size)
  have hA : ∀ q : Nat, s.heap.size ≤ q → va_A (wModel Γ q_mo q_tt q_nw q_tr q_ot q_di q_kp q_ik q_wy q_ah q_tg q_ws q_fr q_rw mi vtt vnw vtr vot vdi vkp vik vwy vah vtg vws vfr vrw) s.heap.size q := fun q h => Or.inr h
  generalize va_A (wModel Γ q_mo q_tt q_nw q_tr q_ot q_di q_kp q_ik q_wy q_ah q_tg q_ws q_fr q_rw mi vtt vnw vtr vot vdi vkp vik vwy vah vtg vws vfr vrw) s.heap.size = A at hD hA ⊢
  have hS : va_S A s.heap s.heap [] := va_S.rf
  have hl := lv_entry ([.ref q_mo, .int x0, .int x1]) (n := 3) (Nat.le_of_ble_eq_true rfl)
  rw [lg_entry_eq]
  generalize (lg_sl ([.ref q_mo, .int x0, .int x1]) ++ List.replicate (3 - (lg_sl ([.ref q_mo, .int x0, .int x1])).length) Slot.unset).toArray = ls at hl ⊢
  replace hl : lv_has ls 3 [(0, .ref q_mo), (1, .int x0), (2, .int x1)] := hl
  have J_48 : ∀ (mi : Nat → Int32) (vnw : Nat → Int32) (vdi : Nat → Int32) (l1 : Int32) (l2 : Int32) (s1 : Int32) (H : Heap) (locs : List Loc) (ls : Array Slot), va_P (my_D Γ) vwCl (wModel Γ q_mo q_tt q_nw q_tr q_ot q_di q_kp q_ik q_wy q_ah q_tg q_ws q_fr q_rw mi vtt vnw vtr vot vdi vkp vik vwy vah vtg vws vfr vrw) H → va_D A (wModel Γ q_mo q_tt q_nw q_tr q_ot q_di q_kp q_ik q_wy q_ah q_tg q_ws q_fr q_rw mi vtt vnw vtr vot vdi vkp vik vwy vah vtg vws vfr vrw) → va_S A s.heap H locs → lv_has ls 3 [(0, .ref q_mo), (1, .int l1), (2, .int l2)] → mX9_write_J48 mi vnw vdi l1 l2 s1 = (some (rr, mi_z, vnw_z, vdi_z)) → W p l e (headSpec wsX9_write ({ frames := 2, cells := 0, slots := 0, locals := 45 } : Room)).room s m ([.ref q_mo, .int x0, .int x1] : List Value).toArray below meth c H locs 0 0 (MQ below (my_Q Γ A (some (.int rr)) (wModel Γ q_mo q_tt q_nw q_tr q_ot q_di q_kp q_ik q_wy q_ah q_tg q_ws q_fr q_rw mi_z vtt vnw_z vtr vot vdi_z vkp vik vwy vah vtg vws vfr vrw)) ([.ref q_mo, .int x0, .int x1] : List Value).toArray s 0 0 A) (F0 m 48 ls [.int s1, .ref q_mo]) := by
    intro  mi vnw vdi l1 l2 s1 H locs ls hP hD hS hl hm
    unfold mX9_write_J48 at hm
    obtain ⟨r_6, mi_7, hc_8, hm⟩ := bt2_s hm
    refine my_callP1 (wc := (wMo Γ q_mo q_tt q_nw q_tr q_ot q_di q_kp q_ik q_wy q_ah q_tg q_ws q_fr q_rw mi)) (w1 := (wMo Γ q_mo q_tt q_nw q_tr q_ot q_di q_kp q_ik q_wy q_ah q_tg q_ws q_fr q_rw mi_7)) (ws1 := (wModel Γ q_mo q_tt q_nw q_tr q_ot q_di q_kp q_ik q_wy q_ah q_tg q_ws q_fr q_rw mi_7 vtt vnw vtr vot vdi vkp vik vwy vah vtg vws vfr vrw)) hP hD hS hA [0] rfl rfl rfl (va_runV (As := [.int s1]) (rest := []) ⟨hx, hb, hml, hown, hts⟩ (kX9_refused l Γ q_mo q_tt q_nw q_tr q_ot q_di q_kp q_ik q_wy q_ah q_tg q_ws q_fr q_rw mi s1 r_6 mi_7 hc_8 _) (cwV 1 hts gX9_write_X9_refused rfl rfl rfl (by decide +kernel) ⟨Nat.le_of_ble_eq_true rfl, Nat.le_of_ble_eq_true rfl⟩) (my_preV (wc := (wMo Γ q_mo q_tt q_nw q_tr q_ot q_di q_kp q_ik q_wy q_ah q_tg q_ws q_fr q_rw mi)) (ci := 7) (q0 := 0) [0] hK hP hD rfl rfl rfl rfl) rfl rfl hl.1 rfl (lv_room (Nat.le_of_ble_eq_true rfl)) dX9_write_48 ⟨Nat.le_of_ble_eq_true rfl, Nat.le_of_ble_eq_true rfl⟩) (fun H locs hP hD hS => ?_)
    refine lv_if_eq (tgt := 56) hx hb dX9_write_51 (by decide) (fun c_9 => ?_) (fun c_9 => ?_)
    · replace hm := if_s hm c_9
      refine lv_aload_n hx hb dX9_write_56 rfl (lv_at hl 0 rfl) ?_
      obtain ⟨mi_10, vdi_11, hc_12, hm⟩ := bo2_s hm
      refine my_callP0 (wc := (wModel Γ q_mo q_tt q_nw q_tr q_ot q_di q_kp q_ik q_wy q_ah q_tg q_ws q_fr q_rw mi_7 vtt vnw vtr vot vdi vkp vik vwy vah vtg vws vfr vrw)) (w1 := (wModel Γ q_mo q_tt q_nw q_tr q_ot q_di q_kp q_ik q_wy q_ah q_tg q_ws q_fr q_rw mi_10 vtt vnw vtr vot vdi_11 vkp vik vwy vah vtg vws vfr vrw)) (ws1 := (wModel Γ q_mo q_tt q_nw q_tr q_ot q_di q_kp q_ik q_wy q_ah q_tg q_ws q_fr q_rw mi_10 vtt vnw vtr vot vdi_11 vkp vik vwy vah vtg vws vfr vrw)) hP hD hS hA [0, 1, 2, 3, 4, 5, 6, 7, 8, 9, 10, 11, 12, 13] rfl rfl rfl (va_runV (As := []) (rest := []) ⟨hx, hb, hml, hown, hts⟩ (kX9_remember l Γ q_mo q_tt q_nw q_tr q_ot q_di q_kp q_ik q_wy q_ah q_tg q_ws q_fr q_rw mi_7 vtt vnw vtr vot vdi vkp vik vwy vah vtg vws vfr vrw mi_10 vdi_11 hc_12 _) (cwV 0 hts gX9_write_X9_remember rfl rfl rfl (by decide +kernel) ⟨Nat.le_of_ble_eq_true rfl, Nat.le_of_ble_eq_true rfl⟩) (my_preV (wc := (wModel Γ q_mo q_tt q_nw q_tr q_ot q_di q_kp q_ik q_wy q_ah q_tg q_ws q_fr q_rw mi_7 vtt vnw vtr vot vdi vkp vik vwy vah vtg vws vfr vrw)) (ci := 7) (q0 := 0) [0, 1, 2, 3, 4, 5, 6, 7, 8, 9, 10, 11, 12, 13] hK hP hD rfl rfl rfl rfl) rfl rfl hl.1 rfl (lv_room (Nat.le_of_ble_eq_true rfl)) dX9_write_57 ⟨Nat.le_of_ble_eq_true rfl, Nat.le_of_ble_eq_true rfl⟩) (fun H locs hP hD hS => ?_)
      refine lv_aload_n hx hb dX9_write_60 rfl (lv_at hl 0 rfl) ?_
      refine va_get (D := my_D Γ) (ci := 7) (v := .ref q_nw) (C := RX9) (T := TX9) (N := 19) hx hb hts hinX9 hown hK hP 0 rfl rfl 3 (by decide) (hts (.fieldLink RX9 13 "BeltFloorModel" "now" "[I") (List.mem_of_getElem? (i := 2) rfl)) (fun _ h9 => h9) rfl dX9_write_61 ?_
      refine lv_iload_n hx hb dX9_write_64 rfl (lv_at hl 1 rfl) ?_
      refine lv_iload_n hx hb dX9_write_65 rfl (lv_at hl 2 rfl) ?_
      obtain ⟨r_13, vnw_14, hc_15, hm⟩ := bo2_s hm
      refine my_callP1 (wc := (wArr117 Γ q_nw vnw)) (w1 := (wArr117 Γ q_nw vnw_14)) (ws1 := (wModel Γ q_mo q_tt q_nw q_tr q_ot q_di q_kp q_ik q_wy q_ah q_tg q_ws q_fr q_rw mi_10 vtt vnw_14 vtr vot vdi_11 vkp vik vwy vah vtg vws vfr vrw)) hP hD hS hA [2] rfl rfl rfl (va_runS (As := [.ref q_nw, .int l1, .int l2]) (rest := []) ⟨hx, hb, hml, hown, hts⟩ (kX9_writeOn l Γ q_nw vnw l1 l2 r_13 vnw_14 hc_15 _) (va_cwS 3 hts gX9_write_X9_writeOn rfl rfl rfl (by decide +kernel) ⟨Nat.le_of_ble_eq_true rfl, Nat.le_of_ble_eq_true rfl⟩) (my_preS (wc := (wArr117 Γ q_nw vnw)) [2] hK hP hD rfl rfl) rfl rfl hl.1 rfl (lv_room (Nat.le_of_ble_eq_true rfl)) dX9_write_66 ⟨Nat.le_of_ble_eq_true rfl, Nat.le_of_ble_eq_true rfl⟩) (fun H locs hP hD hS => ?_)
      obtain ⟨hf0, hf1, hf2, hf3⟩ := si4 hm
      subst hf0
      subst hf1
      subst hf2
      subst hf3
      exact W.iret (v := r_13) hx hb hr (fun t ht hW => ⟨⟨rfl, by rw [ht]; exact hP⟩, hS.F ht⟩) hS.2.2 dX9_write_69
    · replace hm := if_f hm c_9
      refine lv_iconst (v := (0 : Int32)) hx hb dX9_write_54 (by decide) ?_
      obtain ⟨hf0, hf1, hf2, hf3⟩ := si4 hm
      subst hf0
      subst hf1
      subst hf2
      subst hf3
      exact W.iret (v := (0 : Int32)) hx hb hr (fun t ht hW => ⟨⟨rfl, by rw [ht]; exact hP⟩, hS.F ht⟩) hS.2.2 dX9_write_55
  unfold mX9_write at hm
  refine lv_aload_n hx hb dX9_write_0 rfl (lv_at hl 0 rfl) ?_
  refine lv_iload_n hx hb dX9_write_1 rfl (lv_at hl 1 rfl) ?_
  refine my_callP1 (wc := ([] : va_W)) (w1 := ([] : va_W)) (ws1 := (wModel Γ q_mo q_tt q_nw q_tr q_ot q_di q_kp q_ik q_wy q_ah q_tg q_ws q_fr q_rw mi vtt vnw vtr vot vdi vkp vik vwy vah vtg vws vfr vrw)) hP hD hS hA [] rfl rfl rfl (va_runS (As := [.int x0]) (rest := [.ref q_mo]) ⟨hx, hb, hml, hown, hts⟩ (kX9_isRobot l Γ x0 (mX9_isRobot x0) rfl _) (va_cwS 1 hts gX9_write_X9_isRobot rfl rfl rfl (by decide +kernel) ⟨Nat.le_of_ble_eq_true rfl, Nat.le_of_ble_eq_true rfl⟩) (my_preS (wc := ([] : va_W)) [] hK hP hD rfl rfl) rfl rfl hl.1 rfl (lv_room (Nat.le_of_ble_eq_true rfl)) dX9_write_2 ⟨Nat.le_of_ble_eq_true rfl, Nat.le_of_ble_eq_true rfl⟩) (fun H locs hP hD hS => ?_)
  refine lv_if_ne (tgt := 12) hx hb dX9_write_5 (by decide) (fun c_1 => ?_) (fun c_1 => ?_)
  · replace hm := if_f hm c_1
    refine lv_iload_n hx hb dX9_write_12 rfl (lv_at hl 2 rfl) ?_
    refine lv_i2l (v := x1.toInt64) hx hb dX9_write_13 rfl ?_
    refine lv_lconst (v := (0 : Int64)) hx hb dX9_write_14 (by decide) ?_
    refine lv_ldc2 (v := (5 : Int64)) hx hb hown (hts (.constantLong RX9 72 (5)) (List.mem_of_getElem? (i := 1) rfl)) dX9_write_15 ?_
    refine my_callP1 (wc := ([] : va_W)) (w1 := ([] : va_W)) (ws1 := (wModel Γ q_mo q_tt q_nw q_tr q_ot q_di q_kp q_ik q_wy q_ah q_tg q_ws q_fr q_rw mi vtt vnw vtr vot vdi vkp vik vwy vah vtg vws vfr vrw)) hP hD hS hA [] rfl rfl rfl (va_runS (As := [.long (x1.toInt64), .long (0 : Int64), .long (5 : Int64)]) (rest := [.ref q_mo]) ⟨hx, hb, hml, hown, hts⟩ (kX9_in l Γ (x1.toInt64) (0 : Int64) (5 : Int64) (mX9_in (x1.toInt64) (0 : Int64) (5 : Int64)) rfl _) (va_cwS 3 hts gX9_write_X9_in rfl rfl rfl (by decide +kernel) ⟨Nat.le_of_ble_eq_true rfl, Nat.le_of_ble_eq_true rfl⟩) (my_preS (wc := ([] : va_W)) [] hK hP hD rfl rfl) rfl rfl hl.1 rfl (lv_room (Nat.le_of_ble_eq_true rfl)) dX9_write_18 ⟨Nat.le_of_ble_eq_true rfl, Nat.le_of_ble_eq_true rfl⟩) (fun H locs hP hD hS => ?_)
    refine lv_if_ne (tgt := 28) hx hb dX9_write_21 (by decide) (fun c_2 => ?_) (fun c_2 => ?_)
    · replace hm := if_f hm c_2
      refine lv_aload_n hx hb dX9_write_28 rfl (lv_at hl 0 rfl) ?_
      refine va_get (D := my_D Γ) (ci := 7) (v := .ref q_nw) (C := RX9) (T := TX9) (N := 19) hx hb hts hinX9 hown hK hP 0 rfl rfl 3 (by decide) (hts (.fieldLink RX9 13 "BeltFloorModel" "now" "[I") (List.mem_of_getElem? (i := 2) rfl)) (fun _ h9 => h9) rfl dX9_write_29 ?_
      refine lv_iload_n hx hb dX9_write_32 rfl (lv_at hl 1 rfl) ?_
      refine lv_bipush (v := (8 : Int32)) hx hb dX9_write_33 (by decide) ?_
      obtain ⟨r_3, hc_4, hm⟩ := bo1_s hm
      refine my_callP1 (wc := (wArr117 Γ q_nw vnw)) (w1 := (wArr117 Γ q_nw vnw)) (ws1 := (wModel Γ q_mo q_tt q_nw q_tr q_ot q_di q_kp q_ik q_wy q_ah q_tg q_ws q_fr q_rw mi vtt vnw vtr vot vdi vkp vik vwy vah vtg vws vfr vrw)) hP hD hS hA [2] rfl rfl rfl (va_runS (As := [.ref q_nw, .int x0, .int (8 : Int32)]) (rest := [.ref q_mo]) ⟨hx, hb, hml, hown, hts⟩ (kX9_of l Γ q_nw vnw x0 (8 : Int32) r_3 hc_4 _) (va_cwS 3 hts gX9_write_X9_of rfl rfl rfl (by decide +kernel) ⟨Nat.le_of_ble_eq_true rfl, Nat.le_of_ble_eq_true rfl⟩) (my_preS (wc := (wArr117 Γ q_nw vnw)) [2] hK hP hD rfl rfl) rfl rfl hl.1 rfl (lv_room (Nat.le_of_ble_eq_true rfl)) dX9_write_35 ⟨Nat.le_of_ble_eq_true rfl, Nat.le_of_ble_eq_true rfl⟩) (fun H locs hP hD hS => ?_)
      refine lv_bipush (v := (10 : Int32)) hx hb dX9_write_38 (by decide) ?_
      refine lv_icmp_ge (tgt := 47) hx hb dX9_write_40 (by decide) (fun c_5 => ?_) (fun c_5 => ?_)
      · replace hm := if_s hm c_5
        refine lv_iconst (v := (3 : Int32)) hx hb dX9_write_47 (by decide) ?_
        exact J_48 mi vnw vdi x0 x1 (3 : Int32) _ _ _ hP hD hS (lv_sub hl [0, 1, 2] rfl) hm
      · replace hm := if_f hm c_5
        refine lv_iconst (v := (0 : Int32)) hx hb dX9_write_43 (by decide) ?_
        refine lv_goto (tgt := 48) hx hb dX9_write_44 (by decide) ?_
        exact J_48 mi vnw vdi x0 x1 (0 : Int32) _ _ _ hP hD hS (lv_sub hl [0, 1, 2] rfl) hm
    · replace hm := if_s hm c_2
      refine lv_iconst (v := (2 : Int32)) hx hb dX9_write_24 (by decide) ?_
      refine lv_goto (tgt := 48) hx hb dX9_write_25 (by decide) ?_
      exact J_48 mi vnw vdi x0 x1 (2 : Int32) _ _ _ hP hD hS (lv_sub hl [0, 1, 2] rfl) hm
  · replace hm := if_s hm c_1
    refine lv_iconst (v := (1 : Int32)) hx hb dX9_write_8 (by decide) ?_
    refine lv_goto (tgt := 48) hx hb dX9_write_9 (by decide) ?_
    exact J_48 mi vnw vdi x0 x1 (1 : Int32) _ _ _ hP hD hS (lv_sub hl [0, 1, 2] rfl) hm
def mX9_wipe (mi : Nat → Int32) (vnw : Nat → Int32) (vdi : Nat → Int32) (x0 : Int32) : Option (Int32 × (Nat → Int32) × (Nat → Int32) × (Nat → Int32)) := (bo2 (mX9_noRobot mi x0) (fun r_1 mi_2 => (if r_1 = 0 then (bo2 (mX9_remember mi_2 vnw vdi) (fun mi_5 vdi_6 => (bo2 (mX9_wipeOn vnw x0) (fun r_8 vnw_9 => (some (r_8, mi_5, vnw_9, vdi_6)))))) else (some ((0 : Int32), mi_2, vnw, vdi)))))
set_option maxHeartbeats 4000000 in
set_option maxRecDepth 100000 in
theorem kX9_wipe (l : Launch) (Γ : my_G) (q_mo q_tt q_nw q_tr q_ot q_di q_kp q_ik q_wy q_ah q_tg q_ws q_fr q_rw : Nat) (mi : Nat → Int32) (vtt : Nat → Int32) (vnw : Nat → Int32) (vtr : Nat → Int32) (vot : Nat → Int32) (vdi : Nat → Int32) (vkp : Nat → Int32) (vik : Nat → Int32) (vwy : Nat → Int32) (vah : Nat → Int32) (vtg : Nat → Int32) (vws : Nat → Int32) (vfr : Nat → Int32) (vrw : Nat → Int32) (x0 : Int32) (rr : Int32) (mi_z : Nat → Int32) (vnw_z : Nat → Int32) (vdi_z : Nat → Int32) (hm : mX9_wipe mi vnw vdi x0 = (some (rr, mi_z, vnw_z, vdi_z))) : Mn l yX9_wipe wsX9_wipe ({ frames := 3, cells := 0, slots := 0, locals := 66 } : Room) Γ [.ref q_mo, .int x0] (wModel Γ q_mo q_tt q_nw q_tr q_ot q_di q_kp q_ik q_wy q_ah q_tg q_ws q_fr q_rw mi vtt vnw vtr vot vdi vkp vik vwy vah vtg vws vfr vrw) (some (.int rr)) (wModel Γ q_mo q_tt q_nw q_tr q_ot q_di q_kp q_ik q_wy q_ah q_tg q_ws q_fr q_rw mi_z vtt vnw_z vtr vot vdi_z vkp vik vwy vah vtg vws vfr vrw) := by
  intro sz
  refine Met.ofW (cc := cX9_wipe) (maxL := 2) (ret := (some .int)) (by decide) rfl ?_
  intro p e s m args below meth c s₁ B hml hv
  obtain ⟨rfl, hsz, hP, hK, hD0⟩ := hv
  have hx := B.exec
  have hb := B.bytes
  have hr := B.returns
  have hts := atoms_spec (ws := wsX9_wipe) B.pre
  have hown : s.vm.findClass RX9 = some m.cls := findClass_of_methodNamed B.named
  have hlocks := B.notSynchronized
  have hinX9 : ∀ w ∈ u_ws RX9 TX9 19, w ∈ wsX9_wipe := fun w h => List.mem_cons_of_mem _ (List.mem_append_right _ h)
  subst hsz
  have hD := hD0.self (sz := s.heap.size)
  have hA : ∀ q : Nat, s.heap.size ≤ q → va_A (wModel Γ q_mo q_tt q_nw q_tr q_ot q_di q_kp q_ik q_wy q_ah q_tg q_ws q_fr q_rw mi vtt vnw vtr vot vdi vkp vik vwy vah vtg vws vfr vrw) s.heap.size q := fun q h => Or.inr h
  generalize va_A (wModel Γ q_mo q_tt q_nw q_tr q_ot q_di q_kp q_ik q_wy q_ah q_tg q_ws q_fr q_rw mi vtt vnw vtr vot vdi vkp vik vwy vah vtg vws vfr vrw) s.heap.size = A at hD hA ⊢
  have hS : va_S A s.heap s.heap [] := va_S.rf
  have hl := lv_entry ([.ref q_mo, .int x0]) (n := 2) (Nat.le_of_ble_eq_true rfl)
  rw [lg_entry_eq]
  generalize (lg_sl ([.ref q_mo, .int x0]) ++ List.replicate (2 - (lg_sl ([.ref q_mo, .int x0])).length) Slot.unset).toArray = ls at hl ⊢
  replace hl : lv_has ls 2 [(0, .ref q_mo), (1, .int x0)] := hl
  unfold mX9_wipe at hm
  refine lv_aload_n hx hb dX9_wipe_0 rfl (lv_at hl 0 rfl) ?_
  refine lv_iload_n hx hb dX9_wipe_1 rfl (lv_at hl 1 rfl) ?_
  obtain ⟨r_1, mi_2, hc_3, hm⟩ := bo2_s hm
  refine my_callP1 (wc := (wMo Γ q_mo q_tt q_nw q_tr q_ot q_di q_kp q_ik q_wy q_ah q_tg q_ws q_fr q_rw mi)) (w1 := (wMo Γ q_mo q_tt q_nw q_tr q_ot q_di q_kp q_ik q_wy q_ah q_tg q_ws q_fr q_rw mi_2)) (ws1 := (wModel Γ q_mo q_tt q_nw q_tr q_ot q_di q_kp q_ik q_wy q_ah q_tg q_ws q_fr q_rw mi_2 vtt vnw vtr vot vdi vkp vik vwy vah vtg vws vfr vrw)) hP hD hS hA [0] rfl rfl rfl (va_runV (As := [.int x0]) (rest := []) ⟨hx, hb, hml, hown, hts⟩ (kX9_noRobot l Γ q_mo q_tt q_nw q_tr q_ot q_di q_kp q_ik q_wy q_ah q_tg q_ws q_fr q_rw mi x0 r_1 mi_2 hc_3 _) (cwV 1 hts gX9_wipe_X9_noRobot rfl rfl rfl (by decide +kernel) ⟨Nat.le_of_ble_eq_true rfl, Nat.le_of_ble_eq_true rfl⟩) (my_preV (wc := (wMo Γ q_mo q_tt q_nw q_tr q_ot q_di q_kp q_ik q_wy q_ah q_tg q_ws q_fr q_rw mi)) (ci := 7) (q0 := 0) [0] hK hP hD rfl rfl rfl rfl) rfl rfl hl.1 rfl (lv_room (Nat.le_of_ble_eq_true rfl)) dX9_wipe_2 ⟨Nat.le_of_ble_eq_true rfl, Nat.le_of_ble_eq_true rfl⟩) (fun H locs hP hD hS => ?_)
  refine lv_if_eq (tgt := 10) hx hb dX9_wipe_5 (by decide) (fun c_4 => ?_) (fun c_4 => ?_)
  · replace hm := if_s hm c_4
    refine lv_aload_n hx hb dX9_wipe_10 rfl (lv_at hl 0 rfl) ?_
    obtain ⟨mi_5, vdi_6, hc_7, hm⟩ := bo2_s hm
    refine my_callP0 (wc := (wModel Γ q_mo q_tt q_nw q_tr q_ot q_di q_kp q_ik q_wy q_ah q_tg q_ws q_fr q_rw mi_2 vtt vnw vtr vot vdi vkp vik vwy vah vtg vws vfr vrw)) (w1 := (wModel Γ q_mo q_tt q_nw q_tr q_ot q_di q_kp q_ik q_wy q_ah q_tg q_ws q_fr q_rw mi_5 vtt vnw vtr vot vdi_6 vkp vik vwy vah vtg vws vfr vrw)) (ws1 := (wModel Γ q_mo q_tt q_nw q_tr q_ot q_di q_kp q_ik q_wy q_ah q_tg q_ws q_fr q_rw mi_5 vtt vnw vtr vot vdi_6 vkp vik vwy vah vtg vws vfr vrw)) hP hD hS hA [0, 1, 2, 3, 4, 5, 6, 7, 8, 9, 10, 11, 12, 13] rfl rfl rfl (va_runV (As := []) (rest := []) ⟨hx, hb, hml, hown, hts⟩ (kX9_remember l Γ q_mo q_tt q_nw q_tr q_ot q_di q_kp q_ik q_wy q_ah q_tg q_ws q_fr q_rw mi_2 vtt vnw vtr vot vdi vkp vik vwy vah vtg vws vfr vrw mi_5 vdi_6 hc_7 _) (cwV 0 hts gX9_wipe_X9_remember rfl rfl rfl (by decide +kernel) ⟨Nat.le_of_ble_eq_true rfl, Nat.le_of_ble_eq_true rfl⟩) (my_preV (wc := (wModel Γ q_mo q_tt q_nw q_tr q_ot q_di q_kp q_ik q_wy q_ah q_tg q_ws q_fr q_rw mi_2 vtt vnw vtr vot vdi vkp vik vwy vah vtg vws vfr vrw)) (ci := 7) (q0 := 0) [0, 1, 2, 3, 4, 5, 6, 7, 8, 9, 10, 11, 12, 13] hK hP hD rfl rfl rfl rfl) rfl rfl hl.1 rfl (lv_room (Nat.le_of_ble_eq_true rfl)) dX9_wipe_11 ⟨Nat.le_of_ble_eq_true rfl, Nat.le_of_ble_eq_true rfl⟩) (fun H locs hP hD hS => ?_)
    refine lv_aload_n hx hb dX9_wipe_14 rfl (lv_at hl 0 rfl) ?_
    refine va_get (D := my_D Γ) (ci := 7) (v := .ref q_nw) (C := RX9) (T := TX9) (N := 19) hx hb hts hinX9 hown hK hP 0 rfl rfl 3 (by decide) (hts (.fieldLink RX9 13 "BeltFloorModel" "now" "[I") (List.mem_of_getElem? (i := 1) rfl)) (fun _ h9 => h9) rfl dX9_wipe_15 ?_
    refine lv_iload_n hx hb dX9_wipe_18 rfl (lv_at hl 1 rfl) ?_
    obtain ⟨r_8, vnw_9, hc_10, hm⟩ := bo2_s hm
    refine my_callP1 (wc := (wArr117 Γ q_nw vnw)) (w1 := (wArr117 Γ q_nw vnw_9)) (ws1 := (wModel Γ q_mo q_tt q_nw q_tr q_ot q_di q_kp q_ik q_wy q_ah q_tg q_ws q_fr q_rw mi_5 vtt vnw_9 vtr vot vdi_6 vkp vik vwy vah vtg vws vfr vrw)) hP hD hS hA [2] rfl rfl rfl (va_runS (As := [.ref q_nw, .int x0]) (rest := []) ⟨hx, hb, hml, hown, hts⟩ (kX9_wipeOn l Γ q_nw vnw x0 r_8 vnw_9 hc_10 _) (va_cwS 2 hts gX9_wipe_X9_wipeOn rfl rfl rfl (by decide +kernel) ⟨Nat.le_of_ble_eq_true rfl, Nat.le_of_ble_eq_true rfl⟩) (my_preS (wc := (wArr117 Γ q_nw vnw)) [2] hK hP hD rfl rfl) rfl rfl hl.1 rfl (lv_room (Nat.le_of_ble_eq_true rfl)) dX9_wipe_19 ⟨Nat.le_of_ble_eq_true rfl, Nat.le_of_ble_eq_true rfl⟩) (fun H locs hP hD hS => ?_)
    obtain ⟨hf0, hf1, hf2, hf3⟩ := si4 hm
    subst hf0
    subst hf1
    subst hf2
    subst hf3
    exact W.iret (v := r_8) hx hb hr (fun t ht hW => ⟨⟨rfl, by rw [ht]; exact hP⟩, hS.F ht⟩) hS.2.2 dX9_wipe_22
  · replace hm := if_f hm c_4
    refine lv_iconst (v := (0 : Int32)) hx hb dX9_wipe_8 (by decide) ?_
    obtain ⟨hf0, hf1, hf2, hf3⟩ := si4 hm
    subst hf0
    subst hf1
    subst hf2
    subst hf3
    exact W.iret (v := (0 : Int32)) hx hb hr (fun t ht hW => ⟨⟨rfl, by rw [ht]; exact hP⟩, hS.F ht⟩) hS.2.2 dX9_wipe_9
def mX9_step_J18  (mi : Nat → Int32) (vnw : Nat → Int32) (vdi : Nat → Int32) (vwy : Nat → Int32) (vah : Nat → Int32) (vtg : Nat → Int32) (vws : Nat → Int32) (l1 : Int32) (s1 : Int32) : Option (Int32 × (Nat → Int32) × (Nat → Int32) × (Nat → Int32) × (Nat → Int32) × (Nat → Int32) × (Nat → Int32) × (Nat → Int32)) := (bt2 (mX9_refused mi s1) (fun r_2 mi_3 => (if r_2 = 0 then (bo2 (mX9_remember mi_3 vnw vdi) (fun mi_6 vdi_7 => (bo6 (mX9_stepOn vwy vah vtg vws vnw l1) (fun r_9 vwy_10 vah_11 vtg_12 vws_13 vnw_14 => (some (r_9, mi_6, vnw_14, vdi_7, vwy_10, vah_11, vtg_12, vws_13)))))) else (some ((0 : Int32), mi_3, vnw, vdi, vwy, vah, vtg, vws)))))
def mX9_step (mi : Nat → Int32) (vnw : Nat → Int32) (vdi : Nat → Int32) (vwy : Nat → Int32) (vah : Nat → Int32) (vtg : Nat → Int32) (vws : Nat → Int32) (x0 : Int32) : Option (Int32 × (Nat → Int32) × (Nat → Int32) × (Nat → Int32) × (Nat → Int32) × (Nat → Int32) × (Nat → Int32) × (Nat → Int32)) := (if (mX9_in (x0.toInt64) (1 : Int64) (40 : Int64)) = 0 then (mX9_step_J18 mi vnw vdi vwy vah vtg vws x0 (1 : Int32)) else (mX9_step_J18 mi vnw vdi vwy vah vtg vws x0 (0 : Int32)))
set_option maxHeartbeats 4000000 in
set_option maxRecDepth 100000 in
theorem kX9_step (l : Launch) (Γ : my_G) (q_mo q_tt q_nw q_tr q_ot q_di q_kp q_ik q_wy q_ah q_tg q_ws q_fr q_rw : Nat) (mi : Nat → Int32) (vtt : Nat → Int32) (vnw : Nat → Int32) (vtr : Nat → Int32) (vot : Nat → Int32) (vdi : Nat → Int32) (vkp : Nat → Int32) (vik : Nat → Int32) (vwy : Nat → Int32) (vah : Nat → Int32) (vtg : Nat → Int32) (vws : Nat → Int32) (vfr : Nat → Int32) (vrw : Nat → Int32) (x0 : Int32) (rr : Int32) (mi_z : Nat → Int32) (vnw_z : Nat → Int32) (vdi_z : Nat → Int32) (vwy_z : Nat → Int32) (vah_z : Nat → Int32) (vtg_z : Nat → Int32) (vws_z : Nat → Int32) (hm : mX9_step mi vnw vdi vwy vah vtg vws x0 = (some (rr, mi_z, vnw_z, vdi_z, vwy_z, vah_z, vtg_z, vws_z))) : Mn l yX9_step wsX9_step ({ frames := 8, cells := 0, slots := 0, locals := 179 } : Room) Γ [.ref q_mo, .int x0] (wModel Γ q_mo q_tt q_nw q_tr q_ot q_di q_kp q_ik q_wy q_ah q_tg q_ws q_fr q_rw mi vtt vnw vtr vot vdi vkp vik vwy vah vtg vws vfr vrw) (some (.int rr)) (wModel Γ q_mo q_tt q_nw q_tr q_ot q_di q_kp q_ik q_wy q_ah q_tg q_ws q_fr q_rw mi_z vtt vnw_z vtr vot vdi_z vkp vik vwy_z vah_z vtg_z vws_z vfr vrw) := by
  intro sz
  refine Met.ofW (cc := cX9_step) (maxL := 2) (ret := (some .int)) (by decide) rfl ?_
  intro p e s m args below meth c s₁ B hml hv
  obtain ⟨rfl, hsz, hP, hK, hD0⟩ := hv
  have hx := B.exec
  have hb := B.bytes
  have hr := B.returns
  have hts := atoms_spec (ws := wsX9_step) B.pre
  have hown : s.vm.findClass RX9 = some m.cls := findClass_of_methodNamed B.named
  have hlocks := B.notSynchronized
  have hinX9 : ∀ w ∈ u_ws RX9 TX9 19, w ∈ wsX9_step := fun w h => List.mem_cons_of_mem _ (List.mem_append_right _ h)
  subst hsz
  have hD := hD0.self (sz := s.heap.size)
  have hA : ∀ q : Nat, s.heap.size ≤ q → va_A (wModel Γ q_mo q_tt q_nw q_tr q_ot q_di q_kp q_ik q_wy q_ah q_tg q_ws q_fr q_rw mi vtt vnw vtr vot vdi vkp vik vwy vah vtg vws vfr vrw) s.heap.size q := fun q h => Or.inr h
  generalize va_A (wModel Γ q_mo q_tt q_nw q_tr q_ot q_di q_kp q_ik q_wy q_ah q_tg q_ws q_fr q_rw mi vtt vnw vtr vot vdi vkp vik vwy vah vtg vws vfr vrw) s.heap.size = A at hD hA ⊢
  have hS : va_S A s.heap s.heap [] := va_S.rf
  have hl := lv_entry ([.ref q_mo, .int x0]) (n := 2) (Nat.le_of_ble_eq_true rfl)
  rw [lg_entry_eq]
  generalize (lg_sl ([.ref q_mo, .int x0]) ++ List.replicate (2 - (lg_sl ([.ref q_mo, .int x0])).length) Slot.unset).toArray = ls at hl ⊢
  replace hl : lv_has ls 2 [(0, .ref q_mo), (1, .int x0)] := hl
  have J_18 : ∀ (mi : Nat → Int32) (vnw : Nat → Int32) (vdi : Nat → Int32) (vwy : Nat → Int32) (vah : Nat → Int32) (vtg : Nat → Int32) (vws : Nat → Int32) (l1 : Int32) (s1 : Int32) (H : Heap) (locs : List Loc) (ls : Array Slot), va_P (my_D Γ) vwCl (wModel Γ q_mo q_tt q_nw q_tr q_ot q_di q_kp q_ik q_wy q_ah q_tg q_ws q_fr q_rw mi vtt vnw vtr vot vdi vkp vik vwy vah vtg vws vfr vrw) H → va_D A (wModel Γ q_mo q_tt q_nw q_tr q_ot q_di q_kp q_ik q_wy q_ah q_tg q_ws q_fr q_rw mi vtt vnw vtr vot vdi vkp vik vwy vah vtg vws vfr vrw) → va_S A s.heap H locs → lv_has ls 2 [(0, .ref q_mo), (1, .int l1)] → mX9_step_J18 mi vnw vdi vwy vah vtg vws l1 s1 = (some (rr, mi_z, vnw_z, vdi_z, vwy_z, vah_z, vtg_z, vws_z)) → W p l e (headSpec wsX9_step ({ frames := 8, cells := 0, slots := 0, locals := 179 } : Room)).room s m ([.ref q_mo, .int x0] : List Value).toArray below meth c H locs 0 0 (MQ below (my_Q Γ A (some (.int rr)) (wModel Γ q_mo q_tt q_nw q_tr q_ot q_di q_kp q_ik q_wy q_ah q_tg q_ws q_fr q_rw mi_z vtt vnw_z vtr vot vdi_z vkp vik vwy_z vah_z vtg_z vws_z vfr vrw)) ([.ref q_mo, .int x0] : List Value).toArray s 0 0 A) (F0 m 18 ls [.int s1, .ref q_mo]) := by
    intro  mi vnw vdi vwy vah vtg vws l1 s1 H locs ls hP hD hS hl hm
    unfold mX9_step_J18 at hm
    obtain ⟨r_2, mi_3, hc_4, hm⟩ := bt2_s hm
    refine my_callP1 (wc := (wMo Γ q_mo q_tt q_nw q_tr q_ot q_di q_kp q_ik q_wy q_ah q_tg q_ws q_fr q_rw mi)) (w1 := (wMo Γ q_mo q_tt q_nw q_tr q_ot q_di q_kp q_ik q_wy q_ah q_tg q_ws q_fr q_rw mi_3)) (ws1 := (wModel Γ q_mo q_tt q_nw q_tr q_ot q_di q_kp q_ik q_wy q_ah q_tg q_ws q_fr q_rw mi_3 vtt vnw vtr vot vdi vkp vik vwy vah vtg vws vfr vrw)) hP hD hS hA [0] rfl rfl rfl (va_runV (As := [.int s1]) (rest := []) ⟨hx, hb, hml, hown, hts⟩ (kX9_refused l Γ q_mo q_tt q_nw q_tr q_ot q_di q_kp q_ik q_wy q_ah q_tg q_ws q_fr q_rw mi s1 r_2 mi_3 hc_4 _) (cwV 1 hts gX9_step_X9_refused rfl rfl rfl (by decide +kernel) ⟨Nat.le_of_ble_eq_true rfl, Nat.le_of_ble_eq_true rfl⟩) (my_preV (wc := (wMo Γ q_mo q_tt q_nw q_tr q_ot q_di q_kp q_ik q_wy q_ah q_tg q_ws q_fr q_rw mi)) (ci := 7) (q0 := 0) [0] hK hP hD rfl rfl rfl rfl) rfl rfl hl.1 rfl (lv_room (Nat.le_of_ble_eq_true rfl)) dX9_step_18 ⟨Nat.le_of_ble_eq_true rfl, Nat.le_of_ble_eq_true rfl⟩) (fun H locs hP hD hS => ?_)
    refine lv_if_eq (tgt := 26) hx hb dX9_step_21 (by decide) (fun c_5 => ?_) (fun c_5 => ?_)
    · replace hm := if_s hm c_5
      refine lv_aload_n hx hb dX9_step_26 rfl (lv_at hl 0 rfl) ?_
      obtain ⟨mi_6, vdi_7, hc_8, hm⟩ := bo2_s hm
      refine my_callP0 (wc := (wModel Γ q_mo q_tt q_nw q_tr q_ot q_di q_kp q_ik q_wy q_ah q_tg q_ws q_fr q_rw mi_3 vtt vnw vtr vot vdi vkp vik vwy vah vtg vws vfr vrw)) (w1 := (wModel Γ q_mo q_tt q_nw q_tr q_ot q_di q_kp q_ik q_wy q_ah q_tg q_ws q_fr q_rw mi_6 vtt vnw vtr vot vdi_7 vkp vik vwy vah vtg vws vfr vrw)) (ws1 := (wModel Γ q_mo q_tt q_nw q_tr q_ot q_di q_kp q_ik q_wy q_ah q_tg q_ws q_fr q_rw mi_6 vtt vnw vtr vot vdi_7 vkp vik vwy vah vtg vws vfr vrw)) hP hD hS hA [0, 1, 2, 3, 4, 5, 6, 7, 8, 9, 10, 11, 12, 13] rfl rfl rfl (va_runV (As := []) (rest := []) ⟨hx, hb, hml, hown, hts⟩ (kX9_remember l Γ q_mo q_tt q_nw q_tr q_ot q_di q_kp q_ik q_wy q_ah q_tg q_ws q_fr q_rw mi_3 vtt vnw vtr vot vdi vkp vik vwy vah vtg vws vfr vrw mi_6 vdi_7 hc_8 _) (cwV 0 hts gX9_step_X9_remember rfl rfl rfl (by decide +kernel) ⟨Nat.le_of_ble_eq_true rfl, Nat.le_of_ble_eq_true rfl⟩) (my_preV (wc := (wModel Γ q_mo q_tt q_nw q_tr q_ot q_di q_kp q_ik q_wy q_ah q_tg q_ws q_fr q_rw mi_3 vtt vnw vtr vot vdi vkp vik vwy vah vtg vws vfr vrw)) (ci := 7) (q0 := 0) [0, 1, 2, 3, 4, 5, 6, 7, 8, 9, 10, 11, 12, 13] hK hP hD rfl rfl rfl rfl) rfl rfl hl.1 rfl (lv_room (Nat.le_of_ble_eq_true rfl)) dX9_step_27 ⟨Nat.le_of_ble_eq_true rfl, Nat.le_of_ble_eq_true rfl⟩) (fun H locs hP hD hS => ?_)
      refine lv_aload_n hx hb dX9_step_30 rfl (lv_at hl 0 rfl) ?_
      refine lv_aload_n hx hb dX9_step_31 rfl (lv_at hl 0 rfl) ?_
      refine va_get (D := my_D Γ) (ci := 7) (v := .ref q_nw) (C := RX9) (T := TX9) (N := 19) hx hb hts hinX9 hown hK hP 0 rfl rfl 3 (by decide) (hts (.fieldLink RX9 13 "BeltFloorModel" "now" "[I") (List.mem_of_getElem? (i := 2) rfl)) (fun _ h9 => h9) rfl dX9_step_32 ?_
      refine lv_iload_n hx hb dX9_step_35 rfl (lv_at hl 1 rfl) ?_
      obtain ⟨r_9, vwy_10, vah_11, vtg_12, vws_13, vnw_14, hc_15, hm⟩ := bo6_s hm
      refine my_callP1 (wc := (wStep Γ q_mo q_wy q_ah q_tg q_ws q_nw q_tt q_nw q_tr q_ot q_di q_kp q_ik q_fr q_rw mi_6 vwy vah vtg vws vnw)) (w1 := (wStep Γ q_mo q_wy q_ah q_tg q_ws q_nw q_tt q_nw q_tr q_ot q_di q_kp q_ik q_fr q_rw mi_6 vwy_10 vah_11 vtg_12 vws_13 vnw_14)) (ws1 := (wModel Γ q_mo q_tt q_nw q_tr q_ot q_di q_kp q_ik q_wy q_ah q_tg q_ws q_fr q_rw mi_6 vtt vnw_14 vtr vot vdi_7 vkp vik vwy_10 vah_11 vtg_12 vws_13 vfr vrw)) hP hD hS hA [0, 8, 9, 10, 11, 2] rfl rfl rfl (va_runV (As := [.ref q_nw, .int l1]) (rest := []) ⟨hx, hb, hml, hown, hts⟩ (kX9_stepOn l Γ q_mo q_wy q_ah q_tg q_ws q_nw q_tt q_nw q_tr q_ot q_di q_kp q_ik q_fr q_rw mi_6 vwy vah vtg vws vnw l1 r_9 vwy_10 vah_11 vtg_12 vws_13 vnw_14 hc_15 _) (cwV 2 hts gX9_step_X9_stepOn rfl rfl rfl (by decide +kernel) ⟨Nat.le_of_ble_eq_true rfl, Nat.le_of_ble_eq_true rfl⟩) (my_preV (wc := (wStep Γ q_mo q_wy q_ah q_tg q_ws q_nw q_tt q_nw q_tr q_ot q_di q_kp q_ik q_fr q_rw mi_6 vwy vah vtg vws vnw)) (ci := 7) (q0 := 0) [0, 8, 9, 10, 11, 2] hK hP hD rfl rfl rfl rfl) rfl rfl hl.1 rfl (lv_room (Nat.le_of_ble_eq_true rfl)) dX9_step_36 ⟨Nat.le_of_ble_eq_true rfl, Nat.le_of_ble_eq_true rfl⟩) (fun H locs hP hD hS => ?_)
      obtain ⟨hf0, hf1, hf2, hf3, hf4, hf5, hf6, hf7⟩ := si8 hm
      subst hf0
      subst hf1
      subst hf2
      subst hf3
      subst hf4
      subst hf5
      subst hf6
      subst hf7
      exact W.iret (v := r_9) hx hb hr (fun t ht hW => ⟨⟨rfl, by rw [ht]; exact hP⟩, hS.F ht⟩) hS.2.2 dX9_step_39
    · replace hm := if_f hm c_5
      refine lv_iconst (v := (0 : Int32)) hx hb dX9_step_24 (by decide) ?_
      obtain ⟨hf0, hf1, hf2, hf3, hf4, hf5, hf6, hf7⟩ := si8 hm
      subst hf0
      subst hf1
      subst hf2
      subst hf3
      subst hf4
      subst hf5
      subst hf6
      subst hf7
      exact W.iret (v := (0 : Int32)) hx hb hr (fun t ht hW => ⟨⟨rfl, by rw [ht]; exact hP⟩, hS.F ht⟩) hS.2.2 dX9_step_25
  unfold mX9_step at hm
  refine lv_aload_n hx hb dX9_step_0 rfl (lv_at hl 0 rfl) ?_
  refine lv_iload_n hx hb dX9_step_1 rfl (lv_at hl 1 rfl) ?_
  refine lv_i2l (v := x0.toInt64) hx hb dX9_step_2 rfl ?_
  refine lv_lconst (v := (1 : Int64)) hx hb dX9_step_3 (by decide) ?_
  refine lv_ldc2 (v := (40 : Int64)) hx hb hown (hts (.constantLong RX9 258 (40)) (List.mem_of_getElem? (i := 1) rfl)) dX9_step_4 ?_
  refine my_callP1 (wc := ([] : va_W)) (w1 := ([] : va_W)) (ws1 := (wModel Γ q_mo q_tt q_nw q_tr q_ot q_di q_kp q_ik q_wy q_ah q_tg q_ws q_fr q_rw mi vtt vnw vtr vot vdi vkp vik vwy vah vtg vws vfr vrw)) hP hD hS hA [] rfl rfl rfl (va_runS (As := [.long (x0.toInt64), .long (1 : Int64), .long (40 : Int64)]) (rest := [.ref q_mo]) ⟨hx, hb, hml, hown, hts⟩ (kX9_in l Γ (x0.toInt64) (1 : Int64) (40 : Int64) (mX9_in (x0.toInt64) (1 : Int64) (40 : Int64)) rfl _) (va_cwS 3 hts gX9_step_X9_in rfl rfl rfl (by decide +kernel) ⟨Nat.le_of_ble_eq_true rfl, Nat.le_of_ble_eq_true rfl⟩) (my_preS (wc := ([] : va_W)) [] hK hP hD rfl rfl) rfl rfl hl.1 rfl (lv_room (Nat.le_of_ble_eq_true rfl)) dX9_step_7 ⟨Nat.le_of_ble_eq_true rfl, Nat.le_of_ble_eq_true rfl⟩) (fun H locs hP hD hS => ?_)
  refine lv_if_eq (tgt := 17) hx hb dX9_step_10 (by decide) (fun c_1 => ?_) (fun c_1 => ?_)
  · replace hm := if_s hm c_1
    refine lv_iconst (v := (1 : Int32)) hx hb dX9_step_17 (by decide) ?_
    exact J_18 mi vnw vdi vwy vah vtg vws x0 (1 : Int32) _ _ _ hP hD hS (lv_sub hl [0, 1] rfl) hm
  · replace hm := if_f hm c_1
    refine lv_iconst (v := (0 : Int32)) hx hb dX9_step_13 (by decide) ?_
    refine lv_goto (tgt := 18) hx hb dX9_step_14 (by decide) ?_
    exact J_18 mi vnw vdi vwy vah vtg vws x0 (0 : Int32) _ _ _ hP hD hS (lv_sub hl [0, 1] rfl) hm
def mX9_undo_J13  (mi : Nat → Int32) (vnw : Nat → Int32) (vdi : Nat → Int32) (s1 : Int32) : Option (Int32 × (Nat → Int32) × (Nat → Int32)) := (bt2 (mX9_refused mi s1) (fun r_2 mi_3 => (if r_2 = 0 then (bo1 (mX9_copyState_1638_117 vdi vnw ((117 : Int32) * ((mi_3 7) - (1 : Int32))) (0 : Int32)) (fun vnw_7 => (some (((mi_3 7) - (1 : Int32)), (upd mi_3 7 ((mi_3 7) - (1 : Int32))), vnw_7)))) else (some ((0 : Int32), mi_3, vnw)))))
def mX9_undo (mi : Nat → Int32) (vnw : Nat → Int32) (vdi : Nat → Int32) : Option (Int32 × (Nat → Int32) × (Nat → Int32)) := (if (mi 7) = 0 then (mX9_undo_J13 mi vnw vdi (1 : Int32)) else (mX9_undo_J13 mi vnw vdi (0 : Int32)))
set_option maxHeartbeats 4000000 in
set_option maxRecDepth 100000 in
theorem kX9_undo (l : Launch) (Γ : my_G) (q_mo q_tt q_nw q_tr q_ot q_di q_kp q_ik q_wy q_ah q_tg q_ws q_fr q_rw : Nat) (mi : Nat → Int32) (vtt : Nat → Int32) (vnw : Nat → Int32) (vtr : Nat → Int32) (vot : Nat → Int32) (vdi : Nat → Int32) (vkp : Nat → Int32) (vik : Nat → Int32) (vwy : Nat → Int32) (vah : Nat → Int32) (vtg : Nat → Int32) (vws : Nat → Int32) (vfr : Nat → Int32) (vrw : Nat → Int32)  (rr : Int32) (mi_z : Nat → Int32) (vnw_z : Nat → Int32) (hm : mX9_undo mi vnw vdi = (some (rr, mi_z, vnw_z))) : Mn l yX9_undo wsX9_undo ({ frames := 1, cells := 0, slots := 0, locals := 24 } : Room) Γ [.ref q_mo] (wModel Γ q_mo q_tt q_nw q_tr q_ot q_di q_kp q_ik q_wy q_ah q_tg q_ws q_fr q_rw mi vtt vnw vtr vot vdi vkp vik vwy vah vtg vws vfr vrw) (some (.int rr)) (wModel Γ q_mo q_tt q_nw q_tr q_ot q_di q_kp q_ik q_wy q_ah q_tg q_ws q_fr q_rw mi_z vtt vnw_z vtr vot vdi vkp vik vwy vah vtg vws vfr vrw) := by
  intro sz
  refine Met.ofW (cc := cX9_undo) (maxL := 1) (ret := (some .int)) (by decide) rfl ?_
  intro p e s m args below meth c s₁ B hml hv
  obtain ⟨rfl, hsz, hP, hK, hD0⟩ := hv
  have hx := B.exec
  have hb := B.bytes
  have hr := B.returns
  have hts := atoms_spec (ws := wsX9_undo) B.pre
  have hown : s.vm.findClass RX9 = some m.cls := findClass_of_methodNamed B.named
  have hlocks := B.notSynchronized
  have hinX9 : ∀ w ∈ u_ws RX9 TX9 19, w ∈ wsX9_undo := fun w h => List.mem_cons_of_mem _ (List.mem_append_right _ h)
  subst hsz
  have hD := hD0.self (sz := s.heap.size)
  have hA : ∀ q : Nat, s.heap.size ≤ q → va_A (wModel Γ q_mo q_tt q_nw q_tr q_ot q_di q_kp q_ik q_wy q_ah q_tg q_ws q_fr q_rw mi vtt vnw vtr vot vdi vkp vik vwy vah vtg vws vfr vrw) s.heap.size q := fun q h => Or.inr h
  generalize va_A (wModel Γ q_mo q_tt q_nw q_tr q_ot q_di q_kp q_ik q_wy q_ah q_tg q_ws q_fr q_rw mi vtt vnw vtr vot vdi vkp vik vwy vah vtg vws vfr vrw) s.heap.size = A at hD hA ⊢
  have hS : va_S A s.heap s.heap [] := va_S.rf
  have hl := lv_entry ([.ref q_mo]) (n := 1) (Nat.le_of_ble_eq_true rfl)
  rw [lg_entry_eq]
  generalize (lg_sl ([.ref q_mo]) ++ List.replicate (1 - (lg_sl ([.ref q_mo])).length) Slot.unset).toArray = ls at hl ⊢
  replace hl : lv_has ls 1 [(0, .ref q_mo)] := hl
  have J_13 : ∀ (mi : Nat → Int32) (vnw : Nat → Int32) (vdi : Nat → Int32) (s1 : Int32) (H : Heap) (locs : List Loc) (ls : Array Slot), va_P (my_D Γ) vwCl (wModel Γ q_mo q_tt q_nw q_tr q_ot q_di q_kp q_ik q_wy q_ah q_tg q_ws q_fr q_rw mi vtt vnw vtr vot vdi vkp vik vwy vah vtg vws vfr vrw) H → va_D A (wModel Γ q_mo q_tt q_nw q_tr q_ot q_di q_kp q_ik q_wy q_ah q_tg q_ws q_fr q_rw mi vtt vnw vtr vot vdi vkp vik vwy vah vtg vws vfr vrw) → va_S A s.heap H locs → lv_has ls 1 [(0, .ref q_mo)] → mX9_undo_J13 mi vnw vdi s1 = (some (rr, mi_z, vnw_z)) → W p l e (headSpec wsX9_undo ({ frames := 1, cells := 0, slots := 0, locals := 24 } : Room)).room s m ([.ref q_mo] : List Value).toArray below meth c H locs 0 0 (MQ below (my_Q Γ A (some (.int rr)) (wModel Γ q_mo q_tt q_nw q_tr q_ot q_di q_kp q_ik q_wy q_ah q_tg q_ws q_fr q_rw mi_z vtt vnw_z vtr vot vdi vkp vik vwy vah vtg vws vfr vrw)) ([.ref q_mo] : List Value).toArray s 0 0 A) (F0 m 13 ls [.int s1, .ref q_mo]) := by
    intro  mi vnw vdi s1 H locs ls hP hD hS hl hm
    unfold mX9_undo_J13 at hm
    obtain ⟨r_2, mi_3, hc_4, hm⟩ := bt2_s hm
    refine my_callP1 (wc := (wMo Γ q_mo q_tt q_nw q_tr q_ot q_di q_kp q_ik q_wy q_ah q_tg q_ws q_fr q_rw mi)) (w1 := (wMo Γ q_mo q_tt q_nw q_tr q_ot q_di q_kp q_ik q_wy q_ah q_tg q_ws q_fr q_rw mi_3)) (ws1 := (wModel Γ q_mo q_tt q_nw q_tr q_ot q_di q_kp q_ik q_wy q_ah q_tg q_ws q_fr q_rw mi_3 vtt vnw vtr vot vdi vkp vik vwy vah vtg vws vfr vrw)) hP hD hS hA [0] rfl rfl rfl (va_runV (As := [.int s1]) (rest := []) ⟨hx, hb, hml, hown, hts⟩ (kX9_refused l Γ q_mo q_tt q_nw q_tr q_ot q_di q_kp q_ik q_wy q_ah q_tg q_ws q_fr q_rw mi s1 r_2 mi_3 hc_4 _) (cwV 1 hts gX9_undo_X9_refused rfl rfl rfl (by decide +kernel) ⟨Nat.le_of_ble_eq_true rfl, Nat.le_of_ble_eq_true rfl⟩) (my_preV (wc := (wMo Γ q_mo q_tt q_nw q_tr q_ot q_di q_kp q_ik q_wy q_ah q_tg q_ws q_fr q_rw mi)) (ci := 7) (q0 := 0) [0] hK hP hD rfl rfl rfl rfl) rfl rfl hl.1 rfl (lv_room (Nat.le_of_ble_eq_true rfl)) dX9_undo_13 ⟨Nat.le_of_ble_eq_true rfl, Nat.le_of_ble_eq_true rfl⟩) (fun H locs hP hD hS => ?_)
    refine lv_if_eq (tgt := 21) hx hb dX9_undo_16 (by decide) (fun c_5 => ?_) (fun c_5 => ?_)
    · replace hm := if_s hm c_5
      refine lv_aload_n hx hb dX9_undo_21 rfl (lv_at hl 0 rfl) ?_
      refine lv_dup hx hb dX9_undo_22 rfl ?_
      refine va_get (D := my_D Γ) (ci := 7) (v := .int (mi_3 7)) (C := RX9) (T := TX9) (N := 19) hx hb hts hinX9 hown hK hP 0 rfl rfl 7 (by decide) (hts (.fieldLink RX9 224 "BeltFloorModel" "acts" "I") (List.mem_of_getElem? (i := 1) rfl)) (fun _ h9 => h9) rfl dX9_undo_23 ?_
      refine lv_iconst (v := (1 : Int32)) hx hb dX9_undo_26 (by decide) ?_
      refine lv_isub hx hb dX9_undo_27 ?_
      refine lv_topi (fun y_6 ey_6 => ?_)
      refine va_put (D := my_D Γ) (ci := 7) (v := .int y_6) (ty := .int) (C := RX9) (T := TX9) (N := 19) hx hb hts hinX9 tyX9 tyX9_ok nmX9 hown hK hP hD hS 0 rfl rfl 7 (by decide) (hts (.fieldLink RX9 224 "BeltFloorModel" "acts" "I") (List.mem_of_getElem? (i := 1) rfl)) (fun _ h9 => h9) rfl (by decide +kernel) rfl rfl (Nat.le_of_ble_eq_true rfl) dX9_undo_28 (fun H locs hP hD hS => ?_)
      replace hP : va_P (my_D Γ) vwCl (wModel Γ q_mo q_tt q_nw q_tr q_ot q_di q_kp q_ik q_wy q_ah q_tg q_ws q_fr q_rw (upd mi_3 7 y_6) vtt vnw vtr vot vdi vkp vik vwy vah vtg vws vfr vrw) H := hP
      replace hD : va_D A (wModel Γ q_mo q_tt q_nw q_tr q_ot q_di q_kp q_ik q_wy q_ah q_tg q_ws q_fr q_rw (upd mi_3 7 y_6) vtt vnw vtr vot vdi vkp vik vwy vah vtg vws vfr vrw) := hD
      subst ey_6
      refine lv_aload_n hx hb dX9_undo_31 rfl (lv_at hl 0 rfl) ?_
      refine va_get (D := my_D Γ) (ci := 7) (v := .ref q_di) (C := RX9) (T := TX9) (N := 19) hx hb hts hinX9 hown hK hP 0 rfl rfl 6 (by decide) (hts (.fieldLink RX9 22 "BeltFloorModel" "diary" "[I") (List.mem_of_getElem? (i := 2) rfl)) (fun _ h9 => h9) rfl dX9_undo_32 ?_
      refine lv_bipush (v := (117 : Int32)) hx hb dX9_undo_35 (by decide) ?_
      refine lv_aload_n hx hb dX9_undo_37 rfl (lv_at hl 0 rfl) ?_
      refine va_get (D := my_D Γ) (ci := 7) (v := .int ((mi_3 7) - (1 : Int32))) (C := RX9) (T := TX9) (N := 19) hx hb hts hinX9 hown hK hP 0 rfl rfl 7 (by decide) (hts (.fieldLink RX9 224 "BeltFloorModel" "acts" "I") (List.mem_of_getElem? (i := 1) rfl)) (fun _ h9 => h9) rfl dX9_undo_38 ?_
      refine lv_imul hx hb dX9_undo_41 ?_
      refine lv_aload_n hx hb dX9_undo_42 rfl (lv_at hl 0 rfl) ?_
      refine va_get (D := my_D Γ) (ci := 7) (v := .ref q_nw) (C := RX9) (T := TX9) (N := 19) hx hb hts hinX9 hown hK hP 0 rfl rfl 3 (by decide) (hts (.fieldLink RX9 13 "BeltFloorModel" "now" "[I") (List.mem_of_getElem? (i := 3) rfl)) (fun _ h9 => h9) rfl dX9_undo_43 ?_
      refine lv_iconst (v := (0 : Int32)) hx hb dX9_undo_46 (by decide) ?_
      obtain ⟨vnw_7, hc_8, hm⟩ := bo1_s hm
      refine my_callP0 (wc := (wArr1638 Γ q_di vdi ++ wArr117 Γ q_nw vnw)) (w1 := (wArr1638 Γ q_di vdi ++ wArr117 Γ q_nw vnw_7)) (ws1 := (wModel Γ q_mo q_tt q_nw q_tr q_ot q_di q_kp q_ik q_wy q_ah q_tg q_ws q_fr q_rw (upd mi_3 7 ((mi_3 7) - (1 : Int32))) vtt vnw_7 vtr vot vdi vkp vik vwy vah vtg vws vfr vrw)) hP hD hS hA [5, 2] rfl rfl rfl (va_runS (As := [.ref q_di, .int ((117 : Int32) * ((mi_3 7) - (1 : Int32))), .ref q_nw, .int (0 : Int32)]) (rest := []) ⟨hx, hb, hml, hown, hts⟩ (kX9_copyState_1638_117 l Γ q_di q_nw vdi vnw ((117 : Int32) * ((mi_3 7) - (1 : Int32))) (0 : Int32) vnw_7 hc_8 _) (va_cwS 4 hts gX9_undo_X9_copyState rfl rfl rfl (by decide +kernel) ⟨Nat.le_of_ble_eq_true rfl, Nat.le_of_ble_eq_true rfl⟩) (my_preS (wc := (wArr1638 Γ q_di vdi ++ wArr117 Γ q_nw vnw)) [5, 2] hK hP hD rfl rfl) rfl rfl hl.1 rfl (lv_room (Nat.le_of_ble_eq_true rfl)) dX9_undo_47 ⟨Nat.le_of_ble_eq_true rfl, Nat.le_of_ble_eq_true rfl⟩) (fun H locs hP hD hS => ?_)
      refine lv_aload_n hx hb dX9_undo_50 rfl (lv_at hl 0 rfl) ?_
      refine va_get (D := my_D Γ) (ci := 7) (v := .int ((mi_3 7) - (1 : Int32))) (C := RX9) (T := TX9) (N := 19) hx hb hts hinX9 hown hK hP 0 rfl rfl 7 (by decide) (hts (.fieldLink RX9 224 "BeltFloorModel" "acts" "I") (List.mem_of_getElem? (i := 1) rfl)) (fun _ h9 => h9) rfl dX9_undo_51 ?_
      obtain ⟨hf0, hf1, hf2⟩ := si3 hm
      subst hf0
      subst hf1
      subst hf2
      exact W.iret (v := ((mi_3 7) - (1 : Int32))) hx hb hr (fun t ht hW => ⟨⟨rfl, by rw [ht]; exact hP⟩, hS.F ht⟩) hS.2.2 dX9_undo_54
    · replace hm := if_f hm c_5
      refine lv_iconst (v := (0 : Int32)) hx hb dX9_undo_19 (by decide) ?_
      obtain ⟨hf0, hf1, hf2⟩ := si3 hm
      subst hf0
      subst hf1
      subst hf2
      exact W.iret (v := (0 : Int32)) hx hb hr (fun t ht hW => ⟨⟨rfl, by rw [ht]; exact hP⟩, hS.F ht⟩) hS.2.2 dX9_undo_20
  unfold mX9_undo at hm
  refine lv_aload_n hx hb dX9_undo_0 rfl (lv_at hl 0 rfl) ?_
  refine lv_aload_n hx hb dX9_undo_1 rfl (lv_at hl 0 rfl) ?_
  refine va_get (D := my_D Γ) (ci := 7) (v := .int (mi 7)) (C := RX9) (T := TX9) (N := 19) hx hb hts hinX9 hown hK hP 0 rfl rfl 7 (by decide) (hts (.fieldLink RX9 224 "BeltFloorModel" "acts" "I") (List.mem_of_getElem? (i := 1) rfl)) (fun _ h9 => h9) rfl dX9_undo_2 ?_
  refine lv_if_ne (tgt := 12) hx hb dX9_undo_5 (by decide) (fun c_1 => ?_) (fun c_1 => ?_)
  · replace hm := if_f hm c_1
    refine lv_iconst (v := (0 : Int32)) hx hb dX9_undo_12 (by decide) ?_
    exact J_13 mi vnw vdi (0 : Int32) _ _ _ hP hD hS (lv_sub hl [0] rfl) hm
  · replace hm := if_s hm c_1
    refine lv_iconst (v := (1 : Int32)) hx hb dX9_undo_8 (by decide) ?_
    refine lv_goto (tgt := 13) hx hb dX9_undo_9 (by decide) ?_
    exact J_13 mi vnw vdi (1 : Int32) _ _ _ hP hD hS (lv_sub hl [0] rfl) hm
def mX9_rowAhead (mi : Nat → Int32) (vnw : Nat → Int32) (x0 : Int32) : Option (Int32 × (Nat → Int32)) := (bo2 (mX9_noRobot mi x0) (fun r_1 mi_2 => (if r_1 = 0 then (bo1 (mX9_of vnw x0 (0 : Int32)) (fun r_5 => (bo1 (mX9_of vnw x0 (1 : Int32)) (fun r_7 => (bo1 (mX9_rowFrom vnw r_5 r_7) (fun r_9 => (some (r_9, mi_2)))))))) else (some ((0 : Int32), mi_2)))))
set_option maxHeartbeats 4000000 in
set_option maxRecDepth 100000 in
theorem kX9_rowAhead (l : Launch) (Γ : my_G) (q_mo q_tt q_nw q_tr q_ot q_di q_kp q_ik q_wy q_ah q_tg q_ws q_fr q_rw : Nat) (mi : Nat → Int32) (vtt : Nat → Int32) (vnw : Nat → Int32) (vtr : Nat → Int32) (vot : Nat → Int32) (vdi : Nat → Int32) (vkp : Nat → Int32) (vik : Nat → Int32) (vwy : Nat → Int32) (vah : Nat → Int32) (vtg : Nat → Int32) (vws : Nat → Int32) (vfr : Nat → Int32) (vrw : Nat → Int32) (x0 : Int32) (rr : Int32) (mi_z : Nat → Int32) (hm : mX9_rowAhead mi vnw x0 = (some (rr, mi_z))) : Mn l yX9_rowAhead wsX9_rowAhead ({ frames := 4, cells := 0, slots := 0, locals := 88 } : Room) Γ [.ref q_mo, .int x0] (wModel Γ q_mo q_tt q_nw q_tr q_ot q_di q_kp q_ik q_wy q_ah q_tg q_ws q_fr q_rw mi vtt vnw vtr vot vdi vkp vik vwy vah vtg vws vfr vrw) (some (.int rr)) (wModel Γ q_mo q_tt q_nw q_tr q_ot q_di q_kp q_ik q_wy q_ah q_tg q_ws q_fr q_rw mi_z vtt vnw vtr vot vdi vkp vik vwy vah vtg vws vfr vrw) := by
  intro sz
  refine Met.ofW (cc := cX9_rowAhead) (maxL := 2) (ret := (some .int)) (by decide) rfl ?_
  intro p e s m args below meth c s₁ B hml hv
  obtain ⟨rfl, hsz, hP, hK, hD0⟩ := hv
  have hx := B.exec
  have hb := B.bytes
  have hr := B.returns
  have hts := atoms_spec (ws := wsX9_rowAhead) B.pre
  have hown : s.vm.findClass RX9 = some m.cls := findClass_of_methodNamed B.named
  have hlocks := B.notSynchronized
  have hinX9 : ∀ w ∈ u_ws RX9 TX9 19, w ∈ wsX9_rowAhead := fun w h => List.mem_cons_of_mem _ (List.mem_append_right _ h)
  subst hsz
  have hD := hD0.self (sz := s.heap.size)
  have hA : ∀ q : Nat, s.heap.size ≤ q → va_A (wModel Γ q_mo q_tt q_nw q_tr q_ot q_di q_kp q_ik q_wy q_ah q_tg q_ws q_fr q_rw mi vtt vnw vtr vot vdi vkp vik vwy vah vtg vws vfr vrw) s.heap.size q := fun q h => Or.inr h
  generalize va_A (wModel Γ q_mo q_tt q_nw q_tr q_ot q_di q_kp q_ik q_wy q_ah q_tg q_ws q_fr q_rw mi vtt vnw vtr vot vdi vkp vik vwy vah vtg vws vfr vrw) s.heap.size = A at hD hA ⊢
  have hS : va_S A s.heap s.heap [] := va_S.rf
  have hl := lv_entry ([.ref q_mo, .int x0]) (n := 2) (Nat.le_of_ble_eq_true rfl)
  rw [lg_entry_eq]
  generalize (lg_sl ([.ref q_mo, .int x0]) ++ List.replicate (2 - (lg_sl ([.ref q_mo, .int x0])).length) Slot.unset).toArray = ls at hl ⊢
  replace hl : lv_has ls 2 [(0, .ref q_mo), (1, .int x0)] := hl
  unfold mX9_rowAhead at hm
  refine lv_aload_n hx hb dX9_rowAhead_0 rfl (lv_at hl 0 rfl) ?_
  refine lv_iload_n hx hb dX9_rowAhead_1 rfl (lv_at hl 1 rfl) ?_
  obtain ⟨r_1, mi_2, hc_3, hm⟩ := bo2_s hm
  refine my_callP1 (wc := (wMo Γ q_mo q_tt q_nw q_tr q_ot q_di q_kp q_ik q_wy q_ah q_tg q_ws q_fr q_rw mi)) (w1 := (wMo Γ q_mo q_tt q_nw q_tr q_ot q_di q_kp q_ik q_wy q_ah q_tg q_ws q_fr q_rw mi_2)) (ws1 := (wModel Γ q_mo q_tt q_nw q_tr q_ot q_di q_kp q_ik q_wy q_ah q_tg q_ws q_fr q_rw mi_2 vtt vnw vtr vot vdi vkp vik vwy vah vtg vws vfr vrw)) hP hD hS hA [0] rfl rfl rfl (va_runV (As := [.int x0]) (rest := []) ⟨hx, hb, hml, hown, hts⟩ (kX9_noRobot l Γ q_mo q_tt q_nw q_tr q_ot q_di q_kp q_ik q_wy q_ah q_tg q_ws q_fr q_rw mi x0 r_1 mi_2 hc_3 _) (cwV 1 hts gX9_rowAhead_X9_noRobot rfl rfl rfl (by decide +kernel) ⟨Nat.le_of_ble_eq_true rfl, Nat.le_of_ble_eq_true rfl⟩) (my_preV (wc := (wMo Γ q_mo q_tt q_nw q_tr q_ot q_di q_kp q_ik q_wy q_ah q_tg q_ws q_fr q_rw mi)) (ci := 7) (q0 := 0) [0] hK hP hD rfl rfl rfl rfl) rfl rfl hl.1 rfl (lv_room (Nat.le_of_ble_eq_true rfl)) dX9_rowAhead_2 ⟨Nat.le_of_ble_eq_true rfl, Nat.le_of_ble_eq_true rfl⟩) (fun H locs hP hD hS => ?_)
  refine lv_if_eq (tgt := 12) hx hb dX9_rowAhead_5 (by decide) (fun c_4 => ?_) (fun c_4 => ?_)
  · replace hm := if_s hm c_4
    refine lv_aload_n hx hb dX9_rowAhead_12 rfl (lv_at hl 0 rfl) ?_
    refine va_get (D := my_D Γ) (ci := 7) (v := .ref q_nw) (C := RX9) (T := TX9) (N := 19) hx hb hts hinX9 hown hK hP 0 rfl rfl 3 (by decide) (hts (.fieldLink RX9 13 "BeltFloorModel" "now" "[I") (List.mem_of_getElem? (i := 1) rfl)) (fun _ h9 => h9) rfl dX9_rowAhead_13 ?_
    refine lv_aload_n hx hb dX9_rowAhead_16 rfl (lv_at hl 0 rfl) ?_
    refine va_get (D := my_D Γ) (ci := 7) (v := .ref q_nw) (C := RX9) (T := TX9) (N := 19) hx hb hts hinX9 hown hK hP 0 rfl rfl 3 (by decide) (hts (.fieldLink RX9 13 "BeltFloorModel" "now" "[I") (List.mem_of_getElem? (i := 1) rfl)) (fun _ h9 => h9) rfl dX9_rowAhead_17 ?_
    refine lv_iload_n hx hb dX9_rowAhead_20 rfl (lv_at hl 1 rfl) ?_
    refine lv_iconst (v := (0 : Int32)) hx hb dX9_rowAhead_21 (by decide) ?_
    obtain ⟨r_5, hc_6, hm⟩ := bo1_s hm
    refine my_callP1 (wc := (wArr117 Γ q_nw vnw)) (w1 := (wArr117 Γ q_nw vnw)) (ws1 := (wModel Γ q_mo q_tt q_nw q_tr q_ot q_di q_kp q_ik q_wy q_ah q_tg q_ws q_fr q_rw mi_2 vtt vnw vtr vot vdi vkp vik vwy vah vtg vws vfr vrw)) hP hD hS hA [2] rfl rfl rfl (va_runS (As := [.ref q_nw, .int x0, .int (0 : Int32)]) (rest := [.ref q_nw]) ⟨hx, hb, hml, hown, hts⟩ (kX9_of l Γ q_nw vnw x0 (0 : Int32) r_5 hc_6 _) (va_cwS 3 hts gX9_rowAhead_X9_of rfl rfl rfl (by decide +kernel) ⟨Nat.le_of_ble_eq_true rfl, Nat.le_of_ble_eq_true rfl⟩) (my_preS (wc := (wArr117 Γ q_nw vnw)) [2] hK hP hD rfl rfl) rfl rfl hl.1 rfl (lv_room (Nat.le_of_ble_eq_true rfl)) dX9_rowAhead_22 ⟨Nat.le_of_ble_eq_true rfl, Nat.le_of_ble_eq_true rfl⟩) (fun H locs hP hD hS => ?_)
    refine lv_aload_n hx hb dX9_rowAhead_25 rfl (lv_at hl 0 rfl) ?_
    refine va_get (D := my_D Γ) (ci := 7) (v := .ref q_nw) (C := RX9) (T := TX9) (N := 19) hx hb hts hinX9 hown hK hP 0 rfl rfl 3 (by decide) (hts (.fieldLink RX9 13 "BeltFloorModel" "now" "[I") (List.mem_of_getElem? (i := 1) rfl)) (fun _ h9 => h9) rfl dX9_rowAhead_26 ?_
    refine lv_iload_n hx hb dX9_rowAhead_29 rfl (lv_at hl 1 rfl) ?_
    refine lv_iconst (v := (1 : Int32)) hx hb dX9_rowAhead_30 (by decide) ?_
    obtain ⟨r_7, hc_8, hm⟩ := bo1_s hm
    refine my_callP1 (wc := (wArr117 Γ q_nw vnw)) (w1 := (wArr117 Γ q_nw vnw)) (ws1 := (wModel Γ q_mo q_tt q_nw q_tr q_ot q_di q_kp q_ik q_wy q_ah q_tg q_ws q_fr q_rw mi_2 vtt vnw vtr vot vdi vkp vik vwy vah vtg vws vfr vrw)) hP hD hS hA [2] rfl rfl rfl (va_runS (As := [.ref q_nw, .int x0, .int (1 : Int32)]) (rest := [.int r_5, .ref q_nw]) ⟨hx, hb, hml, hown, hts⟩ (kX9_of l Γ q_nw vnw x0 (1 : Int32) r_7 hc_8 _) (va_cwS 3 hts gX9_rowAhead_X9_of rfl rfl rfl (by decide +kernel) ⟨Nat.le_of_ble_eq_true rfl, Nat.le_of_ble_eq_true rfl⟩) (my_preS (wc := (wArr117 Γ q_nw vnw)) [2] hK hP hD rfl rfl) rfl rfl hl.1 rfl (lv_room (Nat.le_of_ble_eq_true rfl)) dX9_rowAhead_31 ⟨Nat.le_of_ble_eq_true rfl, Nat.le_of_ble_eq_true rfl⟩) (fun H locs hP hD hS => ?_)
    obtain ⟨r_9, hc_10, hm⟩ := bo1_s hm
    refine my_callP1 (wc := (wArr117 Γ q_nw vnw)) (w1 := (wArr117 Γ q_nw vnw)) (ws1 := (wModel Γ q_mo q_tt q_nw q_tr q_ot q_di q_kp q_ik q_wy q_ah q_tg q_ws q_fr q_rw mi_2 vtt vnw vtr vot vdi vkp vik vwy vah vtg vws vfr vrw)) hP hD hS hA [2] rfl rfl rfl (va_runS (As := [.ref q_nw, .int r_5, .int r_7]) (rest := []) ⟨hx, hb, hml, hown, hts⟩ (kX9_rowFrom l Γ q_nw vnw r_5 r_7 r_9 hc_10 _) (va_cwS 3 hts gX9_rowAhead_X9_rowFrom rfl rfl rfl (by decide +kernel) ⟨Nat.le_of_ble_eq_true rfl, Nat.le_of_ble_eq_true rfl⟩) (my_preS (wc := (wArr117 Γ q_nw vnw)) [2] hK hP hD rfl rfl) rfl rfl hl.1 rfl (lv_room (Nat.le_of_ble_eq_true rfl)) dX9_rowAhead_34 ⟨Nat.le_of_ble_eq_true rfl, Nat.le_of_ble_eq_true rfl⟩) (fun H locs hP hD hS => ?_)
    obtain ⟨hf0, hf1⟩ := si2 hm
    subst hf0
    subst hf1
    exact W.iret (v := r_9) hx hb hr (fun t ht hW => ⟨⟨rfl, by rw [ht]; exact hP⟩, hS.F ht⟩) hS.2.2 dX9_rowAhead_37
  · replace hm := if_f hm c_4
    refine lv_iconst (v := (0 : Int32)) hx hb dX9_rowAhead_8 (by decide) ?_
    refine lv_goto (tgt := 37) hx hb dX9_rowAhead_9 (by decide) ?_
    obtain ⟨hf0, hf1⟩ := si2 hm
    subst hf0
    subst hf1
    exact W.iret (v := (0 : Int32)) hx hb hr (fun t ht hW => ⟨⟨rfl, by rw [ht]; exact hP⟩, hS.F ht⟩) hS.2.2 dX9_rowAhead_37
def mX9_wouldClash (mi : Nat → Int32) (vnw : Nat → Int32) (vwy : Nat → Int32) (vah : Nat → Int32) : Option (Int32 × (Nat → Int32) × (Nat → Int32) × (Nat → Int32)) := (bo2 (mX9_findsWays vwy vah vnw) (fun vwy_1 vah_2 => (bo1 (mX9_clash vwy_1 vah_2 vnw) (fun r_4 => (if r_4 = 0 ∨ r_4 = 1 then (some (r_4, (upd mi 0 (0 : Int32)), vwy_1, vah_2)) else none)))))
set_option maxHeartbeats 4000000 in
set_option maxRecDepth 100000 in
theorem kX9_wouldClash (l : Launch) (Γ : my_G) (q_mo q_tt q_nw q_tr q_ot q_di q_kp q_ik q_wy q_ah q_tg q_ws q_fr q_rw : Nat) (mi : Nat → Int32) (vtt : Nat → Int32) (vnw : Nat → Int32) (vtr : Nat → Int32) (vot : Nat → Int32) (vdi : Nat → Int32) (vkp : Nat → Int32) (vik : Nat → Int32) (vwy : Nat → Int32) (vah : Nat → Int32) (vtg : Nat → Int32) (vws : Nat → Int32) (vfr : Nat → Int32) (vrw : Nat → Int32)  (rr : Int32) (mi_z : Nat → Int32) (vwy_z : Nat → Int32) (vah_z : Nat → Int32) (hm : mX9_wouldClash mi vnw vwy vah = (some (rr, mi_z, vwy_z, vah_z))) : Mn l yX9_wouldClash wsX9_wouldClash ({ frames := 5, cells := 0, slots := 0, locals := 110 } : Room) Γ [.ref q_mo] (wModel Γ q_mo q_tt q_nw q_tr q_ot q_di q_kp q_ik q_wy q_ah q_tg q_ws q_fr q_rw mi vtt vnw vtr vot vdi vkp vik vwy vah vtg vws vfr vrw) (some (.int rr)) (wModel Γ q_mo q_tt q_nw q_tr q_ot q_di q_kp q_ik q_wy q_ah q_tg q_ws q_fr q_rw mi_z vtt vnw vtr vot vdi vkp vik vwy_z vah_z vtg vws vfr vrw) := by
  intro sz
  refine Met.ofW (cc := cX9_wouldClash) (maxL := 1) (ret := (some .boolean)) (by decide) rfl ?_
  intro p e s m args below meth c s₁ B hml hv
  obtain ⟨rfl, hsz, hP, hK, hD0⟩ := hv
  have hx := B.exec
  have hb := B.bytes
  have hr := B.returns
  have hts := atoms_spec (ws := wsX9_wouldClash) B.pre
  have hown : s.vm.findClass RX9 = some m.cls := findClass_of_methodNamed B.named
  have hlocks := B.notSynchronized
  have hinX9 : ∀ w ∈ u_ws RX9 TX9 19, w ∈ wsX9_wouldClash := fun w h => List.mem_cons_of_mem _ (List.mem_append_right _ h)
  subst hsz
  have hD := hD0.self (sz := s.heap.size)
  have hA : ∀ q : Nat, s.heap.size ≤ q → va_A (wModel Γ q_mo q_tt q_nw q_tr q_ot q_di q_kp q_ik q_wy q_ah q_tg q_ws q_fr q_rw mi vtt vnw vtr vot vdi vkp vik vwy vah vtg vws vfr vrw) s.heap.size q := fun q h => Or.inr h
  generalize va_A (wModel Γ q_mo q_tt q_nw q_tr q_ot q_di q_kp q_ik q_wy q_ah q_tg q_ws q_fr q_rw mi vtt vnw vtr vot vdi vkp vik vwy vah vtg vws vfr vrw) s.heap.size = A at hD hA ⊢
  have hS : va_S A s.heap s.heap [] := va_S.rf
  have hl := lv_entry ([.ref q_mo]) (n := 1) (Nat.le_of_ble_eq_true rfl)
  rw [lg_entry_eq]
  generalize (lg_sl ([.ref q_mo]) ++ List.replicate (1 - (lg_sl ([.ref q_mo])).length) Slot.unset).toArray = ls at hl ⊢
  replace hl : lv_has ls 1 [(0, .ref q_mo)] := hl
  unfold mX9_wouldClash at hm
  refine lv_aload_n hx hb dX9_wouldClash_0 rfl (lv_at hl 0 rfl) ?_
  refine lv_iconst (v := (0 : Int32)) hx hb dX9_wouldClash_1 (by decide) ?_
  refine va_put (D := my_D Γ) (ci := 7) (v := .int (0 : Int32)) (ty := .int) (C := RX9) (T := TX9) (N := 19) hx hb hts hinX9 tyX9 tyX9_ok nmX9 hown hK hP hD hS 0 rfl rfl 0 (by decide) (hts (.fieldLink RX9 54 "BeltFloorModel" "refusal" "I") (List.mem_of_getElem? (i := 1) rfl)) (fun _ h9 => h9) rfl (by decide +kernel) rfl rfl (Nat.le_of_ble_eq_true rfl) dX9_wouldClash_2 (fun H locs hP hD hS => ?_)
  replace hP : va_P (my_D Γ) vwCl (wModel Γ q_mo q_tt q_nw q_tr q_ot q_di q_kp q_ik q_wy q_ah q_tg q_ws q_fr q_rw (upd mi 0 (0 : Int32)) vtt vnw vtr vot vdi vkp vik vwy vah vtg vws vfr vrw) H := hP
  replace hD : va_D A (wModel Γ q_mo q_tt q_nw q_tr q_ot q_di q_kp q_ik q_wy q_ah q_tg q_ws q_fr q_rw (upd mi 0 (0 : Int32)) vtt vnw vtr vot vdi vkp vik vwy vah vtg vws vfr vrw) := hD
  refine lv_aload_n hx hb dX9_wouldClash_5 rfl (lv_at hl 0 rfl) ?_
  refine lv_aload_n hx hb dX9_wouldClash_6 rfl (lv_at hl 0 rfl) ?_
  refine va_get (D := my_D Γ) (ci := 7) (v := .ref q_nw) (C := RX9) (T := TX9) (N := 19) hx hb hts hinX9 hown hK hP 0 rfl rfl 3 (by decide) (hts (.fieldLink RX9 13 "BeltFloorModel" "now" "[I") (List.mem_of_getElem? (i := 2) rfl)) (fun _ h9 => h9) rfl dX9_wouldClash_7 ?_
  obtain ⟨vwy_1, vah_2, hc_3, hm⟩ := bo2_s hm
  refine my_callP0 (wc := (wStep Γ q_mo q_wy q_ah q_tg q_ws q_nw q_tt q_nw q_tr q_ot q_di q_kp q_ik q_fr q_rw (upd mi 0 (0 : Int32)) vwy vah vtg vws vnw)) (w1 := (wStep Γ q_mo q_wy q_ah q_tg q_ws q_nw q_tt q_nw q_tr q_ot q_di q_kp q_ik q_fr q_rw (upd mi 0 (0 : Int32)) vwy_1 vah_2 vtg vws vnw)) (ws1 := (wModel Γ q_mo q_tt q_nw q_tr q_ot q_di q_kp q_ik q_wy q_ah q_tg q_ws q_fr q_rw (upd mi 0 (0 : Int32)) vtt vnw vtr vot vdi vkp vik vwy_1 vah_2 vtg vws vfr vrw)) hP hD hS hA [0, 8, 9, 10, 11, 2] rfl rfl rfl (va_runV (As := [.ref q_nw]) (rest := []) ⟨hx, hb, hml, hown, hts⟩ (kX9_findsWays l Γ q_mo q_wy q_ah q_tg q_ws q_nw q_tt q_nw q_tr q_ot q_di q_kp q_ik q_fr q_rw (upd mi 0 (0 : Int32)) vwy vah vtg vws vnw vwy_1 vah_2 hc_3 _) (cwV 1 hts gX9_wouldClash_X9_findsWays rfl rfl rfl (by decide +kernel) ⟨Nat.le_of_ble_eq_true rfl, Nat.le_of_ble_eq_true rfl⟩) (my_preV (wc := (wStep Γ q_mo q_wy q_ah q_tg q_ws q_nw q_tt q_nw q_tr q_ot q_di q_kp q_ik q_fr q_rw (upd mi 0 (0 : Int32)) vwy vah vtg vws vnw)) (ci := 7) (q0 := 0) [0, 8, 9, 10, 11, 2] hK hP hD rfl rfl rfl rfl) rfl rfl hl.1 rfl (lv_room (Nat.le_of_ble_eq_true rfl)) dX9_wouldClash_10 ⟨Nat.le_of_ble_eq_true rfl, Nat.le_of_ble_eq_true rfl⟩) (fun H locs hP hD hS => ?_)
  refine lv_aload_n hx hb dX9_wouldClash_13 rfl (lv_at hl 0 rfl) ?_
  refine lv_aload_n hx hb dX9_wouldClash_14 rfl (lv_at hl 0 rfl) ?_
  refine va_get (D := my_D Γ) (ci := 7) (v := .ref q_nw) (C := RX9) (T := TX9) (N := 19) hx hb hts hinX9 hown hK hP 0 rfl rfl 3 (by decide) (hts (.fieldLink RX9 13 "BeltFloorModel" "now" "[I") (List.mem_of_getElem? (i := 2) rfl)) (fun _ h9 => h9) rfl dX9_wouldClash_15 ?_
  obtain ⟨r_4, hc_5, hm⟩ := bo1_s hm
  refine my_callP1 (wc := (wStep Γ q_mo q_wy q_ah q_tg q_ws q_nw q_tt q_nw q_tr q_ot q_di q_kp q_ik q_fr q_rw (upd mi 0 (0 : Int32)) vwy_1 vah_2 vtg vws vnw)) (w1 := (wStep Γ q_mo q_wy q_ah q_tg q_ws q_nw q_tt q_nw q_tr q_ot q_di q_kp q_ik q_fr q_rw (upd mi 0 (0 : Int32)) vwy_1 vah_2 vtg vws vnw)) (ws1 := (wModel Γ q_mo q_tt q_nw q_tr q_ot q_di q_kp q_ik q_wy q_ah q_tg q_ws q_fr q_rw (upd mi 0 (0 : Int32)) vtt vnw vtr vot vdi vkp vik vwy_1 vah_2 vtg vws vfr vrw)) hP hD hS hA [0, 8, 9, 10, 11, 2] rfl rfl rfl (va_runV (As := [.ref q_nw]) (rest := []) ⟨hx, hb, hml, hown, hts⟩ (kX9_clash l Γ q_mo q_wy q_ah q_tg q_ws q_nw q_tt q_nw q_tr q_ot q_di q_kp q_ik q_fr q_rw (upd mi 0 (0 : Int32)) vwy_1 vah_2 vtg vws vnw r_4 hc_5 _) (cwV 1 hts gX9_wouldClash_X9_clash rfl rfl rfl (by decide +kernel) ⟨Nat.le_of_ble_eq_true rfl, Nat.le_of_ble_eq_true rfl⟩) (my_preV (wc := (wStep Γ q_mo q_wy q_ah q_tg q_ws q_nw q_tt q_nw q_tr q_ot q_di q_kp q_ik q_fr q_rw (upd mi 0 (0 : Int32)) vwy_1 vah_2 vtg vws vnw)) (ci := 7) (q0 := 0) [0, 8, 9, 10, 11, 2] hK hP hD rfl rfl rfl rfl) rfl rfl hl.1 rfl (lv_room (Nat.le_of_ble_eq_true rfl)) dX9_wouldClash_18 ⟨Nat.le_of_ble_eq_true rfl, Nat.le_of_ble_eq_true rfl⟩) (fun H locs hP hD hS => ?_)
  obtain ⟨hz_6, hm⟩ := if_bz hm
  obtain ⟨hf0, hf1, hf2, hf3⟩ := si4 hm
  subst hf0
  subst hf1
  subst hf2
  subst hf3
  exact W.zret (v := r_4) hx hb hr hz_6 (fun t ht hW => ⟨⟨rfl, by rw [ht]; exact hP⟩, hS.F ht⟩) hS.2.2 dX9_wouldClash_21
def mX9_passesIn_L25  : Nat → (Nat → Int32) → (Nat → Int32) → (Nat → Int32) → (Nat → Int32) → (Nat → Int32) → (Nat → Int32) → (Nat → Int32) → Int32 → Int32 → Option (Int32 × (Nat → Int32) × (Nat → Int32) × (Nat → Int32) × (Nat → Int32) × (Nat → Int32) × (Nat → Int32))
  | 0, _, _, _, _, _, _, _, _, _ => none
  | n + 1, mi, vnw, vtr, vwy, vah, vtg, vws, l1, l2 => (if (150 : Int32) < l2 then (some ((-1 : Int32), mi, vtr, vwy, vah, vtg, vws)) else (bo6 (mX9_one vwy vah vtg vws vtr) (fun r_8 vwy_9 vah_10 vtg_11 vws_12 vtr_13 => (bo1 (mX9_of vtr_13 l1 (2 : Int32)) (fun r_15 => (bo1 (mX9_of vnw l1 (2 : Int32)) (fun r_17 => (if r_15 ≤ r_17 then (mX9_passesIn_L25 n mi vnw vtr_13 vwy_9 vah_10 vtg_11 vws_12 l1 (l2 + (1 : Int32))) else (some (l2, mi, vtr_13, vwy_9, vah_10, vtg_11, vws_12))))))))))
def mX9_passesIn (mi : Nat → Int32) (vnw : Nat → Int32) (vtr : Nat → Int32) (vwy : Nat → Int32) (vah : Nat → Int32) (vtg : Nat → Int32) (vws : Nat → Int32) (x0 : Int32) : Option (Int32 × (Nat → Int32) × (Nat → Int32) × (Nat → Int32) × (Nat → Int32) × (Nat → Int32) × (Nat → Int32)) := (bo2 (mX9_noRobot mi x0) (fun r_1 mi_2 => (if r_1 = 0 then (bo1 (mX9_copyState_117_117 vnw vtr (0 : Int32) (0 : Int32)) (fun vtr_5 => (mX9_passesIn_L25 4096 mi_2 vnw vtr_5 vwy vah vtg vws x0 (1 : Int32)))) else (some ((0 : Int32), mi_2, vtr, vwy, vah, vtg, vws)))))
set_option maxHeartbeats 4000000 in
set_option maxRecDepth 100000 in
theorem kX9_passesIn (l : Launch) (Γ : my_G) (q_mo q_tt q_nw q_tr q_ot q_di q_kp q_ik q_wy q_ah q_tg q_ws q_fr q_rw : Nat) (mi : Nat → Int32) (vtt : Nat → Int32) (vnw : Nat → Int32) (vtr : Nat → Int32) (vot : Nat → Int32) (vdi : Nat → Int32) (vkp : Nat → Int32) (vik : Nat → Int32) (vwy : Nat → Int32) (vah : Nat → Int32) (vtg : Nat → Int32) (vws : Nat → Int32) (vfr : Nat → Int32) (vrw : Nat → Int32) (x0 : Int32) (rr : Int32) (mi_z : Nat → Int32) (vtr_z : Nat → Int32) (vwy_z : Nat → Int32) (vah_z : Nat → Int32) (vtg_z : Nat → Int32) (vws_z : Nat → Int32) (hm : mX9_passesIn mi vnw vtr vwy vah vtg vws x0 = (some (rr, mi_z, vtr_z, vwy_z, vah_z, vtg_z, vws_z))) : Mn l yX9_passesIn wsX9_passesIn ({ frames := 7, cells := 0, slots := 0, locals := 155 } : Room) Γ [.ref q_mo, .int x0] (wModel Γ q_mo q_tt q_nw q_tr q_ot q_di q_kp q_ik q_wy q_ah q_tg q_ws q_fr q_rw mi vtt vnw vtr vot vdi vkp vik vwy vah vtg vws vfr vrw) (some (.int rr)) (wModel Γ q_mo q_tt q_nw q_tr q_ot q_di q_kp q_ik q_wy q_ah q_tg q_ws q_fr q_rw mi_z vtt vnw vtr_z vot vdi vkp vik vwy_z vah_z vtg_z vws_z vfr vrw) := by
  intro sz
  refine Met.ofW (cc := cX9_passesIn) (maxL := 3) (ret := (some .int)) (by decide) rfl ?_
  intro p e s m args below meth c s₁ B hml hv
  obtain ⟨rfl, hsz, hP, hK, hD0⟩ := hv
  have hx := B.exec
  have hb := B.bytes
  have hr := B.returns
  have hts := atoms_spec (ws := wsX9_passesIn) B.pre
  have hown : s.vm.findClass RX9 = some m.cls := findClass_of_methodNamed B.named
  have hlocks := B.notSynchronized
  have hinX9 : ∀ w ∈ u_ws RX9 TX9 19, w ∈ wsX9_passesIn := fun w h => List.mem_cons_of_mem _ (List.mem_append_right _ h)
  subst hsz
  have hD := hD0.self (sz := s.heap.size)
  have hA : ∀ q : Nat, s.heap.size ≤ q → va_A (wModel Γ q_mo q_tt q_nw q_tr q_ot q_di q_kp q_ik q_wy q_ah q_tg q_ws q_fr q_rw mi vtt vnw vtr vot vdi vkp vik vwy vah vtg vws vfr vrw) s.heap.size q := fun q h => Or.inr h
  generalize va_A (wModel Γ q_mo q_tt q_nw q_tr q_ot q_di q_kp q_ik q_wy q_ah q_tg q_ws q_fr q_rw mi vtt vnw vtr vot vdi vkp vik vwy vah vtg vws vfr vrw) s.heap.size = A at hD hA ⊢
  have hS : va_S A s.heap s.heap [] := va_S.rf
  have hl := lv_entry ([.ref q_mo, .int x0]) (n := 3) (Nat.le_of_ble_eq_true rfl)
  rw [lg_entry_eq]
  generalize (lg_sl ([.ref q_mo, .int x0]) ++ List.replicate (3 - (lg_sl ([.ref q_mo, .int x0])).length) Slot.unset).toArray = ls at hl ⊢
  replace hl : lv_has ls 3 [(0, .ref q_mo), (1, .int x0)] := hl
  have J_25 : ∀ n : Nat, ∀ (mi : Nat → Int32) (vnw : Nat → Int32) (vtr : Nat → Int32) (vwy : Nat → Int32) (vah : Nat → Int32) (vtg : Nat → Int32) (vws : Nat → Int32) (l1 : Int32) (l2 : Int32) (H : Heap) (locs : List Loc) (ls : Array Slot), va_P (my_D Γ) vwCl (wModel Γ q_mo q_tt q_nw q_tr q_ot q_di q_kp q_ik q_wy q_ah q_tg q_ws q_fr q_rw mi vtt vnw vtr vot vdi vkp vik vwy vah vtg vws vfr vrw) H → va_D A (wModel Γ q_mo q_tt q_nw q_tr q_ot q_di q_kp q_ik q_wy q_ah q_tg q_ws q_fr q_rw mi vtt vnw vtr vot vdi vkp vik vwy vah vtg vws vfr vrw) → va_S A s.heap H locs → lv_has ls 3 [(0, .ref q_mo), (1, .int l1), (2, .int l2)] → mX9_passesIn_L25 n mi vnw vtr vwy vah vtg vws l1 l2 = (some (rr, mi_z, vtr_z, vwy_z, vah_z, vtg_z, vws_z)) → W p l e (headSpec wsX9_passesIn ({ frames := 7, cells := 0, slots := 0, locals := 155 } : Room)).room s m ([.ref q_mo, .int x0] : List Value).toArray below meth c H locs 0 0 (MQ below (my_Q Γ A (some (.int rr)) (wModel Γ q_mo q_tt q_nw q_tr q_ot q_di q_kp q_ik q_wy q_ah q_tg q_ws q_fr q_rw mi_z vtt vnw vtr_z vot vdi vkp vik vwy_z vah_z vtg_z vws_z vfr vrw)) ([.ref q_mo, .int x0] : List Value).toArray s 0 0 A) (F0 m 25 ls []) := by
    intro  n
    induction n with
    | zero => intro mi vnw vtr vwy vah vtg vws l1 l2 H locs ls hP hD hS hl hm; cases hm
    | succ n ih =>
      intro mi vnw vtr vwy vah vtg vws l1 l2 H locs ls hP hD hS hl hm
      unfold mX9_passesIn_L25 at hm
      refine lv_iload_n hx hb dX9_passesIn_25 rfl (lv_at hl 2 rfl) ?_
      refine lv_sipush (v := (150 : Int32)) hx hb dX9_passesIn_26 (by decide) ?_
      refine lv_icmp_gt (tgt := 70) hx hb dX9_passesIn_29 (by decide) (fun c_7 => ?_) (fun c_7 => ?_)
      · replace hm := if_s hm c_7
        refine lv_iconst (v := (-1 : Int32)) hx hb dX9_passesIn_70 (by decide) ?_
        obtain ⟨hf0, hf1, hf2, hf3, hf4, hf5, hf6⟩ := si7 hm
        subst hf0
        subst hf1
        subst hf2
        subst hf3
        subst hf4
        subst hf5
        subst hf6
        exact W.iret (v := (-1 : Int32)) hx hb hr (fun t ht hW => ⟨⟨rfl, by rw [ht]; exact hP⟩, hS.F ht⟩) hS.2.2 dX9_passesIn_71
      · replace hm := if_f hm c_7
        refine lv_aload_n hx hb dX9_passesIn_32 rfl (lv_at hl 0 rfl) ?_
        refine lv_aload_n hx hb dX9_passesIn_33 rfl (lv_at hl 0 rfl) ?_
        refine va_get (D := my_D Γ) (ci := 7) (v := .ref q_tr) (C := RX9) (T := TX9) (N := 19) hx hb hts hinX9 hown hK hP 0 rfl rfl 4 (by decide) (hts (.fieldLink RX9 16 "BeltFloorModel" "trial" "[I") (List.mem_of_getElem? (i := 2) rfl)) (fun _ h9 => h9) rfl dX9_passesIn_34 ?_
        obtain ⟨r_8, vwy_9, vah_10, vtg_11, vws_12, vtr_13, hc_14, hm⟩ := bo6_s hm
        refine my_callP1 (wc := (wStep Γ q_mo q_wy q_ah q_tg q_ws q_tr q_tt q_nw q_tr q_ot q_di q_kp q_ik q_fr q_rw mi vwy vah vtg vws vtr)) (w1 := (wStep Γ q_mo q_wy q_ah q_tg q_ws q_tr q_tt q_nw q_tr q_ot q_di q_kp q_ik q_fr q_rw mi vwy_9 vah_10 vtg_11 vws_12 vtr_13)) (ws1 := (wModel Γ q_mo q_tt q_nw q_tr q_ot q_di q_kp q_ik q_wy q_ah q_tg q_ws q_fr q_rw mi vtt vnw vtr_13 vot vdi vkp vik vwy_9 vah_10 vtg_11 vws_12 vfr vrw)) hP hD hS hA [0, 8, 9, 10, 11, 3] rfl rfl rfl (va_runV (As := [.ref q_tr]) (rest := []) ⟨hx, hb, hml, hown, hts⟩ (kX9_one l Γ q_mo q_wy q_ah q_tg q_ws q_tr q_tt q_nw q_tr q_ot q_di q_kp q_ik q_fr q_rw mi vwy vah vtg vws vtr r_8 vwy_9 vah_10 vtg_11 vws_12 vtr_13 hc_14 _) (cwV 1 hts gX9_passesIn_X9_one rfl rfl rfl (by decide +kernel) ⟨Nat.le_of_ble_eq_true rfl, Nat.le_of_ble_eq_true rfl⟩) (my_preV (wc := (wStep Γ q_mo q_wy q_ah q_tg q_ws q_tr q_tt q_nw q_tr q_ot q_di q_kp q_ik q_fr q_rw mi vwy vah vtg vws vtr)) (ci := 7) (q0 := 0) [0, 8, 9, 10, 11, 3] hK hP hD rfl rfl rfl rfl) rfl rfl hl.1 rfl (lv_room (Nat.le_of_ble_eq_true rfl)) dX9_passesIn_37 ⟨Nat.le_of_ble_eq_true rfl, Nat.le_of_ble_eq_true rfl⟩) (fun H locs hP hD hS => ?_)
        refine lv_pop hx hb dX9_passesIn_40 rfl ?_
        refine lv_aload_n hx hb dX9_passesIn_41 rfl (lv_at hl 0 rfl) ?_
        refine va_get (D := my_D Γ) (ci := 7) (v := .ref q_tr) (C := RX9) (T := TX9) (N := 19) hx hb hts hinX9 hown hK hP 0 rfl rfl 4 (by decide) (hts (.fieldLink RX9 16 "BeltFloorModel" "trial" "[I") (List.mem_of_getElem? (i := 2) rfl)) (fun _ h9 => h9) rfl dX9_passesIn_42 ?_
        refine lv_iload_n hx hb dX9_passesIn_45 rfl (lv_at hl 1 rfl) ?_
        refine lv_iconst (v := (2 : Int32)) hx hb dX9_passesIn_46 (by decide) ?_
        obtain ⟨r_15, hc_16, hm⟩ := bo1_s hm
        refine my_callP1 (wc := (wArr117 Γ q_tr vtr_13)) (w1 := (wArr117 Γ q_tr vtr_13)) (ws1 := (wModel Γ q_mo q_tt q_nw q_tr q_ot q_di q_kp q_ik q_wy q_ah q_tg q_ws q_fr q_rw mi vtt vnw vtr_13 vot vdi vkp vik vwy_9 vah_10 vtg_11 vws_12 vfr vrw)) hP hD hS hA [3] rfl rfl rfl (va_runS (As := [.ref q_tr, .int l1, .int (2 : Int32)]) (rest := []) ⟨hx, hb, hml, hown, hts⟩ (kX9_of l Γ q_tr vtr_13 l1 (2 : Int32) r_15 hc_16 _) (va_cwS 3 hts gX9_passesIn_X9_of rfl rfl rfl (by decide +kernel) ⟨Nat.le_of_ble_eq_true rfl, Nat.le_of_ble_eq_true rfl⟩) (my_preS (wc := (wArr117 Γ q_tr vtr_13)) [3] hK hP hD rfl rfl) rfl rfl hl.1 rfl (lv_room (Nat.le_of_ble_eq_true rfl)) dX9_passesIn_47 ⟨Nat.le_of_ble_eq_true rfl, Nat.le_of_ble_eq_true rfl⟩) (fun H locs hP hD hS => ?_)
        refine lv_aload_n hx hb dX9_passesIn_50 rfl (lv_at hl 0 rfl) ?_
        refine va_get (D := my_D Γ) (ci := 7) (v := .ref q_nw) (C := RX9) (T := TX9) (N := 19) hx hb hts hinX9 hown hK hP 0 rfl rfl 3 (by decide) (hts (.fieldLink RX9 13 "BeltFloorModel" "now" "[I") (List.mem_of_getElem? (i := 1) rfl)) (fun _ h9 => h9) rfl dX9_passesIn_51 ?_
        refine lv_iload_n hx hb dX9_passesIn_54 rfl (lv_at hl 1 rfl) ?_
        refine lv_iconst (v := (2 : Int32)) hx hb dX9_passesIn_55 (by decide) ?_
        obtain ⟨r_17, hc_18, hm⟩ := bo1_s hm
        refine my_callP1 (wc := (wArr117 Γ q_nw vnw)) (w1 := (wArr117 Γ q_nw vnw)) (ws1 := (wModel Γ q_mo q_tt q_nw q_tr q_ot q_di q_kp q_ik q_wy q_ah q_tg q_ws q_fr q_rw mi vtt vnw vtr_13 vot vdi vkp vik vwy_9 vah_10 vtg_11 vws_12 vfr vrw)) hP hD hS hA [2] rfl rfl rfl (va_runS (As := [.ref q_nw, .int l1, .int (2 : Int32)]) (rest := [.int r_15]) ⟨hx, hb, hml, hown, hts⟩ (kX9_of l Γ q_nw vnw l1 (2 : Int32) r_17 hc_18 _) (va_cwS 3 hts gX9_passesIn_X9_of rfl rfl rfl (by decide +kernel) ⟨Nat.le_of_ble_eq_true rfl, Nat.le_of_ble_eq_true rfl⟩) (my_preS (wc := (wArr117 Γ q_nw vnw)) [2] hK hP hD rfl rfl) rfl rfl hl.1 rfl (lv_room (Nat.le_of_ble_eq_true rfl)) dX9_passesIn_56 ⟨Nat.le_of_ble_eq_true rfl, Nat.le_of_ble_eq_true rfl⟩) (fun H locs hP hD hS => ?_)
        refine lv_icmp_le (tgt := 64) hx hb dX9_passesIn_59 (by decide) (fun c_19 => ?_) (fun c_19 => ?_)
        · replace hm := if_s hm c_19
          refine lv_iinc (v := (l2 + (1 : Int32))) (lv' := [(2, .int (l2 + (1 : Int32))), (0, .ref q_mo), (1, .int l1)]) hx hb dX9_passesIn_64 hl (k := 2) rfl rfl (by decide) rfl (fun ls hl => ?_)
          refine lv_goto (tgt := 25) hx hb dX9_passesIn_67 (by decide) ?_
          exact ih mi vnw vtr_13 vwy_9 vah_10 vtg_11 vws_12 l1 (l2 + (1 : Int32)) _ _ _ hP hD hS (lv_sub hl [1, 2, 0] rfl) hm
        · replace hm := if_f hm c_19
          refine lv_iload_n hx hb dX9_passesIn_62 rfl (lv_at hl 2 rfl) ?_
          obtain ⟨hf0, hf1, hf2, hf3, hf4, hf5, hf6⟩ := si7 hm
          subst hf0
          subst hf1
          subst hf2
          subst hf3
          subst hf4
          subst hf5
          subst hf6
          exact W.iret (v := l2) hx hb hr (fun t ht hW => ⟨⟨rfl, by rw [ht]; exact hP⟩, hS.F ht⟩) hS.2.2 dX9_passesIn_63
  unfold mX9_passesIn at hm
  refine lv_aload_n hx hb dX9_passesIn_0 rfl (lv_at hl 0 rfl) ?_
  refine lv_iload_n hx hb dX9_passesIn_1 rfl (lv_at hl 1 rfl) ?_
  obtain ⟨r_1, mi_2, hc_3, hm⟩ := bo2_s hm
  refine my_callP1 (wc := (wMo Γ q_mo q_tt q_nw q_tr q_ot q_di q_kp q_ik q_wy q_ah q_tg q_ws q_fr q_rw mi)) (w1 := (wMo Γ q_mo q_tt q_nw q_tr q_ot q_di q_kp q_ik q_wy q_ah q_tg q_ws q_fr q_rw mi_2)) (ws1 := (wModel Γ q_mo q_tt q_nw q_tr q_ot q_di q_kp q_ik q_wy q_ah q_tg q_ws q_fr q_rw mi_2 vtt vnw vtr vot vdi vkp vik vwy vah vtg vws vfr vrw)) hP hD hS hA [0] rfl rfl rfl (va_runV (As := [.int x0]) (rest := []) ⟨hx, hb, hml, hown, hts⟩ (kX9_noRobot l Γ q_mo q_tt q_nw q_tr q_ot q_di q_kp q_ik q_wy q_ah q_tg q_ws q_fr q_rw mi x0 r_1 mi_2 hc_3 _) (cwV 1 hts gX9_passesIn_X9_noRobot rfl rfl rfl (by decide +kernel) ⟨Nat.le_of_ble_eq_true rfl, Nat.le_of_ble_eq_true rfl⟩) (my_preV (wc := (wMo Γ q_mo q_tt q_nw q_tr q_ot q_di q_kp q_ik q_wy q_ah q_tg q_ws q_fr q_rw mi)) (ci := 7) (q0 := 0) [0] hK hP hD rfl rfl rfl rfl) rfl rfl hl.1 rfl (lv_room (Nat.le_of_ble_eq_true rfl)) dX9_passesIn_2 ⟨Nat.le_of_ble_eq_true rfl, Nat.le_of_ble_eq_true rfl⟩) (fun H locs hP hD hS => ?_)
  refine lv_if_eq (tgt := 10) hx hb dX9_passesIn_5 (by decide) (fun c_4 => ?_) (fun c_4 => ?_)
  · replace hm := if_s hm c_4
    refine lv_aload_n hx hb dX9_passesIn_10 rfl (lv_at hl 0 rfl) ?_
    refine va_get (D := my_D Γ) (ci := 7) (v := .ref q_nw) (C := RX9) (T := TX9) (N := 19) hx hb hts hinX9 hown hK hP 0 rfl rfl 3 (by decide) (hts (.fieldLink RX9 13 "BeltFloorModel" "now" "[I") (List.mem_of_getElem? (i := 1) rfl)) (fun _ h9 => h9) rfl dX9_passesIn_11 ?_
    refine lv_iconst (v := (0 : Int32)) hx hb dX9_passesIn_14 (by decide) ?_
    refine lv_aload_n hx hb dX9_passesIn_15 rfl (lv_at hl 0 rfl) ?_
    refine va_get (D := my_D Γ) (ci := 7) (v := .ref q_tr) (C := RX9) (T := TX9) (N := 19) hx hb hts hinX9 hown hK hP 0 rfl rfl 4 (by decide) (hts (.fieldLink RX9 16 "BeltFloorModel" "trial" "[I") (List.mem_of_getElem? (i := 2) rfl)) (fun _ h9 => h9) rfl dX9_passesIn_16 ?_
    refine lv_iconst (v := (0 : Int32)) hx hb dX9_passesIn_19 (by decide) ?_
    obtain ⟨vtr_5, hc_6, hm⟩ := bo1_s hm
    refine my_callP0 (wc := (wArr117 Γ q_nw vnw ++ wArr117 Γ q_tr vtr)) (w1 := (wArr117 Γ q_nw vnw ++ wArr117 Γ q_tr vtr_5)) (ws1 := (wModel Γ q_mo q_tt q_nw q_tr q_ot q_di q_kp q_ik q_wy q_ah q_tg q_ws q_fr q_rw mi_2 vtt vnw vtr_5 vot vdi vkp vik vwy vah vtg vws vfr vrw)) hP hD hS hA [2, 3] rfl rfl rfl (va_runS (As := [.ref q_nw, .int (0 : Int32), .ref q_tr, .int (0 : Int32)]) (rest := []) ⟨hx, hb, hml, hown, hts⟩ (kX9_copyState_117_117 l Γ q_nw q_tr vnw vtr (0 : Int32) (0 : Int32) vtr_5 hc_6 _) (va_cwS 4 hts gX9_passesIn_X9_copyState rfl rfl rfl (by decide +kernel) ⟨Nat.le_of_ble_eq_true rfl, Nat.le_of_ble_eq_true rfl⟩) (my_preS (wc := (wArr117 Γ q_nw vnw ++ wArr117 Γ q_tr vtr)) [2, 3] hK hP hD rfl rfl) rfl rfl hl.1 rfl (lv_room (Nat.le_of_ble_eq_true rfl)) dX9_passesIn_20 ⟨Nat.le_of_ble_eq_true rfl, Nat.le_of_ble_eq_true rfl⟩) (fun H locs hP hD hS => ?_)
    refine lv_iconst (v := (1 : Int32)) hx hb dX9_passesIn_23 (by decide) ?_
    refine lv_istore_n (lv' := [(2, .int (1 : Int32)), (0, .ref q_mo), (1, .int x0)]) hx hb dX9_passesIn_24 rfl hl (by decide) rfl (fun ls hl => ?_)
    exact J_25 4096 mi_2 vnw vtr_5 vwy vah vtg vws x0 (1 : Int32) _ _ _ hP hD hS (lv_sub hl [1, 2, 0] rfl) hm
  · replace hm := if_f hm c_4
    refine lv_iconst (v := (0 : Int32)) hx hb dX9_passesIn_8 (by decide) ?_
    obtain ⟨hf0, hf1, hf2, hf3, hf4, hf5, hf6⟩ := si7 hm
    subst hf0
    subst hf1
    subst hf2
    subst hf3
    subst hf4
    subst hf5
    subst hf6
    exact W.iret (v := (0 : Int32)) hx hb hr (fun t ht hW => ⟨⟨rfl, by rw [ht]; exact hP⟩, hS.F ht⟩) hS.2.2 dX9_passesIn_9
def mX9_loopByWaiting (mi : Nat → Int32) (vnw : Nat → Int32) (vtr : Nat → Int32) (vot : Nat → Int32) (vwy : Nat → Int32) (vah : Nat → Int32) (vtg : Nat → Int32) (vws : Nat → Int32) : Option (Int32 × (Nat → Int32) × (Nat → Int32) × (Nat → Int32) × (Nat → Int32) × (Nat → Int32) × (Nat → Int32) × (Nat → Int32)) := (bo8 (mX9_loop mi vnw vtr vot vwy vah vtg vws) (fun r_1 mi_2 vtr_3 vot_4 vwy_5 vah_6 vtg_7 vws_8 => (some (r_1, mi_2, vtr_3, vot_4, vwy_5, vah_6, vtg_7, vws_8))))
set_option maxHeartbeats 4000000 in
set_option maxRecDepth 100000 in
theorem kX9_loopByWaiting (l : Launch) (Γ : my_G) (q_mo q_tt q_nw q_tr q_ot q_di q_kp q_ik q_wy q_ah q_tg q_ws q_fr q_rw : Nat) (mi : Nat → Int32) (vtt : Nat → Int32) (vnw : Nat → Int32) (vtr : Nat → Int32) (vot : Nat → Int32) (vdi : Nat → Int32) (vkp : Nat → Int32) (vik : Nat → Int32) (vwy : Nat → Int32) (vah : Nat → Int32) (vtg : Nat → Int32) (vws : Nat → Int32) (vfr : Nat → Int32) (vrw : Nat → Int32)  (rr : Int32) (mi_z : Nat → Int32) (vtr_z : Nat → Int32) (vot_z : Nat → Int32) (vwy_z : Nat → Int32) (vah_z : Nat → Int32) (vtg_z : Nat → Int32) (vws_z : Nat → Int32) (hm : mX9_loopByWaiting mi vnw vtr vot vwy vah vtg vws = (some (rr, mi_z, vtr_z, vot_z, vwy_z, vah_z, vtg_z, vws_z))) : Mn l yX9_loopByWaiting wsX9_loopByWaiting ({ frames := 9, cells := 0, slots := 0, locals := 200 } : Room) Γ [.ref q_mo] (wModel Γ q_mo q_tt q_nw q_tr q_ot q_di q_kp q_ik q_wy q_ah q_tg q_ws q_fr q_rw mi vtt vnw vtr vot vdi vkp vik vwy vah vtg vws vfr vrw) (some (.int rr)) (wModel Γ q_mo q_tt q_nw q_tr q_ot q_di q_kp q_ik q_wy q_ah q_tg q_ws q_fr q_rw mi_z vtt vnw vtr_z vot_z vdi vkp vik vwy_z vah_z vtg_z vws_z vfr vrw) := by
  intro sz
  refine Met.ofW (cc := cX9_loopByWaiting) (maxL := 1) (ret := (some .int)) (by decide) rfl ?_
  intro p e s m args below meth c s₁ B hml hv
  obtain ⟨rfl, hsz, hP, hK, hD0⟩ := hv
  have hx := B.exec
  have hb := B.bytes
  have hr := B.returns
  have hts := atoms_spec (ws := wsX9_loopByWaiting) B.pre
  have hown : s.vm.findClass RX9 = some m.cls := findClass_of_methodNamed B.named
  have hlocks := B.notSynchronized
  have hinX9 : ∀ w ∈ u_ws RX9 TX9 19, w ∈ wsX9_loopByWaiting := fun w h => List.mem_cons_of_mem _ (List.mem_append_right _ h)
  subst hsz
  have hD := hD0.self (sz := s.heap.size)
  have hA : ∀ q : Nat, s.heap.size ≤ q → va_A (wModel Γ q_mo q_tt q_nw q_tr q_ot q_di q_kp q_ik q_wy q_ah q_tg q_ws q_fr q_rw mi vtt vnw vtr vot vdi vkp vik vwy vah vtg vws vfr vrw) s.heap.size q := fun q h => Or.inr h
  generalize va_A (wModel Γ q_mo q_tt q_nw q_tr q_ot q_di q_kp q_ik q_wy q_ah q_tg q_ws q_fr q_rw mi vtt vnw vtr vot vdi vkp vik vwy vah vtg vws vfr vrw) s.heap.size = A at hD hA ⊢
  have hS : va_S A s.heap s.heap [] := va_S.rf
  have hl := lv_entry ([.ref q_mo]) (n := 1) (Nat.le_of_ble_eq_true rfl)
  rw [lg_entry_eq]
  generalize (lg_sl ([.ref q_mo]) ++ List.replicate (1 - (lg_sl ([.ref q_mo])).length) Slot.unset).toArray = ls at hl ⊢
  replace hl : lv_has ls 1 [(0, .ref q_mo)] := hl
  unfold mX9_loopByWaiting at hm
  refine lv_aload_n hx hb dX9_loopByWaiting_0 rfl (lv_at hl 0 rfl) ?_
  obtain ⟨r_1, mi_2, vtr_3, vot_4, vwy_5, vah_6, vtg_7, vws_8, hc_9, hm⟩ := bo8_s hm
  refine my_callP1 (wc := (wModel Γ q_mo q_tt q_nw q_tr q_ot q_di q_kp q_ik q_wy q_ah q_tg q_ws q_fr q_rw mi vtt vnw vtr vot vdi vkp vik vwy vah vtg vws vfr vrw)) (w1 := (wModel Γ q_mo q_tt q_nw q_tr q_ot q_di q_kp q_ik q_wy q_ah q_tg q_ws q_fr q_rw mi_2 vtt vnw vtr_3 vot_4 vdi vkp vik vwy_5 vah_6 vtg_7 vws_8 vfr vrw)) (ws1 := (wModel Γ q_mo q_tt q_nw q_tr q_ot q_di q_kp q_ik q_wy q_ah q_tg q_ws q_fr q_rw mi_2 vtt vnw vtr_3 vot_4 vdi vkp vik vwy_5 vah_6 vtg_7 vws_8 vfr vrw)) hP hD hS hA [0, 1, 2, 3, 4, 5, 6, 7, 8, 9, 10, 11, 12, 13] rfl rfl rfl (va_runV (As := []) (rest := []) ⟨hx, hb, hml, hown, hts⟩ (kX9_loop l Γ q_mo q_tt q_nw q_tr q_ot q_di q_kp q_ik q_wy q_ah q_tg q_ws q_fr q_rw mi vtt vnw vtr vot vdi vkp vik vwy vah vtg vws vfr vrw r_1 mi_2 vtr_3 vot_4 vwy_5 vah_6 vtg_7 vws_8 hc_9 _) (cwV 0 hts gX9_loopByWaiting_X9_loop rfl rfl rfl (by decide +kernel) ⟨Nat.le_of_ble_eq_true rfl, Nat.le_of_ble_eq_true rfl⟩) (my_preV (wc := (wModel Γ q_mo q_tt q_nw q_tr q_ot q_di q_kp q_ik q_wy q_ah q_tg q_ws q_fr q_rw mi vtt vnw vtr vot vdi vkp vik vwy vah vtg vws vfr vrw)) (ci := 7) (q0 := 0) [0, 1, 2, 3, 4, 5, 6, 7, 8, 9, 10, 11, 12, 13] hK hP hD rfl rfl rfl rfl) rfl rfl hl.1 rfl (lv_room (Nat.le_of_ble_eq_true rfl)) dX9_loopByWaiting_1 ⟨Nat.le_of_ble_eq_true rfl, Nat.le_of_ble_eq_true rfl⟩) (fun H locs hP hD hS => ?_)
  obtain ⟨hf0, hf1, hf2, hf3, hf4, hf5, hf6, hf7⟩ := si8 hm
  subst hf0
  subst hf1
  subst hf2
  subst hf3
  subst hf4
  subst hf5
  subst hf6
  subst hf7
  exact W.iret (v := r_1) hx hb hr (fun t ht hW => ⟨⟨rfl, by rw [ht]; exact hP⟩, hS.F ht⟩) hS.2.2 dX9_loopByWaiting_4
def mX9_loopByKeeping (mi : Nat → Int32) (vnw : Nat → Int32) (vtr : Nat → Int32) (vot : Nat → Int32) (vwy : Nat → Int32) (vah : Nat → Int32) (vtg : Nat → Int32) (vws : Nat → Int32) : Option (Int32 × (Nat → Int32) × (Nat → Int32) × (Nat → Int32) × (Nat → Int32) × (Nat → Int32) × (Nat → Int32) × (Nat → Int32)) := (bo8 (mX9_loop mi vnw vtr vot vwy vah vtg vws) (fun r_1 mi_2 vtr_3 vot_4 vwy_5 vah_6 vtg_7 vws_8 => (some (r_1, mi_2, vtr_3, vot_4, vwy_5, vah_6, vtg_7, vws_8))))
set_option maxHeartbeats 4000000 in
set_option maxRecDepth 100000 in
theorem kX9_loopByKeeping (l : Launch) (Γ : my_G) (q_mo q_tt q_nw q_tr q_ot q_di q_kp q_ik q_wy q_ah q_tg q_ws q_fr q_rw : Nat) (mi : Nat → Int32) (vtt : Nat → Int32) (vnw : Nat → Int32) (vtr : Nat → Int32) (vot : Nat → Int32) (vdi : Nat → Int32) (vkp : Nat → Int32) (vik : Nat → Int32) (vwy : Nat → Int32) (vah : Nat → Int32) (vtg : Nat → Int32) (vws : Nat → Int32) (vfr : Nat → Int32) (vrw : Nat → Int32)  (rr : Int32) (mi_z : Nat → Int32) (vtr_z : Nat → Int32) (vot_z : Nat → Int32) (vwy_z : Nat → Int32) (vah_z : Nat → Int32) (vtg_z : Nat → Int32) (vws_z : Nat → Int32) (hm : mX9_loopByKeeping mi vnw vtr vot vwy vah vtg vws = (some (rr, mi_z, vtr_z, vot_z, vwy_z, vah_z, vtg_z, vws_z))) : Mn l yX9_loopByKeeping wsX9_loopByKeeping ({ frames := 9, cells := 0, slots := 0, locals := 200 } : Room) Γ [.ref q_mo] (wModel Γ q_mo q_tt q_nw q_tr q_ot q_di q_kp q_ik q_wy q_ah q_tg q_ws q_fr q_rw mi vtt vnw vtr vot vdi vkp vik vwy vah vtg vws vfr vrw) (some (.int rr)) (wModel Γ q_mo q_tt q_nw q_tr q_ot q_di q_kp q_ik q_wy q_ah q_tg q_ws q_fr q_rw mi_z vtt vnw vtr_z vot_z vdi vkp vik vwy_z vah_z vtg_z vws_z vfr vrw) := by
  intro sz
  refine Met.ofW (cc := cX9_loopByKeeping) (maxL := 1) (ret := (some .int)) (by decide) rfl ?_
  intro p e s m args below meth c s₁ B hml hv
  obtain ⟨rfl, hsz, hP, hK, hD0⟩ := hv
  have hx := B.exec
  have hb := B.bytes
  have hr := B.returns
  have hts := atoms_spec (ws := wsX9_loopByKeeping) B.pre
  have hown : s.vm.findClass RX9 = some m.cls := findClass_of_methodNamed B.named
  have hlocks := B.notSynchronized
  have hinX9 : ∀ w ∈ u_ws RX9 TX9 19, w ∈ wsX9_loopByKeeping := fun w h => List.mem_cons_of_mem _ (List.mem_append_right _ h)
  subst hsz
  have hD := hD0.self (sz := s.heap.size)
  have hA : ∀ q : Nat, s.heap.size ≤ q → va_A (wModel Γ q_mo q_tt q_nw q_tr q_ot q_di q_kp q_ik q_wy q_ah q_tg q_ws q_fr q_rw mi vtt vnw vtr vot vdi vkp vik vwy vah vtg vws vfr vrw) s.heap.size q := fun q h => Or.inr h
  generalize va_A (wModel Γ q_mo q_tt q_nw q_tr q_ot q_di q_kp q_ik q_wy q_ah q_tg q_ws q_fr q_rw mi vtt vnw vtr vot vdi vkp vik vwy vah vtg vws vfr vrw) s.heap.size = A at hD hA ⊢
  have hS : va_S A s.heap s.heap [] := va_S.rf
  have hl := lv_entry ([.ref q_mo]) (n := 1) (Nat.le_of_ble_eq_true rfl)
  rw [lg_entry_eq]
  generalize (lg_sl ([.ref q_mo]) ++ List.replicate (1 - (lg_sl ([.ref q_mo])).length) Slot.unset).toArray = ls at hl ⊢
  replace hl : lv_has ls 1 [(0, .ref q_mo)] := hl
  unfold mX9_loopByKeeping at hm
  refine lv_aload_n hx hb dX9_loopByKeeping_0 rfl (lv_at hl 0 rfl) ?_
  obtain ⟨r_1, mi_2, vtr_3, vot_4, vwy_5, vah_6, vtg_7, vws_8, hc_9, hm⟩ := bo8_s hm
  refine my_callP1 (wc := (wModel Γ q_mo q_tt q_nw q_tr q_ot q_di q_kp q_ik q_wy q_ah q_tg q_ws q_fr q_rw mi vtt vnw vtr vot vdi vkp vik vwy vah vtg vws vfr vrw)) (w1 := (wModel Γ q_mo q_tt q_nw q_tr q_ot q_di q_kp q_ik q_wy q_ah q_tg q_ws q_fr q_rw mi_2 vtt vnw vtr_3 vot_4 vdi vkp vik vwy_5 vah_6 vtg_7 vws_8 vfr vrw)) (ws1 := (wModel Γ q_mo q_tt q_nw q_tr q_ot q_di q_kp q_ik q_wy q_ah q_tg q_ws q_fr q_rw mi_2 vtt vnw vtr_3 vot_4 vdi vkp vik vwy_5 vah_6 vtg_7 vws_8 vfr vrw)) hP hD hS hA [0, 1, 2, 3, 4, 5, 6, 7, 8, 9, 10, 11, 12, 13] rfl rfl rfl (va_runV (As := []) (rest := []) ⟨hx, hb, hml, hown, hts⟩ (kX9_loop l Γ q_mo q_tt q_nw q_tr q_ot q_di q_kp q_ik q_wy q_ah q_tg q_ws q_fr q_rw mi vtt vnw vtr vot vdi vkp vik vwy vah vtg vws vfr vrw r_1 mi_2 vtr_3 vot_4 vwy_5 vah_6 vtg_7 vws_8 hc_9 _) (cwV 0 hts gX9_loopByKeeping_X9_loop rfl rfl rfl (by decide +kernel) ⟨Nat.le_of_ble_eq_true rfl, Nat.le_of_ble_eq_true rfl⟩) (my_preV (wc := (wModel Γ q_mo q_tt q_nw q_tr q_ot q_di q_kp q_ik q_wy q_ah q_tg q_ws q_fr q_rw mi vtt vnw vtr vot vdi vkp vik vwy vah vtg vws vfr vrw)) (ci := 7) (q0 := 0) [0, 1, 2, 3, 4, 5, 6, 7, 8, 9, 10, 11, 12, 13] hK hP hD rfl rfl rfl rfl) rfl rfl hl.1 rfl (lv_room (Nat.le_of_ble_eq_true rfl)) dX9_loopByKeeping_1 ⟨Nat.le_of_ble_eq_true rfl, Nat.le_of_ble_eq_true rfl⟩) (fun H locs hP hD hS => ?_)
  obtain ⟨hf0, hf1, hf2, hf3, hf4, hf5, hf6, hf7⟩ := si8 hm
  subst hf0
  subst hf1
  subst hf2
  subst hf3
  subst hf4
  subst hf5
  subst hf6
  subst hf7
  exact W.iret (v := r_1) hx hb hr (fun t ht hW => ⟨⟨rfl, by rw [ht]; exact hP⟩, hS.F ht⟩) hS.2.2 dX9_loopByKeeping_4
def mX9_fewestBySpreading (mi : Nat → Int32) (vnw : Nat → Int32) (vfr : Nat → Int32) (vrw : Nat → Int32) (x0 : Int32) (x1 : Int32) : Option (Int32 × (Nat → Int32) × (Nat → Int32) × (Nat → Int32)) := (bo4 (mX9_fewest mi vnw vfr vrw x0 x1) (fun r_1 mi_2 vfr_3 vrw_4 => (some (r_1, mi_2, vfr_3, vrw_4))))
set_option maxHeartbeats 4000000 in
set_option maxRecDepth 100000 in
theorem kX9_fewestBySpreading (l : Launch) (Γ : my_G) (q_mo q_tt q_nw q_tr q_ot q_di q_kp q_ik q_wy q_ah q_tg q_ws q_fr q_rw : Nat) (mi : Nat → Int32) (vtt : Nat → Int32) (vnw : Nat → Int32) (vtr : Nat → Int32) (vot : Nat → Int32) (vdi : Nat → Int32) (vkp : Nat → Int32) (vik : Nat → Int32) (vwy : Nat → Int32) (vah : Nat → Int32) (vtg : Nat → Int32) (vws : Nat → Int32) (vfr : Nat → Int32) (vrw : Nat → Int32) (x0 : Int32) (x1 : Int32) (rr : Int32) (mi_z : Nat → Int32) (vfr_z : Nat → Int32) (vrw_z : Nat → Int32) (hm : mX9_fewestBySpreading mi vnw vfr vrw x0 x1 = (some (rr, mi_z, vfr_z, vrw_z))) : Mn l yX9_fewestBySpreading wsX9_fewestBySpreading ({ frames := 4, cells := 0, slots := 0, locals := 98 } : Room) Γ [.ref q_mo, .int x0, .int x1] (wModel Γ q_mo q_tt q_nw q_tr q_ot q_di q_kp q_ik q_wy q_ah q_tg q_ws q_fr q_rw mi vtt vnw vtr vot vdi vkp vik vwy vah vtg vws vfr vrw) (some (.int rr)) (wModel Γ q_mo q_tt q_nw q_tr q_ot q_di q_kp q_ik q_wy q_ah q_tg q_ws q_fr q_rw mi_z vtt vnw vtr vot vdi vkp vik vwy vah vtg vws vfr_z vrw_z) := by
  intro sz
  refine Met.ofW (cc := cX9_fewestBySpreading) (maxL := 3) (ret := (some .int)) (by decide) rfl ?_
  intro p e s m args below meth c s₁ B hml hv
  obtain ⟨rfl, hsz, hP, hK, hD0⟩ := hv
  have hx := B.exec
  have hb := B.bytes
  have hr := B.returns
  have hts := atoms_spec (ws := wsX9_fewestBySpreading) B.pre
  have hown : s.vm.findClass RX9 = some m.cls := findClass_of_methodNamed B.named
  have hlocks := B.notSynchronized
  have hinX9 : ∀ w ∈ u_ws RX9 TX9 19, w ∈ wsX9_fewestBySpreading := fun w h => List.mem_cons_of_mem _ (List.mem_append_right _ h)
  subst hsz
  have hD := hD0.self (sz := s.heap.size)
  have hA : ∀ q : Nat, s.heap.size ≤ q → va_A (wModel Γ q_mo q_tt q_nw q_tr q_ot q_di q_kp q_ik q_wy q_ah q_tg q_ws q_fr q_rw mi vtt vnw vtr vot vdi vkp vik vwy vah vtg vws vfr vrw) s.heap.size q := fun q h => Or.inr h
  generalize va_A (wModel Γ q_mo q_tt q_nw q_tr q_ot q_di q_kp q_ik q_wy q_ah q_tg q_ws q_fr q_rw mi vtt vnw vtr vot vdi vkp vik vwy vah vtg vws vfr vrw) s.heap.size = A at hD hA ⊢
  have hS : va_S A s.heap s.heap [] := va_S.rf
  have hl := lv_entry ([.ref q_mo, .int x0, .int x1]) (n := 3) (Nat.le_of_ble_eq_true rfl)
  rw [lg_entry_eq]
  generalize (lg_sl ([.ref q_mo, .int x0, .int x1]) ++ List.replicate (3 - (lg_sl ([.ref q_mo, .int x0, .int x1])).length) Slot.unset).toArray = ls at hl ⊢
  replace hl : lv_has ls 3 [(0, .ref q_mo), (1, .int x0), (2, .int x1)] := hl
  unfold mX9_fewestBySpreading at hm
  refine lv_aload_n hx hb dX9_fewestBySpreading_0 rfl (lv_at hl 0 rfl) ?_
  refine lv_iload_n hx hb dX9_fewestBySpreading_1 rfl (lv_at hl 1 rfl) ?_
  refine lv_iload_n hx hb dX9_fewestBySpreading_2 rfl (lv_at hl 2 rfl) ?_
  obtain ⟨r_1, mi_2, vfr_3, vrw_4, hc_5, hm⟩ := bo4_s hm
  refine my_callP1 (wc := (wModel Γ q_mo q_tt q_nw q_tr q_ot q_di q_kp q_ik q_wy q_ah q_tg q_ws q_fr q_rw mi vtt vnw vtr vot vdi vkp vik vwy vah vtg vws vfr vrw)) (w1 := (wModel Γ q_mo q_tt q_nw q_tr q_ot q_di q_kp q_ik q_wy q_ah q_tg q_ws q_fr q_rw mi_2 vtt vnw vtr vot vdi vkp vik vwy vah vtg vws vfr_3 vrw_4)) (ws1 := (wModel Γ q_mo q_tt q_nw q_tr q_ot q_di q_kp q_ik q_wy q_ah q_tg q_ws q_fr q_rw mi_2 vtt vnw vtr vot vdi vkp vik vwy vah vtg vws vfr_3 vrw_4)) hP hD hS hA [0, 1, 2, 3, 4, 5, 6, 7, 8, 9, 10, 11, 12, 13] rfl rfl rfl (va_runV (As := [.int x0, .int x1]) (rest := []) ⟨hx, hb, hml, hown, hts⟩ (kX9_fewest l Γ q_mo q_tt q_nw q_tr q_ot q_di q_kp q_ik q_wy q_ah q_tg q_ws q_fr q_rw mi vtt vnw vtr vot vdi vkp vik vwy vah vtg vws vfr vrw x0 x1 r_1 mi_2 vfr_3 vrw_4 hc_5 _) (cwV 2 hts gX9_fewestBySpreading_X9_fewest rfl rfl rfl (by decide +kernel) ⟨Nat.le_of_ble_eq_true rfl, Nat.le_of_ble_eq_true rfl⟩) (my_preV (wc := (wModel Γ q_mo q_tt q_nw q_tr q_ot q_di q_kp q_ik q_wy q_ah q_tg q_ws q_fr q_rw mi vtt vnw vtr vot vdi vkp vik vwy vah vtg vws vfr vrw)) (ci := 7) (q0 := 0) [0, 1, 2, 3, 4, 5, 6, 7, 8, 9, 10, 11, 12, 13] hK hP hD rfl rfl rfl rfl) rfl rfl hl.1 rfl (lv_room (Nat.le_of_ble_eq_true rfl)) dX9_fewestBySpreading_3 ⟨Nat.le_of_ble_eq_true rfl, Nat.le_of_ble_eq_true rfl⟩) (fun H locs hP hD hS => ?_)
  obtain ⟨hf0, hf1, hf2, hf3⟩ := si4 hm
  subst hf0
  subst hf1
  subst hf2
  subst hf3
  exact W.iret (v := r_1) hx hb hr (fun t ht hW => ⟨⟨rfl, by rw [ht]; exact hP⟩, hS.F ht⟩) hS.2.2 dX9_fewestBySpreading_6
def mX9_fewestBySweeping (mi : Nat → Int32) (vnw : Nat → Int32) (vfr : Nat → Int32) (vrw : Nat → Int32) (x0 : Int32) (x1 : Int32) : Option (Int32 × (Nat → Int32) × (Nat → Int32) × (Nat → Int32)) := (bo4 (mX9_fewest mi vnw vfr vrw x0 x1) (fun r_1 mi_2 vfr_3 vrw_4 => (some (r_1, mi_2, vfr_3, vrw_4))))
set_option maxHeartbeats 4000000 in
set_option maxRecDepth 100000 in
theorem kX9_fewestBySweeping (l : Launch) (Γ : my_G) (q_mo q_tt q_nw q_tr q_ot q_di q_kp q_ik q_wy q_ah q_tg q_ws q_fr q_rw : Nat) (mi : Nat → Int32) (vtt : Nat → Int32) (vnw : Nat → Int32) (vtr : Nat → Int32) (vot : Nat → Int32) (vdi : Nat → Int32) (vkp : Nat → Int32) (vik : Nat → Int32) (vwy : Nat → Int32) (vah : Nat → Int32) (vtg : Nat → Int32) (vws : Nat → Int32) (vfr : Nat → Int32) (vrw : Nat → Int32) (x0 : Int32) (x1 : Int32) (rr : Int32) (mi_z : Nat → Int32) (vfr_z : Nat → Int32) (vrw_z : Nat → Int32) (hm : mX9_fewestBySweeping mi vnw vfr vrw x0 x1 = (some (rr, mi_z, vfr_z, vrw_z))) : Mn l yX9_fewestBySweeping wsX9_fewestBySweeping ({ frames := 4, cells := 0, slots := 0, locals := 98 } : Room) Γ [.ref q_mo, .int x0, .int x1] (wModel Γ q_mo q_tt q_nw q_tr q_ot q_di q_kp q_ik q_wy q_ah q_tg q_ws q_fr q_rw mi vtt vnw vtr vot vdi vkp vik vwy vah vtg vws vfr vrw) (some (.int rr)) (wModel Γ q_mo q_tt q_nw q_tr q_ot q_di q_kp q_ik q_wy q_ah q_tg q_ws q_fr q_rw mi_z vtt vnw vtr vot vdi vkp vik vwy vah vtg vws vfr_z vrw_z) := by
  intro sz
  refine Met.ofW (cc := cX9_fewestBySweeping) (maxL := 3) (ret := (some .int)) (by decide) rfl ?_
  intro p e s m args below meth c s₁ B hml hv
  obtain ⟨rfl, hsz, hP, hK, hD0⟩ := hv
  have hx := B.exec
  have hb := B.bytes
  have hr := B.returns
  have hts := atoms_spec (ws := wsX9_fewestBySweeping) B.pre
  have hown : s.vm.findClass RX9 = some m.cls := findClass_of_methodNamed B.named
  have hlocks := B.notSynchronized
  have hinX9 : ∀ w ∈ u_ws RX9 TX9 19, w ∈ wsX9_fewestBySweeping := fun w h => List.mem_cons_of_mem _ (List.mem_append_right _ h)
  subst hsz
  have hD := hD0.self (sz := s.heap.size)
  have hA : ∀ q : Nat, s.heap.size ≤ q → va_A (wModel Γ q_mo q_tt q_nw q_tr q_ot q_di q_kp q_ik q_wy q_ah q_tg q_ws q_fr q_rw mi vtt vnw vtr vot vdi vkp vik vwy vah vtg vws vfr vrw) s.heap.size q := fun q h => Or.inr h
  generalize va_A (wModel Γ q_mo q_tt q_nw q_tr q_ot q_di q_kp q_ik q_wy q_ah q_tg q_ws q_fr q_rw mi vtt vnw vtr vot vdi vkp vik vwy vah vtg vws vfr vrw) s.heap.size = A at hD hA ⊢
  have hS : va_S A s.heap s.heap [] := va_S.rf
  have hl := lv_entry ([.ref q_mo, .int x0, .int x1]) (n := 3) (Nat.le_of_ble_eq_true rfl)
  rw [lg_entry_eq]
  generalize (lg_sl ([.ref q_mo, .int x0, .int x1]) ++ List.replicate (3 - (lg_sl ([.ref q_mo, .int x0, .int x1])).length) Slot.unset).toArray = ls at hl ⊢
  replace hl : lv_has ls 3 [(0, .ref q_mo), (1, .int x0), (2, .int x1)] := hl
  unfold mX9_fewestBySweeping at hm
  refine lv_aload_n hx hb dX9_fewestBySweeping_0 rfl (lv_at hl 0 rfl) ?_
  refine lv_iload_n hx hb dX9_fewestBySweeping_1 rfl (lv_at hl 1 rfl) ?_
  refine lv_iload_n hx hb dX9_fewestBySweeping_2 rfl (lv_at hl 2 rfl) ?_
  obtain ⟨r_1, mi_2, vfr_3, vrw_4, hc_5, hm⟩ := bo4_s hm
  refine my_callP1 (wc := (wModel Γ q_mo q_tt q_nw q_tr q_ot q_di q_kp q_ik q_wy q_ah q_tg q_ws q_fr q_rw mi vtt vnw vtr vot vdi vkp vik vwy vah vtg vws vfr vrw)) (w1 := (wModel Γ q_mo q_tt q_nw q_tr q_ot q_di q_kp q_ik q_wy q_ah q_tg q_ws q_fr q_rw mi_2 vtt vnw vtr vot vdi vkp vik vwy vah vtg vws vfr_3 vrw_4)) (ws1 := (wModel Γ q_mo q_tt q_nw q_tr q_ot q_di q_kp q_ik q_wy q_ah q_tg q_ws q_fr q_rw mi_2 vtt vnw vtr vot vdi vkp vik vwy vah vtg vws vfr_3 vrw_4)) hP hD hS hA [0, 1, 2, 3, 4, 5, 6, 7, 8, 9, 10, 11, 12, 13] rfl rfl rfl (va_runV (As := [.int x0, .int x1]) (rest := []) ⟨hx, hb, hml, hown, hts⟩ (kX9_fewest l Γ q_mo q_tt q_nw q_tr q_ot q_di q_kp q_ik q_wy q_ah q_tg q_ws q_fr q_rw mi vtt vnw vtr vot vdi vkp vik vwy vah vtg vws vfr vrw x0 x1 r_1 mi_2 vfr_3 vrw_4 hc_5 _) (cwV 2 hts gX9_fewestBySweeping_X9_fewest rfl rfl rfl (by decide +kernel) ⟨Nat.le_of_ble_eq_true rfl, Nat.le_of_ble_eq_true rfl⟩) (my_preV (wc := (wModel Γ q_mo q_tt q_nw q_tr q_ot q_di q_kp q_ik q_wy q_ah q_tg q_ws q_fr q_rw mi vtt vnw vtr vot vdi vkp vik vwy vah vtg vws vfr vrw)) (ci := 7) (q0 := 0) [0, 1, 2, 3, 4, 5, 6, 7, 8, 9, 10, 11, 12, 13] hK hP hD rfl rfl rfl rfl) rfl rfl hl.1 rfl (lv_room (Nat.le_of_ble_eq_true rfl)) dX9_fewestBySweeping_3 ⟨Nat.le_of_ble_eq_true rfl, Nat.le_of_ble_eq_true rfl⟩) (fun H locs hP hD hS => ?_)
  obtain ⟨hf0, hf1, hf2, hf3⟩ := si4 hm
  subst hf0
  subst hf1
  subst hf2
  subst hf3
  exact W.iret (v := r_1) hx hb hr (fun t ht hW => ⟨⟨rfl, by rw [ht]; exact hP⟩, hS.F ht⟩) hS.2.2 dX9_fewestBySweeping_6
def mX9_simulate_L48  : Nat → (Nat → Int32) → (Nat → Int32) → (Nat → Int32) → (Nat → Int32) → (Nat → Int32) → (Nat → Int32) → (Nat → Int32) → Int32 → Int64 → Int32 → Int32 → Option (Int32 × (Nat → Int32) × (Nat → Int32) × (Nat → Int32) × (Nat → Int32) × (Nat → Int32) × (Nat → Int32))
  | 0, _, _, _, _, _, _, _, _, _, _, _ => none
  | n + 1, mi, vnw, vtr, vwy, vah, vtg, vws, l3, l4, l6, l7 => (if l3 ≤ l7 then (bo1 (mX9_of vtr (0 : Int32) (0 : Int32)) (fun r_9 => (bo1 (mX9_of vtr (1 : Int32) (0 : Int32)) (fun r_11 => (some (((((10000 : Int32) * l6) + ((100 : Int32) * r_9)) + r_11), mi, vtr, vwy, vah, vtg, vws)))))) else (bo6 (mX9_turn vwy vah vtg vws vtr (jrem ((jushrl ((l4 * (6364136223846793005 : Int64)) + (1442695040888963407 : Int64)) (33 : Int32)).toInt32) (16 : Int32)) (((jushrl ((l4 * (6364136223846793005 : Int64)) + (1442695040888963407 : Int64)) (33 : Int32)).toInt32) / (16 : Int32))) (fun r_13 vwy_14 vah_15 vtg_16 vws_17 vtr_18 => (mX9_simulate_L48 n mi vnw vtr_18 vwy_14 vah_15 vtg_16 vws_17 l3 ((l4 * (6364136223846793005 : Int64)) + (1442695040888963407 : Int64)) (l6 + r_13) (l7 + (1 : Int32))))))
def mX9_simulate_J18  (mi : Nat → Int32) (vnw : Nat → Int32) (vtr : Nat → Int32) (vwy : Nat → Int32) (vah : Nat → Int32) (vtg : Nat → Int32) (vws : Nat → Int32) (l1 : Int64) (l3 : Int32) (s1 : Int32) : Option (Int32 × (Nat → Int32) × (Nat → Int32) × (Nat → Int32) × (Nat → Int32) × (Nat → Int32) × (Nat → Int32)) := (bt2 (mX9_refused mi s1) (fun r_2 mi_3 => (if r_2 = 0 then (bo1 (mX9_copyState_117_117 vnw vtr (0 : Int32) (0 : Int32)) (fun vtr_6 => (mX9_simulate_L48 4096 mi_3 vnw vtr_6 vwy vah vtg vws l3 l1 (0 : Int32) (0 : Int32)))) else (some ((0 : Int32), mi_3, vtr, vwy, vah, vtg, vws)))))
def mX9_simulate (mi : Nat → Int32) (vnw : Nat → Int32) (vtr : Nat → Int32) (vwy : Nat → Int32) (vah : Nat → Int32) (vtg : Nat → Int32) (vws : Nat → Int32) (x0 : Int64) (x1 : Int32) : Option (Int32 × (Nat → Int32) × (Nat → Int32) × (Nat → Int32) × (Nat → Int32) × (Nat → Int32) × (Nat → Int32)) := (if (mX9_in (x1.toInt64) (1 : Int64) (60 : Int64)) = 0 then (mX9_simulate_J18 mi vnw vtr vwy vah vtg vws x0 x1 (1 : Int32)) else (mX9_simulate_J18 mi vnw vtr vwy vah vtg vws x0 x1 (0 : Int32)))
set_option maxHeartbeats 4000000 in
set_option maxRecDepth 100000 in
theorem kX9_simulate (l : Launch) (Γ : my_G) (q_mo q_tt q_nw q_tr q_ot q_di q_kp q_ik q_wy q_ah q_tg q_ws q_fr q_rw : Nat) (mi : Nat → Int32) (vtt : Nat → Int32) (vnw : Nat → Int32) (vtr : Nat → Int32) (vot : Nat → Int32) (vdi : Nat → Int32) (vkp : Nat → Int32) (vik : Nat → Int32) (vwy : Nat → Int32) (vah : Nat → Int32) (vtg : Nat → Int32) (vws : Nat → Int32) (vfr : Nat → Int32) (vrw : Nat → Int32) (x0 : Int64) (x1 : Int32) (rr : Int32) (mi_z : Nat → Int32) (vtr_z : Nat → Int32) (vwy_z : Nat → Int32) (vah_z : Nat → Int32) (vtg_z : Nat → Int32) (vws_z : Nat → Int32) (hm : mX9_simulate mi vnw vtr vwy vah vtg vws x0 x1 = (some (rr, mi_z, vtr_z, vwy_z, vah_z, vtg_z, vws_z))) : Mn l yX9_simulate wsX9_simulate ({ frames := 9, cells := 0, slots := 0, locals := 203 } : Room) Γ [.ref q_mo, .long x0, .int x1] (wModel Γ q_mo q_tt q_nw q_tr q_ot q_di q_kp q_ik q_wy q_ah q_tg q_ws q_fr q_rw mi vtt vnw vtr vot vdi vkp vik vwy vah vtg vws vfr vrw) (some (.int rr)) (wModel Γ q_mo q_tt q_nw q_tr q_ot q_di q_kp q_ik q_wy q_ah q_tg q_ws q_fr q_rw mi_z vtt vnw vtr_z vot vdi vkp vik vwy_z vah_z vtg_z vws_z vfr vrw) := by
  intro sz
  refine Met.ofW (cc := cX9_simulate) (maxL := 9) (ret := (some .int)) (by decide) rfl ?_
  intro p e s m args below meth c s₁ B hml hv
  obtain ⟨rfl, hsz, hP, hK, hD0⟩ := hv
  have hx := B.exec
  have hb := B.bytes
  have hr := B.returns
  have hts := atoms_spec (ws := wsX9_simulate) B.pre
  have hown : s.vm.findClass RX9 = some m.cls := findClass_of_methodNamed B.named
  have hlocks := B.notSynchronized
  have hinX9 : ∀ w ∈ u_ws RX9 TX9 19, w ∈ wsX9_simulate := fun w h => List.mem_cons_of_mem _ (List.mem_append_right _ h)
  subst hsz
  have hD := hD0.self (sz := s.heap.size)
  have hA : ∀ q : Nat, s.heap.size ≤ q → va_A (wModel Γ q_mo q_tt q_nw q_tr q_ot q_di q_kp q_ik q_wy q_ah q_tg q_ws q_fr q_rw mi vtt vnw vtr vot vdi vkp vik vwy vah vtg vws vfr vrw) s.heap.size q := fun q h => Or.inr h
  generalize va_A (wModel Γ q_mo q_tt q_nw q_tr q_ot q_di q_kp q_ik q_wy q_ah q_tg q_ws q_fr q_rw mi vtt vnw vtr vot vdi vkp vik vwy vah vtg vws vfr vrw) s.heap.size = A at hD hA ⊢
  have hS : va_S A s.heap s.heap [] := va_S.rf
  have hl := lv_entry ([.ref q_mo, .long x0, .int x1]) (n := 9) (Nat.le_of_ble_eq_true rfl)
  rw [lg_entry_eq]
  generalize (lg_sl ([.ref q_mo, .long x0, .int x1]) ++ List.replicate (9 - (lg_sl ([.ref q_mo, .long x0, .int x1])).length) Slot.unset).toArray = ls at hl ⊢
  replace hl : lv_has ls 9 [(0, .ref q_mo), (1, .long x0), (3, .int x1)] := hl
  have J_48 : ∀ n : Nat, ∀ (mi : Nat → Int32) (vnw : Nat → Int32) (vtr : Nat → Int32) (vwy : Nat → Int32) (vah : Nat → Int32) (vtg : Nat → Int32) (vws : Nat → Int32) (l3 : Int32) (l4 : Int64) (l6 : Int32) (l7 : Int32) (H : Heap) (locs : List Loc) (ls : Array Slot), va_P (my_D Γ) vwCl (wModel Γ q_mo q_tt q_nw q_tr q_ot q_di q_kp q_ik q_wy q_ah q_tg q_ws q_fr q_rw mi vtt vnw vtr vot vdi vkp vik vwy vah vtg vws vfr vrw) H → va_D A (wModel Γ q_mo q_tt q_nw q_tr q_ot q_di q_kp q_ik q_wy q_ah q_tg q_ws q_fr q_rw mi vtt vnw vtr vot vdi vkp vik vwy vah vtg vws vfr vrw) → va_S A s.heap H locs → lv_has ls 9 [(0, .ref q_mo), (3, .int l3), (4, .long l4), (6, .int l6), (7, .int l7)] → mX9_simulate_L48 n mi vnw vtr vwy vah vtg vws l3 l4 l6 l7 = (some (rr, mi_z, vtr_z, vwy_z, vah_z, vtg_z, vws_z)) → W p l e (headSpec wsX9_simulate ({ frames := 9, cells := 0, slots := 0, locals := 203 } : Room)).room s m ([.ref q_mo, .long x0, .int x1] : List Value).toArray below meth c H locs 0 0 (MQ below (my_Q Γ A (some (.int rr)) (wModel Γ q_mo q_tt q_nw q_tr q_ot q_di q_kp q_ik q_wy q_ah q_tg q_ws q_fr q_rw mi_z vtt vnw vtr_z vot vdi vkp vik vwy_z vah_z vtg_z vws_z vfr vrw)) ([.ref q_mo, .long x0, .int x1] : List Value).toArray s 0 0 A) (F0 m 48 ls []) := by
    intro  n
    induction n with
    | zero => intro mi vnw vtr vwy vah vtg vws l3 l4 l6 l7 H locs ls hP hD hS hl hm; cases hm
    | succ n ih =>
      intro mi vnw vtr vwy vah vtg vws l3 l4 l6 l7 H locs ls hP hD hS hl hm
      unfold mX9_simulate_L48 at hm
      refine lv_iload hx hb dX9_simulate_48 (lv_at hl 4 rfl) ?_
      refine lv_iload_n hx hb dX9_simulate_50 rfl (lv_at hl 1 rfl) ?_
      refine lv_icmp_ge (tgt := 103) hx hb dX9_simulate_51 (by decide) (fun c_8 => ?_) (fun c_8 => ?_)
      · replace hm := if_s hm c_8
        refine lv_sipush (v := (10000 : Int32)) hx hb dX9_simulate_103 (by decide) ?_
        refine lv_iload hx hb dX9_simulate_106 (lv_at hl 3 rfl) ?_
        refine lv_imul hx hb dX9_simulate_108 ?_
        refine lv_bipush (v := (100 : Int32)) hx hb dX9_simulate_109 (by decide) ?_
        refine lv_aload_n hx hb dX9_simulate_111 rfl (lv_at hl 0 rfl) ?_
        refine va_get (D := my_D Γ) (ci := 7) (v := .ref q_tr) (C := RX9) (T := TX9) (N := 19) hx hb hts hinX9 hown hK hP 0 rfl rfl 4 (by decide) (hts (.fieldLink RX9 16 "BeltFloorModel" "trial" "[I") (List.mem_of_getElem? (i := 3) rfl)) (fun _ h9 => h9) rfl dX9_simulate_112 ?_
        refine lv_iconst (v := (0 : Int32)) hx hb dX9_simulate_115 (by decide) ?_
        refine lv_iconst (v := (0 : Int32)) hx hb dX9_simulate_116 (by decide) ?_
        obtain ⟨r_9, hc_10, hm⟩ := bo1_s hm
        refine my_callP1 (wc := (wArr117 Γ q_tr vtr)) (w1 := (wArr117 Γ q_tr vtr)) (ws1 := (wModel Γ q_mo q_tt q_nw q_tr q_ot q_di q_kp q_ik q_wy q_ah q_tg q_ws q_fr q_rw mi vtt vnw vtr vot vdi vkp vik vwy vah vtg vws vfr vrw)) hP hD hS hA [3] rfl rfl rfl (va_runS (As := [.ref q_tr, .int (0 : Int32), .int (0 : Int32)]) (rest := [.int (100 : Int32), .int ((10000 : Int32) * l6)]) ⟨hx, hb, hml, hown, hts⟩ (kX9_of l Γ q_tr vtr (0 : Int32) (0 : Int32) r_9 hc_10 _) (va_cwS 3 hts gX9_simulate_X9_of rfl rfl rfl (by decide +kernel) ⟨Nat.le_of_ble_eq_true rfl, Nat.le_of_ble_eq_true rfl⟩) (my_preS (wc := (wArr117 Γ q_tr vtr)) [3] hK hP hD rfl rfl) rfl rfl hl.1 rfl (lv_room (Nat.le_of_ble_eq_true rfl)) dX9_simulate_117 ⟨Nat.le_of_ble_eq_true rfl, Nat.le_of_ble_eq_true rfl⟩) (fun H locs hP hD hS => ?_)
        refine lv_imul hx hb dX9_simulate_120 ?_
        refine lv_iadd hx hb dX9_simulate_121 ?_
        refine lv_aload_n hx hb dX9_simulate_122 rfl (lv_at hl 0 rfl) ?_
        refine va_get (D := my_D Γ) (ci := 7) (v := .ref q_tr) (C := RX9) (T := TX9) (N := 19) hx hb hts hinX9 hown hK hP 0 rfl rfl 4 (by decide) (hts (.fieldLink RX9 16 "BeltFloorModel" "trial" "[I") (List.mem_of_getElem? (i := 3) rfl)) (fun _ h9 => h9) rfl dX9_simulate_123 ?_
        refine lv_iconst (v := (1 : Int32)) hx hb dX9_simulate_126 (by decide) ?_
        refine lv_iconst (v := (0 : Int32)) hx hb dX9_simulate_127 (by decide) ?_
        obtain ⟨r_11, hc_12, hm⟩ := bo1_s hm
        refine my_callP1 (wc := (wArr117 Γ q_tr vtr)) (w1 := (wArr117 Γ q_tr vtr)) (ws1 := (wModel Γ q_mo q_tt q_nw q_tr q_ot q_di q_kp q_ik q_wy q_ah q_tg q_ws q_fr q_rw mi vtt vnw vtr vot vdi vkp vik vwy vah vtg vws vfr vrw)) hP hD hS hA [3] rfl rfl rfl (va_runS (As := [.ref q_tr, .int (1 : Int32), .int (0 : Int32)]) (rest := [.int (((10000 : Int32) * l6) + ((100 : Int32) * r_9))]) ⟨hx, hb, hml, hown, hts⟩ (kX9_of l Γ q_tr vtr (1 : Int32) (0 : Int32) r_11 hc_12 _) (va_cwS 3 hts gX9_simulate_X9_of rfl rfl rfl (by decide +kernel) ⟨Nat.le_of_ble_eq_true rfl, Nat.le_of_ble_eq_true rfl⟩) (my_preS (wc := (wArr117 Γ q_tr vtr)) [3] hK hP hD rfl rfl) rfl rfl hl.1 rfl (lv_room (Nat.le_of_ble_eq_true rfl)) dX9_simulate_128 ⟨Nat.le_of_ble_eq_true rfl, Nat.le_of_ble_eq_true rfl⟩) (fun H locs hP hD hS => ?_)
        refine lv_iadd hx hb dX9_simulate_131 ?_
        obtain ⟨hf0, hf1, hf2, hf3, hf4, hf5, hf6⟩ := si7 hm
        subst hf0
        subst hf1
        subst hf2
        subst hf3
        subst hf4
        subst hf5
        subst hf6
        exact W.iret (v := ((((10000 : Int32) * l6) + ((100 : Int32) * r_9)) + r_11)) hx hb hr (fun t ht hW => ⟨⟨rfl, by rw [ht]; exact hP⟩, hS.F ht⟩) hS.2.2 dX9_simulate_132
      · replace hm := if_f hm c_8
        refine lv_lload hx hb dX9_simulate_54 (lv_at hl 2 rfl) ?_
        refine lv_ldc2 (v := (6364136223846793005 : Int64)) hx hb hown (hts (.constantLong RX9 279 (6364136223846793005)) (List.mem_of_getElem? (i := 4) rfl)) dX9_simulate_56 ?_
        refine lv_lmul hx hb dX9_simulate_59 ?_
        refine lv_ldc2 (v := (1442695040888963407 : Int64)) hx hb hown (hts (.constantLong RX9 281 (1442695040888963407)) (List.mem_of_getElem? (i := 5) rfl)) dX9_simulate_60 ?_
        refine lv_ladd hx hb dX9_simulate_63 ?_
        refine lv_lstore (lv' := [(4, .long ((l4 * (6364136223846793005 : Int64)) + (1442695040888963407 : Int64))), (0, .ref q_mo), (3, .int l3), (6, .int l6), (7, .int l7)]) hx hb dX9_simulate_64 hl (by decide) rfl (fun ls hl => ?_)
        refine lv_lload hx hb dX9_simulate_66 (lv_at hl 0 rfl) ?_
        refine lv_bipush (v := (33 : Int32)) hx hb dX9_simulate_68 (by decide) ?_
        refine my_lushr hx hb dX9_simulate_70 ?_
        refine lv_l2i (v := (jushrl ((l4 * (6364136223846793005 : Int64)) + (1442695040888963407 : Int64)) (33 : Int32)).toInt32) hx hb dX9_simulate_71 rfl ?_
        refine lv_istore (lv' := [(8, .int ((jushrl ((l4 * (6364136223846793005 : Int64)) + (1442695040888963407 : Int64)) (33 : Int32)).toInt32)), (4, .long ((l4 * (6364136223846793005 : Int64)) + (1442695040888963407 : Int64))), (0, .ref q_mo), (3, .int l3), (6, .int l6), (7, .int l7)]) hx hb dX9_simulate_72 hl (by decide) rfl (fun ls hl => ?_)
        refine lv_iload hx hb dX9_simulate_74 (lv_at hl 4 rfl) ?_
        refine lv_aload_n hx hb dX9_simulate_76 rfl (lv_at hl 2 rfl) ?_
        refine lv_aload_n hx hb dX9_simulate_77 rfl (lv_at hl 2 rfl) ?_
        refine va_get (D := my_D Γ) (ci := 7) (v := .ref q_tr) (C := RX9) (T := TX9) (N := 19) hx hb hts hinX9 hown hK hP 0 rfl rfl 4 (by decide) (hts (.fieldLink RX9 16 "BeltFloorModel" "trial" "[I") (List.mem_of_getElem? (i := 3) rfl)) (fun _ h9 => h9) rfl dX9_simulate_78 ?_
        refine lv_iload hx hb dX9_simulate_81 (lv_at hl 0 rfl) ?_
        refine lv_bipush (v := (16 : Int32)) hx hb dX9_simulate_83 (by decide) ?_
        refine my_irem hx hb dX9_simulate_85 (by decide) ?_
        refine lv_iload hx hb dX9_simulate_86 (lv_at hl 0 rfl) ?_
        refine lv_bipush (v := (16 : Int32)) hx hb dX9_simulate_88 (by decide) ?_
        refine lv_idiv hx hb dX9_simulate_90 (by decide) ?_
        obtain ⟨r_13, vwy_14, vah_15, vtg_16, vws_17, vtr_18, hc_19, hm⟩ := bo6_s hm
        refine my_callP1 (wc := (wStep Γ q_mo q_wy q_ah q_tg q_ws q_tr q_tt q_nw q_tr q_ot q_di q_kp q_ik q_fr q_rw mi vwy vah vtg vws vtr)) (w1 := (wStep Γ q_mo q_wy q_ah q_tg q_ws q_tr q_tt q_nw q_tr q_ot q_di q_kp q_ik q_fr q_rw mi vwy_14 vah_15 vtg_16 vws_17 vtr_18)) (ws1 := (wModel Γ q_mo q_tt q_nw q_tr q_ot q_di q_kp q_ik q_wy q_ah q_tg q_ws q_fr q_rw mi vtt vnw vtr_18 vot vdi vkp vik vwy_14 vah_15 vtg_16 vws_17 vfr vrw)) hP hD hS hA [0, 8, 9, 10, 11, 3] rfl rfl rfl (va_runV (As := [.ref q_tr, .int (jrem ((jushrl ((l4 * (6364136223846793005 : Int64)) + (1442695040888963407 : Int64)) (33 : Int32)).toInt32) (16 : Int32)), .int (((jushrl ((l4 * (6364136223846793005 : Int64)) + (1442695040888963407 : Int64)) (33 : Int32)).toInt32) / (16 : Int32))]) (rest := [.int l6]) ⟨hx, hb, hml, hown, hts⟩ (kX9_turn l Γ q_mo q_wy q_ah q_tg q_ws q_tr q_tt q_nw q_tr q_ot q_di q_kp q_ik q_fr q_rw mi vwy vah vtg vws vtr (jrem ((jushrl ((l4 * (6364136223846793005 : Int64)) + (1442695040888963407 : Int64)) (33 : Int32)).toInt32) (16 : Int32)) (((jushrl ((l4 * (6364136223846793005 : Int64)) + (1442695040888963407 : Int64)) (33 : Int32)).toInt32) / (16 : Int32)) r_13 vwy_14 vah_15 vtg_16 vws_17 vtr_18 hc_19 _) (cwV 3 hts gX9_simulate_X9_turn rfl rfl rfl (by decide +kernel) ⟨Nat.le_of_ble_eq_true rfl, Nat.le_of_ble_eq_true rfl⟩) (my_preV (wc := (wStep Γ q_mo q_wy q_ah q_tg q_ws q_tr q_tt q_nw q_tr q_ot q_di q_kp q_ik q_fr q_rw mi vwy vah vtg vws vtr)) (ci := 7) (q0 := 0) [0, 8, 9, 10, 11, 3] hK hP hD rfl rfl rfl rfl) rfl rfl hl.1 rfl (lv_room (Nat.le_of_ble_eq_true rfl)) dX9_simulate_91 ⟨Nat.le_of_ble_eq_true rfl, Nat.le_of_ble_eq_true rfl⟩) (fun H locs hP hD hS => ?_)
        refine lv_iadd hx hb dX9_simulate_94 ?_
        refine lv_istore (lv' := [(6, .int (l6 + r_13)), (8, .int ((jushrl ((l4 * (6364136223846793005 : Int64)) + (1442695040888963407 : Int64)) (33 : Int32)).toInt32)), (4, .long ((l4 * (6364136223846793005 : Int64)) + (1442695040888963407 : Int64))), (0, .ref q_mo), (3, .int l3), (7, .int l7)]) hx hb dX9_simulate_95 hl (by decide) rfl (fun ls hl => ?_)
        refine lv_iinc (v := (l7 + (1 : Int32))) (lv' := [(7, .int (l7 + (1 : Int32))), (6, .int (l6 + r_13)), (8, .int ((jushrl ((l4 * (6364136223846793005 : Int64)) + (1442695040888963407 : Int64)) (33 : Int32)).toInt32)), (4, .long ((l4 * (6364136223846793005 : Int64)) + (1442695040888963407 : Int64))), (0, .ref q_mo), (3, .int l3)]) hx hb dX9_simulate_97 hl (k := 5) rfl rfl (by decide) rfl (fun ls hl => ?_)
        refine lv_goto (tgt := 48) hx hb dX9_simulate_100 (by decide) ?_
        exact ih mi vnw vtr_18 vwy_14 vah_15 vtg_16 vws_17 l3 ((l4 * (6364136223846793005 : Int64)) + (1442695040888963407 : Int64)) (l6 + r_13) (l7 + (1 : Int32)) _ _ _ hP hD hS (lv_sub hl [4, 5, 3, 1, 0] rfl) hm
  have J_18 : ∀ (mi : Nat → Int32) (vnw : Nat → Int32) (vtr : Nat → Int32) (vwy : Nat → Int32) (vah : Nat → Int32) (vtg : Nat → Int32) (vws : Nat → Int32) (l1 : Int64) (l3 : Int32) (s1 : Int32) (H : Heap) (locs : List Loc) (ls : Array Slot), va_P (my_D Γ) vwCl (wModel Γ q_mo q_tt q_nw q_tr q_ot q_di q_kp q_ik q_wy q_ah q_tg q_ws q_fr q_rw mi vtt vnw vtr vot vdi vkp vik vwy vah vtg vws vfr vrw) H → va_D A (wModel Γ q_mo q_tt q_nw q_tr q_ot q_di q_kp q_ik q_wy q_ah q_tg q_ws q_fr q_rw mi vtt vnw vtr vot vdi vkp vik vwy vah vtg vws vfr vrw) → va_S A s.heap H locs → lv_has ls 9 [(0, .ref q_mo), (1, .long l1), (3, .int l3)] → mX9_simulate_J18 mi vnw vtr vwy vah vtg vws l1 l3 s1 = (some (rr, mi_z, vtr_z, vwy_z, vah_z, vtg_z, vws_z)) → W p l e (headSpec wsX9_simulate ({ frames := 9, cells := 0, slots := 0, locals := 203 } : Room)).room s m ([.ref q_mo, .long x0, .int x1] : List Value).toArray below meth c H locs 0 0 (MQ below (my_Q Γ A (some (.int rr)) (wModel Γ q_mo q_tt q_nw q_tr q_ot q_di q_kp q_ik q_wy q_ah q_tg q_ws q_fr q_rw mi_z vtt vnw vtr_z vot vdi vkp vik vwy_z vah_z vtg_z vws_z vfr vrw)) ([.ref q_mo, .long x0, .int x1] : List Value).toArray s 0 0 A) (F0 m 18 ls [.int s1, .ref q_mo]) := by
    intro  mi vnw vtr vwy vah vtg vws l1 l3 s1 H locs ls hP hD hS hl hm
    unfold mX9_simulate_J18 at hm
    obtain ⟨r_2, mi_3, hc_4, hm⟩ := bt2_s hm
    refine my_callP1 (wc := (wMo Γ q_mo q_tt q_nw q_tr q_ot q_di q_kp q_ik q_wy q_ah q_tg q_ws q_fr q_rw mi)) (w1 := (wMo Γ q_mo q_tt q_nw q_tr q_ot q_di q_kp q_ik q_wy q_ah q_tg q_ws q_fr q_rw mi_3)) (ws1 := (wModel Γ q_mo q_tt q_nw q_tr q_ot q_di q_kp q_ik q_wy q_ah q_tg q_ws q_fr q_rw mi_3 vtt vnw vtr vot vdi vkp vik vwy vah vtg vws vfr vrw)) hP hD hS hA [0] rfl rfl rfl (va_runV (As := [.int s1]) (rest := []) ⟨hx, hb, hml, hown, hts⟩ (kX9_refused l Γ q_mo q_tt q_nw q_tr q_ot q_di q_kp q_ik q_wy q_ah q_tg q_ws q_fr q_rw mi s1 r_2 mi_3 hc_4 _) (cwV 1 hts gX9_simulate_X9_refused rfl rfl rfl (by decide +kernel) ⟨Nat.le_of_ble_eq_true rfl, Nat.le_of_ble_eq_true rfl⟩) (my_preV (wc := (wMo Γ q_mo q_tt q_nw q_tr q_ot q_di q_kp q_ik q_wy q_ah q_tg q_ws q_fr q_rw mi)) (ci := 7) (q0 := 0) [0] hK hP hD rfl rfl rfl rfl) rfl rfl hl.1 rfl (lv_room (Nat.le_of_ble_eq_true rfl)) dX9_simulate_18 ⟨Nat.le_of_ble_eq_true rfl, Nat.le_of_ble_eq_true rfl⟩) (fun H locs hP hD hS => ?_)
    refine lv_if_eq (tgt := 26) hx hb dX9_simulate_21 (by decide) (fun c_5 => ?_) (fun c_5 => ?_)
    · replace hm := if_s hm c_5
      refine lv_aload_n hx hb dX9_simulate_26 rfl (lv_at hl 0 rfl) ?_
      refine va_get (D := my_D Γ) (ci := 7) (v := .ref q_nw) (C := RX9) (T := TX9) (N := 19) hx hb hts hinX9 hown hK hP 0 rfl rfl 3 (by decide) (hts (.fieldLink RX9 13 "BeltFloorModel" "now" "[I") (List.mem_of_getElem? (i := 2) rfl)) (fun _ h9 => h9) rfl dX9_simulate_27 ?_
      refine lv_iconst (v := (0 : Int32)) hx hb dX9_simulate_30 (by decide) ?_
      refine lv_aload_n hx hb dX9_simulate_31 rfl (lv_at hl 0 rfl) ?_
      refine va_get (D := my_D Γ) (ci := 7) (v := .ref q_tr) (C := RX9) (T := TX9) (N := 19) hx hb hts hinX9 hown hK hP 0 rfl rfl 4 (by decide) (hts (.fieldLink RX9 16 "BeltFloorModel" "trial" "[I") (List.mem_of_getElem? (i := 3) rfl)) (fun _ h9 => h9) rfl dX9_simulate_32 ?_
      refine lv_iconst (v := (0 : Int32)) hx hb dX9_simulate_35 (by decide) ?_
      obtain ⟨vtr_6, hc_7, hm⟩ := bo1_s hm
      refine my_callP0 (wc := (wArr117 Γ q_nw vnw ++ wArr117 Γ q_tr vtr)) (w1 := (wArr117 Γ q_nw vnw ++ wArr117 Γ q_tr vtr_6)) (ws1 := (wModel Γ q_mo q_tt q_nw q_tr q_ot q_di q_kp q_ik q_wy q_ah q_tg q_ws q_fr q_rw mi_3 vtt vnw vtr_6 vot vdi vkp vik vwy vah vtg vws vfr vrw)) hP hD hS hA [2, 3] rfl rfl rfl (va_runS (As := [.ref q_nw, .int (0 : Int32), .ref q_tr, .int (0 : Int32)]) (rest := []) ⟨hx, hb, hml, hown, hts⟩ (kX9_copyState_117_117 l Γ q_nw q_tr vnw vtr (0 : Int32) (0 : Int32) vtr_6 hc_7 _) (va_cwS 4 hts gX9_simulate_X9_copyState rfl rfl rfl (by decide +kernel) ⟨Nat.le_of_ble_eq_true rfl, Nat.le_of_ble_eq_true rfl⟩) (my_preS (wc := (wArr117 Γ q_nw vnw ++ wArr117 Γ q_tr vtr)) [2, 3] hK hP hD rfl rfl) rfl rfl hl.1 rfl (lv_room (Nat.le_of_ble_eq_true rfl)) dX9_simulate_36 ⟨Nat.le_of_ble_eq_true rfl, Nat.le_of_ble_eq_true rfl⟩) (fun H locs hP hD hS => ?_)
      refine lv_lload_n hx hb dX9_simulate_39 rfl (lv_at hl 1 rfl) ?_
      refine lv_lstore (lv' := [(4, .long l1), (0, .ref q_mo), (1, .long l1), (3, .int l3)]) hx hb dX9_simulate_40 hl (by decide) rfl (fun ls hl => ?_)
      refine lv_iconst (v := (0 : Int32)) hx hb dX9_simulate_42 (by decide) ?_
      refine lv_istore (lv' := [(6, .int (0 : Int32)), (4, .long l1), (0, .ref q_mo), (1, .long l1), (3, .int l3)]) hx hb dX9_simulate_43 hl (by decide) rfl (fun ls hl => ?_)
      refine lv_iconst (v := (0 : Int32)) hx hb dX9_simulate_45 (by decide) ?_
      refine lv_istore (lv' := [(7, .int (0 : Int32)), (6, .int (0 : Int32)), (4, .long l1), (0, .ref q_mo), (1, .long l1), (3, .int l3)]) hx hb dX9_simulate_46 hl (by decide) rfl (fun ls hl => ?_)
      exact J_48 4096 mi_3 vnw vtr_6 vwy vah vtg vws l3 l1 (0 : Int32) (0 : Int32) _ _ _ hP hD hS (lv_sub hl [3, 5, 2, 1, 0] rfl) hm
    · replace hm := if_f hm c_5
      refine lv_iconst (v := (0 : Int32)) hx hb dX9_simulate_24 (by decide) ?_
      obtain ⟨hf0, hf1, hf2, hf3, hf4, hf5, hf6⟩ := si7 hm
      subst hf0
      subst hf1
      subst hf2
      subst hf3
      subst hf4
      subst hf5
      subst hf6
      exact W.iret (v := (0 : Int32)) hx hb hr (fun t ht hW => ⟨⟨rfl, by rw [ht]; exact hP⟩, hS.F ht⟩) hS.2.2 dX9_simulate_25
  unfold mX9_simulate at hm
  refine lv_aload_n hx hb dX9_simulate_0 rfl (lv_at hl 0 rfl) ?_
  refine lv_iload_n hx hb dX9_simulate_1 rfl (lv_at hl 2 rfl) ?_
  refine lv_i2l (v := x1.toInt64) hx hb dX9_simulate_2 rfl ?_
  refine lv_lconst (v := (1 : Int64)) hx hb dX9_simulate_3 (by decide) ?_
  refine lv_ldc2 (v := (60 : Int64)) hx hb hown (hts (.constantLong RX9 277 (60)) (List.mem_of_getElem? (i := 1) rfl)) dX9_simulate_4 ?_
  refine my_callP1 (wc := ([] : va_W)) (w1 := ([] : va_W)) (ws1 := (wModel Γ q_mo q_tt q_nw q_tr q_ot q_di q_kp q_ik q_wy q_ah q_tg q_ws q_fr q_rw mi vtt vnw vtr vot vdi vkp vik vwy vah vtg vws vfr vrw)) hP hD hS hA [] rfl rfl rfl (va_runS (As := [.long (x1.toInt64), .long (1 : Int64), .long (60 : Int64)]) (rest := [.ref q_mo]) ⟨hx, hb, hml, hown, hts⟩ (kX9_in l Γ (x1.toInt64) (1 : Int64) (60 : Int64) (mX9_in (x1.toInt64) (1 : Int64) (60 : Int64)) rfl _) (va_cwS 3 hts gX9_simulate_X9_in rfl rfl rfl (by decide +kernel) ⟨Nat.le_of_ble_eq_true rfl, Nat.le_of_ble_eq_true rfl⟩) (my_preS (wc := ([] : va_W)) [] hK hP hD rfl rfl) rfl rfl hl.1 rfl (lv_room (Nat.le_of_ble_eq_true rfl)) dX9_simulate_7 ⟨Nat.le_of_ble_eq_true rfl, Nat.le_of_ble_eq_true rfl⟩) (fun H locs hP hD hS => ?_)
  refine lv_if_eq (tgt := 17) hx hb dX9_simulate_10 (by decide) (fun c_1 => ?_) (fun c_1 => ?_)
  · replace hm := if_s hm c_1
    refine lv_iconst (v := (1 : Int32)) hx hb dX9_simulate_17 (by decide) ?_
    exact J_18 mi vnw vtr vwy vah vtg vws x0 x1 (1 : Int32) _ _ _ hP hD hS (lv_sub hl [0, 1, 2] rfl) hm
  · replace hm := if_f hm c_1
    refine lv_iconst (v := (0 : Int32)) hx hb dX9_simulate_13 (by decide) ?_
    refine lv_goto (tgt := 18) hx hb dX9_simulate_14 (by decide) ?_
    exact J_18 mi vnw vtr vwy vah vtg vws x0 x1 (0 : Int32) _ _ _ hP hD hS (lv_sub hl [0, 1, 2] rfl) hm
def mX9_save_J16  (mi : Nat → Int32) (vnw : Nat → Int32) (vkp : Nat → Int32) (vik : Nat → Int32) (l1 : Int32) (s1 : Int32) : Option (Int32 × (Nat → Int32) × (Nat → Int32) × (Nat → Int32)) := (bt2 (mX9_refused mi s1) (fun r_2 mi_3 => (if r_2 = 0 then (bo1 (mX9_copyState_117_234 vnw vkp (0 : Int32) ((117 : Int32) * l1)) (fun vkp_6 => (if ¬ (l1 < 0 ∨ 2 ≤ l1.toNatClampNeg) then (some ((vnw (116 : Int32).toNatClampNeg), mi_3, vkp_6, (upd vik l1.toNatClampNeg (1 : Int32)))) else none))) else (some ((0 : Int32), mi_3, vkp, vik)))))
def mX9_save (mi : Nat → Int32) (vnw : Nat → Int32) (vkp : Nat → Int32) (vik : Nat → Int32) (x0 : Int32) : Option (Int32 × (Nat → Int32) × (Nat → Int32) × (Nat → Int32)) := (if (mX9_in (x0.toInt64) (0 : Int64) (1 : Int64)) = 0 then (mX9_save_J16 mi vnw vkp vik x0 (1 : Int32)) else (mX9_save_J16 mi vnw vkp vik x0 (0 : Int32)))
set_option maxHeartbeats 4000000 in
set_option maxRecDepth 100000 in
theorem kX9_save (l : Launch) (Γ : my_G) (q_mo q_tt q_nw q_tr q_ot q_di q_kp q_ik q_wy q_ah q_tg q_ws q_fr q_rw : Nat) (mi : Nat → Int32) (vtt : Nat → Int32) (vnw : Nat → Int32) (vtr : Nat → Int32) (vot : Nat → Int32) (vdi : Nat → Int32) (vkp : Nat → Int32) (vik : Nat → Int32) (vwy : Nat → Int32) (vah : Nat → Int32) (vtg : Nat → Int32) (vws : Nat → Int32) (vfr : Nat → Int32) (vrw : Nat → Int32) (x0 : Int32) (rr : Int32) (mi_z : Nat → Int32) (vkp_z : Nat → Int32) (vik_z : Nat → Int32) (hm : mX9_save mi vnw vkp vik x0 = (some (rr, mi_z, vkp_z, vik_z))) : Mn l yX9_save wsX9_save ({ frames := 1, cells := 0, slots := 0, locals := 25 } : Room) Γ [.ref q_mo, .int x0] (wModel Γ q_mo q_tt q_nw q_tr q_ot q_di q_kp q_ik q_wy q_ah q_tg q_ws q_fr q_rw mi vtt vnw vtr vot vdi vkp vik vwy vah vtg vws vfr vrw) (some (.int rr)) (wModel Γ q_mo q_tt q_nw q_tr q_ot q_di q_kp q_ik q_wy q_ah q_tg q_ws q_fr q_rw mi_z vtt vnw vtr vot vdi vkp_z vik_z vwy vah vtg vws vfr vrw) := by
  intro sz
  refine Met.ofW (cc := cX9_save) (maxL := 2) (ret := (some .int)) (by decide) rfl ?_
  intro p e s m args below meth c s₁ B hml hv
  obtain ⟨rfl, hsz, hP, hK, hD0⟩ := hv
  have hx := B.exec
  have hb := B.bytes
  have hr := B.returns
  have hts := atoms_spec (ws := wsX9_save) B.pre
  have hown : s.vm.findClass RX9 = some m.cls := findClass_of_methodNamed B.named
  have hlocks := B.notSynchronized
  have hinX9 : ∀ w ∈ u_ws RX9 TX9 19, w ∈ wsX9_save := fun w h => List.mem_cons_of_mem _ (List.mem_append_right _ h)
  subst hsz
  have hD := hD0.self (sz := s.heap.size)
  have hA : ∀ q : Nat, s.heap.size ≤ q → va_A (wModel Γ q_mo q_tt q_nw q_tr q_ot q_di q_kp q_ik q_wy q_ah q_tg q_ws q_fr q_rw mi vtt vnw vtr vot vdi vkp vik vwy vah vtg vws vfr vrw) s.heap.size q := fun q h => Or.inr h
  generalize va_A (wModel Γ q_mo q_tt q_nw q_tr q_ot q_di q_kp q_ik q_wy q_ah q_tg q_ws q_fr q_rw mi vtt vnw vtr vot vdi vkp vik vwy vah vtg vws vfr vrw) s.heap.size = A at hD hA ⊢
  have hS : va_S A s.heap s.heap [] := va_S.rf
  have hl := lv_entry ([.ref q_mo, .int x0]) (n := 2) (Nat.le_of_ble_eq_true rfl)
  rw [lg_entry_eq]
  generalize (lg_sl ([.ref q_mo, .int x0]) ++ List.replicate (2 - (lg_sl ([.ref q_mo, .int x0])).length) Slot.unset).toArray = ls at hl ⊢
  replace hl : lv_has ls 2 [(0, .ref q_mo), (1, .int x0)] := hl
  have J_16 : ∀ (mi : Nat → Int32) (vnw : Nat → Int32) (vkp : Nat → Int32) (vik : Nat → Int32) (l1 : Int32) (s1 : Int32) (H : Heap) (locs : List Loc) (ls : Array Slot), va_P (my_D Γ) vwCl (wModel Γ q_mo q_tt q_nw q_tr q_ot q_di q_kp q_ik q_wy q_ah q_tg q_ws q_fr q_rw mi vtt vnw vtr vot vdi vkp vik vwy vah vtg vws vfr vrw) H → va_D A (wModel Γ q_mo q_tt q_nw q_tr q_ot q_di q_kp q_ik q_wy q_ah q_tg q_ws q_fr q_rw mi vtt vnw vtr vot vdi vkp vik vwy vah vtg vws vfr vrw) → va_S A s.heap H locs → lv_has ls 2 [(0, .ref q_mo), (1, .int l1)] → mX9_save_J16 mi vnw vkp vik l1 s1 = (some (rr, mi_z, vkp_z, vik_z)) → W p l e (headSpec wsX9_save ({ frames := 1, cells := 0, slots := 0, locals := 25 } : Room)).room s m ([.ref q_mo, .int x0] : List Value).toArray below meth c H locs 0 0 (MQ below (my_Q Γ A (some (.int rr)) (wModel Γ q_mo q_tt q_nw q_tr q_ot q_di q_kp q_ik q_wy q_ah q_tg q_ws q_fr q_rw mi_z vtt vnw vtr vot vdi vkp_z vik_z vwy vah vtg vws vfr vrw)) ([.ref q_mo, .int x0] : List Value).toArray s 0 0 A) (F0 m 16 ls [.int s1, .ref q_mo]) := by
    intro  mi vnw vkp vik l1 s1 H locs ls hP hD hS hl hm
    unfold mX9_save_J16 at hm
    obtain ⟨r_2, mi_3, hc_4, hm⟩ := bt2_s hm
    refine my_callP1 (wc := (wMo Γ q_mo q_tt q_nw q_tr q_ot q_di q_kp q_ik q_wy q_ah q_tg q_ws q_fr q_rw mi)) (w1 := (wMo Γ q_mo q_tt q_nw q_tr q_ot q_di q_kp q_ik q_wy q_ah q_tg q_ws q_fr q_rw mi_3)) (ws1 := (wModel Γ q_mo q_tt q_nw q_tr q_ot q_di q_kp q_ik q_wy q_ah q_tg q_ws q_fr q_rw mi_3 vtt vnw vtr vot vdi vkp vik vwy vah vtg vws vfr vrw)) hP hD hS hA [0] rfl rfl rfl (va_runV (As := [.int s1]) (rest := []) ⟨hx, hb, hml, hown, hts⟩ (kX9_refused l Γ q_mo q_tt q_nw q_tr q_ot q_di q_kp q_ik q_wy q_ah q_tg q_ws q_fr q_rw mi s1 r_2 mi_3 hc_4 _) (cwV 1 hts gX9_save_X9_refused rfl rfl rfl (by decide +kernel) ⟨Nat.le_of_ble_eq_true rfl, Nat.le_of_ble_eq_true rfl⟩) (my_preV (wc := (wMo Γ q_mo q_tt q_nw q_tr q_ot q_di q_kp q_ik q_wy q_ah q_tg q_ws q_fr q_rw mi)) (ci := 7) (q0 := 0) [0] hK hP hD rfl rfl rfl rfl) rfl rfl hl.1 rfl (lv_room (Nat.le_of_ble_eq_true rfl)) dX9_save_16 ⟨Nat.le_of_ble_eq_true rfl, Nat.le_of_ble_eq_true rfl⟩) (fun H locs hP hD hS => ?_)
    refine lv_if_eq (tgt := 24) hx hb dX9_save_19 (by decide) (fun c_5 => ?_) (fun c_5 => ?_)
    · replace hm := if_s hm c_5
      refine lv_aload_n hx hb dX9_save_24 rfl (lv_at hl 0 rfl) ?_
      refine va_get (D := my_D Γ) (ci := 7) (v := .ref q_nw) (C := RX9) (T := TX9) (N := 19) hx hb hts hinX9 hown hK hP 0 rfl rfl 3 (by decide) (hts (.fieldLink RX9 13 "BeltFloorModel" "now" "[I") (List.mem_of_getElem? (i := 1) rfl)) (fun _ h9 => h9) rfl dX9_save_25 ?_
      refine lv_iconst (v := (0 : Int32)) hx hb dX9_save_28 (by decide) ?_
      refine lv_aload_n hx hb dX9_save_29 rfl (lv_at hl 0 rfl) ?_
      refine va_get (D := my_D Γ) (ci := 7) (v := .ref q_kp) (C := RX9) (T := TX9) (N := 19) hx hb hts hinX9 hown hK hP 0 rfl rfl 8 (by decide) (hts (.fieldLink RX9 25 "BeltFloorModel" "kept" "[I") (List.mem_of_getElem? (i := 2) rfl)) (fun _ h9 => h9) rfl dX9_save_30 ?_
      refine lv_bipush (v := (117 : Int32)) hx hb dX9_save_33 (by decide) ?_
      refine lv_iload_n hx hb dX9_save_35 rfl (lv_at hl 1 rfl) ?_
      refine lv_imul hx hb dX9_save_36 ?_
      obtain ⟨vkp_6, hc_7, hm⟩ := bo1_s hm
      refine my_callP0 (wc := (wArr117 Γ q_nw vnw ++ wArr234 Γ q_kp vkp)) (w1 := (wArr117 Γ q_nw vnw ++ wArr234 Γ q_kp vkp_6)) (ws1 := (wModel Γ q_mo q_tt q_nw q_tr q_ot q_di q_kp q_ik q_wy q_ah q_tg q_ws q_fr q_rw mi_3 vtt vnw vtr vot vdi vkp_6 vik vwy vah vtg vws vfr vrw)) hP hD hS hA [2, 6] rfl rfl rfl (va_runS (As := [.ref q_nw, .int (0 : Int32), .ref q_kp, .int ((117 : Int32) * l1)]) (rest := []) ⟨hx, hb, hml, hown, hts⟩ (kX9_copyState_117_234 l Γ q_nw q_kp vnw vkp (0 : Int32) ((117 : Int32) * l1) vkp_6 hc_7 _) (va_cwS 4 hts gX9_save_X9_copyState rfl rfl rfl (by decide +kernel) ⟨Nat.le_of_ble_eq_true rfl, Nat.le_of_ble_eq_true rfl⟩) (my_preS (wc := (wArr117 Γ q_nw vnw ++ wArr234 Γ q_kp vkp)) [2, 6] hK hP hD rfl rfl) rfl rfl hl.1 rfl (lv_room (Nat.le_of_ble_eq_true rfl)) dX9_save_37 ⟨Nat.le_of_ble_eq_true rfl, Nat.le_of_ble_eq_true rfl⟩) (fun H locs hP hD hS => ?_)
      refine lv_aload_n hx hb dX9_save_40 rfl (lv_at hl 0 rfl) ?_
      refine va_get (D := my_D Γ) (ci := 7) (v := .ref q_ik) (C := RX9) (T := TX9) (N := 19) hx hb hts hinX9 hown hK hP 0 rfl rfl 9 (by decide) (hts (.fieldLink RX9 28 "BeltFloorModel" "isKept" "[Z") (List.mem_of_getElem? (i := 3) rfl)) (fun _ h9 => h9) rfl dX9_save_41 ?_
      refine lv_iload_n hx hb dX9_save_44 rfl (lv_at hl 1 rfl) ?_
      refine lv_iconst (v := (1 : Int32)) hx hb dX9_save_45 (by decide) ?_
      obtain ⟨hi_8, hm⟩ := if_in hm
      refine va_zast hx hb hK hP hD hS 7 2 rfl rfl hi_8 dX9_save_46 (fun H locs hP hD hS => ?_)
      replace hP : va_P (my_D Γ) vwCl (wModel Γ q_mo q_tt q_nw q_tr q_ot q_di q_kp q_ik q_wy q_ah q_tg q_ws q_fr q_rw mi_3 vtt vnw vtr vot vdi vkp_6 (upd vik l1.toNatClampNeg (1 : Int32)) vwy vah vtg vws vfr vrw) H := hP
      replace hD : va_D A (wModel Γ q_mo q_tt q_nw q_tr q_ot q_di q_kp q_ik q_wy q_ah q_tg q_ws q_fr q_rw mi_3 vtt vnw vtr vot vdi vkp_6 (upd vik l1.toNatClampNeg (1 : Int32)) vwy vah vtg vws vfr vrw) := hD
      refine lv_aload_n hx hb dX9_save_47 rfl (lv_at hl 0 rfl) ?_
      refine va_get (D := my_D Γ) (ci := 7) (v := .ref q_nw) (C := RX9) (T := TX9) (N := 19) hx hb hts hinX9 hown hK hP 0 rfl rfl 3 (by decide) (hts (.fieldLink RX9 13 "BeltFloorModel" "now" "[I") (List.mem_of_getElem? (i := 1) rfl)) (fun _ h9 => h9) rfl dX9_save_48 ?_
      refine lv_bipush (v := (116 : Int32)) hx hb dX9_save_51 (by decide) ?_
      refine va_iald hx hb hK hP 2 0 rfl rfl (show vp_in (116 : Int32) 117 from (by decide : ¬ ((116 : Int32) < 0 ∨ 117 ≤ (116 : Int32).toNatClampNeg))) dX9_save_53 ?_
      obtain ⟨hf0, hf1, hf2, hf3⟩ := si4 hm
      subst hf0
      subst hf1
      subst hf2
      subst hf3
      exact W.iret (v := (vnw (116 : Int32).toNatClampNeg)) hx hb hr (fun t ht hW => ⟨⟨rfl, by rw [ht]; exact hP⟩, hS.F ht⟩) hS.2.2 dX9_save_54
    · replace hm := if_f hm c_5
      refine lv_iconst (v := (0 : Int32)) hx hb dX9_save_22 (by decide) ?_
      obtain ⟨hf0, hf1, hf2, hf3⟩ := si4 hm
      subst hf0
      subst hf1
      subst hf2
      subst hf3
      exact W.iret (v := (0 : Int32)) hx hb hr (fun t ht hW => ⟨⟨rfl, by rw [ht]; exact hP⟩, hS.F ht⟩) hS.2.2 dX9_save_23
  unfold mX9_save at hm
  refine lv_aload_n hx hb dX9_save_0 rfl (lv_at hl 0 rfl) ?_
  refine lv_iload_n hx hb dX9_save_1 rfl (lv_at hl 1 rfl) ?_
  refine lv_i2l (v := x0.toInt64) hx hb dX9_save_2 rfl ?_
  refine lv_lconst (v := (0 : Int64)) hx hb dX9_save_3 (by decide) ?_
  refine lv_lconst (v := (1 : Int64)) hx hb dX9_save_4 (by decide) ?_
  refine my_callP1 (wc := ([] : va_W)) (w1 := ([] : va_W)) (ws1 := (wModel Γ q_mo q_tt q_nw q_tr q_ot q_di q_kp q_ik q_wy q_ah q_tg q_ws q_fr q_rw mi vtt vnw vtr vot vdi vkp vik vwy vah vtg vws vfr vrw)) hP hD hS hA [] rfl rfl rfl (va_runS (As := [.long (x0.toInt64), .long (0 : Int64), .long (1 : Int64)]) (rest := [.ref q_mo]) ⟨hx, hb, hml, hown, hts⟩ (kX9_in l Γ (x0.toInt64) (0 : Int64) (1 : Int64) (mX9_in (x0.toInt64) (0 : Int64) (1 : Int64)) rfl _) (va_cwS 3 hts gX9_save_X9_in rfl rfl rfl (by decide +kernel) ⟨Nat.le_of_ble_eq_true rfl, Nat.le_of_ble_eq_true rfl⟩) (my_preS (wc := ([] : va_W)) [] hK hP hD rfl rfl) rfl rfl hl.1 rfl (lv_room (Nat.le_of_ble_eq_true rfl)) dX9_save_5 ⟨Nat.le_of_ble_eq_true rfl, Nat.le_of_ble_eq_true rfl⟩) (fun H locs hP hD hS => ?_)
  refine lv_if_eq (tgt := 15) hx hb dX9_save_8 (by decide) (fun c_1 => ?_) (fun c_1 => ?_)
  · replace hm := if_s hm c_1
    refine lv_iconst (v := (1 : Int32)) hx hb dX9_save_15 (by decide) ?_
    exact J_16 mi vnw vkp vik x0 (1 : Int32) _ _ _ hP hD hS (lv_sub hl [0, 1] rfl) hm
  · replace hm := if_f hm c_1
    refine lv_iconst (v := (0 : Int32)) hx hb dX9_save_11 (by decide) ?_
    refine lv_goto (tgt := 16) hx hb dX9_save_12 (by decide) ?_
    exact J_16 mi vnw vkp vik x0 (0 : Int32) _ _ _ hP hD hS (lv_sub hl [0, 1] rfl) hm
def mX9_restore_J29  (mi : Nat → Int32) (vnw : Nat → Int32) (vkp : Nat → Int32) (vik : Nat → Int32) (l1 : Int32) (s1 : Int32) : Option (Int32 × (Nat → Int32) × (Nat → Int32)) := (bt2 (mX9_refused mi s1) (fun r_4 mi_5 => (if r_4 = 0 then (bo1 (mX9_copyState_234_117 vkp vnw ((117 : Int32) * l1) (0 : Int32)) (fun vnw_8 => (some ((vnw_8 (116 : Int32).toNatClampNeg), (upd mi_5 7 (0 : Int32)), vnw_8)))) else (some ((0 : Int32), mi_5, vnw)))))
def mX9_restore (mi : Nat → Int32) (vnw : Nat → Int32) (vkp : Nat → Int32) (vik : Nat → Int32) (x0 : Int32) : Option (Int32 × (Nat → Int32) × (Nat → Int32)) := (if (mX9_in (x0.toInt64) (0 : Int64) (1 : Int64)) = 0 then (mX9_restore_J29 mi vnw vkp vik x0 (1 : Int32)) else (if ¬ (x0 < 0 ∨ 2 ≤ x0.toNatClampNeg) then (if (vik x0.toNatClampNeg) = 0 then (mX9_restore_J29 mi vnw vkp vik x0 (2 : Int32)) else (mX9_restore_J29 mi vnw vkp vik x0 (0 : Int32))) else none))
set_option maxHeartbeats 4000000 in
set_option maxRecDepth 100000 in
theorem kX9_restore (l : Launch) (Γ : my_G) (q_mo q_tt q_nw q_tr q_ot q_di q_kp q_ik q_wy q_ah q_tg q_ws q_fr q_rw : Nat) (mi : Nat → Int32) (vtt : Nat → Int32) (vnw : Nat → Int32) (vtr : Nat → Int32) (vot : Nat → Int32) (vdi : Nat → Int32) (vkp : Nat → Int32) (vik : Nat → Int32) (vwy : Nat → Int32) (vah : Nat → Int32) (vtg : Nat → Int32) (vws : Nat → Int32) (vfr : Nat → Int32) (vrw : Nat → Int32) (x0 : Int32) (rr : Int32) (mi_z : Nat → Int32) (vnw_z : Nat → Int32) (hm : mX9_restore mi vnw vkp vik x0 = (some (rr, mi_z, vnw_z))) : Mn l yX9_restore wsX9_restore ({ frames := 1, cells := 0, slots := 0, locals := 25 } : Room) Γ [.ref q_mo, .int x0] (wModel Γ q_mo q_tt q_nw q_tr q_ot q_di q_kp q_ik q_wy q_ah q_tg q_ws q_fr q_rw mi vtt vnw vtr vot vdi vkp vik vwy vah vtg vws vfr vrw) (some (.int rr)) (wModel Γ q_mo q_tt q_nw q_tr q_ot q_di q_kp q_ik q_wy q_ah q_tg q_ws q_fr q_rw mi_z vtt vnw_z vtr vot vdi vkp vik vwy vah vtg vws vfr vrw) := by
  intro sz
  refine Met.ofW (cc := cX9_restore) (maxL := 2) (ret := (some .int)) (by decide) rfl ?_
  intro p e s m args below meth c s₁ B hml hv
  obtain ⟨rfl, hsz, hP, hK, hD0⟩ := hv
  have hx := B.exec
  have hb := B.bytes
  have hr := B.returns
  have hts := atoms_spec (ws := wsX9_restore) B.pre
  have hown : s.vm.findClass RX9 = some m.cls := findClass_of_methodNamed B.named
  have hlocks := B.notSynchronized
  have hinX9 : ∀ w ∈ u_ws RX9 TX9 19, w ∈ wsX9_restore := fun w h => List.mem_cons_of_mem _ (List.mem_append_right _ h)
  subst hsz
  have hD := hD0.self (sz := s.heap.size)
  have hA : ∀ q : Nat, s.heap.size ≤ q → va_A (wModel Γ q_mo q_tt q_nw q_tr q_ot q_di q_kp q_ik q_wy q_ah q_tg q_ws q_fr q_rw mi vtt vnw vtr vot vdi vkp vik vwy vah vtg vws vfr vrw) s.heap.size q := fun q h => Or.inr h
  generalize va_A (wModel Γ q_mo q_tt q_nw q_tr q_ot q_di q_kp q_ik q_wy q_ah q_tg q_ws q_fr q_rw mi vtt vnw vtr vot vdi vkp vik vwy vah vtg vws vfr vrw) s.heap.size = A at hD hA ⊢
  have hS : va_S A s.heap s.heap [] := va_S.rf
  have hl := lv_entry ([.ref q_mo, .int x0]) (n := 2) (Nat.le_of_ble_eq_true rfl)
  rw [lg_entry_eq]
  generalize (lg_sl ([.ref q_mo, .int x0]) ++ List.replicate (2 - (lg_sl ([.ref q_mo, .int x0])).length) Slot.unset).toArray = ls at hl ⊢
  replace hl : lv_has ls 2 [(0, .ref q_mo), (1, .int x0)] := hl
  have J_29 : ∀ (mi : Nat → Int32) (vnw : Nat → Int32) (vkp : Nat → Int32) (vik : Nat → Int32) (l1 : Int32) (s1 : Int32) (H : Heap) (locs : List Loc) (ls : Array Slot), va_P (my_D Γ) vwCl (wModel Γ q_mo q_tt q_nw q_tr q_ot q_di q_kp q_ik q_wy q_ah q_tg q_ws q_fr q_rw mi vtt vnw vtr vot vdi vkp vik vwy vah vtg vws vfr vrw) H → va_D A (wModel Γ q_mo q_tt q_nw q_tr q_ot q_di q_kp q_ik q_wy q_ah q_tg q_ws q_fr q_rw mi vtt vnw vtr vot vdi vkp vik vwy vah vtg vws vfr vrw) → va_S A s.heap H locs → lv_has ls 2 [(0, .ref q_mo), (1, .int l1)] → mX9_restore_J29 mi vnw vkp vik l1 s1 = (some (rr, mi_z, vnw_z)) → W p l e (headSpec wsX9_restore ({ frames := 1, cells := 0, slots := 0, locals := 25 } : Room)).room s m ([.ref q_mo, .int x0] : List Value).toArray below meth c H locs 0 0 (MQ below (my_Q Γ A (some (.int rr)) (wModel Γ q_mo q_tt q_nw q_tr q_ot q_di q_kp q_ik q_wy q_ah q_tg q_ws q_fr q_rw mi_z vtt vnw_z vtr vot vdi vkp vik vwy vah vtg vws vfr vrw)) ([.ref q_mo, .int x0] : List Value).toArray s 0 0 A) (F0 m 29 ls [.int s1, .ref q_mo]) := by
    intro  mi vnw vkp vik l1 s1 H locs ls hP hD hS hl hm
    unfold mX9_restore_J29 at hm
    obtain ⟨r_4, mi_5, hc_6, hm⟩ := bt2_s hm
    refine my_callP1 (wc := (wMo Γ q_mo q_tt q_nw q_tr q_ot q_di q_kp q_ik q_wy q_ah q_tg q_ws q_fr q_rw mi)) (w1 := (wMo Γ q_mo q_tt q_nw q_tr q_ot q_di q_kp q_ik q_wy q_ah q_tg q_ws q_fr q_rw mi_5)) (ws1 := (wModel Γ q_mo q_tt q_nw q_tr q_ot q_di q_kp q_ik q_wy q_ah q_tg q_ws q_fr q_rw mi_5 vtt vnw vtr vot vdi vkp vik vwy vah vtg vws vfr vrw)) hP hD hS hA [0] rfl rfl rfl (va_runV (As := [.int s1]) (rest := []) ⟨hx, hb, hml, hown, hts⟩ (kX9_refused l Γ q_mo q_tt q_nw q_tr q_ot q_di q_kp q_ik q_wy q_ah q_tg q_ws q_fr q_rw mi s1 r_4 mi_5 hc_6 _) (cwV 1 hts gX9_restore_X9_refused rfl rfl rfl (by decide +kernel) ⟨Nat.le_of_ble_eq_true rfl, Nat.le_of_ble_eq_true rfl⟩) (my_preV (wc := (wMo Γ q_mo q_tt q_nw q_tr q_ot q_di q_kp q_ik q_wy q_ah q_tg q_ws q_fr q_rw mi)) (ci := 7) (q0 := 0) [0] hK hP hD rfl rfl rfl rfl) rfl rfl hl.1 rfl (lv_room (Nat.le_of_ble_eq_true rfl)) dX9_restore_29 ⟨Nat.le_of_ble_eq_true rfl, Nat.le_of_ble_eq_true rfl⟩) (fun H locs hP hD hS => ?_)
    refine lv_if_eq (tgt := 37) hx hb dX9_restore_32 (by decide) (fun c_7 => ?_) (fun c_7 => ?_)
    · replace hm := if_s hm c_7
      refine lv_aload_n hx hb dX9_restore_37 rfl (lv_at hl 0 rfl) ?_
      refine va_get (D := my_D Γ) (ci := 7) (v := .ref q_kp) (C := RX9) (T := TX9) (N := 19) hx hb hts hinX9 hown hK hP 0 rfl rfl 8 (by decide) (hts (.fieldLink RX9 25 "BeltFloorModel" "kept" "[I") (List.mem_of_getElem? (i := 2) rfl)) (fun _ h9 => h9) rfl dX9_restore_38 ?_
      refine lv_bipush (v := (117 : Int32)) hx hb dX9_restore_41 (by decide) ?_
      refine lv_iload_n hx hb dX9_restore_43 rfl (lv_at hl 1 rfl) ?_
      refine lv_imul hx hb dX9_restore_44 ?_
      refine lv_aload_n hx hb dX9_restore_45 rfl (lv_at hl 0 rfl) ?_
      refine va_get (D := my_D Γ) (ci := 7) (v := .ref q_nw) (C := RX9) (T := TX9) (N := 19) hx hb hts hinX9 hown hK hP 0 rfl rfl 3 (by decide) (hts (.fieldLink RX9 13 "BeltFloorModel" "now" "[I") (List.mem_of_getElem? (i := 3) rfl)) (fun _ h9 => h9) rfl dX9_restore_46 ?_
      refine lv_iconst (v := (0 : Int32)) hx hb dX9_restore_49 (by decide) ?_
      obtain ⟨vnw_8, hc_9, hm⟩ := bo1_s hm
      refine my_callP0 (wc := (wArr234 Γ q_kp vkp ++ wArr117 Γ q_nw vnw)) (w1 := (wArr234 Γ q_kp vkp ++ wArr117 Γ q_nw vnw_8)) (ws1 := (wModel Γ q_mo q_tt q_nw q_tr q_ot q_di q_kp q_ik q_wy q_ah q_tg q_ws q_fr q_rw mi_5 vtt vnw_8 vtr vot vdi vkp vik vwy vah vtg vws vfr vrw)) hP hD hS hA [6, 2] rfl rfl rfl (va_runS (As := [.ref q_kp, .int ((117 : Int32) * l1), .ref q_nw, .int (0 : Int32)]) (rest := []) ⟨hx, hb, hml, hown, hts⟩ (kX9_copyState_234_117 l Γ q_kp q_nw vkp vnw ((117 : Int32) * l1) (0 : Int32) vnw_8 hc_9 _) (va_cwS 4 hts gX9_restore_X9_copyState rfl rfl rfl (by decide +kernel) ⟨Nat.le_of_ble_eq_true rfl, Nat.le_of_ble_eq_true rfl⟩) (my_preS (wc := (wArr234 Γ q_kp vkp ++ wArr117 Γ q_nw vnw)) [6, 2] hK hP hD rfl rfl) rfl rfl hl.1 rfl (lv_room (Nat.le_of_ble_eq_true rfl)) dX9_restore_50 ⟨Nat.le_of_ble_eq_true rfl, Nat.le_of_ble_eq_true rfl⟩) (fun H locs hP hD hS => ?_)
      refine lv_aload_n hx hb dX9_restore_53 rfl (lv_at hl 0 rfl) ?_
      refine lv_iconst (v := (0 : Int32)) hx hb dX9_restore_54 (by decide) ?_
      refine va_put (D := my_D Γ) (ci := 7) (v := .int (0 : Int32)) (ty := .int) (C := RX9) (T := TX9) (N := 19) hx hb hts hinX9 tyX9 tyX9_ok nmX9 hown hK hP hD hS 0 rfl rfl 7 (by decide) (hts (.fieldLink RX9 224 "BeltFloorModel" "acts" "I") (List.mem_of_getElem? (i := 4) rfl)) (fun _ h9 => h9) rfl (by decide +kernel) rfl rfl (Nat.le_of_ble_eq_true rfl) dX9_restore_55 (fun H locs hP hD hS => ?_)
      replace hP : va_P (my_D Γ) vwCl (wModel Γ q_mo q_tt q_nw q_tr q_ot q_di q_kp q_ik q_wy q_ah q_tg q_ws q_fr q_rw (upd mi_5 7 (0 : Int32)) vtt vnw_8 vtr vot vdi vkp vik vwy vah vtg vws vfr vrw) H := hP
      replace hD : va_D A (wModel Γ q_mo q_tt q_nw q_tr q_ot q_di q_kp q_ik q_wy q_ah q_tg q_ws q_fr q_rw (upd mi_5 7 (0 : Int32)) vtt vnw_8 vtr vot vdi vkp vik vwy vah vtg vws vfr vrw) := hD
      refine lv_aload_n hx hb dX9_restore_58 rfl (lv_at hl 0 rfl) ?_
      refine va_get (D := my_D Γ) (ci := 7) (v := .ref q_nw) (C := RX9) (T := TX9) (N := 19) hx hb hts hinX9 hown hK hP 0 rfl rfl 3 (by decide) (hts (.fieldLink RX9 13 "BeltFloorModel" "now" "[I") (List.mem_of_getElem? (i := 3) rfl)) (fun _ h9 => h9) rfl dX9_restore_59 ?_
      refine lv_bipush (v := (116 : Int32)) hx hb dX9_restore_62 (by decide) ?_
      refine va_iald hx hb hK hP 2 0 rfl rfl (show vp_in (116 : Int32) 117 from (by decide : ¬ ((116 : Int32) < 0 ∨ 117 ≤ (116 : Int32).toNatClampNeg))) dX9_restore_64 ?_
      obtain ⟨hf0, hf1, hf2⟩ := si3 hm
      subst hf0
      subst hf1
      subst hf2
      exact W.iret (v := (vnw_8 (116 : Int32).toNatClampNeg)) hx hb hr (fun t ht hW => ⟨⟨rfl, by rw [ht]; exact hP⟩, hS.F ht⟩) hS.2.2 dX9_restore_65
    · replace hm := if_f hm c_7
      refine lv_iconst (v := (0 : Int32)) hx hb dX9_restore_35 (by decide) ?_
      obtain ⟨hf0, hf1, hf2⟩ := si3 hm
      subst hf0
      subst hf1
      subst hf2
      exact W.iret (v := (0 : Int32)) hx hb hr (fun t ht hW => ⟨⟨rfl, by rw [ht]; exact hP⟩, hS.F ht⟩) hS.2.2 dX9_restore_36
  unfold mX9_restore at hm
  refine lv_aload_n hx hb dX9_restore_0 rfl (lv_at hl 0 rfl) ?_
  refine lv_iload_n hx hb dX9_restore_1 rfl (lv_at hl 1 rfl) ?_
  refine lv_i2l (v := x0.toInt64) hx hb dX9_restore_2 rfl ?_
  refine lv_lconst (v := (0 : Int64)) hx hb dX9_restore_3 (by decide) ?_
  refine lv_lconst (v := (1 : Int64)) hx hb dX9_restore_4 (by decide) ?_
  refine my_callP1 (wc := ([] : va_W)) (w1 := ([] : va_W)) (ws1 := (wModel Γ q_mo q_tt q_nw q_tr q_ot q_di q_kp q_ik q_wy q_ah q_tg q_ws q_fr q_rw mi vtt vnw vtr vot vdi vkp vik vwy vah vtg vws vfr vrw)) hP hD hS hA [] rfl rfl rfl (va_runS (As := [.long (x0.toInt64), .long (0 : Int64), .long (1 : Int64)]) (rest := [.ref q_mo]) ⟨hx, hb, hml, hown, hts⟩ (kX9_in l Γ (x0.toInt64) (0 : Int64) (1 : Int64) (mX9_in (x0.toInt64) (0 : Int64) (1 : Int64)) rfl _) (va_cwS 3 hts gX9_restore_X9_in rfl rfl rfl (by decide +kernel) ⟨Nat.le_of_ble_eq_true rfl, Nat.le_of_ble_eq_true rfl⟩) (my_preS (wc := ([] : va_W)) [] hK hP hD rfl rfl) rfl rfl hl.1 rfl (lv_room (Nat.le_of_ble_eq_true rfl)) dX9_restore_5 ⟨Nat.le_of_ble_eq_true rfl, Nat.le_of_ble_eq_true rfl⟩) (fun H locs hP hD hS => ?_)
  refine lv_if_ne (tgt := 15) hx hb dX9_restore_8 (by decide) (fun c_1 => ?_) (fun c_1 => ?_)
  · replace hm := if_f hm c_1
    refine lv_aload_n hx hb dX9_restore_15 rfl (lv_at hl 0 rfl) ?_
    refine va_get (D := my_D Γ) (ci := 7) (v := .ref q_ik) (C := RX9) (T := TX9) (N := 19) hx hb hts hinX9 hown hK hP 0 rfl rfl 9 (by decide) (hts (.fieldLink RX9 28 "BeltFloorModel" "isKept" "[Z") (List.mem_of_getElem? (i := 1) rfl)) (fun _ h9 => h9) rfl dX9_restore_16 ?_
    refine lv_iload_n hx hb dX9_restore_19 rfl (lv_at hl 1 rfl) ?_
    obtain ⟨hi_2, hm⟩ := if_in hm
    refine va_zald hx hb hK hP 7 2 rfl rfl hi_2 dX9_restore_20 ?_
    refine lv_if_ne (tgt := 28) hx hb dX9_restore_21 (by decide) (fun c_3 => ?_) (fun c_3 => ?_)
    · replace hm := if_f hm c_3
      refine lv_iconst (v := (0 : Int32)) hx hb dX9_restore_28 (by decide) ?_
      exact J_29 mi vnw vkp vik x0 (0 : Int32) _ _ _ hP hD hS (lv_sub hl [0, 1] rfl) hm
    · replace hm := if_s hm c_3
      refine lv_iconst (v := (2 : Int32)) hx hb dX9_restore_24 (by decide) ?_
      refine lv_goto (tgt := 29) hx hb dX9_restore_25 (by decide) ?_
      exact J_29 mi vnw vkp vik x0 (2 : Int32) _ _ _ hP hD hS (lv_sub hl [0, 1] rfl) hm
  · replace hm := if_s hm c_1
    refine lv_iconst (v := (1 : Int32)) hx hb dX9_restore_11 (by decide) ?_
    refine lv_goto (tgt := 29) hx hb dX9_restore_12 (by decide) ?_
    exact J_29 mi vnw vkp vik x0 (1 : Int32) _ _ _ hP hD hS (lv_sub hl [0, 1] rfl) hm
