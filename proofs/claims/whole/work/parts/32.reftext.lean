def mX9_thrown (mi : Nat → Int32) : Int32 := (mi 0)
set_option maxHeartbeats 4000000 in
set_option maxRecDepth 100000 in
theorem kX9_thrown (l : Launch) (Γ : my_G) (q_mo q_tt q_nw q_tr q_ot q_di q_kp q_ik q_wy q_ah q_tg q_ws q_fr q_rw : Nat) (mi : Nat → Int32)  (rr : Int32) (hm : mX9_thrown mi = rr) : Mn l yX9_thrown wsX9_thrown ({ frames := 0, cells := 0, slots := 0, locals := 0 } : Room) Γ [.ref q_mo] (wMo Γ q_mo q_tt q_nw q_tr q_ot q_di q_kp q_ik q_wy q_ah q_tg q_ws q_fr q_rw mi) (some (.int rr)) (wMo Γ q_mo q_tt q_nw q_tr q_ot q_di q_kp q_ik q_wy q_ah q_tg q_ws q_fr q_rw mi) := by
  intro sz
  refine Met.ofW (cc := cX9_thrown) (maxL := 1) (ret := (some .int)) (by decide) rfl ?_
  intro p e s m args below meth c s₁ B hml hv
  obtain ⟨rfl, hsz, hP, hK, hD0⟩ := hv
  have hx := B.exec
  have hb := B.bytes
  have hr := B.returns
  have hts := atoms_spec (ws := wsX9_thrown) B.pre
  have hown : s.vm.findClass RX9 = some m.cls := findClass_of_methodNamed B.named
  have hlocks := B.notSynchronized
  have hinX9 : ∀ w ∈ u_ws RX9 TX9 19, w ∈ wsX9_thrown := fun w h => List.mem_cons_of_mem _ (List.mem_append_right _ h)
  subst hsz
  have hD := hD0.self (sz := s.heap.size)
  have hA : ∀ q : Nat, s.heap.size ≤ q → va_A (wMo Γ q_mo q_tt q_nw q_tr q_ot q_di q_kp q_ik q_wy q_ah q_tg q_ws q_fr q_rw mi) s.heap.size q := fun q h => Or.inr h
  generalize va_A (wMo Γ q_mo q_tt q_nw q_tr q_ot q_di q_kp q_ik q_wy q_ah q_tg q_ws q_fr q_rw mi) s.heap.size = A at hD hA ⊢
  have hS : va_S A s.heap s.heap [] := va_S.rf
  have hl := lv_entry ([.ref q_mo]) (n := 1) (Nat.le_of_ble_eq_true rfl)
  rw [lg_entry_eq]
  generalize (lg_sl ([.ref q_mo]) ++ List.replicate (1 - (lg_sl ([.ref q_mo])).length) Slot.unset).toArray = ls at hl ⊢
  replace hl : lv_has ls 1 [(0, .ref q_mo)] := hl
  unfold mX9_thrown at hm
  refine lv_aload_n hx hb dX9_thrown_0 rfl (lv_at hl 0 rfl) ?_
  refine va_get (D := my_D Γ) (ci := 7) (v := .int (mi 0)) (C := RX9) (T := TX9) (N := 19) hx hb hts hinX9 hown hK hP 0 rfl rfl 0 (by decide) (hts (.fieldLink RX9 54 "BeltFloorModel" "refusal" "I") (List.mem_of_getElem? (i := 1) rfl)) (fun _ h9 => h9) rfl dX9_thrown_1 ?_
  have hf0 := hm
  subst hf0
  exact W.iret (v := (mi 0)) hx hb hr (fun t ht hW => ⟨⟨rfl, by rw [ht]; exact hP⟩, hS.F ht⟩) hS.2.2 dX9_thrown_4
def mX9_refused (mi : Nat → Int32) (x0 : Int32) : Int32 × (Nat → Int32) := (if x0 ≤ 0 then ((0 : Int32), (upd mi 0 x0)) else ((1 : Int32), (upd mi 0 x0)))
set_option maxHeartbeats 4000000 in
set_option maxRecDepth 100000 in
theorem kX9_refused (l : Launch) (Γ : my_G) (q_mo q_tt q_nw q_tr q_ot q_di q_kp q_ik q_wy q_ah q_tg q_ws q_fr q_rw : Nat) (mi : Nat → Int32) (x0 : Int32) (rr : Int32) (mi_z : Nat → Int32) (hm : mX9_refused mi x0 = (rr, mi_z)) : Mn l yX9_refused wsX9_refused ({ frames := 0, cells := 0, slots := 0, locals := 0 } : Room) Γ [.ref q_mo, .int x0] (wMo Γ q_mo q_tt q_nw q_tr q_ot q_di q_kp q_ik q_wy q_ah q_tg q_ws q_fr q_rw mi) (some (.int rr)) (wMo Γ q_mo q_tt q_nw q_tr q_ot q_di q_kp q_ik q_wy q_ah q_tg q_ws q_fr q_rw mi_z) := by
  intro sz
  refine Met.ofW (cc := cX9_refused) (maxL := 2) (ret := (some .boolean)) (by decide) rfl ?_
  intro p e s m args below meth c s₁ B hml hv
  obtain ⟨rfl, hsz, hP, hK, hD0⟩ := hv
  have hx := B.exec
  have hb := B.bytes
  have hr := B.returns
  have hts := atoms_spec (ws := wsX9_refused) B.pre
  have hown : s.vm.findClass RX9 = some m.cls := findClass_of_methodNamed B.named
  have hlocks := B.notSynchronized
  have hinX9 : ∀ w ∈ u_ws RX9 TX9 19, w ∈ wsX9_refused := fun w h => List.mem_cons_of_mem _ (List.mem_append_right _ h)
  subst hsz
  have hD := hD0.self (sz := s.heap.size)
  have hA : ∀ q : Nat, s.heap.size ≤ q → va_A (wMo Γ q_mo q_tt q_nw q_tr q_ot q_di q_kp q_ik q_wy q_ah q_tg q_ws q_fr q_rw mi) s.heap.size q := fun q h => Or.inr h
  generalize va_A (wMo Γ q_mo q_tt q_nw q_tr q_ot q_di q_kp q_ik q_wy q_ah q_tg q_ws q_fr q_rw mi) s.heap.size = A at hD hA ⊢
  have hS : va_S A s.heap s.heap [] := va_S.rf
  have hl := lv_entry ([.ref q_mo, .int x0]) (n := 2) (Nat.le_of_ble_eq_true rfl)
  rw [lg_entry_eq]
  generalize (lg_sl ([.ref q_mo, .int x0]) ++ List.replicate (2 - (lg_sl ([.ref q_mo, .int x0])).length) Slot.unset).toArray = ls at hl ⊢
  replace hl : lv_has ls 2 [(0, .ref q_mo), (1, .int x0)] := hl
  unfold mX9_refused at hm
  refine lv_aload_n hx hb dX9_refused_0 rfl (lv_at hl 0 rfl) ?_
  refine lv_iload_n hx hb dX9_refused_1 rfl (lv_at hl 1 rfl) ?_
  refine va_put (D := my_D Γ) (ci := 7) (v := .int x0) (ty := .int) (C := RX9) (T := TX9) (N := 19) hx hb hts hinX9 tyX9 tyX9_ok nmX9 hown hK hP hD hS 0 rfl rfl 0 (by decide) (hts (.fieldLink RX9 54 "BeltFloorModel" "refusal" "I") (List.mem_of_getElem? (i := 1) rfl)) (fun _ h9 => h9) rfl (by decide +kernel) rfl rfl (Nat.le_of_ble_eq_true rfl) dX9_refused_2 (fun H locs hP hD hS => ?_)
  replace hP : va_P (my_D Γ) vwCl (wMo Γ q_mo q_tt q_nw q_tr q_ot q_di q_kp q_ik q_wy q_ah q_tg q_ws q_fr q_rw (upd mi 0 x0)) H := hP
  replace hD : va_D A (wMo Γ q_mo q_tt q_nw q_tr q_ot q_di q_kp q_ik q_wy q_ah q_tg q_ws q_fr q_rw (upd mi 0 x0)) := hD
  refine lv_iload_n hx hb dX9_refused_5 rfl (lv_at hl 1 rfl) ?_
  refine lv_if_le (tgt := 13) hx hb dX9_refused_6 (by decide) (fun c_1 => ?_) (fun c_1 => ?_)
  · replace hm := if_s hm c_1
    refine lv_iconst (v := (0 : Int32)) hx hb dX9_refused_13 (by decide) ?_
    obtain ⟨hf0, hf1⟩ := ti2 hm
    subst hf0
    subst hf1
    exact W.zret (v := (0 : Int32)) hx hb hr rfl (fun t ht hW => ⟨⟨rfl, by rw [ht]; exact hP⟩, hS.F ht⟩) hS.2.2 dX9_refused_14
  · replace hm := if_f hm c_1
    refine lv_iconst (v := (1 : Int32)) hx hb dX9_refused_9 (by decide) ?_
    refine lv_goto (tgt := 14) hx hb dX9_refused_10 (by decide) ?_
    obtain ⟨hf0, hf1⟩ := ti2 hm
    subst hf0
    subst hf1
    exact W.zret (v := (1 : Int32)) hx hb hr rfl (fun t ht hW => ⟨⟨rfl, by rw [ht]; exact hP⟩, hS.F ht⟩) hS.2.2 dX9_refused_14
def mX9_noCell (mi : Nat → Int32) (x0 : Int32) : Option (Int32 × (Nat → Int32)) := (if (mX9_isCell x0) = 0 then (bt2 (mX9_refused mi (1 : Int32)) (fun r_2 mi_3 => (if r_2 = 0 ∨ r_2 = 1 then (some (r_2, mi_3)) else none))) else (bt2 (mX9_refused mi (0 : Int32)) (fun r_6 mi_7 => (if r_6 = 0 ∨ r_6 = 1 then (some (r_6, mi_7)) else none))))
set_option maxHeartbeats 4000000 in
set_option maxRecDepth 100000 in
theorem kX9_noCell (l : Launch) (Γ : my_G) (q_mo q_tt q_nw q_tr q_ot q_di q_kp q_ik q_wy q_ah q_tg q_ws q_fr q_rw : Nat) (mi : Nat → Int32) (x0 : Int32) (rr : Int32) (mi_z : Nat → Int32) (hm : mX9_noCell mi x0 = (some (rr, mi_z))) : Mn l yX9_noCell wsX9_noCell ({ frames := 2, cells := 0, slots := 0, locals := 45 } : Room) Γ [.ref q_mo, .int x0] (wMo Γ q_mo q_tt q_nw q_tr q_ot q_di q_kp q_ik q_wy q_ah q_tg q_ws q_fr q_rw mi) (some (.int rr)) (wMo Γ q_mo q_tt q_nw q_tr q_ot q_di q_kp q_ik q_wy q_ah q_tg q_ws q_fr q_rw mi_z) := by
  intro sz
  refine Met.ofW (cc := cX9_noCell) (maxL := 2) (ret := (some .boolean)) (by decide) rfl ?_
  intro p e s m args below meth c s₁ B hml hv
  obtain ⟨rfl, hsz, hP, hK, hD0⟩ := hv
  have hx := B.exec
  have hb := B.bytes
  have hr := B.returns
  have hts := atoms_spec (ws := wsX9_noCell) B.pre
  have hown : s.vm.findClass RX9 = some m.cls := findClass_of_methodNamed B.named
  have hlocks := B.notSynchronized
  have hinX9 : ∀ w ∈ u_ws RX9 TX9 19, w ∈ wsX9_noCell := fun w h => List.mem_cons_of_mem _ (List.mem_append_right _ h)
  subst hsz
  have hD := hD0.self (sz := s.heap.size)
  have hA : ∀ q : Nat, s.heap.size ≤ q → va_A (wMo Γ q_mo q_tt q_nw q_tr q_ot q_di q_kp q_ik q_wy q_ah q_tg q_ws q_fr q_rw mi) s.heap.size q := fun q h => Or.inr h
  generalize va_A (wMo Γ q_mo q_tt q_nw q_tr q_ot q_di q_kp q_ik q_wy q_ah q_tg q_ws q_fr q_rw mi) s.heap.size = A at hD hA ⊢
  have hS : va_S A s.heap s.heap [] := va_S.rf
  have hl := lv_entry ([.ref q_mo, .int x0]) (n := 2) (Nat.le_of_ble_eq_true rfl)
  rw [lg_entry_eq]
  generalize (lg_sl ([.ref q_mo, .int x0]) ++ List.replicate (2 - (lg_sl ([.ref q_mo, .int x0])).length) Slot.unset).toArray = ls at hl ⊢
  replace hl : lv_has ls 2 [(0, .ref q_mo), (1, .int x0)] := hl
  unfold mX9_noCell at hm
  refine lv_aload_n hx hb dX9_noCell_0 rfl (lv_at hl 0 rfl) ?_
  refine lv_iload_n hx hb dX9_noCell_1 rfl (lv_at hl 1 rfl) ?_
  refine my_callP1 (wc := ([] : va_W)) (w1 := ([] : va_W)) (ws1 := (wMo Γ q_mo q_tt q_nw q_tr q_ot q_di q_kp q_ik q_wy q_ah q_tg q_ws q_fr q_rw mi)) hP hD hS hA [] rfl rfl rfl (va_runS (As := [.int x0]) (rest := [.ref q_mo]) ⟨hx, hb, hml, hown, hts⟩ (kX9_isCell l Γ x0 (mX9_isCell x0) rfl _) (va_cwS 1 hts gX9_noCell_X9_isCell rfl rfl rfl (by decide +kernel) ⟨Nat.le_of_ble_eq_true rfl, Nat.le_of_ble_eq_true rfl⟩) (my_preS (wc := ([] : va_W)) [] hK hP hD rfl rfl) rfl rfl hl.1 rfl (lv_room (Nat.le_of_ble_eq_true rfl)) dX9_noCell_2 ⟨Nat.le_of_ble_eq_true rfl, Nat.le_of_ble_eq_true rfl⟩) (fun H locs hP hD hS => ?_)
  refine lv_if_eq (tgt := 12) hx hb dX9_noCell_5 (by decide) (fun c_1 => ?_) (fun c_1 => ?_)
  · replace hm := if_s hm c_1
    refine lv_iconst (v := (1 : Int32)) hx hb dX9_noCell_12 (by decide) ?_
    obtain ⟨r_2, mi_3, hc_4, hm⟩ := bt2_s hm
    refine my_callP1 (wc := (wMo Γ q_mo q_tt q_nw q_tr q_ot q_di q_kp q_ik q_wy q_ah q_tg q_ws q_fr q_rw mi)) (w1 := (wMo Γ q_mo q_tt q_nw q_tr q_ot q_di q_kp q_ik q_wy q_ah q_tg q_ws q_fr q_rw mi_3)) (ws1 := (wMo Γ q_mo q_tt q_nw q_tr q_ot q_di q_kp q_ik q_wy q_ah q_tg q_ws q_fr q_rw mi_3)) hP hD hS hA [0] rfl rfl rfl (va_runV (As := [.int (1 : Int32)]) (rest := []) ⟨hx, hb, hml, hown, hts⟩ (kX9_refused l Γ q_mo q_tt q_nw q_tr q_ot q_di q_kp q_ik q_wy q_ah q_tg q_ws q_fr q_rw mi (1 : Int32) r_2 mi_3 hc_4 _) (cwV 1 hts gX9_noCell_X9_refused rfl rfl rfl (by decide +kernel) ⟨Nat.le_of_ble_eq_true rfl, Nat.le_of_ble_eq_true rfl⟩) (my_preV (wc := (wMo Γ q_mo q_tt q_nw q_tr q_ot q_di q_kp q_ik q_wy q_ah q_tg q_ws q_fr q_rw mi)) (ci := 7) (q0 := 0) [0] hK hP hD rfl rfl rfl rfl) rfl rfl hl.1 rfl (lv_room (Nat.le_of_ble_eq_true rfl)) dX9_noCell_13 ⟨Nat.le_of_ble_eq_true rfl, Nat.le_of_ble_eq_true rfl⟩) (fun H locs hP hD hS => ?_)
    obtain ⟨hz_5, hm⟩ := if_bz hm
    obtain ⟨hf0, hf1⟩ := si2 hm
    subst hf0
    subst hf1
    exact W.zret (v := r_2) hx hb hr hz_5 (fun t ht hW => ⟨⟨rfl, by rw [ht]; exact hP⟩, hS.F ht⟩) hS.2.2 dX9_noCell_16
  · replace hm := if_f hm c_1
    refine lv_iconst (v := (0 : Int32)) hx hb dX9_noCell_8 (by decide) ?_
    refine lv_goto (tgt := 13) hx hb dX9_noCell_9 (by decide) ?_
    obtain ⟨r_6, mi_7, hc_8, hm⟩ := bt2_s hm
    refine my_callP1 (wc := (wMo Γ q_mo q_tt q_nw q_tr q_ot q_di q_kp q_ik q_wy q_ah q_tg q_ws q_fr q_rw mi)) (w1 := (wMo Γ q_mo q_tt q_nw q_tr q_ot q_di q_kp q_ik q_wy q_ah q_tg q_ws q_fr q_rw mi_7)) (ws1 := (wMo Γ q_mo q_tt q_nw q_tr q_ot q_di q_kp q_ik q_wy q_ah q_tg q_ws q_fr q_rw mi_7)) hP hD hS hA [0] rfl rfl rfl (va_runV (As := [.int (0 : Int32)]) (rest := []) ⟨hx, hb, hml, hown, hts⟩ (kX9_refused l Γ q_mo q_tt q_nw q_tr q_ot q_di q_kp q_ik q_wy q_ah q_tg q_ws q_fr q_rw mi (0 : Int32) r_6 mi_7 hc_8 _) (cwV 1 hts gX9_noCell_X9_refused rfl rfl rfl (by decide +kernel) ⟨Nat.le_of_ble_eq_true rfl, Nat.le_of_ble_eq_true rfl⟩) (my_preV (wc := (wMo Γ q_mo q_tt q_nw q_tr q_ot q_di q_kp q_ik q_wy q_ah q_tg q_ws q_fr q_rw mi)) (ci := 7) (q0 := 0) [0] hK hP hD rfl rfl rfl rfl) rfl rfl hl.1 rfl (lv_room (Nat.le_of_ble_eq_true rfl)) dX9_noCell_13 ⟨Nat.le_of_ble_eq_true rfl, Nat.le_of_ble_eq_true rfl⟩) (fun H locs hP hD hS => ?_)
    obtain ⟨hz_9, hm⟩ := if_bz hm
    obtain ⟨hf0, hf1⟩ := si2 hm
    subst hf0
    subst hf1
    exact W.zret (v := r_6) hx hb hr hz_9 (fun t ht hW => ⟨⟨rfl, by rw [ht]; exact hP⟩, hS.F ht⟩) hS.2.2 dX9_noCell_16
def mX9_noRobot (mi : Nat → Int32) (x0 : Int32) : Option (Int32 × (Nat → Int32)) := (if (mX9_isRobot x0) = 0 then (bt2 (mX9_refused mi (1 : Int32)) (fun r_2 mi_3 => (if r_2 = 0 ∨ r_2 = 1 then (some (r_2, mi_3)) else none))) else (bt2 (mX9_refused mi (0 : Int32)) (fun r_6 mi_7 => (if r_6 = 0 ∨ r_6 = 1 then (some (r_6, mi_7)) else none))))
set_option maxHeartbeats 4000000 in
set_option maxRecDepth 100000 in
theorem kX9_noRobot (l : Launch) (Γ : my_G) (q_mo q_tt q_nw q_tr q_ot q_di q_kp q_ik q_wy q_ah q_tg q_ws q_fr q_rw : Nat) (mi : Nat → Int32) (x0 : Int32) (rr : Int32) (mi_z : Nat → Int32) (hm : mX9_noRobot mi x0 = (some (rr, mi_z))) : Mn l yX9_noRobot wsX9_noRobot ({ frames := 2, cells := 0, slots := 0, locals := 45 } : Room) Γ [.ref q_mo, .int x0] (wMo Γ q_mo q_tt q_nw q_tr q_ot q_di q_kp q_ik q_wy q_ah q_tg q_ws q_fr q_rw mi) (some (.int rr)) (wMo Γ q_mo q_tt q_nw q_tr q_ot q_di q_kp q_ik q_wy q_ah q_tg q_ws q_fr q_rw mi_z) := by
  intro sz
  refine Met.ofW (cc := cX9_noRobot) (maxL := 2) (ret := (some .boolean)) (by decide) rfl ?_
  intro p e s m args below meth c s₁ B hml hv
  obtain ⟨rfl, hsz, hP, hK, hD0⟩ := hv
  have hx := B.exec
  have hb := B.bytes
  have hr := B.returns
  have hts := atoms_spec (ws := wsX9_noRobot) B.pre
  have hown : s.vm.findClass RX9 = some m.cls := findClass_of_methodNamed B.named
  have hlocks := B.notSynchronized
  have hinX9 : ∀ w ∈ u_ws RX9 TX9 19, w ∈ wsX9_noRobot := fun w h => List.mem_cons_of_mem _ (List.mem_append_right _ h)
  subst hsz
  have hD := hD0.self (sz := s.heap.size)
  have hA : ∀ q : Nat, s.heap.size ≤ q → va_A (wMo Γ q_mo q_tt q_nw q_tr q_ot q_di q_kp q_ik q_wy q_ah q_tg q_ws q_fr q_rw mi) s.heap.size q := fun q h => Or.inr h
  generalize va_A (wMo Γ q_mo q_tt q_nw q_tr q_ot q_di q_kp q_ik q_wy q_ah q_tg q_ws q_fr q_rw mi) s.heap.size = A at hD hA ⊢
  have hS : va_S A s.heap s.heap [] := va_S.rf
  have hl := lv_entry ([.ref q_mo, .int x0]) (n := 2) (Nat.le_of_ble_eq_true rfl)
  rw [lg_entry_eq]
  generalize (lg_sl ([.ref q_mo, .int x0]) ++ List.replicate (2 - (lg_sl ([.ref q_mo, .int x0])).length) Slot.unset).toArray = ls at hl ⊢
  replace hl : lv_has ls 2 [(0, .ref q_mo), (1, .int x0)] := hl
  unfold mX9_noRobot at hm
  refine lv_aload_n hx hb dX9_noRobot_0 rfl (lv_at hl 0 rfl) ?_
  refine lv_iload_n hx hb dX9_noRobot_1 rfl (lv_at hl 1 rfl) ?_
  refine my_callP1 (wc := ([] : va_W)) (w1 := ([] : va_W)) (ws1 := (wMo Γ q_mo q_tt q_nw q_tr q_ot q_di q_kp q_ik q_wy q_ah q_tg q_ws q_fr q_rw mi)) hP hD hS hA [] rfl rfl rfl (va_runS (As := [.int x0]) (rest := [.ref q_mo]) ⟨hx, hb, hml, hown, hts⟩ (kX9_isRobot l Γ x0 (mX9_isRobot x0) rfl _) (va_cwS 1 hts gX9_noRobot_X9_isRobot rfl rfl rfl (by decide +kernel) ⟨Nat.le_of_ble_eq_true rfl, Nat.le_of_ble_eq_true rfl⟩) (my_preS (wc := ([] : va_W)) [] hK hP hD rfl rfl) rfl rfl hl.1 rfl (lv_room (Nat.le_of_ble_eq_true rfl)) dX9_noRobot_2 ⟨Nat.le_of_ble_eq_true rfl, Nat.le_of_ble_eq_true rfl⟩) (fun H locs hP hD hS => ?_)
  refine lv_if_eq (tgt := 12) hx hb dX9_noRobot_5 (by decide) (fun c_1 => ?_) (fun c_1 => ?_)
  · replace hm := if_s hm c_1
    refine lv_iconst (v := (1 : Int32)) hx hb dX9_noRobot_12 (by decide) ?_
    obtain ⟨r_2, mi_3, hc_4, hm⟩ := bt2_s hm
    refine my_callP1 (wc := (wMo Γ q_mo q_tt q_nw q_tr q_ot q_di q_kp q_ik q_wy q_ah q_tg q_ws q_fr q_rw mi)) (w1 := (wMo Γ q_mo q_tt q_nw q_tr q_ot q_di q_kp q_ik q_wy q_ah q_tg q_ws q_fr q_rw mi_3)) (ws1 := (wMo Γ q_mo q_tt q_nw q_tr q_ot q_di q_kp q_ik q_wy q_ah q_tg q_ws q_fr q_rw mi_3)) hP hD hS hA [0] rfl rfl rfl (va_runV (As := [.int (1 : Int32)]) (rest := []) ⟨hx, hb, hml, hown, hts⟩ (kX9_refused l Γ q_mo q_tt q_nw q_tr q_ot q_di q_kp q_ik q_wy q_ah q_tg q_ws q_fr q_rw mi (1 : Int32) r_2 mi_3 hc_4 _) (cwV 1 hts gX9_noRobot_X9_refused rfl rfl rfl (by decide +kernel) ⟨Nat.le_of_ble_eq_true rfl, Nat.le_of_ble_eq_true rfl⟩) (my_preV (wc := (wMo Γ q_mo q_tt q_nw q_tr q_ot q_di q_kp q_ik q_wy q_ah q_tg q_ws q_fr q_rw mi)) (ci := 7) (q0 := 0) [0] hK hP hD rfl rfl rfl rfl) rfl rfl hl.1 rfl (lv_room (Nat.le_of_ble_eq_true rfl)) dX9_noRobot_13 ⟨Nat.le_of_ble_eq_true rfl, Nat.le_of_ble_eq_true rfl⟩) (fun H locs hP hD hS => ?_)
    obtain ⟨hz_5, hm⟩ := if_bz hm
    obtain ⟨hf0, hf1⟩ := si2 hm
    subst hf0
    subst hf1
    exact W.zret (v := r_2) hx hb hr hz_5 (fun t ht hW => ⟨⟨rfl, by rw [ht]; exact hP⟩, hS.F ht⟩) hS.2.2 dX9_noRobot_16
  · replace hm := if_f hm c_1
    refine lv_iconst (v := (0 : Int32)) hx hb dX9_noRobot_8 (by decide) ?_
    refine lv_goto (tgt := 13) hx hb dX9_noRobot_9 (by decide) ?_
    obtain ⟨r_6, mi_7, hc_8, hm⟩ := bt2_s hm
    refine my_callP1 (wc := (wMo Γ q_mo q_tt q_nw q_tr q_ot q_di q_kp q_ik q_wy q_ah q_tg q_ws q_fr q_rw mi)) (w1 := (wMo Γ q_mo q_tt q_nw q_tr q_ot q_di q_kp q_ik q_wy q_ah q_tg q_ws q_fr q_rw mi_7)) (ws1 := (wMo Γ q_mo q_tt q_nw q_tr q_ot q_di q_kp q_ik q_wy q_ah q_tg q_ws q_fr q_rw mi_7)) hP hD hS hA [0] rfl rfl rfl (va_runV (As := [.int (0 : Int32)]) (rest := []) ⟨hx, hb, hml, hown, hts⟩ (kX9_refused l Γ q_mo q_tt q_nw q_tr q_ot q_di q_kp q_ik q_wy q_ah q_tg q_ws q_fr q_rw mi (0 : Int32) r_6 mi_7 hc_8 _) (cwV 1 hts gX9_noRobot_X9_refused rfl rfl rfl (by decide +kernel) ⟨Nat.le_of_ble_eq_true rfl, Nat.le_of_ble_eq_true rfl⟩) (my_preV (wc := (wMo Γ q_mo q_tt q_nw q_tr q_ot q_di q_kp q_ik q_wy q_ah q_tg q_ws q_fr q_rw mi)) (ci := 7) (q0 := 0) [0] hK hP hD rfl rfl rfl rfl) rfl rfl hl.1 rfl (lv_room (Nat.le_of_ble_eq_true rfl)) dX9_noRobot_13 ⟨Nat.le_of_ble_eq_true rfl, Nat.le_of_ble_eq_true rfl⟩) (fun H locs hP hD hS => ?_)
    obtain ⟨hz_9, hm⟩ := if_bz hm
    obtain ⟨hf0, hf1⟩ := si2 hm
    subst hf0
    subst hf1
    exact W.zret (v := r_6) hx hb hr hz_9 (fun t ht hW => ⟨⟨rfl, by rw [ht]; exact hP⟩, hS.F ht⟩) hS.2.2 dX9_noRobot_16
def mX9_told (mi : Nat → Int32) (x0 : Int32) : Int32 × (Nat → Int32) := (x0, (upd mi 0 (0 : Int32)))
set_option maxHeartbeats 4000000 in
set_option maxRecDepth 100000 in
theorem kX9_told (l : Launch) (Γ : my_G) (q_mo q_tt q_nw q_tr q_ot q_di q_kp q_ik q_wy q_ah q_tg q_ws q_fr q_rw : Nat) (mi : Nat → Int32) (x0 : Int32) (rr : Int32) (mi_z : Nat → Int32) (hm : mX9_told mi x0 = (rr, mi_z)) : Mn l yX9_told wsX9_told ({ frames := 0, cells := 0, slots := 0, locals := 0 } : Room) Γ [.ref q_mo, .int x0] (wMo Γ q_mo q_tt q_nw q_tr q_ot q_di q_kp q_ik q_wy q_ah q_tg q_ws q_fr q_rw mi) (some (.int rr)) (wMo Γ q_mo q_tt q_nw q_tr q_ot q_di q_kp q_ik q_wy q_ah q_tg q_ws q_fr q_rw mi_z) := by
  intro sz
  refine Met.ofW (cc := cX9_told) (maxL := 2) (ret := (some .int)) (by decide) rfl ?_
  intro p e s m args below meth c s₁ B hml hv
  obtain ⟨rfl, hsz, hP, hK, hD0⟩ := hv
  have hx := B.exec
  have hb := B.bytes
  have hr := B.returns
  have hts := atoms_spec (ws := wsX9_told) B.pre
  have hown : s.vm.findClass RX9 = some m.cls := findClass_of_methodNamed B.named
  have hlocks := B.notSynchronized
  have hinX9 : ∀ w ∈ u_ws RX9 TX9 19, w ∈ wsX9_told := fun w h => List.mem_cons_of_mem _ (List.mem_append_right _ h)
  subst hsz
  have hD := hD0.self (sz := s.heap.size)
  have hA : ∀ q : Nat, s.heap.size ≤ q → va_A (wMo Γ q_mo q_tt q_nw q_tr q_ot q_di q_kp q_ik q_wy q_ah q_tg q_ws q_fr q_rw mi) s.heap.size q := fun q h => Or.inr h
  generalize va_A (wMo Γ q_mo q_tt q_nw q_tr q_ot q_di q_kp q_ik q_wy q_ah q_tg q_ws q_fr q_rw mi) s.heap.size = A at hD hA ⊢
  have hS : va_S A s.heap s.heap [] := va_S.rf
  have hl := lv_entry ([.ref q_mo, .int x0]) (n := 2) (Nat.le_of_ble_eq_true rfl)
  rw [lg_entry_eq]
  generalize (lg_sl ([.ref q_mo, .int x0]) ++ List.replicate (2 - (lg_sl ([.ref q_mo, .int x0])).length) Slot.unset).toArray = ls at hl ⊢
  replace hl : lv_has ls 2 [(0, .ref q_mo), (1, .int x0)] := hl
  unfold mX9_told at hm
  refine lv_aload_n hx hb dX9_told_0 rfl (lv_at hl 0 rfl) ?_
  refine lv_iconst (v := (0 : Int32)) hx hb dX9_told_1 (by decide) ?_
  refine va_put (D := my_D Γ) (ci := 7) (v := .int (0 : Int32)) (ty := .int) (C := RX9) (T := TX9) (N := 19) hx hb hts hinX9 tyX9 tyX9_ok nmX9 hown hK hP hD hS 0 rfl rfl 0 (by decide) (hts (.fieldLink RX9 54 "BeltFloorModel" "refusal" "I") (List.mem_of_getElem? (i := 1) rfl)) (fun _ h9 => h9) rfl (by decide +kernel) rfl rfl (Nat.le_of_ble_eq_true rfl) dX9_told_2 (fun H locs hP hD hS => ?_)
  replace hP : va_P (my_D Γ) vwCl (wMo Γ q_mo q_tt q_nw q_tr q_ot q_di q_kp q_ik q_wy q_ah q_tg q_ws q_fr q_rw (upd mi 0 (0 : Int32))) H := hP
  replace hD : va_D A (wMo Γ q_mo q_tt q_nw q_tr q_ot q_di q_kp q_ik q_wy q_ah q_tg q_ws q_fr q_rw (upd mi 0 (0 : Int32))) := hD
  refine lv_iload_n hx hb dX9_told_5 rfl (lv_at hl 1 rfl) ?_
  obtain ⟨hf0, hf1⟩ := ti2 hm
  subst hf0
  subst hf1
  exact W.iret (v := x0) hx hb hr (fun t ht hW => ⟨⟨rfl, by rw [ht]; exact hP⟩, hS.F ht⟩) hS.2.2 dX9_told_6
def mX9_clearText (mi : Nat → Int32) : Int32 × (Nat → Int32) := ((mi 2), (upd (upd mi 0 (0 : Int32)) 2 (0 : Int32)))
set_option maxHeartbeats 4000000 in
set_option maxRecDepth 100000 in
theorem kX9_clearText (l : Launch) (Γ : my_G) (q_mo q_tt q_nw q_tr q_ot q_di q_kp q_ik q_wy q_ah q_tg q_ws q_fr q_rw : Nat) (mi : Nat → Int32)  (rr : Int32) (mi_z : Nat → Int32) (hm : mX9_clearText mi = (rr, mi_z)) : Mn l yX9_clearText wsX9_clearText ({ frames := 0, cells := 0, slots := 0, locals := 0 } : Room) Γ [.ref q_mo] (wMo Γ q_mo q_tt q_nw q_tr q_ot q_di q_kp q_ik q_wy q_ah q_tg q_ws q_fr q_rw mi) (some (.int rr)) (wMo Γ q_mo q_tt q_nw q_tr q_ot q_di q_kp q_ik q_wy q_ah q_tg q_ws q_fr q_rw mi_z) := by
  intro sz
  refine Met.ofW (cc := cX9_clearText) (maxL := 2) (ret := (some .int)) (by decide) rfl ?_
  intro p e s m args below meth c s₁ B hml hv
  obtain ⟨rfl, hsz, hP, hK, hD0⟩ := hv
  have hx := B.exec
  have hb := B.bytes
  have hr := B.returns
  have hts := atoms_spec (ws := wsX9_clearText) B.pre
  have hown : s.vm.findClass RX9 = some m.cls := findClass_of_methodNamed B.named
  have hlocks := B.notSynchronized
  have hinX9 : ∀ w ∈ u_ws RX9 TX9 19, w ∈ wsX9_clearText := fun w h => List.mem_cons_of_mem _ (List.mem_append_right _ h)
  subst hsz
  have hD := hD0.self (sz := s.heap.size)
  have hA : ∀ q : Nat, s.heap.size ≤ q → va_A (wMo Γ q_mo q_tt q_nw q_tr q_ot q_di q_kp q_ik q_wy q_ah q_tg q_ws q_fr q_rw mi) s.heap.size q := fun q h => Or.inr h
  generalize va_A (wMo Γ q_mo q_tt q_nw q_tr q_ot q_di q_kp q_ik q_wy q_ah q_tg q_ws q_fr q_rw mi) s.heap.size = A at hD hA ⊢
  have hS : va_S A s.heap s.heap [] := va_S.rf
  have hl := lv_entry ([.ref q_mo]) (n := 2) (Nat.le_of_ble_eq_true rfl)
  rw [lg_entry_eq]
  generalize (lg_sl ([.ref q_mo]) ++ List.replicate (2 - (lg_sl ([.ref q_mo])).length) Slot.unset).toArray = ls at hl ⊢
  replace hl : lv_has ls 2 [(0, .ref q_mo)] := hl
  unfold mX9_clearText at hm
  refine lv_aload_n hx hb dX9_clearText_0 rfl (lv_at hl 0 rfl) ?_
  refine lv_iconst (v := (0 : Int32)) hx hb dX9_clearText_1 (by decide) ?_
  refine va_put (D := my_D Γ) (ci := 7) (v := .int (0 : Int32)) (ty := .int) (C := RX9) (T := TX9) (N := 19) hx hb hts hinX9 tyX9 tyX9_ok nmX9 hown hK hP hD hS 0 rfl rfl 0 (by decide) (hts (.fieldLink RX9 54 "BeltFloorModel" "refusal" "I") (List.mem_of_getElem? (i := 1) rfl)) (fun _ h9 => h9) rfl (by decide +kernel) rfl rfl (Nat.le_of_ble_eq_true rfl) dX9_clearText_2 (fun H locs hP hD hS => ?_)
  replace hP : va_P (my_D Γ) vwCl (wMo Γ q_mo q_tt q_nw q_tr q_ot q_di q_kp q_ik q_wy q_ah q_tg q_ws q_fr q_rw (upd mi 0 (0 : Int32))) H := hP
  replace hD : va_D A (wMo Γ q_mo q_tt q_nw q_tr q_ot q_di q_kp q_ik q_wy q_ah q_tg q_ws q_fr q_rw (upd mi 0 (0 : Int32))) := hD
  refine lv_aload_n hx hb dX9_clearText_5 rfl (lv_at hl 0 rfl) ?_
  refine va_get (D := my_D Γ) (ci := 7) (v := .int (mi 2)) (C := RX9) (T := TX9) (N := 19) hx hb hts hinX9 hown hK hP 0 rfl rfl 2 (by decide) (hts (.fieldLink RX9 153 "BeltFloorModel" "size" "I") (List.mem_of_getElem? (i := 2) rfl)) (fun _ h9 => h9) rfl dX9_clearText_6 ?_
  refine lv_istore_n (lv' := [(1, .int (mi 2)), (0, .ref q_mo)]) hx hb dX9_clearText_9 rfl hl (by decide) rfl (fun ls hl => ?_)
  refine lv_aload_n hx hb dX9_clearText_10 rfl (lv_at hl 1 rfl) ?_
  refine lv_iconst (v := (0 : Int32)) hx hb dX9_clearText_11 (by decide) ?_
  refine va_put (D := my_D Γ) (ci := 7) (v := .int (0 : Int32)) (ty := .int) (C := RX9) (T := TX9) (N := 19) hx hb hts hinX9 tyX9 tyX9_ok nmX9 hown hK hP hD hS 0 rfl rfl 2 (by decide) (hts (.fieldLink RX9 153 "BeltFloorModel" "size" "I") (List.mem_of_getElem? (i := 2) rfl)) (fun _ h9 => h9) rfl (by decide +kernel) rfl rfl (Nat.le_of_ble_eq_true rfl) dX9_clearText_12 (fun H locs hP hD hS => ?_)
  replace hP : va_P (my_D Γ) vwCl (wMo Γ q_mo q_tt q_nw q_tr q_ot q_di q_kp q_ik q_wy q_ah q_tg q_ws q_fr q_rw (upd (upd mi 0 (0 : Int32)) 2 (0 : Int32))) H := hP
  replace hD : va_D A (wMo Γ q_mo q_tt q_nw q_tr q_ot q_di q_kp q_ik q_wy q_ah q_tg q_ws q_fr q_rw (upd (upd mi 0 (0 : Int32)) 2 (0 : Int32))) := hD
  refine lv_iload_n hx hb dX9_clearText_15 rfl (lv_at hl 0 rfl) ?_
  obtain ⟨hf0, hf1⟩ := ti2 hm
  subst hf0
  subst hf1
  exact W.iret (v := (mi 2)) hx hb hr (fun t ht hW => ⟨⟨rfl, by rw [ht]; exact hP⟩, hS.F ht⟩) hS.2.2 dX9_clearText_16
def mX9_digits_J38 (k7 : (Nat → Int32) → (Nat → Int32) → Int32 → Int32 → Option (Int32 × (Nat → Int32))) (mi : Nat → Int32) (vtt : Nat → Int32) (l2 : Int32) (l3 : Int32) (s0 : Int32) : Option (Int32 × (Nat → Int32)) := (if (mX9_in (s0.toInt64) (0 : Int64) (9 : Int64)) = 0 then (some ((0 : Int32), mi)) else (if ((mi 18) + (l3 * s0)) ≤ l2 then (k7 (upd (upd mi 18 ((mi 18) + (l3 * s0))) 16 ((mi 16) + (1 : Int32))) vtt l2 (l3 / (10 : Int32))) else (some ((0 : Int32), mi))))
def mX9_digits_L7  : Nat → (Nat → Int32) → (Nat → Int32) → Int32 → Int32 → Option (Int32 × (Nat → Int32))
  | 0, _, _, _, _ => none
  | n + 1, mi, vtt, l2, l3 => (if l3 ≤ 0 then (some ((1 : Int32), mi)) else (if (mi 2) ≤ (mi 16) then (mX9_digits_J38 (fun mi vtt l2 l3 => mX9_digits_L7 n mi vtt l2 l3) mi vtt l2 l3 (-1 : Int32)) else (if ¬ ((mi 16) < 0 ∨ 120 ≤ (mi 16).toNatClampNeg) then (mX9_digits_J38 (fun mi vtt l2 l3 => mX9_digits_L7 n mi vtt l2 l3) mi vtt l2 l3 ((vtt (mi 16).toNatClampNeg) - (48 : Int32))) else none)))
def mX9_digits (mi : Nat → Int32) (vtt : Nat → Int32) (x0 : Int32) (x1 : Int32) : Option (Int32 × (Nat → Int32)) := (mX9_digits_L7 4096 (upd mi 18 (0 : Int32)) vtt x1 x0)
set_option maxHeartbeats 4000000 in
set_option maxRecDepth 100000 in
theorem kX9_digits (l : Launch) (Γ : my_G) (q_mo q_tt q_nw q_tr q_ot q_di q_kp q_ik q_wy q_ah q_tg q_ws q_fr q_rw : Nat) (mi : Nat → Int32) (vtt : Nat → Int32) (x0 : Int32) (x1 : Int32) (rr : Int32) (mi_z : Nat → Int32) (hm : mX9_digits mi vtt x0 x1 = (some (rr, mi_z))) : Mn l yX9_digits wsX9_digits ({ frames := 1, cells := 0, slots := 0, locals := 25 } : Room) Γ [.ref q_mo, .int x0, .int x1] (wMoT Γ q_mo q_tt q_nw q_tr q_ot q_di q_kp q_ik q_wy q_ah q_tg q_ws q_fr q_rw mi vtt) (some (.int rr)) (wMoT Γ q_mo q_tt q_nw q_tr q_ot q_di q_kp q_ik q_wy q_ah q_tg q_ws q_fr q_rw mi_z vtt) := by
  intro sz
  refine Met.ofW (cc := cX9_digits) (maxL := 5) (ret := (some .boolean)) (by decide) rfl ?_
  intro p e s m args below meth c s₁ B hml hv
  obtain ⟨rfl, hsz, hP, hK, hD0⟩ := hv
  have hx := B.exec
  have hb := B.bytes
  have hr := B.returns
  have hts := atoms_spec (ws := wsX9_digits) B.pre
  have hown : s.vm.findClass RX9 = some m.cls := findClass_of_methodNamed B.named
  have hlocks := B.notSynchronized
  have hinX9 : ∀ w ∈ u_ws RX9 TX9 19, w ∈ wsX9_digits := fun w h => List.mem_cons_of_mem _ (List.mem_append_right _ h)
  subst hsz
  have hD := hD0.self (sz := s.heap.size)
  have hA : ∀ q : Nat, s.heap.size ≤ q → va_A (wMoT Γ q_mo q_tt q_nw q_tr q_ot q_di q_kp q_ik q_wy q_ah q_tg q_ws q_fr q_rw mi vtt) s.heap.size q := fun q h => Or.inr h
  generalize va_A (wMoT Γ q_mo q_tt q_nw q_tr q_ot q_di q_kp q_ik q_wy q_ah q_tg q_ws q_fr q_rw mi vtt) s.heap.size = A at hD hA ⊢
  have hS : va_S A s.heap s.heap [] := va_S.rf
  have hl := lv_entry ([.ref q_mo, .int x0, .int x1]) (n := 5) (Nat.le_of_ble_eq_true rfl)
  rw [lg_entry_eq]
  generalize (lg_sl ([.ref q_mo, .int x0, .int x1]) ++ List.replicate (5 - (lg_sl ([.ref q_mo, .int x0, .int x1])).length) Slot.unset).toArray = ls at hl ⊢
  replace hl : lv_has ls 5 [(0, .ref q_mo), (1, .int x0), (2, .int x1)] := hl
  have J_38 : ∀ (k7 : (Nat → Int32) → (Nat → Int32) → Int32 → Int32 → Option (Int32 × (Nat → Int32))), (∀ (mi : Nat → Int32) (vtt : Nat → Int32) (l2 : Int32) (l3 : Int32) (H : Heap) (locs : List Loc) (ls : Array Slot), va_P (my_D Γ) vwCl (wMoT Γ q_mo q_tt q_nw q_tr q_ot q_di q_kp q_ik q_wy q_ah q_tg q_ws q_fr q_rw mi vtt) H → va_D A (wMoT Γ q_mo q_tt q_nw q_tr q_ot q_di q_kp q_ik q_wy q_ah q_tg q_ws q_fr q_rw mi vtt) → va_S A s.heap H locs → lv_has ls 5 [(0, .ref q_mo), (2, .int l2), (3, .int l3)] → k7 mi vtt l2 l3 = (some (rr, mi_z)) → W p l e (headSpec wsX9_digits ({ frames := 1, cells := 0, slots := 0, locals := 25 } : Room)).room s m ([.ref q_mo, .int x0, .int x1] : List Value).toArray below meth c H locs 0 0 (MQ below (my_Q Γ A (some (.int rr)) (wMoT Γ q_mo q_tt q_nw q_tr q_ot q_di q_kp q_ik q_wy q_ah q_tg q_ws q_fr q_rw mi_z vtt)) ([.ref q_mo, .int x0, .int x1] : List Value).toArray s 0 0 A) (F0 m 7 ls [])) → ∀ (mi : Nat → Int32) (vtt : Nat → Int32) (l2 : Int32) (l3 : Int32) (s0 : Int32) (H : Heap) (locs : List Loc) (ls : Array Slot), va_P (my_D Γ) vwCl (wMoT Γ q_mo q_tt q_nw q_tr q_ot q_di q_kp q_ik q_wy q_ah q_tg q_ws q_fr q_rw mi vtt) H → va_D A (wMoT Γ q_mo q_tt q_nw q_tr q_ot q_di q_kp q_ik q_wy q_ah q_tg q_ws q_fr q_rw mi vtt) → va_S A s.heap H locs → lv_has ls 5 [(0, .ref q_mo), (2, .int l2), (3, .int l3)] → mX9_digits_J38 k7 mi vtt l2 l3 s0 = (some (rr, mi_z)) → W p l e (headSpec wsX9_digits ({ frames := 1, cells := 0, slots := 0, locals := 25 } : Room)).room s m ([.ref q_mo, .int x0, .int x1] : List Value).toArray below meth c H locs 0 0 (MQ below (my_Q Γ A (some (.int rr)) (wMoT Γ q_mo q_tt q_nw q_tr q_ot q_di q_kp q_ik q_wy q_ah q_tg q_ws q_fr q_rw mi_z vtt)) ([.ref q_mo, .int x0, .int x1] : List Value).toArray s 0 0 A) (F0 m 38 ls [.int s0]) := by
    intro k7 hk7 mi vtt l2 l3 s0 H locs ls hP hD hS hl hm
    unfold mX9_digits_J38 at hm
    refine lv_istore (lv' := [(4, .int s0), (0, .ref q_mo), (2, .int l2), (3, .int l3)]) hx hb dX9_digits_38 hl (by decide) rfl (fun ls hl => ?_)
    refine lv_iload hx hb dX9_digits_40 (lv_at hl 0 rfl) ?_
    refine lv_i2l (v := s0.toInt64) hx hb dX9_digits_42 rfl ?_
    refine lv_lconst (v := (0 : Int64)) hx hb dX9_digits_43 (by decide) ?_
    refine lv_ldc2 (v := (9 : Int64)) hx hb hown (hts (.constantLong RX9 166 (9)) (List.mem_of_getElem? (i := 5) rfl)) dX9_digits_44 ?_
    refine my_callP1 (wc := ([] : va_W)) (w1 := ([] : va_W)) (ws1 := (wMoT Γ q_mo q_tt q_nw q_tr q_ot q_di q_kp q_ik q_wy q_ah q_tg q_ws q_fr q_rw mi vtt)) hP hD hS hA [] rfl rfl rfl (va_runS (As := [.long (s0.toInt64), .long (0 : Int64), .long (9 : Int64)]) (rest := []) ⟨hx, hb, hml, hown, hts⟩ (kX9_in l Γ (s0.toInt64) (0 : Int64) (9 : Int64) (mX9_in (s0.toInt64) (0 : Int64) (9 : Int64)) rfl _) (va_cwS 3 hts gX9_digits_X9_in rfl rfl rfl (by decide +kernel) ⟨Nat.le_of_ble_eq_true rfl, Nat.le_of_ble_eq_true rfl⟩) (my_preS (wc := ([] : va_W)) [] hK hP hD rfl rfl) rfl rfl hl.1 rfl (lv_room (Nat.le_of_ble_eq_true rfl)) dX9_digits_47 ⟨Nat.le_of_ble_eq_true rfl, Nat.le_of_ble_eq_true rfl⟩) (fun H locs hP hD hS => ?_)
    refine lv_if_eq (tgt := 66) hx hb dX9_digits_50 (by decide) (fun c_3 => ?_) (fun c_3 => ?_)
    · replace hm := if_s hm c_3
      refine lv_iconst (v := (0 : Int32)) hx hb dX9_digits_66 (by decide) ?_
      obtain ⟨hf0, hf1⟩ := si2 hm
      subst hf0
      subst hf1
      exact W.zret (v := (0 : Int32)) hx hb hr rfl (fun t ht hW => ⟨⟨rfl, by rw [ht]; exact hP⟩, hS.F ht⟩) hS.2.2 dX9_digits_67
    · replace hm := if_f hm c_3
      refine lv_aload_n hx hb dX9_digits_53 rfl (lv_at hl 1 rfl) ?_
      refine va_get (D := my_D Γ) (ci := 7) (v := .int (mi 18)) (C := RX9) (T := TX9) (N := 19) hx hb hts hinX9 hown hK hP 0 rfl rfl 18 (by decide) (hts (.fieldLink RX9 160 "BeltFloorModel" "value" "I") (List.mem_of_getElem? (i := 1) rfl)) (fun _ h9 => h9) rfl dX9_digits_54 ?_
      refine lv_iload_n hx hb dX9_digits_57 rfl (lv_at hl 3 rfl) ?_
      refine lv_iload hx hb dX9_digits_58 (lv_at hl 0 rfl) ?_
      refine lv_imul hx hb dX9_digits_60 ?_
      refine lv_iadd hx hb dX9_digits_61 ?_
      refine lv_iload_n hx hb dX9_digits_62 rfl (lv_at hl 2 rfl) ?_
      refine lv_icmp_le (tgt := 68) hx hb dX9_digits_63 (by decide) (fun c_4 => ?_) (fun c_4 => ?_)
      · replace hm := if_s hm c_4
        refine lv_aload_n hx hb dX9_digits_68 rfl (lv_at hl 1 rfl) ?_
        refine lv_dup hx hb dX9_digits_69 rfl ?_
        refine va_get (D := my_D Γ) (ci := 7) (v := .int (mi 18)) (C := RX9) (T := TX9) (N := 19) hx hb hts hinX9 hown hK hP 0 rfl rfl 18 (by decide) (hts (.fieldLink RX9 160 "BeltFloorModel" "value" "I") (List.mem_of_getElem? (i := 1) rfl)) (fun _ h9 => h9) rfl dX9_digits_70 ?_
        refine lv_iload_n hx hb dX9_digits_73 rfl (lv_at hl 3 rfl) ?_
        refine lv_iload hx hb dX9_digits_74 (lv_at hl 0 rfl) ?_
        refine lv_imul hx hb dX9_digits_76 ?_
        refine lv_iadd hx hb dX9_digits_77 ?_
        refine lv_topi (fun y_5 ey_5 => ?_)
        refine va_put (D := my_D Γ) (ci := 7) (v := .int y_5) (ty := .int) (C := RX9) (T := TX9) (N := 19) hx hb hts hinX9 tyX9 tyX9_ok nmX9 hown hK hP hD hS 0 rfl rfl 18 (by decide) (hts (.fieldLink RX9 160 "BeltFloorModel" "value" "I") (List.mem_of_getElem? (i := 1) rfl)) (fun _ h9 => h9) rfl (by decide +kernel) rfl rfl (Nat.le_of_ble_eq_true rfl) dX9_digits_78 (fun H locs hP hD hS => ?_)
        replace hP : va_P (my_D Γ) vwCl (wMoT Γ q_mo q_tt q_nw q_tr q_ot q_di q_kp q_ik q_wy q_ah q_tg q_ws q_fr q_rw (upd mi 18 y_5) vtt) H := hP
        replace hD : va_D A (wMoT Γ q_mo q_tt q_nw q_tr q_ot q_di q_kp q_ik q_wy q_ah q_tg q_ws q_fr q_rw (upd mi 18 y_5) vtt) := hD
        subst ey_5
        refine lv_aload_n hx hb dX9_digits_81 rfl (lv_at hl 1 rfl) ?_
        refine lv_dup hx hb dX9_digits_82 rfl ?_
        refine va_get (D := my_D Γ) (ci := 7) (v := .int (mi 16)) (C := RX9) (T := TX9) (N := 19) hx hb hts hinX9 hown hK hP 0 rfl rfl 16 (by decide) (hts (.fieldLink RX9 163 "BeltFloorModel" "spot" "I") (List.mem_of_getElem? (i := 2) rfl)) (fun _ h9 => h9) rfl dX9_digits_83 ?_
        refine lv_iconst (v := (1 : Int32)) hx hb dX9_digits_86 (by decide) ?_
        refine lv_iadd hx hb dX9_digits_87 ?_
        refine lv_topi (fun y_6 ey_6 => ?_)
        refine va_put (D := my_D Γ) (ci := 7) (v := .int y_6) (ty := .int) (C := RX9) (T := TX9) (N := 19) hx hb hts hinX9 tyX9 tyX9_ok nmX9 hown hK hP hD hS 0 rfl rfl 16 (by decide) (hts (.fieldLink RX9 163 "BeltFloorModel" "spot" "I") (List.mem_of_getElem? (i := 2) rfl)) (fun _ h9 => h9) rfl (by decide +kernel) rfl rfl (Nat.le_of_ble_eq_true rfl) dX9_digits_88 (fun H locs hP hD hS => ?_)
        replace hP : va_P (my_D Γ) vwCl (wMoT Γ q_mo q_tt q_nw q_tr q_ot q_di q_kp q_ik q_wy q_ah q_tg q_ws q_fr q_rw (upd (upd mi 18 ((mi 18) + (l3 * s0))) 16 y_6) vtt) H := hP
        replace hD : va_D A (wMoT Γ q_mo q_tt q_nw q_tr q_ot q_di q_kp q_ik q_wy q_ah q_tg q_ws q_fr q_rw (upd (upd mi 18 ((mi 18) + (l3 * s0))) 16 y_6) vtt) := hD
        subst ey_6
        refine lv_iload_n hx hb dX9_digits_91 rfl (lv_at hl 3 rfl) ?_
        refine lv_bipush (v := (10 : Int32)) hx hb dX9_digits_92 (by decide) ?_
        refine lv_idiv hx hb dX9_digits_94 (by decide) ?_
        refine lv_istore_n (lv' := [(3, .int (l3 / (10 : Int32))), (4, .int s0), (0, .ref q_mo), (2, .int l2)]) hx hb dX9_digits_95 rfl hl (by decide) rfl (fun ls hl => ?_)
        refine lv_goto (tgt := 7) hx hb dX9_digits_96 (by decide) ?_
        exact hk7 (upd (upd mi 18 ((mi 18) + (l3 * s0))) 16 ((mi 16) + (1 : Int32))) vtt l2 (l3 / (10 : Int32)) _ _ _ hP hD hS (lv_sub hl [2, 3, 0] rfl) hm
      · replace hm := if_f hm c_4
        refine lv_iconst (v := (0 : Int32)) hx hb dX9_digits_66 (by decide) ?_
        obtain ⟨hf0, hf1⟩ := si2 hm
        subst hf0
        subst hf1
        exact W.zret (v := (0 : Int32)) hx hb hr rfl (fun t ht hW => ⟨⟨rfl, by rw [ht]; exact hP⟩, hS.F ht⟩) hS.2.2 dX9_digits_67
  have J_7 : ∀ n : Nat, ∀ (mi : Nat → Int32) (vtt : Nat → Int32) (l2 : Int32) (l3 : Int32) (H : Heap) (locs : List Loc) (ls : Array Slot), va_P (my_D Γ) vwCl (wMoT Γ q_mo q_tt q_nw q_tr q_ot q_di q_kp q_ik q_wy q_ah q_tg q_ws q_fr q_rw mi vtt) H → va_D A (wMoT Γ q_mo q_tt q_nw q_tr q_ot q_di q_kp q_ik q_wy q_ah q_tg q_ws q_fr q_rw mi vtt) → va_S A s.heap H locs → lv_has ls 5 [(0, .ref q_mo), (2, .int l2), (3, .int l3)] → mX9_digits_L7 n mi vtt l2 l3 = (some (rr, mi_z)) → W p l e (headSpec wsX9_digits ({ frames := 1, cells := 0, slots := 0, locals := 25 } : Room)).room s m ([.ref q_mo, .int x0, .int x1] : List Value).toArray below meth c H locs 0 0 (MQ below (my_Q Γ A (some (.int rr)) (wMoT Γ q_mo q_tt q_nw q_tr q_ot q_di q_kp q_ik q_wy q_ah q_tg q_ws q_fr q_rw mi_z vtt)) ([.ref q_mo, .int x0, .int x1] : List Value).toArray s 0 0 A) (F0 m 7 ls []) := by
    intro  n
    induction n with
    | zero => intro mi vtt l2 l3 H locs ls hP hD hS hl hm; cases hm
    | succ n ih =>
      intro mi vtt l2 l3 H locs ls hP hD hS hl hm
      unfold mX9_digits_L7 at hm
      refine lv_iload_n hx hb dX9_digits_7 rfl (lv_at hl 2 rfl) ?_
      refine lv_if_le (tgt := 99) hx hb dX9_digits_8 (by decide) (fun c_1 => ?_) (fun c_1 => ?_)
      · replace hm := if_s hm c_1
        refine lv_iconst (v := (1 : Int32)) hx hb dX9_digits_99 (by decide) ?_
        obtain ⟨hf0, hf1⟩ := si2 hm
        subst hf0
        subst hf1
        exact W.zret (v := (1 : Int32)) hx hb hr rfl (fun t ht hW => ⟨⟨rfl, by rw [ht]; exact hP⟩, hS.F ht⟩) hS.2.2 dX9_digits_100
      · replace hm := if_f hm c_1
        refine lv_aload_n hx hb dX9_digits_11 rfl (lv_at hl 0 rfl) ?_
        refine va_get (D := my_D Γ) (ci := 7) (v := .int (mi 16)) (C := RX9) (T := TX9) (N := 19) hx hb hts hinX9 hown hK hP 0 rfl rfl 16 (by decide) (hts (.fieldLink RX9 163 "BeltFloorModel" "spot" "I") (List.mem_of_getElem? (i := 2) rfl)) (fun _ h9 => h9) rfl dX9_digits_12 ?_
        refine lv_aload_n hx hb dX9_digits_15 rfl (lv_at hl 0 rfl) ?_
        refine va_get (D := my_D Γ) (ci := 7) (v := .int (mi 2)) (C := RX9) (T := TX9) (N := 19) hx hb hts hinX9 hown hK hP 0 rfl rfl 2 (by decide) (hts (.fieldLink RX9 153 "BeltFloorModel" "size" "I") (List.mem_of_getElem? (i := 3) rfl)) (fun _ h9 => h9) rfl dX9_digits_16 ?_
        refine lv_icmp_ge (tgt := 37) hx hb dX9_digits_19 (by decide) (fun c_2 => ?_) (fun c_2 => ?_)
        · replace hm := if_s hm c_2
          refine lv_iconst (v := (-1 : Int32)) hx hb dX9_digits_37 (by decide) ?_
          exact J_38 (fun mi vtt l2 l3 => mX9_digits_L7 n mi vtt l2 l3) ih mi vtt l2 l3 (-1 : Int32) _ _ _ hP hD hS (lv_sub hl [0, 1, 2] rfl) hm
        · replace hm := if_f hm c_2
          refine lv_aload_n hx hb dX9_digits_22 rfl (lv_at hl 0 rfl) ?_
          refine va_get (D := my_D Γ) (ci := 7) (v := .ref q_tt) (C := RX9) (T := TX9) (N := 19) hx hb hts hinX9 hown hK hP 0 rfl rfl 1 (by decide) (hts (.fieldLink RX9 7 "BeltFloorModel" "text" "[I") (List.mem_of_getElem? (i := 4) rfl)) (fun _ h9 => h9) rfl dX9_digits_23 ?_
          refine lv_aload_n hx hb dX9_digits_26 rfl (lv_at hl 0 rfl) ?_
          refine va_get (D := my_D Γ) (ci := 7) (v := .int (mi 16)) (C := RX9) (T := TX9) (N := 19) hx hb hts hinX9 hown hK hP 0 rfl rfl 16 (by decide) (hts (.fieldLink RX9 163 "BeltFloorModel" "spot" "I") (List.mem_of_getElem? (i := 2) rfl)) (fun _ h9 => h9) rfl dX9_digits_27 ?_
          obtain ⟨hi_7, hm⟩ := if_in hm
          refine va_iald hx hb hK hP 1 0 rfl rfl hi_7 dX9_digits_30 ?_
          refine lv_bipush (v := (48 : Int32)) hx hb dX9_digits_31 (by decide) ?_
          refine lv_isub hx hb dX9_digits_33 ?_
          refine lv_goto (tgt := 38) hx hb dX9_digits_34 (by decide) ?_
          exact J_38 (fun mi vtt l2 l3 => mX9_digits_L7 n mi vtt l2 l3) ih mi vtt l2 l3 ((vtt (mi 16).toNatClampNeg) - (48 : Int32)) _ _ _ hP hD hS (lv_sub hl [0, 1, 2] rfl) hm
  unfold mX9_digits at hm
  refine lv_aload_n hx hb dX9_digits_0 rfl (lv_at hl 0 rfl) ?_
  refine lv_iconst (v := (0 : Int32)) hx hb dX9_digits_1 (by decide) ?_
  refine va_put (D := my_D Γ) (ci := 7) (v := .int (0 : Int32)) (ty := .int) (C := RX9) (T := TX9) (N := 19) hx hb hts hinX9 tyX9 tyX9_ok nmX9 hown hK hP hD hS 0 rfl rfl 18 (by decide) (hts (.fieldLink RX9 160 "BeltFloorModel" "value" "I") (List.mem_of_getElem? (i := 1) rfl)) (fun _ h9 => h9) rfl (by decide +kernel) rfl rfl (Nat.le_of_ble_eq_true rfl) dX9_digits_2 (fun H locs hP hD hS => ?_)
  replace hP : va_P (my_D Γ) vwCl (wMoT Γ q_mo q_tt q_nw q_tr q_ot q_di q_kp q_ik q_wy q_ah q_tg q_ws q_fr q_rw (upd mi 18 (0 : Int32)) vtt) H := hP
  replace hD : va_D A (wMoT Γ q_mo q_tt q_nw q_tr q_ot q_di q_kp q_ik q_wy q_ah q_tg q_ws q_fr q_rw (upd mi 18 (0 : Int32)) vtt) := hD
  refine lv_iload_n hx hb dX9_digits_5 rfl (lv_at hl 1 rfl) ?_
  refine lv_istore_n (lv' := [(3, .int x0), (0, .ref q_mo), (1, .int x0), (2, .int x1)]) hx hb dX9_digits_6 rfl hl (by decide) rfl (fun ls hl => ?_)
  exact J_7 4096 (upd mi 18 (0 : Int32)) vtt x1 x0 _ _ _ hP hD hS (lv_sub hl [1, 3, 0] rfl) hm
def mX9_readKinds_J69 (k2 : (Nat → Int32) → (Nat → Int32) → (Nat → Int32) → Int32 → Option (Int32 × (Nat → Int32) × (Nat → Int32))) (mi : Nat → Int32) (vtt : Nat → Int32) (vs : Nat → Int32) (l2 : Int32) : Option (Int32 × (Nat → Int32) × (Nat → Int32)) := (k2 (upd mi 16 ((mi 16) + (1 : Int32))) vtt vs (l2 + (1 : Int32)))
def mX9_readKinds_J35 (k2 : (Nat → Int32) → (Nat → Int32) → (Nat → Int32) → Int32 → Option (Int32 × (Nat → Int32) × (Nat → Int32))) (mi : Nat → Int32) (vtt : Nat → Int32) (vs : Nat → Int32) (l2 : Int32) (s0 : Int32) : Option (Int32 × (Nat → Int32) × (Nat → Int32)) := (if s0 = (-1 : Int32) then (some ((0 : Int32), mi, vs)) else (bo1 (mX9_canKind vs l2 s0) (fun r_4 => (if r_4 = 0 then (mX9_readKinds_J69 k2 (upd mi 17 ((mi 17) + (1 : Int32))) vtt vs l2) else (if ¬ (l2 < 0 ∨ 117 ≤ l2.toNatClampNeg) then (mX9_readKinds_J69 k2 mi vtt (upd vs l2.toNatClampNeg s0) l2) else none)))))
def mX9_readKinds_L2  : Nat → (Nat → Int32) → (Nat → Int32) → (Nat → Int32) → Int32 → Option (Int32 × (Nat → Int32) × (Nat → Int32))
  | 0, _, _, _, _ => none
  | n + 1, mi, vtt, vs, l2 => (if (36 : Int32) ≤ l2 then (some ((1 : Int32), mi, vs)) else (if (mi 2) ≤ (mi 16) then (mX9_readKinds_J35 (fun mi vtt vs l2 => mX9_readKinds_L2 n mi vtt vs l2) mi vtt vs l2 (-1 : Int32)) else (if ¬ ((mi 16) < 0 ∨ 120 ≤ (mi 16).toNatClampNeg) then (mX9_readKinds_J35 (fun mi vtt vs l2 => mX9_readKinds_L2 n mi vtt vs l2) mi vtt vs l2 (mX9_kindOfSign (vtt (mi 16).toNatClampNeg))) else none)))
def mX9_readKinds (mi : Nat → Int32) (vtt : Nat → Int32) (vs : Nat → Int32) : Option (Int32 × (Nat → Int32) × (Nat → Int32)) := (mX9_readKinds_L2 4096 mi vtt vs (0 : Int32))
set_option maxHeartbeats 4000000 in
set_option maxRecDepth 100000 in
theorem kX9_readKinds (l : Launch) (Γ : my_G) (q_mo q_tt q_s q_nw q_tr q_ot q_di q_kp q_ik q_wy q_ah q_tg q_ws q_fr q_rw : Nat) (mi : Nat → Int32) (vtt : Nat → Int32) (vs : Nat → Int32)  (rr : Int32) (mi_z : Nat → Int32) (vs_z : Nat → Int32) (hm : mX9_readKinds mi vtt vs = (some (rr, mi_z, vs_z))) : Mn l yX9_readKinds wsX9_readKinds ({ frames := 4, cells := 0, slots := 0, locals := 86 } : Room) Γ [.ref q_mo, .ref q_s] (wRead Γ q_mo q_tt q_s q_nw q_tr q_ot q_di q_kp q_ik q_wy q_ah q_tg q_ws q_fr q_rw mi vtt vs) (some (.int rr)) (wRead Γ q_mo q_tt q_s q_nw q_tr q_ot q_di q_kp q_ik q_wy q_ah q_tg q_ws q_fr q_rw mi_z vtt vs_z) := by
  intro sz
  refine Met.ofW (cc := cX9_readKinds) (maxL := 4) (ret := (some .boolean)) (by decide) rfl ?_
  intro p e s m args below meth c s₁ B hml hv
  obtain ⟨rfl, hsz, hP, hK, hD0⟩ := hv
  have hx := B.exec
  have hb := B.bytes
  have hr := B.returns
  have hts := atoms_spec (ws := wsX9_readKinds) B.pre
  have hown : s.vm.findClass RX9 = some m.cls := findClass_of_methodNamed B.named
  have hlocks := B.notSynchronized
  have hinX9 : ∀ w ∈ u_ws RX9 TX9 19, w ∈ wsX9_readKinds := fun w h => List.mem_cons_of_mem _ (List.mem_append_right _ h)
  subst hsz
  have hD := hD0.self (sz := s.heap.size)
  have hA : ∀ q : Nat, s.heap.size ≤ q → va_A (wRead Γ q_mo q_tt q_s q_nw q_tr q_ot q_di q_kp q_ik q_wy q_ah q_tg q_ws q_fr q_rw mi vtt vs) s.heap.size q := fun q h => Or.inr h
  generalize va_A (wRead Γ q_mo q_tt q_s q_nw q_tr q_ot q_di q_kp q_ik q_wy q_ah q_tg q_ws q_fr q_rw mi vtt vs) s.heap.size = A at hD hA ⊢
  have hS : va_S A s.heap s.heap [] := va_S.rf
  have hl := lv_entry ([.ref q_mo, .ref q_s]) (n := 4) (Nat.le_of_ble_eq_true rfl)
  rw [lg_entry_eq]
  generalize (lg_sl ([.ref q_mo, .ref q_s]) ++ List.replicate (4 - (lg_sl ([.ref q_mo, .ref q_s])).length) Slot.unset).toArray = ls at hl ⊢
  replace hl : lv_has ls 4 [(0, .ref q_mo), (1, .ref q_s)] := hl
  have J_69 : ∀ (k2 : (Nat → Int32) → (Nat → Int32) → (Nat → Int32) → Int32 → Option (Int32 × (Nat → Int32) × (Nat → Int32))), (∀ (mi : Nat → Int32) (vtt : Nat → Int32) (vs : Nat → Int32) (l2 : Int32) (H : Heap) (locs : List Loc) (ls : Array Slot), va_P (my_D Γ) vwCl (wRead Γ q_mo q_tt q_s q_nw q_tr q_ot q_di q_kp q_ik q_wy q_ah q_tg q_ws q_fr q_rw mi vtt vs) H → va_D A (wRead Γ q_mo q_tt q_s q_nw q_tr q_ot q_di q_kp q_ik q_wy q_ah q_tg q_ws q_fr q_rw mi vtt vs) → va_S A s.heap H locs → lv_has ls 4 [(0, .ref q_mo), (1, .ref q_s), (2, .int l2)] → k2 mi vtt vs l2 = (some (rr, mi_z, vs_z)) → W p l e (headSpec wsX9_readKinds ({ frames := 4, cells := 0, slots := 0, locals := 86 } : Room)).room s m ([.ref q_mo, .ref q_s] : List Value).toArray below meth c H locs 0 0 (MQ below (my_Q Γ A (some (.int rr)) (wRead Γ q_mo q_tt q_s q_nw q_tr q_ot q_di q_kp q_ik q_wy q_ah q_tg q_ws q_fr q_rw mi_z vtt vs_z)) ([.ref q_mo, .ref q_s] : List Value).toArray s 0 0 A) (F0 m 2 ls [])) → ∀ (mi : Nat → Int32) (vtt : Nat → Int32) (vs : Nat → Int32) (l2 : Int32) (H : Heap) (locs : List Loc) (ls : Array Slot), va_P (my_D Γ) vwCl (wRead Γ q_mo q_tt q_s q_nw q_tr q_ot q_di q_kp q_ik q_wy q_ah q_tg q_ws q_fr q_rw mi vtt vs) H → va_D A (wRead Γ q_mo q_tt q_s q_nw q_tr q_ot q_di q_kp q_ik q_wy q_ah q_tg q_ws q_fr q_rw mi vtt vs) → va_S A s.heap H locs → lv_has ls 4 [(0, .ref q_mo), (1, .ref q_s), (2, .int l2)] → mX9_readKinds_J69 k2 mi vtt vs l2 = (some (rr, mi_z, vs_z)) → W p l e (headSpec wsX9_readKinds ({ frames := 4, cells := 0, slots := 0, locals := 86 } : Room)).room s m ([.ref q_mo, .ref q_s] : List Value).toArray below meth c H locs 0 0 (MQ below (my_Q Γ A (some (.int rr)) (wRead Γ q_mo q_tt q_s q_nw q_tr q_ot q_di q_kp q_ik q_wy q_ah q_tg q_ws q_fr q_rw mi_z vtt vs_z)) ([.ref q_mo, .ref q_s] : List Value).toArray s 0 0 A) (F0 m 69 ls []) := by
    intro k2 hk2 mi vtt vs l2 H locs ls hP hD hS hl hm
    unfold mX9_readKinds_J69 at hm
    refine lv_aload_n hx hb dX9_readKinds_69 rfl (lv_at hl 0 rfl) ?_
    refine lv_dup hx hb dX9_readKinds_70 rfl ?_
    refine va_get (D := my_D Γ) (ci := 7) (v := .int (mi 16)) (C := RX9) (T := TX9) (N := 19) hx hb hts hinX9 hown hK hP 0 rfl rfl 16 (by decide) (hts (.fieldLink RX9 163 "BeltFloorModel" "spot" "I") (List.mem_of_getElem? (i := 1) rfl)) (fun _ h9 => h9) rfl dX9_readKinds_71 ?_
    refine lv_iconst (v := (1 : Int32)) hx hb dX9_readKinds_74 (by decide) ?_
    refine lv_iadd hx hb dX9_readKinds_75 ?_
    refine lv_topi (fun y_8 ey_8 => ?_)
    refine va_put (D := my_D Γ) (ci := 7) (v := .int y_8) (ty := .int) (C := RX9) (T := TX9) (N := 19) hx hb hts hinX9 tyX9 tyX9_ok nmX9 hown hK hP hD hS 0 rfl rfl 16 (by decide) (hts (.fieldLink RX9 163 "BeltFloorModel" "spot" "I") (List.mem_of_getElem? (i := 1) rfl)) (fun _ h9 => h9) rfl (by decide +kernel) rfl rfl (Nat.le_of_ble_eq_true rfl) dX9_readKinds_76 (fun H locs hP hD hS => ?_)
    replace hP : va_P (my_D Γ) vwCl (wRead Γ q_mo q_tt q_s q_nw q_tr q_ot q_di q_kp q_ik q_wy q_ah q_tg q_ws q_fr q_rw (upd mi 16 y_8) vtt vs) H := hP
    replace hD : va_D A (wRead Γ q_mo q_tt q_s q_nw q_tr q_ot q_di q_kp q_ik q_wy q_ah q_tg q_ws q_fr q_rw (upd mi 16 y_8) vtt vs) := hD
    subst ey_8
    refine lv_iinc (v := (l2 + (1 : Int32))) (lv' := [(2, .int (l2 + (1 : Int32))), (0, .ref q_mo), (1, .ref q_s)]) hx hb dX9_readKinds_79 hl (k := 2) rfl rfl (by decide) rfl (fun ls hl => ?_)
    refine lv_goto (tgt := 2) hx hb dX9_readKinds_82 (by decide) ?_
    exact hk2 (upd mi 16 ((mi 16) + (1 : Int32))) vtt vs (l2 + (1 : Int32)) _ _ _ hP hD hS (lv_sub hl [1, 2, 0] rfl) hm
  have J_35 : ∀ (k2 : (Nat → Int32) → (Nat → Int32) → (Nat → Int32) → Int32 → Option (Int32 × (Nat → Int32) × (Nat → Int32))), (∀ (mi : Nat → Int32) (vtt : Nat → Int32) (vs : Nat → Int32) (l2 : Int32) (H : Heap) (locs : List Loc) (ls : Array Slot), va_P (my_D Γ) vwCl (wRead Γ q_mo q_tt q_s q_nw q_tr q_ot q_di q_kp q_ik q_wy q_ah q_tg q_ws q_fr q_rw mi vtt vs) H → va_D A (wRead Γ q_mo q_tt q_s q_nw q_tr q_ot q_di q_kp q_ik q_wy q_ah q_tg q_ws q_fr q_rw mi vtt vs) → va_S A s.heap H locs → lv_has ls 4 [(0, .ref q_mo), (1, .ref q_s), (2, .int l2)] → k2 mi vtt vs l2 = (some (rr, mi_z, vs_z)) → W p l e (headSpec wsX9_readKinds ({ frames := 4, cells := 0, slots := 0, locals := 86 } : Room)).room s m ([.ref q_mo, .ref q_s] : List Value).toArray below meth c H locs 0 0 (MQ below (my_Q Γ A (some (.int rr)) (wRead Γ q_mo q_tt q_s q_nw q_tr q_ot q_di q_kp q_ik q_wy q_ah q_tg q_ws q_fr q_rw mi_z vtt vs_z)) ([.ref q_mo, .ref q_s] : List Value).toArray s 0 0 A) (F0 m 2 ls [])) → ∀ (mi : Nat → Int32) (vtt : Nat → Int32) (vs : Nat → Int32) (l2 : Int32) (s0 : Int32) (H : Heap) (locs : List Loc) (ls : Array Slot), va_P (my_D Γ) vwCl (wRead Γ q_mo q_tt q_s q_nw q_tr q_ot q_di q_kp q_ik q_wy q_ah q_tg q_ws q_fr q_rw mi vtt vs) H → va_D A (wRead Γ q_mo q_tt q_s q_nw q_tr q_ot q_di q_kp q_ik q_wy q_ah q_tg q_ws q_fr q_rw mi vtt vs) → va_S A s.heap H locs → lv_has ls 4 [(0, .ref q_mo), (1, .ref q_s), (2, .int l2)] → mX9_readKinds_J35 k2 mi vtt vs l2 s0 = (some (rr, mi_z, vs_z)) → W p l e (headSpec wsX9_readKinds ({ frames := 4, cells := 0, slots := 0, locals := 86 } : Room)).room s m ([.ref q_mo, .ref q_s] : List Value).toArray below meth c H locs 0 0 (MQ below (my_Q Γ A (some (.int rr)) (wRead Γ q_mo q_tt q_s q_nw q_tr q_ot q_di q_kp q_ik q_wy q_ah q_tg q_ws q_fr q_rw mi_z vtt vs_z)) ([.ref q_mo, .ref q_s] : List Value).toArray s 0 0 A) (F0 m 35 ls [.int s0]) := by
    intro k2 hk2 mi vtt vs l2 s0 H locs ls hP hD hS hl hm
    unfold mX9_readKinds_J35 at hm
    refine lv_istore_n (lv' := [(3, .int s0), (0, .ref q_mo), (1, .ref q_s), (2, .int l2)]) hx hb dX9_readKinds_35 rfl hl (by decide) rfl (fun ls hl => ?_)
    refine lv_iload_n hx hb dX9_readKinds_36 rfl (lv_at hl 0 rfl) ?_
    refine lv_iconst (v := (-1 : Int32)) hx hb dX9_readKinds_37 (by decide) ?_
    refine lv_icmp_ne (tgt := 43) hx hb dX9_readKinds_38 (by decide) (fun c_3 => ?_) (fun c_3 => ?_)
    · replace hm := if_f hm c_3
      refine lv_aload_n hx hb dX9_readKinds_43 rfl (lv_at hl 2 rfl) ?_
      refine lv_iload_n hx hb dX9_readKinds_44 rfl (lv_at hl 3 rfl) ?_
      refine lv_iload_n hx hb dX9_readKinds_45 rfl (lv_at hl 0 rfl) ?_
      obtain ⟨r_4, hc_5, hm⟩ := bo1_s hm
      refine my_callP1 (wc := (wArr117 Γ q_s vs)) (w1 := (wArr117 Γ q_s vs)) (ws1 := (wRead Γ q_mo q_tt q_s q_nw q_tr q_ot q_di q_kp q_ik q_wy q_ah q_tg q_ws q_fr q_rw mi vtt vs)) hP hD hS hA [2] rfl rfl rfl (va_runS (As := [.ref q_s, .int l2, .int s0]) (rest := []) ⟨hx, hb, hml, hown, hts⟩ (kX9_canKind l Γ q_s vs l2 s0 r_4 hc_5 _) (va_cwS 3 hts gX9_readKinds_X9_canKind rfl rfl rfl (by decide +kernel) ⟨Nat.le_of_ble_eq_true rfl, Nat.le_of_ble_eq_true rfl⟩) (my_preS (wc := (wArr117 Γ q_s vs)) [2] hK hP hD rfl rfl) rfl rfl hl.1 rfl (lv_room (Nat.le_of_ble_eq_true rfl)) dX9_readKinds_46 ⟨Nat.le_of_ble_eq_true rfl, Nat.le_of_ble_eq_true rfl⟩) (fun H locs hP hD hS => ?_)
      refine lv_if_eq (tgt := 59) hx hb dX9_readKinds_49 (by decide) (fun c_6 => ?_) (fun c_6 => ?_)
      · replace hm := if_s hm c_6
        refine lv_aload_n hx hb dX9_readKinds_59 rfl (lv_at hl 1 rfl) ?_
        refine lv_dup hx hb dX9_readKinds_60 rfl ?_
        refine va_get (D := my_D Γ) (ci := 7) (v := .int (mi 17)) (C := RX9) (T := TX9) (N := 19) hx hb hts hinX9 hown hK hP 0 rfl rfl 17 (by decide) (hts (.fieldLink RX9 176 "BeltFloorModel" "skipped" "I") (List.mem_of_getElem? (i := 4) rfl)) (fun _ h9 => h9) rfl dX9_readKinds_61 ?_
        refine lv_iconst (v := (1 : Int32)) hx hb dX9_readKinds_64 (by decide) ?_
        refine lv_iadd hx hb dX9_readKinds_65 ?_
        refine lv_topi (fun y_7 ey_7 => ?_)
        refine va_put (D := my_D Γ) (ci := 7) (v := .int y_7) (ty := .int) (C := RX9) (T := TX9) (N := 19) hx hb hts hinX9 tyX9 tyX9_ok nmX9 hown hK hP hD hS 0 rfl rfl 17 (by decide) (hts (.fieldLink RX9 176 "BeltFloorModel" "skipped" "I") (List.mem_of_getElem? (i := 4) rfl)) (fun _ h9 => h9) rfl (by decide +kernel) rfl rfl (Nat.le_of_ble_eq_true rfl) dX9_readKinds_66 (fun H locs hP hD hS => ?_)
        replace hP : va_P (my_D Γ) vwCl (wRead Γ q_mo q_tt q_s q_nw q_tr q_ot q_di q_kp q_ik q_wy q_ah q_tg q_ws q_fr q_rw (upd mi 17 y_7) vtt vs) H := hP
        replace hD : va_D A (wRead Γ q_mo q_tt q_s q_nw q_tr q_ot q_di q_kp q_ik q_wy q_ah q_tg q_ws q_fr q_rw (upd mi 17 y_7) vtt vs) := hD
        subst ey_7
        exact J_69 k2 hk2 (upd mi 17 ((mi 17) + (1 : Int32))) vtt vs l2 _ _ _ hP hD hS (lv_sub hl [1, 2, 3] rfl) hm
      · replace hm := if_f hm c_6
        refine lv_aload_n hx hb dX9_readKinds_52 rfl (lv_at hl 2 rfl) ?_
        refine lv_iload_n hx hb dX9_readKinds_53 rfl (lv_at hl 3 rfl) ?_
        refine lv_iload_n hx hb dX9_readKinds_54 rfl (lv_at hl 0 rfl) ?_
        obtain ⟨hi_9, hm⟩ := if_in hm
        refine va_iast hx hb hK hP hD hS 2 0 rfl rfl hi_9 dX9_readKinds_55 (fun H locs hP hD hS => ?_)
        replace hP : va_P (my_D Γ) vwCl (wRead Γ q_mo q_tt q_s q_nw q_tr q_ot q_di q_kp q_ik q_wy q_ah q_tg q_ws q_fr q_rw mi vtt (upd vs l2.toNatClampNeg s0)) H := hP
        replace hD : va_D A (wRead Γ q_mo q_tt q_s q_nw q_tr q_ot q_di q_kp q_ik q_wy q_ah q_tg q_ws q_fr q_rw mi vtt (upd vs l2.toNatClampNeg s0)) := hD
        refine lv_goto (tgt := 69) hx hb dX9_readKinds_56 (by decide) ?_
        exact J_69 k2 hk2 mi vtt (upd vs l2.toNatClampNeg s0) l2 _ _ _ hP hD hS (lv_sub hl [1, 2, 3] rfl) hm
    · replace hm := if_s hm c_3
      refine lv_iconst (v := (0 : Int32)) hx hb dX9_readKinds_41 (by decide) ?_
      obtain ⟨hf0, hf1, hf2⟩ := si3 hm
      subst hf0
      subst hf1
      subst hf2
      exact W.zret (v := (0 : Int32)) hx hb hr rfl (fun t ht hW => ⟨⟨rfl, by rw [ht]; exact hP⟩, hS.F ht⟩) hS.2.2 dX9_readKinds_42
  have J_2 : ∀ n : Nat, ∀ (mi : Nat → Int32) (vtt : Nat → Int32) (vs : Nat → Int32) (l2 : Int32) (H : Heap) (locs : List Loc) (ls : Array Slot), va_P (my_D Γ) vwCl (wRead Γ q_mo q_tt q_s q_nw q_tr q_ot q_di q_kp q_ik q_wy q_ah q_tg q_ws q_fr q_rw mi vtt vs) H → va_D A (wRead Γ q_mo q_tt q_s q_nw q_tr q_ot q_di q_kp q_ik q_wy q_ah q_tg q_ws q_fr q_rw mi vtt vs) → va_S A s.heap H locs → lv_has ls 4 [(0, .ref q_mo), (1, .ref q_s), (2, .int l2)] → mX9_readKinds_L2 n mi vtt vs l2 = (some (rr, mi_z, vs_z)) → W p l e (headSpec wsX9_readKinds ({ frames := 4, cells := 0, slots := 0, locals := 86 } : Room)).room s m ([.ref q_mo, .ref q_s] : List Value).toArray below meth c H locs 0 0 (MQ below (my_Q Γ A (some (.int rr)) (wRead Γ q_mo q_tt q_s q_nw q_tr q_ot q_di q_kp q_ik q_wy q_ah q_tg q_ws q_fr q_rw mi_z vtt vs_z)) ([.ref q_mo, .ref q_s] : List Value).toArray s 0 0 A) (F0 m 2 ls []) := by
    intro  n
    induction n with
    | zero => intro mi vtt vs l2 H locs ls hP hD hS hl hm; cases hm
    | succ n ih =>
      intro mi vtt vs l2 H locs ls hP hD hS hl hm
      unfold mX9_readKinds_L2 at hm
      refine lv_iload_n hx hb dX9_readKinds_2 rfl (lv_at hl 2 rfl) ?_
      refine lv_bipush (v := (36 : Int32)) hx hb dX9_readKinds_3 (by decide) ?_
      refine lv_icmp_ge (tgt := 85) hx hb dX9_readKinds_5 (by decide) (fun c_1 => ?_) (fun c_1 => ?_)
      · replace hm := if_s hm c_1
        refine lv_iconst (v := (1 : Int32)) hx hb dX9_readKinds_85 (by decide) ?_
        obtain ⟨hf0, hf1, hf2⟩ := si3 hm
        subst hf0
        subst hf1
        subst hf2
        exact W.zret (v := (1 : Int32)) hx hb hr rfl (fun t ht hW => ⟨⟨rfl, by rw [ht]; exact hP⟩, hS.F ht⟩) hS.2.2 dX9_readKinds_86
      · replace hm := if_f hm c_1
        refine lv_aload_n hx hb dX9_readKinds_8 rfl (lv_at hl 0 rfl) ?_
        refine va_get (D := my_D Γ) (ci := 7) (v := .int (mi 16)) (C := RX9) (T := TX9) (N := 19) hx hb hts hinX9 hown hK hP 0 rfl rfl 16 (by decide) (hts (.fieldLink RX9 163 "BeltFloorModel" "spot" "I") (List.mem_of_getElem? (i := 1) rfl)) (fun _ h9 => h9) rfl dX9_readKinds_9 ?_
        refine lv_aload_n hx hb dX9_readKinds_12 rfl (lv_at hl 0 rfl) ?_
        refine va_get (D := my_D Γ) (ci := 7) (v := .int (mi 2)) (C := RX9) (T := TX9) (N := 19) hx hb hts hinX9 hown hK hP 0 rfl rfl 2 (by decide) (hts (.fieldLink RX9 153 "BeltFloorModel" "size" "I") (List.mem_of_getElem? (i := 2) rfl)) (fun _ h9 => h9) rfl dX9_readKinds_13 ?_
        refine lv_icmp_ge (tgt := 34) hx hb dX9_readKinds_16 (by decide) (fun c_2 => ?_) (fun c_2 => ?_)
        · replace hm := if_s hm c_2
          refine lv_iconst (v := (-1 : Int32)) hx hb dX9_readKinds_34 (by decide) ?_
          exact J_35 (fun mi vtt vs l2 => mX9_readKinds_L2 n mi vtt vs l2) ih mi vtt vs l2 (-1 : Int32) _ _ _ hP hD hS (lv_sub hl [0, 1, 2] rfl) hm
        · replace hm := if_f hm c_2
          refine lv_aload_n hx hb dX9_readKinds_19 rfl (lv_at hl 0 rfl) ?_
          refine va_get (D := my_D Γ) (ci := 7) (v := .ref q_tt) (C := RX9) (T := TX9) (N := 19) hx hb hts hinX9 hown hK hP 0 rfl rfl 1 (by decide) (hts (.fieldLink RX9 7 "BeltFloorModel" "text" "[I") (List.mem_of_getElem? (i := 3) rfl)) (fun _ h9 => h9) rfl dX9_readKinds_20 ?_
          refine lv_aload_n hx hb dX9_readKinds_23 rfl (lv_at hl 0 rfl) ?_
          refine va_get (D := my_D Γ) (ci := 7) (v := .int (mi 16)) (C := RX9) (T := TX9) (N := 19) hx hb hts hinX9 hown hK hP 0 rfl rfl 16 (by decide) (hts (.fieldLink RX9 163 "BeltFloorModel" "spot" "I") (List.mem_of_getElem? (i := 1) rfl)) (fun _ h9 => h9) rfl dX9_readKinds_24 ?_
          obtain ⟨hi_10, hm⟩ := if_in hm
          refine va_iald hx hb hK hP 1 0 rfl rfl hi_10 dX9_readKinds_27 ?_
          refine my_callP1 (wc := ([] : va_W)) (w1 := ([] : va_W)) (ws1 := (wRead Γ q_mo q_tt q_s q_nw q_tr q_ot q_di q_kp q_ik q_wy q_ah q_tg q_ws q_fr q_rw mi vtt vs)) hP hD hS hA [] rfl rfl rfl (va_runS (As := [.int (vtt (mi 16).toNatClampNeg)]) (rest := []) ⟨hx, hb, hml, hown, hts⟩ (kX9_kindOfSign l Γ (vtt (mi 16).toNatClampNeg) (mX9_kindOfSign (vtt (mi 16).toNatClampNeg)) rfl _) (va_cwS 1 hts gX9_readKinds_X9_kindOfSign rfl rfl rfl (by decide +kernel) ⟨Nat.le_of_ble_eq_true rfl, Nat.le_of_ble_eq_true rfl⟩) (my_preS (wc := ([] : va_W)) [] hK hP hD rfl rfl) rfl rfl hl.1 rfl (lv_room (Nat.le_of_ble_eq_true rfl)) dX9_readKinds_28 ⟨Nat.le_of_ble_eq_true rfl, Nat.le_of_ble_eq_true rfl⟩) (fun H locs hP hD hS => ?_)
          refine lv_goto (tgt := 35) hx hb dX9_readKinds_31 (by decide) ?_
          exact J_35 (fun mi vtt vs l2 => mX9_readKinds_L2 n mi vtt vs l2) ih mi vtt vs l2 (mX9_kindOfSign (vtt (mi 16).toNatClampNeg)) _ _ _ hP hD hS (lv_sub hl [0, 1, 2] rfl) hm
  unfold mX9_readKinds at hm
  refine lv_iconst (v := (0 : Int32)) hx hb dX9_readKinds_0 (by decide) ?_
  refine lv_istore_n (lv' := [(2, .int (0 : Int32)), (0, .ref q_mo), (1, .ref q_s)]) hx hb dX9_readKinds_1 rfl hl (by decide) rfl (fun ls hl => ?_)
  exact J_2 4096 mi vtt vs (0 : Int32) _ _ _ hP hD hS (lv_sub hl [1, 2, 0] rfl) hm
def mX9_readRobot (mi : Nat → Int32) (vtt : Nat → Int32) (vs : Nat → Int32) : Option (Int32 × (Nat → Int32) × (Nat → Int32)) := (bo2 (mX9_digits mi vtt (1 : Int32) (1 : Int32)) (fun r_1 mi_2 => (if r_1 = 0 then (some ((0 : Int32), mi_2, vs)) else (bo2 (mX9_digits mi_2 vtt (10 : Int32) (35 : Int32)) (fun r_5 mi_6 => (if r_5 = 0 then (some ((0 : Int32), mi_6, vs)) else (bo2 (mX9_digits mi_6 vtt (1 : Int32) (3 : Int32)) (fun r_9 mi_10 => (if r_9 = 0 then (some ((0 : Int32), mi_10, vs)) else (bo1 (mX9_canPut vs (mi_2 18) (mi_6 18)) (fun r_13 => (if r_13 = 0 then (some ((1 : Int32), (upd mi_10 17 ((mi_10 17) + (1 : Int32))), vs)) else (bo2 (mX9_putOn vs (mi_2 18) (mi_6 18) (mi_10 18)) (fun r_17 vs_18 => (if r_17 < 0 then (some ((1 : Int32), (upd mi_10 17 ((mi_10 17) + (1 : Int32))), vs_18)) else (some ((1 : Int32), (upd mi_10 17 ((mi_10 17) + (0 : Int32))), vs_18)))))))))))))))))
set_option maxHeartbeats 4000000 in
set_option maxRecDepth 100000 in
theorem kX9_readRobot (l : Launch) (Γ : my_G) (q_mo q_tt q_s q_nw q_tr q_ot q_di q_kp q_ik q_wy q_ah q_tg q_ws q_fr q_rw : Nat) (mi : Nat → Int32) (vtt : Nat → Int32) (vs : Nat → Int32)  (rr : Int32) (mi_z : Nat → Int32) (vs_z : Nat → Int32) (hm : mX9_readRobot mi vtt vs = (some (rr, mi_z, vs_z))) : Mn l yX9_readRobot wsX9_readRobot ({ frames := 4, cells := 0, slots := 0, locals := 86 } : Room) Γ [.ref q_mo, .ref q_s] (wRead Γ q_mo q_tt q_s q_nw q_tr q_ot q_di q_kp q_ik q_wy q_ah q_tg q_ws q_fr q_rw mi vtt vs) (some (.int rr)) (wRead Γ q_mo q_tt q_s q_nw q_tr q_ot q_di q_kp q_ik q_wy q_ah q_tg q_ws q_fr q_rw mi_z vtt vs_z) := by
  intro sz
  refine Met.ofW (cc := cX9_readRobot) (maxL := 4) (ret := (some .boolean)) (by decide) rfl ?_
  intro p e s m args below meth c s₁ B hml hv
  obtain ⟨rfl, hsz, hP, hK, hD0⟩ := hv
  have hx := B.exec
  have hb := B.bytes
  have hr := B.returns
  have hts := atoms_spec (ws := wsX9_readRobot) B.pre
  have hown : s.vm.findClass RX9 = some m.cls := findClass_of_methodNamed B.named
  have hlocks := B.notSynchronized
  have hinX9 : ∀ w ∈ u_ws RX9 TX9 19, w ∈ wsX9_readRobot := fun w h => List.mem_cons_of_mem _ (List.mem_append_right _ h)
  subst hsz
  have hD := hD0.self (sz := s.heap.size)
  have hA : ∀ q : Nat, s.heap.size ≤ q → va_A (wRead Γ q_mo q_tt q_s q_nw q_tr q_ot q_di q_kp q_ik q_wy q_ah q_tg q_ws q_fr q_rw mi vtt vs) s.heap.size q := fun q h => Or.inr h
  generalize va_A (wRead Γ q_mo q_tt q_s q_nw q_tr q_ot q_di q_kp q_ik q_wy q_ah q_tg q_ws q_fr q_rw mi vtt vs) s.heap.size = A at hD hA ⊢
  have hS : va_S A s.heap s.heap [] := va_S.rf
  have hl := lv_entry ([.ref q_mo, .ref q_s]) (n := 4) (Nat.le_of_ble_eq_true rfl)
  rw [lg_entry_eq]
  generalize (lg_sl ([.ref q_mo, .ref q_s]) ++ List.replicate (4 - (lg_sl ([.ref q_mo, .ref q_s])).length) Slot.unset).toArray = ls at hl ⊢
  replace hl : lv_has ls 4 [(0, .ref q_mo), (1, .ref q_s)] := hl
  unfold mX9_readRobot at hm
  refine lv_aload_n hx hb dX9_readRobot_0 rfl (lv_at hl 0 rfl) ?_
  refine lv_iconst (v := (1 : Int32)) hx hb dX9_readRobot_1 (by decide) ?_
  refine lv_iconst (v := (1 : Int32)) hx hb dX9_readRobot_2 (by decide) ?_
  obtain ⟨r_1, mi_2, hc_3, hm⟩ := bo2_s hm
  refine my_callP1 (wc := (wMoT Γ q_mo q_tt q_nw q_tr q_ot q_di q_kp q_ik q_wy q_ah q_tg q_ws q_fr q_rw mi vtt)) (w1 := (wMoT Γ q_mo q_tt q_nw q_tr q_ot q_di q_kp q_ik q_wy q_ah q_tg q_ws q_fr q_rw mi_2 vtt)) (ws1 := (wRead Γ q_mo q_tt q_s q_nw q_tr q_ot q_di q_kp q_ik q_wy q_ah q_tg q_ws q_fr q_rw mi_2 vtt vs)) hP hD hS hA [0, 1] rfl rfl rfl (va_runV (As := [.int (1 : Int32), .int (1 : Int32)]) (rest := []) ⟨hx, hb, hml, hown, hts⟩ (kX9_digits l Γ q_mo q_tt q_nw q_tr q_ot q_di q_kp q_ik q_wy q_ah q_tg q_ws q_fr q_rw mi vtt (1 : Int32) (1 : Int32) r_1 mi_2 hc_3 _) (cwV 2 hts gX9_readRobot_X9_digits rfl rfl rfl (by decide +kernel) ⟨Nat.le_of_ble_eq_true rfl, Nat.le_of_ble_eq_true rfl⟩) (my_preV (wc := (wMoT Γ q_mo q_tt q_nw q_tr q_ot q_di q_kp q_ik q_wy q_ah q_tg q_ws q_fr q_rw mi vtt)) (ci := 7) (q0 := 0) [0, 1] hK hP hD rfl rfl rfl rfl) rfl rfl hl.1 rfl (lv_room (Nat.le_of_ble_eq_true rfl)) dX9_readRobot_3 ⟨Nat.le_of_ble_eq_true rfl, Nat.le_of_ble_eq_true rfl⟩) (fun H locs hP hD hS => ?_)
  refine lv_if_ne (tgt := 11) hx hb dX9_readRobot_6 (by decide) (fun c_4 => ?_) (fun c_4 => ?_)
  · replace hm := if_f hm c_4
    refine lv_aload_n hx hb dX9_readRobot_11 rfl (lv_at hl 0 rfl) ?_
    refine va_get (D := my_D Γ) (ci := 7) (v := .int (mi_2 18)) (C := RX9) (T := TX9) (N := 19) hx hb hts hinX9 hown hK hP 0 rfl rfl 18 (by decide) (hts (.fieldLink RX9 160 "BeltFloorModel" "value" "I") (List.mem_of_getElem? (i := 1) rfl)) (fun _ h9 => h9) rfl dX9_readRobot_12 ?_
    refine lv_istore_n (lv' := [(2, .int (mi_2 18)), (0, .ref q_mo), (1, .ref q_s)]) hx hb dX9_readRobot_15 rfl hl (by decide) rfl (fun ls hl => ?_)
    refine lv_aload_n hx hb dX9_readRobot_16 rfl (lv_at hl 1 rfl) ?_
    refine lv_bipush (v := (10 : Int32)) hx hb dX9_readRobot_17 (by decide) ?_
    refine lv_bipush (v := (35 : Int32)) hx hb dX9_readRobot_19 (by decide) ?_
    obtain ⟨r_5, mi_6, hc_7, hm⟩ := bo2_s hm
    refine my_callP1 (wc := (wMoT Γ q_mo q_tt q_nw q_tr q_ot q_di q_kp q_ik q_wy q_ah q_tg q_ws q_fr q_rw mi_2 vtt)) (w1 := (wMoT Γ q_mo q_tt q_nw q_tr q_ot q_di q_kp q_ik q_wy q_ah q_tg q_ws q_fr q_rw mi_6 vtt)) (ws1 := (wRead Γ q_mo q_tt q_s q_nw q_tr q_ot q_di q_kp q_ik q_wy q_ah q_tg q_ws q_fr q_rw mi_6 vtt vs)) hP hD hS hA [0, 1] rfl rfl rfl (va_runV (As := [.int (10 : Int32), .int (35 : Int32)]) (rest := []) ⟨hx, hb, hml, hown, hts⟩ (kX9_digits l Γ q_mo q_tt q_nw q_tr q_ot q_di q_kp q_ik q_wy q_ah q_tg q_ws q_fr q_rw mi_2 vtt (10 : Int32) (35 : Int32) r_5 mi_6 hc_7 _) (cwV 2 hts gX9_readRobot_X9_digits rfl rfl rfl (by decide +kernel) ⟨Nat.le_of_ble_eq_true rfl, Nat.le_of_ble_eq_true rfl⟩) (my_preV (wc := (wMoT Γ q_mo q_tt q_nw q_tr q_ot q_di q_kp q_ik q_wy q_ah q_tg q_ws q_fr q_rw mi_2 vtt)) (ci := 7) (q0 := 0) [0, 1] hK hP hD rfl rfl rfl rfl) rfl rfl hl.1 rfl (lv_room (Nat.le_of_ble_eq_true rfl)) dX9_readRobot_21 ⟨Nat.le_of_ble_eq_true rfl, Nat.le_of_ble_eq_true rfl⟩) (fun H locs hP hD hS => ?_)
    refine lv_if_ne (tgt := 29) hx hb dX9_readRobot_24 (by decide) (fun c_8 => ?_) (fun c_8 => ?_)
    · replace hm := if_f hm c_8
      refine lv_aload_n hx hb dX9_readRobot_29 rfl (lv_at hl 1 rfl) ?_
      refine va_get (D := my_D Γ) (ci := 7) (v := .int (mi_6 18)) (C := RX9) (T := TX9) (N := 19) hx hb hts hinX9 hown hK hP 0 rfl rfl 18 (by decide) (hts (.fieldLink RX9 160 "BeltFloorModel" "value" "I") (List.mem_of_getElem? (i := 1) rfl)) (fun _ h9 => h9) rfl dX9_readRobot_30 ?_
      refine lv_istore_n (lv' := [(3, .int (mi_6 18)), (2, .int (mi_2 18)), (0, .ref q_mo), (1, .ref q_s)]) hx hb dX9_readRobot_33 rfl hl (by decide) rfl (fun ls hl => ?_)
      refine lv_aload_n hx hb dX9_readRobot_34 rfl (lv_at hl 2 rfl) ?_
      refine lv_iconst (v := (1 : Int32)) hx hb dX9_readRobot_35 (by decide) ?_
      refine lv_iconst (v := (3 : Int32)) hx hb dX9_readRobot_36 (by decide) ?_
      obtain ⟨r_9, mi_10, hc_11, hm⟩ := bo2_s hm
      refine my_callP1 (wc := (wMoT Γ q_mo q_tt q_nw q_tr q_ot q_di q_kp q_ik q_wy q_ah q_tg q_ws q_fr q_rw mi_6 vtt)) (w1 := (wMoT Γ q_mo q_tt q_nw q_tr q_ot q_di q_kp q_ik q_wy q_ah q_tg q_ws q_fr q_rw mi_10 vtt)) (ws1 := (wRead Γ q_mo q_tt q_s q_nw q_tr q_ot q_di q_kp q_ik q_wy q_ah q_tg q_ws q_fr q_rw mi_10 vtt vs)) hP hD hS hA [0, 1] rfl rfl rfl (va_runV (As := [.int (1 : Int32), .int (3 : Int32)]) (rest := []) ⟨hx, hb, hml, hown, hts⟩ (kX9_digits l Γ q_mo q_tt q_nw q_tr q_ot q_di q_kp q_ik q_wy q_ah q_tg q_ws q_fr q_rw mi_6 vtt (1 : Int32) (3 : Int32) r_9 mi_10 hc_11 _) (cwV 2 hts gX9_readRobot_X9_digits rfl rfl rfl (by decide +kernel) ⟨Nat.le_of_ble_eq_true rfl, Nat.le_of_ble_eq_true rfl⟩) (my_preV (wc := (wMoT Γ q_mo q_tt q_nw q_tr q_ot q_di q_kp q_ik q_wy q_ah q_tg q_ws q_fr q_rw mi_6 vtt)) (ci := 7) (q0 := 0) [0, 1] hK hP hD rfl rfl rfl rfl) rfl rfl hl.1 rfl (lv_room (Nat.le_of_ble_eq_true rfl)) dX9_readRobot_37 ⟨Nat.le_of_ble_eq_true rfl, Nat.le_of_ble_eq_true rfl⟩) (fun H locs hP hD hS => ?_)
      refine lv_if_ne (tgt := 45) hx hb dX9_readRobot_40 (by decide) (fun c_12 => ?_) (fun c_12 => ?_)
      · replace hm := if_f hm c_12
        refine lv_aload_n hx hb dX9_readRobot_45 rfl (lv_at hl 2 rfl) ?_
        refine lv_dup hx hb dX9_readRobot_46 rfl ?_
        refine va_get (D := my_D Γ) (ci := 7) (v := .int (mi_10 17)) (C := RX9) (T := TX9) (N := 19) hx hb hts hinX9 hown hK hP 0 rfl rfl 17 (by decide) (hts (.fieldLink RX9 176 "BeltFloorModel" "skipped" "I") (List.mem_of_getElem? (i := 2) rfl)) (fun _ h9 => h9) rfl dX9_readRobot_47 ?_
        refine lv_aload_n hx hb dX9_readRobot_50 rfl (lv_at hl 3 rfl) ?_
        refine lv_iload_n hx hb dX9_readRobot_51 rfl (lv_at hl 1 rfl) ?_
        refine lv_iload_n hx hb dX9_readRobot_52 rfl (lv_at hl 0 rfl) ?_
        obtain ⟨r_13, hc_14, hm⟩ := bo1_s hm
        refine my_callP1 (wc := (wArr117 Γ q_s vs)) (w1 := (wArr117 Γ q_s vs)) (ws1 := (wRead Γ q_mo q_tt q_s q_nw q_tr q_ot q_di q_kp q_ik q_wy q_ah q_tg q_ws q_fr q_rw mi_10 vtt vs)) hP hD hS hA [2] rfl rfl rfl (va_runS (As := [.ref q_s, .int (mi_2 18), .int (mi_6 18)]) (rest := [.int (mi_10 17), .ref q_mo]) ⟨hx, hb, hml, hown, hts⟩ (kX9_canPut l Γ q_s vs (mi_2 18) (mi_6 18) r_13 hc_14 _) (va_cwS 3 hts gX9_readRobot_X9_canPut rfl rfl rfl (by decide +kernel) ⟨Nat.le_of_ble_eq_true rfl, Nat.le_of_ble_eq_true rfl⟩) (my_preS (wc := (wArr117 Γ q_s vs)) [2] hK hP hD rfl rfl) rfl rfl hl.1 rfl (lv_room (Nat.le_of_ble_eq_true rfl)) dX9_readRobot_53 ⟨Nat.le_of_ble_eq_true rfl, Nat.le_of_ble_eq_true rfl⟩) (fun H locs hP hD hS => ?_)
        refine lv_if_eq (tgt := 76) hx hb dX9_readRobot_56 (by decide) (fun c_15 => ?_) (fun c_15 => ?_)
        · replace hm := if_s hm c_15
          refine lv_iconst (v := (1 : Int32)) hx hb dX9_readRobot_76 (by decide) ?_
          refine lv_iadd hx hb dX9_readRobot_77 ?_
          refine lv_topi (fun y_16 ey_16 => ?_)
          refine va_put (D := my_D Γ) (ci := 7) (v := .int y_16) (ty := .int) (C := RX9) (T := TX9) (N := 19) hx hb hts hinX9 tyX9 tyX9_ok nmX9 hown hK hP hD hS 0 rfl rfl 17 (by decide) (hts (.fieldLink RX9 176 "BeltFloorModel" "skipped" "I") (List.mem_of_getElem? (i := 2) rfl)) (fun _ h9 => h9) rfl (by decide +kernel) rfl rfl (Nat.le_of_ble_eq_true rfl) dX9_readRobot_78 (fun H locs hP hD hS => ?_)
          replace hP : va_P (my_D Γ) vwCl (wRead Γ q_mo q_tt q_s q_nw q_tr q_ot q_di q_kp q_ik q_wy q_ah q_tg q_ws q_fr q_rw (upd mi_10 17 y_16) vtt vs) H := hP
          replace hD : va_D A (wRead Γ q_mo q_tt q_s q_nw q_tr q_ot q_di q_kp q_ik q_wy q_ah q_tg q_ws q_fr q_rw (upd mi_10 17 y_16) vtt vs) := hD
          subst ey_16
          refine lv_iconst (v := (1 : Int32)) hx hb dX9_readRobot_81 (by decide) ?_
          obtain ⟨hf0, hf1, hf2⟩ := si3 hm
          subst hf0
          subst hf1
          subst hf2
          exact W.zret (v := (1 : Int32)) hx hb hr rfl (fun t ht hW => ⟨⟨rfl, by rw [ht]; exact hP⟩, hS.F ht⟩) hS.2.2 dX9_readRobot_82
        · replace hm := if_f hm c_15
          refine lv_aload_n hx hb dX9_readRobot_59 rfl (lv_at hl 3 rfl) ?_
          refine lv_iload_n hx hb dX9_readRobot_60 rfl (lv_at hl 1 rfl) ?_
          refine lv_iload_n hx hb dX9_readRobot_61 rfl (lv_at hl 0 rfl) ?_
          refine lv_aload_n hx hb dX9_readRobot_62 rfl (lv_at hl 2 rfl) ?_
          refine va_get (D := my_D Γ) (ci := 7) (v := .int (mi_10 18)) (C := RX9) (T := TX9) (N := 19) hx hb hts hinX9 hown hK hP 0 rfl rfl 18 (by decide) (hts (.fieldLink RX9 160 "BeltFloorModel" "value" "I") (List.mem_of_getElem? (i := 1) rfl)) (fun _ h9 => h9) rfl dX9_readRobot_63 ?_
          obtain ⟨r_17, vs_18, hc_19, hm⟩ := bo2_s hm
          refine my_callP1 (wc := (wArr117 Γ q_s vs)) (w1 := (wArr117 Γ q_s vs_18)) (ws1 := (wRead Γ q_mo q_tt q_s q_nw q_tr q_ot q_di q_kp q_ik q_wy q_ah q_tg q_ws q_fr q_rw mi_10 vtt vs_18)) hP hD hS hA [2] rfl rfl rfl (va_runS (As := [.ref q_s, .int (mi_2 18), .int (mi_6 18), .int (mi_10 18)]) (rest := [.int (mi_10 17), .ref q_mo]) ⟨hx, hb, hml, hown, hts⟩ (kX9_putOn l Γ q_s vs (mi_2 18) (mi_6 18) (mi_10 18) r_17 vs_18 hc_19 _) (va_cwS 4 hts gX9_readRobot_X9_putOn rfl rfl rfl (by decide +kernel) ⟨Nat.le_of_ble_eq_true rfl, Nat.le_of_ble_eq_true rfl⟩) (my_preS (wc := (wArr117 Γ q_s vs)) [2] hK hP hD rfl rfl) rfl rfl hl.1 rfl (lv_room (Nat.le_of_ble_eq_true rfl)) dX9_readRobot_66 ⟨Nat.le_of_ble_eq_true rfl, Nat.le_of_ble_eq_true rfl⟩) (fun H locs hP hD hS => ?_)
          refine lv_if_lt (tgt := 76) hx hb dX9_readRobot_69 (by decide) (fun c_20 => ?_) (fun c_20 => ?_)
          · replace hm := if_s hm c_20
            refine lv_iconst (v := (1 : Int32)) hx hb dX9_readRobot_76 (by decide) ?_
            refine lv_iadd hx hb dX9_readRobot_77 ?_
            refine lv_topi (fun y_21 ey_21 => ?_)
            refine va_put (D := my_D Γ) (ci := 7) (v := .int y_21) (ty := .int) (C := RX9) (T := TX9) (N := 19) hx hb hts hinX9 tyX9 tyX9_ok nmX9 hown hK hP hD hS 0 rfl rfl 17 (by decide) (hts (.fieldLink RX9 176 "BeltFloorModel" "skipped" "I") (List.mem_of_getElem? (i := 2) rfl)) (fun _ h9 => h9) rfl (by decide +kernel) rfl rfl (Nat.le_of_ble_eq_true rfl) dX9_readRobot_78 (fun H locs hP hD hS => ?_)
            replace hP : va_P (my_D Γ) vwCl (wRead Γ q_mo q_tt q_s q_nw q_tr q_ot q_di q_kp q_ik q_wy q_ah q_tg q_ws q_fr q_rw (upd mi_10 17 y_21) vtt vs_18) H := hP
            replace hD : va_D A (wRead Γ q_mo q_tt q_s q_nw q_tr q_ot q_di q_kp q_ik q_wy q_ah q_tg q_ws q_fr q_rw (upd mi_10 17 y_21) vtt vs_18) := hD
            subst ey_21
            refine lv_iconst (v := (1 : Int32)) hx hb dX9_readRobot_81 (by decide) ?_
            obtain ⟨hf0, hf1, hf2⟩ := si3 hm
            subst hf0
            subst hf1
            subst hf2
            exact W.zret (v := (1 : Int32)) hx hb hr rfl (fun t ht hW => ⟨⟨rfl, by rw [ht]; exact hP⟩, hS.F ht⟩) hS.2.2 dX9_readRobot_82
          · replace hm := if_f hm c_20
            refine lv_iconst (v := (0 : Int32)) hx hb dX9_readRobot_72 (by decide) ?_
            refine lv_goto (tgt := 77) hx hb dX9_readRobot_73 (by decide) ?_
            refine lv_iadd hx hb dX9_readRobot_77 ?_
            refine lv_topi (fun y_22 ey_22 => ?_)
            refine va_put (D := my_D Γ) (ci := 7) (v := .int y_22) (ty := .int) (C := RX9) (T := TX9) (N := 19) hx hb hts hinX9 tyX9 tyX9_ok nmX9 hown hK hP hD hS 0 rfl rfl 17 (by decide) (hts (.fieldLink RX9 176 "BeltFloorModel" "skipped" "I") (List.mem_of_getElem? (i := 2) rfl)) (fun _ h9 => h9) rfl (by decide +kernel) rfl rfl (Nat.le_of_ble_eq_true rfl) dX9_readRobot_78 (fun H locs hP hD hS => ?_)
            replace hP : va_P (my_D Γ) vwCl (wRead Γ q_mo q_tt q_s q_nw q_tr q_ot q_di q_kp q_ik q_wy q_ah q_tg q_ws q_fr q_rw (upd mi_10 17 y_22) vtt vs_18) H := hP
            replace hD : va_D A (wRead Γ q_mo q_tt q_s q_nw q_tr q_ot q_di q_kp q_ik q_wy q_ah q_tg q_ws q_fr q_rw (upd mi_10 17 y_22) vtt vs_18) := hD
            subst ey_22
            refine lv_iconst (v := (1 : Int32)) hx hb dX9_readRobot_81 (by decide) ?_
            obtain ⟨hf0, hf1, hf2⟩ := si3 hm
            subst hf0
            subst hf1
            subst hf2
            exact W.zret (v := (1 : Int32)) hx hb hr rfl (fun t ht hW => ⟨⟨rfl, by rw [ht]; exact hP⟩, hS.F ht⟩) hS.2.2 dX9_readRobot_82
      · replace hm := if_s hm c_12
        refine lv_iconst (v := (0 : Int32)) hx hb dX9_readRobot_43 (by decide) ?_
        obtain ⟨hf0, hf1, hf2⟩ := si3 hm
        subst hf0
        subst hf1
        subst hf2
        exact W.zret (v := (0 : Int32)) hx hb hr rfl (fun t ht hW => ⟨⟨rfl, by rw [ht]; exact hP⟩, hS.F ht⟩) hS.2.2 dX9_readRobot_44
    · replace hm := if_s hm c_8
      refine lv_iconst (v := (0 : Int32)) hx hb dX9_readRobot_27 (by decide) ?_
      obtain ⟨hf0, hf1, hf2⟩ := si3 hm
      subst hf0
      subst hf1
      subst hf2
      exact W.zret (v := (0 : Int32)) hx hb hr rfl (fun t ht hW => ⟨⟨rfl, by rw [ht]; exact hP⟩, hS.F ht⟩) hS.2.2 dX9_readRobot_28
  · replace hm := if_s hm c_4
    refine lv_iconst (v := (0 : Int32)) hx hb dX9_readRobot_9 (by decide) ?_
    obtain ⟨hf0, hf1, hf2⟩ := si3 hm
    subst hf0
    subst hf1
    subst hf2
    exact W.zret (v := (0 : Int32)) hx hb hr rfl (fun t ht hW => ⟨⟨rfl, by rw [ht]; exact hP⟩, hS.F ht⟩) hS.2.2 dX9_readRobot_10
def mX9_readProgram_J77  (mi : Nat → Int32) (vtt : Nat → Int32) (vs : Nat → Int32) (l3 : Int32) : Option (Int32 × (Nat → Int32) × (Nat → Int32)) := (if l3 = 0 then (some ((0 : Int32), mi, vs)) else (if (mi 16) = (mi 2) then (some ((0 : Int32), mi, vs)) else (if ¬ ((mi 16) < 0 ∨ 120 ≤ (mi 16).toNatClampNeg) then (if (vtt (mi 16).toNatClampNeg) = (46 : Int32) then (some ((1 : Int32), (upd mi 16 ((mi 16) + (1 : Int32))), vs)) else (some ((0 : Int32), mi, vs))) else none)))
def mX9_readProgram_J70 (k18 : (Nat → Int32) → (Nat → Int32) → (Nat → Int32) → Int32 → Int32 → Option (Int32 × (Nat → Int32) × (Nat → Int32))) (mi : Nat → Int32) (vtt : Nat → Int32) (vs : Nat → Int32) (l2 : Int32) (l3 : Int32) (s1 : Int32) (s2 : Int32) : Option (Int32 × (Nat → Int32) × (Nat → Int32)) := (k18 (upd mi 17 (s1 + s2)) vtt vs l2 l3)
def mX9_readProgram_J69 (k18 : (Nat → Int32) → (Nat → Int32) → (Nat → Int32) → Int32 → Int32 → Option (Int32 × (Nat → Int32) × (Nat → Int32))) (mi : Nat → Int32) (vtt : Nat → Int32) (vs : Nat → Int32) (l2 : Int32) (l3 : Int32) (s1 : Int32) : Option (Int32 × (Nat → Int32) × (Nat → Int32)) := (mX9_readProgram_J70 k18 mi vtt vs l2 l3 s1 (1 : Int32))
def mX9_readProgram_L18  : Nat → (Nat → Int32) → (Nat → Int32) → (Nat → Int32) → Int32 → Int32 → Option (Int32 × (Nat → Int32) × (Nat → Int32))
  | 0, _, _, _, _, _ => none
  | n + 1, mi, vtt, vs, l2, l3 => (if (10 : Int32) ≤ l3 then (mX9_readProgram_J77 mi vtt vs l3) else (bo2 (mX9_digits mi vtt (1 : Int32) (5 : Int32)) (fun r_11 mi_12 => (if r_11 = 0 then (mX9_readProgram_J77 mi_12 vtt vs l3) else (bo1 (mX9_of vs l2 (8 : Int32)) (fun r_15 => (if (10 : Int32) ≤ r_15 then (mX9_readProgram_J69 (fun mi vtt vs l2 l3 => mX9_readProgram_L18 n mi vtt vs l2 l3) mi_12 vtt vs l2 (l3 + (1 : Int32)) (mi_12 17)) else (bo2 (mX9_writeOn vs l2 (mi_12 18)) (fun r_19 vs_20 => (if r_19 ≤ 0 then (mX9_readProgram_J69 (fun mi vtt vs l2 l3 => mX9_readProgram_L18 n mi vtt vs l2 l3) mi_12 vtt vs_20 l2 (l3 + (1 : Int32)) (mi_12 17)) else (mX9_readProgram_J70 (fun mi vtt vs l2 l3 => mX9_readProgram_L18 n mi vtt vs l2 l3) mi_12 vtt vs_20 l2 (l3 + (1 : Int32)) (mi_12 17) (0 : Int32))))))))))))
def mX9_readProgram (mi : Nat → Int32) (vtt : Nat → Int32) (vs : Nat → Int32) : Option (Int32 × (Nat → Int32) × (Nat → Int32)) := (bo2 (mX9_digits mi vtt (1 : Int32) (1 : Int32)) (fun r_1 mi_2 => (if r_1 = 0 then (some ((0 : Int32), mi_2, vs)) else (mX9_readProgram_L18 4096 mi_2 vtt vs (mi_2 18) (0 : Int32)))))
set_option maxHeartbeats 4000000 in
set_option maxRecDepth 100000 in
theorem kX9_readProgram (l : Launch) (Γ : my_G) (q_mo q_tt q_s q_nw q_tr q_ot q_di q_kp q_ik q_wy q_ah q_tg q_ws q_fr q_rw : Nat) (mi : Nat → Int32) (vtt : Nat → Int32) (vs : Nat → Int32)  (rr : Int32) (mi_z : Nat → Int32) (vs_z : Nat → Int32) (hm : mX9_readProgram mi vtt vs = (some (rr, mi_z, vs_z))) : Mn l yX9_readProgram wsX9_readProgram ({ frames := 2, cells := 0, slots := 0, locals := 49 } : Room) Γ [.ref q_mo, .ref q_s] (wRead Γ q_mo q_tt q_s q_nw q_tr q_ot q_di q_kp q_ik q_wy q_ah q_tg q_ws q_fr q_rw mi vtt vs) (some (.int rr)) (wRead Γ q_mo q_tt q_s q_nw q_tr q_ot q_di q_kp q_ik q_wy q_ah q_tg q_ws q_fr q_rw mi_z vtt vs_z) := by
  intro sz
  refine Met.ofW (cc := cX9_readProgram) (maxL := 4) (ret := (some .boolean)) (by decide) rfl ?_
  intro p e s m args below meth c s₁ B hml hv
  obtain ⟨rfl, hsz, hP, hK, hD0⟩ := hv
  have hx := B.exec
  have hb := B.bytes
  have hr := B.returns
  have hts := atoms_spec (ws := wsX9_readProgram) B.pre
  have hown : s.vm.findClass RX9 = some m.cls := findClass_of_methodNamed B.named
  have hlocks := B.notSynchronized
  have hinX9 : ∀ w ∈ u_ws RX9 TX9 19, w ∈ wsX9_readProgram := fun w h => List.mem_cons_of_mem _ (List.mem_append_right _ h)
  subst hsz
  have hD := hD0.self (sz := s.heap.size)
  have hA : ∀ q : Nat, s.heap.size ≤ q → va_A (wRead Γ q_mo q_tt q_s q_nw q_tr q_ot q_di q_kp q_ik q_wy q_ah q_tg q_ws q_fr q_rw mi vtt vs) s.heap.size q := fun q h => Or.inr h
  generalize va_A (wRead Γ q_mo q_tt q_s q_nw q_tr q_ot q_di q_kp q_ik q_wy q_ah q_tg q_ws q_fr q_rw mi vtt vs) s.heap.size = A at hD hA ⊢
  have hS : va_S A s.heap s.heap [] := va_S.rf
  have hl := lv_entry ([.ref q_mo, .ref q_s]) (n := 4) (Nat.le_of_ble_eq_true rfl)
  rw [lg_entry_eq]
  generalize (lg_sl ([.ref q_mo, .ref q_s]) ++ List.replicate (4 - (lg_sl ([.ref q_mo, .ref q_s])).length) Slot.unset).toArray = ls at hl ⊢
  replace hl : lv_has ls 4 [(0, .ref q_mo), (1, .ref q_s)] := hl
  have J_77 : ∀ (mi : Nat → Int32) (vtt : Nat → Int32) (vs : Nat → Int32) (l3 : Int32) (H : Heap) (locs : List Loc) (ls : Array Slot), va_P (my_D Γ) vwCl (wRead Γ q_mo q_tt q_s q_nw q_tr q_ot q_di q_kp q_ik q_wy q_ah q_tg q_ws q_fr q_rw mi vtt vs) H → va_D A (wRead Γ q_mo q_tt q_s q_nw q_tr q_ot q_di q_kp q_ik q_wy q_ah q_tg q_ws q_fr q_rw mi vtt vs) → va_S A s.heap H locs → lv_has ls 4 [(0, .ref q_mo), (3, .int l3)] → mX9_readProgram_J77 mi vtt vs l3 = (some (rr, mi_z, vs_z)) → W p l e (headSpec wsX9_readProgram ({ frames := 2, cells := 0, slots := 0, locals := 49 } : Room)).room s m ([.ref q_mo, .ref q_s] : List Value).toArray below meth c H locs 0 0 (MQ below (my_Q Γ A (some (.int rr)) (wRead Γ q_mo q_tt q_s q_nw q_tr q_ot q_di q_kp q_ik q_wy q_ah q_tg q_ws q_fr q_rw mi_z vtt vs_z)) ([.ref q_mo, .ref q_s] : List Value).toArray s 0 0 A) (F0 m 77 ls []) := by
    intro  mi vtt vs l3 H locs ls hP hD hS hl hm
    unfold mX9_readProgram_J77 at hm
    refine lv_iload_n hx hb dX9_readProgram_77 rfl (lv_at hl 1 rfl) ?_
    refine lv_if_eq (tgt := 106) hx hb dX9_readProgram_78 (by decide) (fun c_6 => ?_) (fun c_6 => ?_)
    · replace hm := if_s hm c_6
      refine lv_iconst (v := (0 : Int32)) hx hb dX9_readProgram_106 (by decide) ?_
      obtain ⟨hf0, hf1, hf2⟩ := si3 hm
      subst hf0
      subst hf1
      subst hf2
      exact W.zret (v := (0 : Int32)) hx hb hr rfl (fun t ht hW => ⟨⟨rfl, by rw [ht]; exact hP⟩, hS.F ht⟩) hS.2.2 dX9_readProgram_107
    · replace hm := if_f hm c_6
      refine lv_aload_n hx hb dX9_readProgram_81 rfl (lv_at hl 0 rfl) ?_
      refine va_get (D := my_D Γ) (ci := 7) (v := .int (mi 16)) (C := RX9) (T := TX9) (N := 19) hx hb hts hinX9 hown hK hP 0 rfl rfl 16 (by decide) (hts (.fieldLink RX9 163 "BeltFloorModel" "spot" "I") (List.mem_of_getElem? (i := 3) rfl)) (fun _ h9 => h9) rfl dX9_readProgram_82 ?_
      refine lv_aload_n hx hb dX9_readProgram_85 rfl (lv_at hl 0 rfl) ?_
      refine va_get (D := my_D Γ) (ci := 7) (v := .int (mi 2)) (C := RX9) (T := TX9) (N := 19) hx hb hts hinX9 hown hK hP 0 rfl rfl 2 (by decide) (hts (.fieldLink RX9 153 "BeltFloorModel" "size" "I") (List.mem_of_getElem? (i := 4) rfl)) (fun _ h9 => h9) rfl dX9_readProgram_86 ?_
      refine lv_icmp_eq (tgt := 106) hx hb dX9_readProgram_89 (by decide) (fun c_7 => ?_) (fun c_7 => ?_)
      · replace hm := if_s hm c_7
        refine lv_iconst (v := (0 : Int32)) hx hb dX9_readProgram_106 (by decide) ?_
        obtain ⟨hf0, hf1, hf2⟩ := si3 hm
        subst hf0
        subst hf1
        subst hf2
        exact W.zret (v := (0 : Int32)) hx hb hr rfl (fun t ht hW => ⟨⟨rfl, by rw [ht]; exact hP⟩, hS.F ht⟩) hS.2.2 dX9_readProgram_107
      · replace hm := if_f hm c_7
        refine lv_aload_n hx hb dX9_readProgram_92 rfl (lv_at hl 0 rfl) ?_
        refine va_get (D := my_D Γ) (ci := 7) (v := .ref q_tt) (C := RX9) (T := TX9) (N := 19) hx hb hts hinX9 hown hK hP 0 rfl rfl 1 (by decide) (hts (.fieldLink RX9 7 "BeltFloorModel" "text" "[I") (List.mem_of_getElem? (i := 5) rfl)) (fun _ h9 => h9) rfl dX9_readProgram_93 ?_
        refine lv_aload_n hx hb dX9_readProgram_96 rfl (lv_at hl 0 rfl) ?_
        refine va_get (D := my_D Γ) (ci := 7) (v := .int (mi 16)) (C := RX9) (T := TX9) (N := 19) hx hb hts hinX9 hown hK hP 0 rfl rfl 16 (by decide) (hts (.fieldLink RX9 163 "BeltFloorModel" "spot" "I") (List.mem_of_getElem? (i := 3) rfl)) (fun _ h9 => h9) rfl dX9_readProgram_97 ?_
        obtain ⟨hi_8, hm⟩ := if_in hm
        refine va_iald hx hb hK hP 1 0 rfl rfl hi_8 dX9_readProgram_100 ?_
        refine lv_bipush (v := (46 : Int32)) hx hb dX9_readProgram_101 (by decide) ?_
        refine lv_icmp_eq (tgt := 108) hx hb dX9_readProgram_103 (by decide) (fun c_9 => ?_) (fun c_9 => ?_)
        · replace hm := if_s hm c_9
          refine lv_aload_n hx hb dX9_readProgram_108 rfl (lv_at hl 0 rfl) ?_
          refine lv_dup hx hb dX9_readProgram_109 rfl ?_
          refine va_get (D := my_D Γ) (ci := 7) (v := .int (mi 16)) (C := RX9) (T := TX9) (N := 19) hx hb hts hinX9 hown hK hP 0 rfl rfl 16 (by decide) (hts (.fieldLink RX9 163 "BeltFloorModel" "spot" "I") (List.mem_of_getElem? (i := 3) rfl)) (fun _ h9 => h9) rfl dX9_readProgram_110 ?_
          refine lv_iconst (v := (1 : Int32)) hx hb dX9_readProgram_113 (by decide) ?_
          refine lv_iadd hx hb dX9_readProgram_114 ?_
          refine lv_topi (fun y_10 ey_10 => ?_)
          refine va_put (D := my_D Γ) (ci := 7) (v := .int y_10) (ty := .int) (C := RX9) (T := TX9) (N := 19) hx hb hts hinX9 tyX9 tyX9_ok nmX9 hown hK hP hD hS 0 rfl rfl 16 (by decide) (hts (.fieldLink RX9 163 "BeltFloorModel" "spot" "I") (List.mem_of_getElem? (i := 3) rfl)) (fun _ h9 => h9) rfl (by decide +kernel) rfl rfl (Nat.le_of_ble_eq_true rfl) dX9_readProgram_115 (fun H locs hP hD hS => ?_)
          replace hP : va_P (my_D Γ) vwCl (wRead Γ q_mo q_tt q_s q_nw q_tr q_ot q_di q_kp q_ik q_wy q_ah q_tg q_ws q_fr q_rw (upd mi 16 y_10) vtt vs) H := hP
          replace hD : va_D A (wRead Γ q_mo q_tt q_s q_nw q_tr q_ot q_di q_kp q_ik q_wy q_ah q_tg q_ws q_fr q_rw (upd mi 16 y_10) vtt vs) := hD
          subst ey_10
          refine lv_iconst (v := (1 : Int32)) hx hb dX9_readProgram_118 (by decide) ?_
          obtain ⟨hf0, hf1, hf2⟩ := si3 hm
          subst hf0
          subst hf1
          subst hf2
          exact W.zret (v := (1 : Int32)) hx hb hr rfl (fun t ht hW => ⟨⟨rfl, by rw [ht]; exact hP⟩, hS.F ht⟩) hS.2.2 dX9_readProgram_119
        · replace hm := if_f hm c_9
          refine lv_iconst (v := (0 : Int32)) hx hb dX9_readProgram_106 (by decide) ?_
          obtain ⟨hf0, hf1, hf2⟩ := si3 hm
          subst hf0
          subst hf1
          subst hf2
          exact W.zret (v := (0 : Int32)) hx hb hr rfl (fun t ht hW => ⟨⟨rfl, by rw [ht]; exact hP⟩, hS.F ht⟩) hS.2.2 dX9_readProgram_107
  have J_70 : ∀ (k18 : (Nat → Int32) → (Nat → Int32) → (Nat → Int32) → Int32 → Int32 → Option (Int32 × (Nat → Int32) × (Nat → Int32))), (∀ (mi : Nat → Int32) (vtt : Nat → Int32) (vs : Nat → Int32) (l2 : Int32) (l3 : Int32) (H : Heap) (locs : List Loc) (ls : Array Slot), va_P (my_D Γ) vwCl (wRead Γ q_mo q_tt q_s q_nw q_tr q_ot q_di q_kp q_ik q_wy q_ah q_tg q_ws q_fr q_rw mi vtt vs) H → va_D A (wRead Γ q_mo q_tt q_s q_nw q_tr q_ot q_di q_kp q_ik q_wy q_ah q_tg q_ws q_fr q_rw mi vtt vs) → va_S A s.heap H locs → lv_has ls 4 [(0, .ref q_mo), (1, .ref q_s), (2, .int l2), (3, .int l3)] → k18 mi vtt vs l2 l3 = (some (rr, mi_z, vs_z)) → W p l e (headSpec wsX9_readProgram ({ frames := 2, cells := 0, slots := 0, locals := 49 } : Room)).room s m ([.ref q_mo, .ref q_s] : List Value).toArray below meth c H locs 0 0 (MQ below (my_Q Γ A (some (.int rr)) (wRead Γ q_mo q_tt q_s q_nw q_tr q_ot q_di q_kp q_ik q_wy q_ah q_tg q_ws q_fr q_rw mi_z vtt vs_z)) ([.ref q_mo, .ref q_s] : List Value).toArray s 0 0 A) (F0 m 18 ls [])) → ∀ (mi : Nat → Int32) (vtt : Nat → Int32) (vs : Nat → Int32) (l2 : Int32) (l3 : Int32) (s1 : Int32) (s2 : Int32) (H : Heap) (locs : List Loc) (ls : Array Slot), va_P (my_D Γ) vwCl (wRead Γ q_mo q_tt q_s q_nw q_tr q_ot q_di q_kp q_ik q_wy q_ah q_tg q_ws q_fr q_rw mi vtt vs) H → va_D A (wRead Γ q_mo q_tt q_s q_nw q_tr q_ot q_di q_kp q_ik q_wy q_ah q_tg q_ws q_fr q_rw mi vtt vs) → va_S A s.heap H locs → lv_has ls 4 [(0, .ref q_mo), (1, .ref q_s), (2, .int l2), (3, .int l3)] → mX9_readProgram_J70 k18 mi vtt vs l2 l3 s1 s2 = (some (rr, mi_z, vs_z)) → W p l e (headSpec wsX9_readProgram ({ frames := 2, cells := 0, slots := 0, locals := 49 } : Room)).room s m ([.ref q_mo, .ref q_s] : List Value).toArray below meth c H locs 0 0 (MQ below (my_Q Γ A (some (.int rr)) (wRead Γ q_mo q_tt q_s q_nw q_tr q_ot q_di q_kp q_ik q_wy q_ah q_tg q_ws q_fr q_rw mi_z vtt vs_z)) ([.ref q_mo, .ref q_s] : List Value).toArray s 0 0 A) (F0 m 70 ls [.int s2, .int s1, .ref q_mo]) := by
    intro k18 hk18 mi vtt vs l2 l3 s1 s2 H locs ls hP hD hS hl hm
    unfold mX9_readProgram_J70 at hm
    refine lv_iadd hx hb dX9_readProgram_70 ?_
    refine lv_topi (fun y_18 ey_18 => ?_)
    refine va_put (D := my_D Γ) (ci := 7) (v := .int y_18) (ty := .int) (C := RX9) (T := TX9) (N := 19) hx hb hts hinX9 tyX9 tyX9_ok nmX9 hown hK hP hD hS 0 rfl rfl 17 (by decide) (hts (.fieldLink RX9 176 "BeltFloorModel" "skipped" "I") (List.mem_of_getElem? (i := 2) rfl)) (fun _ h9 => h9) rfl (by decide +kernel) rfl rfl (Nat.le_of_ble_eq_true rfl) dX9_readProgram_71 (fun H locs hP hD hS => ?_)
    replace hP : va_P (my_D Γ) vwCl (wRead Γ q_mo q_tt q_s q_nw q_tr q_ot q_di q_kp q_ik q_wy q_ah q_tg q_ws q_fr q_rw (upd mi 17 y_18) vtt vs) H := hP
    replace hD : va_D A (wRead Γ q_mo q_tt q_s q_nw q_tr q_ot q_di q_kp q_ik q_wy q_ah q_tg q_ws q_fr q_rw (upd mi 17 y_18) vtt vs) := hD
    subst ey_18
    refine lv_goto (tgt := 18) hx hb dX9_readProgram_74 (by decide) ?_
    exact hk18 (upd mi 17 (s1 + s2)) vtt vs l2 l3 _ _ _ hP hD hS (lv_sub hl [0, 1, 2, 3] rfl) hm
  have J_69 : ∀ (k18 : (Nat → Int32) → (Nat → Int32) → (Nat → Int32) → Int32 → Int32 → Option (Int32 × (Nat → Int32) × (Nat → Int32))), (∀ (mi : Nat → Int32) (vtt : Nat → Int32) (vs : Nat → Int32) (l2 : Int32) (l3 : Int32) (H : Heap) (locs : List Loc) (ls : Array Slot), va_P (my_D Γ) vwCl (wRead Γ q_mo q_tt q_s q_nw q_tr q_ot q_di q_kp q_ik q_wy q_ah q_tg q_ws q_fr q_rw mi vtt vs) H → va_D A (wRead Γ q_mo q_tt q_s q_nw q_tr q_ot q_di q_kp q_ik q_wy q_ah q_tg q_ws q_fr q_rw mi vtt vs) → va_S A s.heap H locs → lv_has ls 4 [(0, .ref q_mo), (1, .ref q_s), (2, .int l2), (3, .int l3)] → k18 mi vtt vs l2 l3 = (some (rr, mi_z, vs_z)) → W p l e (headSpec wsX9_readProgram ({ frames := 2, cells := 0, slots := 0, locals := 49 } : Room)).room s m ([.ref q_mo, .ref q_s] : List Value).toArray below meth c H locs 0 0 (MQ below (my_Q Γ A (some (.int rr)) (wRead Γ q_mo q_tt q_s q_nw q_tr q_ot q_di q_kp q_ik q_wy q_ah q_tg q_ws q_fr q_rw mi_z vtt vs_z)) ([.ref q_mo, .ref q_s] : List Value).toArray s 0 0 A) (F0 m 18 ls [])) → ∀ (mi : Nat → Int32) (vtt : Nat → Int32) (vs : Nat → Int32) (l2 : Int32) (l3 : Int32) (s1 : Int32) (H : Heap) (locs : List Loc) (ls : Array Slot), va_P (my_D Γ) vwCl (wRead Γ q_mo q_tt q_s q_nw q_tr q_ot q_di q_kp q_ik q_wy q_ah q_tg q_ws q_fr q_rw mi vtt vs) H → va_D A (wRead Γ q_mo q_tt q_s q_nw q_tr q_ot q_di q_kp q_ik q_wy q_ah q_tg q_ws q_fr q_rw mi vtt vs) → va_S A s.heap H locs → lv_has ls 4 [(0, .ref q_mo), (1, .ref q_s), (2, .int l2), (3, .int l3)] → mX9_readProgram_J69 k18 mi vtt vs l2 l3 s1 = (some (rr, mi_z, vs_z)) → W p l e (headSpec wsX9_readProgram ({ frames := 2, cells := 0, slots := 0, locals := 49 } : Room)).room s m ([.ref q_mo, .ref q_s] : List Value).toArray below meth c H locs 0 0 (MQ below (my_Q Γ A (some (.int rr)) (wRead Γ q_mo q_tt q_s q_nw q_tr q_ot q_di q_kp q_ik q_wy q_ah q_tg q_ws q_fr q_rw mi_z vtt vs_z)) ([.ref q_mo, .ref q_s] : List Value).toArray s 0 0 A) (F0 m 69 ls [.int s1, .ref q_mo]) := by
    intro k18 hk18 mi vtt vs l2 l3 s1 H locs ls hP hD hS hl hm
    unfold mX9_readProgram_J69 at hm
    refine lv_iconst (v := (1 : Int32)) hx hb dX9_readProgram_69 (by decide) ?_
    exact J_70 k18 hk18 mi vtt vs l2 l3 s1 (1 : Int32) _ _ _ hP hD hS (lv_sub hl [0, 1, 2, 3] rfl) hm
  have J_18 : ∀ n : Nat, ∀ (mi : Nat → Int32) (vtt : Nat → Int32) (vs : Nat → Int32) (l2 : Int32) (l3 : Int32) (H : Heap) (locs : List Loc) (ls : Array Slot), va_P (my_D Γ) vwCl (wRead Γ q_mo q_tt q_s q_nw q_tr q_ot q_di q_kp q_ik q_wy q_ah q_tg q_ws q_fr q_rw mi vtt vs) H → va_D A (wRead Γ q_mo q_tt q_s q_nw q_tr q_ot q_di q_kp q_ik q_wy q_ah q_tg q_ws q_fr q_rw mi vtt vs) → va_S A s.heap H locs → lv_has ls 4 [(0, .ref q_mo), (1, .ref q_s), (2, .int l2), (3, .int l3)] → mX9_readProgram_L18 n mi vtt vs l2 l3 = (some (rr, mi_z, vs_z)) → W p l e (headSpec wsX9_readProgram ({ frames := 2, cells := 0, slots := 0, locals := 49 } : Room)).room s m ([.ref q_mo, .ref q_s] : List Value).toArray below meth c H locs 0 0 (MQ below (my_Q Γ A (some (.int rr)) (wRead Γ q_mo q_tt q_s q_nw q_tr q_ot q_di q_kp q_ik q_wy q_ah q_tg q_ws q_fr q_rw mi_z vtt vs_z)) ([.ref q_mo, .ref q_s] : List Value).toArray s 0 0 A) (F0 m 18 ls []) := by
    intro  n
    induction n with
    | zero => intro mi vtt vs l2 l3 H locs ls hP hD hS hl hm; cases hm
    | succ n ih =>
      intro mi vtt vs l2 l3 H locs ls hP hD hS hl hm
      unfold mX9_readProgram_L18 at hm
      refine lv_iload_n hx hb dX9_readProgram_18 rfl (lv_at hl 3 rfl) ?_
      refine lv_bipush (v := (10 : Int32)) hx hb dX9_readProgram_19 (by decide) ?_
      refine lv_icmp_ge (tgt := 77) hx hb dX9_readProgram_21 (by decide) (fun c_5 => ?_) (fun c_5 => ?_)
      · replace hm := if_s hm c_5
        exact J_77 mi vtt vs l3 _ _ _ hP hD hS (lv_sub hl [0, 3] rfl) hm
      · replace hm := if_f hm c_5
        refine lv_aload_n hx hb dX9_readProgram_24 rfl (lv_at hl 0 rfl) ?_
        refine lv_iconst (v := (1 : Int32)) hx hb dX9_readProgram_25 (by decide) ?_
        refine lv_iconst (v := (5 : Int32)) hx hb dX9_readProgram_26 (by decide) ?_
        obtain ⟨r_11, mi_12, hc_13, hm⟩ := bo2_s hm
        refine my_callP1 (wc := (wMoT Γ q_mo q_tt q_nw q_tr q_ot q_di q_kp q_ik q_wy q_ah q_tg q_ws q_fr q_rw mi vtt)) (w1 := (wMoT Γ q_mo q_tt q_nw q_tr q_ot q_di q_kp q_ik q_wy q_ah q_tg q_ws q_fr q_rw mi_12 vtt)) (ws1 := (wRead Γ q_mo q_tt q_s q_nw q_tr q_ot q_di q_kp q_ik q_wy q_ah q_tg q_ws q_fr q_rw mi_12 vtt vs)) hP hD hS hA [0, 1] rfl rfl rfl (va_runV (As := [.int (1 : Int32), .int (5 : Int32)]) (rest := []) ⟨hx, hb, hml, hown, hts⟩ (kX9_digits l Γ q_mo q_tt q_nw q_tr q_ot q_di q_kp q_ik q_wy q_ah q_tg q_ws q_fr q_rw mi vtt (1 : Int32) (5 : Int32) r_11 mi_12 hc_13 _) (cwV 2 hts gX9_readProgram_X9_digits rfl rfl rfl (by decide +kernel) ⟨Nat.le_of_ble_eq_true rfl, Nat.le_of_ble_eq_true rfl⟩) (my_preV (wc := (wMoT Γ q_mo q_tt q_nw q_tr q_ot q_di q_kp q_ik q_wy q_ah q_tg q_ws q_fr q_rw mi vtt)) (ci := 7) (q0 := 0) [0, 1] hK hP hD rfl rfl rfl rfl) rfl rfl hl.1 rfl (lv_room (Nat.le_of_ble_eq_true rfl)) dX9_readProgram_27 ⟨Nat.le_of_ble_eq_true rfl, Nat.le_of_ble_eq_true rfl⟩) (fun H locs hP hD hS => ?_)
        refine lv_if_eq (tgt := 77) hx hb dX9_readProgram_30 (by decide) (fun c_14 => ?_) (fun c_14 => ?_)
        · replace hm := if_s hm c_14
          exact J_77 mi_12 vtt vs l3 _ _ _ hP hD hS (lv_sub hl [0, 3] rfl) hm
        · replace hm := if_f hm c_14
          refine lv_iinc (v := (l3 + (1 : Int32))) (lv' := [(3, .int (l3 + (1 : Int32))), (0, .ref q_mo), (1, .ref q_s), (2, .int l2)]) hx hb dX9_readProgram_33 hl (k := 3) rfl rfl (by decide) rfl (fun ls hl => ?_)
          refine lv_aload_n hx hb dX9_readProgram_36 rfl (lv_at hl 1 rfl) ?_
          refine lv_dup hx hb dX9_readProgram_37 rfl ?_
          refine va_get (D := my_D Γ) (ci := 7) (v := .int (mi_12 17)) (C := RX9) (T := TX9) (N := 19) hx hb hts hinX9 hown hK hP 0 rfl rfl 17 (by decide) (hts (.fieldLink RX9 176 "BeltFloorModel" "skipped" "I") (List.mem_of_getElem? (i := 2) rfl)) (fun _ h9 => h9) rfl dX9_readProgram_38 ?_
          refine lv_aload_n hx hb dX9_readProgram_41 rfl (lv_at hl 2 rfl) ?_
          refine lv_iload_n hx hb dX9_readProgram_42 rfl (lv_at hl 3 rfl) ?_
          refine lv_bipush (v := (8 : Int32)) hx hb dX9_readProgram_43 (by decide) ?_
          obtain ⟨r_15, hc_16, hm⟩ := bo1_s hm
          refine my_callP1 (wc := (wArr117 Γ q_s vs)) (w1 := (wArr117 Γ q_s vs)) (ws1 := (wRead Γ q_mo q_tt q_s q_nw q_tr q_ot q_di q_kp q_ik q_wy q_ah q_tg q_ws q_fr q_rw mi_12 vtt vs)) hP hD hS hA [2] rfl rfl rfl (va_runS (As := [.ref q_s, .int l2, .int (8 : Int32)]) (rest := [.int (mi_12 17), .ref q_mo]) ⟨hx, hb, hml, hown, hts⟩ (kX9_of l Γ q_s vs l2 (8 : Int32) r_15 hc_16 _) (va_cwS 3 hts gX9_readProgram_X9_of rfl rfl rfl (by decide +kernel) ⟨Nat.le_of_ble_eq_true rfl, Nat.le_of_ble_eq_true rfl⟩) (my_preS (wc := (wArr117 Γ q_s vs)) [2] hK hP hD rfl rfl) rfl rfl hl.1 rfl (lv_room (Nat.le_of_ble_eq_true rfl)) dX9_readProgram_45 ⟨Nat.le_of_ble_eq_true rfl, Nat.le_of_ble_eq_true rfl⟩) (fun H locs hP hD hS => ?_)
          refine lv_bipush (v := (10 : Int32)) hx hb dX9_readProgram_48 (by decide) ?_
          refine lv_icmp_ge (tgt := 69) hx hb dX9_readProgram_50 (by decide) (fun c_17 => ?_) (fun c_17 => ?_)
          · replace hm := if_s hm c_17
            exact J_69 (fun mi vtt vs l2 l3 => mX9_readProgram_L18 n mi vtt vs l2 l3) ih mi_12 vtt vs l2 (l3 + (1 : Int32)) (mi_12 17) _ _ _ hP hD hS (lv_sub hl [1, 2, 3, 0] rfl) hm
          · replace hm := if_f hm c_17
            refine lv_aload_n hx hb dX9_readProgram_53 rfl (lv_at hl 2 rfl) ?_
            refine lv_iload_n hx hb dX9_readProgram_54 rfl (lv_at hl 3 rfl) ?_
            refine lv_aload_n hx hb dX9_readProgram_55 rfl (lv_at hl 1 rfl) ?_
            refine va_get (D := my_D Γ) (ci := 7) (v := .int (mi_12 18)) (C := RX9) (T := TX9) (N := 19) hx hb hts hinX9 hown hK hP 0 rfl rfl 18 (by decide) (hts (.fieldLink RX9 160 "BeltFloorModel" "value" "I") (List.mem_of_getElem? (i := 1) rfl)) (fun _ h9 => h9) rfl dX9_readProgram_56 ?_
            obtain ⟨r_19, vs_20, hc_21, hm⟩ := bo2_s hm
            refine my_callP1 (wc := (wArr117 Γ q_s vs)) (w1 := (wArr117 Γ q_s vs_20)) (ws1 := (wRead Γ q_mo q_tt q_s q_nw q_tr q_ot q_di q_kp q_ik q_wy q_ah q_tg q_ws q_fr q_rw mi_12 vtt vs_20)) hP hD hS hA [2] rfl rfl rfl (va_runS (As := [.ref q_s, .int l2, .int (mi_12 18)]) (rest := [.int (mi_12 17), .ref q_mo]) ⟨hx, hb, hml, hown, hts⟩ (kX9_writeOn l Γ q_s vs l2 (mi_12 18) r_19 vs_20 hc_21 _) (va_cwS 3 hts gX9_readProgram_X9_writeOn rfl rfl rfl (by decide +kernel) ⟨Nat.le_of_ble_eq_true rfl, Nat.le_of_ble_eq_true rfl⟩) (my_preS (wc := (wArr117 Γ q_s vs)) [2] hK hP hD rfl rfl) rfl rfl hl.1 rfl (lv_room (Nat.le_of_ble_eq_true rfl)) dX9_readProgram_59 ⟨Nat.le_of_ble_eq_true rfl, Nat.le_of_ble_eq_true rfl⟩) (fun H locs hP hD hS => ?_)
            refine lv_if_le (tgt := 69) hx hb dX9_readProgram_62 (by decide) (fun c_22 => ?_) (fun c_22 => ?_)
            · replace hm := if_s hm c_22
              exact J_69 (fun mi vtt vs l2 l3 => mX9_readProgram_L18 n mi vtt vs l2 l3) ih mi_12 vtt vs_20 l2 (l3 + (1 : Int32)) (mi_12 17) _ _ _ hP hD hS (lv_sub hl [1, 2, 3, 0] rfl) hm
            · replace hm := if_f hm c_22
              refine lv_iconst (v := (0 : Int32)) hx hb dX9_readProgram_65 (by decide) ?_
              refine lv_goto (tgt := 70) hx hb dX9_readProgram_66 (by decide) ?_
              exact J_70 (fun mi vtt vs l2 l3 => mX9_readProgram_L18 n mi vtt vs l2 l3) ih mi_12 vtt vs_20 l2 (l3 + (1 : Int32)) (mi_12 17) (0 : Int32) _ _ _ hP hD hS (lv_sub hl [1, 2, 3, 0] rfl) hm
  unfold mX9_readProgram at hm
  refine lv_aload_n hx hb dX9_readProgram_0 rfl (lv_at hl 0 rfl) ?_
  refine lv_iconst (v := (1 : Int32)) hx hb dX9_readProgram_1 (by decide) ?_
  refine lv_iconst (v := (1 : Int32)) hx hb dX9_readProgram_2 (by decide) ?_
  obtain ⟨r_1, mi_2, hc_3, hm⟩ := bo2_s hm
  refine my_callP1 (wc := (wMoT Γ q_mo q_tt q_nw q_tr q_ot q_di q_kp q_ik q_wy q_ah q_tg q_ws q_fr q_rw mi vtt)) (w1 := (wMoT Γ q_mo q_tt q_nw q_tr q_ot q_di q_kp q_ik q_wy q_ah q_tg q_ws q_fr q_rw mi_2 vtt)) (ws1 := (wRead Γ q_mo q_tt q_s q_nw q_tr q_ot q_di q_kp q_ik q_wy q_ah q_tg q_ws q_fr q_rw mi_2 vtt vs)) hP hD hS hA [0, 1] rfl rfl rfl (va_runV (As := [.int (1 : Int32), .int (1 : Int32)]) (rest := []) ⟨hx, hb, hml, hown, hts⟩ (kX9_digits l Γ q_mo q_tt q_nw q_tr q_ot q_di q_kp q_ik q_wy q_ah q_tg q_ws q_fr q_rw mi vtt (1 : Int32) (1 : Int32) r_1 mi_2 hc_3 _) (cwV 2 hts gX9_readProgram_X9_digits rfl rfl rfl (by decide +kernel) ⟨Nat.le_of_ble_eq_true rfl, Nat.le_of_ble_eq_true rfl⟩) (my_preV (wc := (wMoT Γ q_mo q_tt q_nw q_tr q_ot q_di q_kp q_ik q_wy q_ah q_tg q_ws q_fr q_rw mi vtt)) (ci := 7) (q0 := 0) [0, 1] hK hP hD rfl rfl rfl rfl) rfl rfl hl.1 rfl (lv_room (Nat.le_of_ble_eq_true rfl)) dX9_readProgram_3 ⟨Nat.le_of_ble_eq_true rfl, Nat.le_of_ble_eq_true rfl⟩) (fun H locs hP hD hS => ?_)
  refine lv_if_ne (tgt := 11) hx hb dX9_readProgram_6 (by decide) (fun c_4 => ?_) (fun c_4 => ?_)
  · replace hm := if_f hm c_4
    refine lv_aload_n hx hb dX9_readProgram_11 rfl (lv_at hl 0 rfl) ?_
    refine va_get (D := my_D Γ) (ci := 7) (v := .int (mi_2 18)) (C := RX9) (T := TX9) (N := 19) hx hb hts hinX9 hown hK hP 0 rfl rfl 18 (by decide) (hts (.fieldLink RX9 160 "BeltFloorModel" "value" "I") (List.mem_of_getElem? (i := 1) rfl)) (fun _ h9 => h9) rfl dX9_readProgram_12 ?_
    refine lv_istore_n (lv' := [(2, .int (mi_2 18)), (0, .ref q_mo), (1, .ref q_s)]) hx hb dX9_readProgram_15 rfl hl (by decide) rfl (fun ls hl => ?_)
    refine lv_iconst (v := (0 : Int32)) hx hb dX9_readProgram_16 (by decide) ?_
    refine lv_istore_n (lv' := [(3, .int (0 : Int32)), (2, .int (mi_2 18)), (0, .ref q_mo), (1, .ref q_s)]) hx hb dX9_readProgram_17 rfl hl (by decide) rfl (fun ls hl => ?_)
    exact J_18 4096 mi_2 vtt vs (mi_2 18) (0 : Int32) _ _ _ hP hD hS (lv_sub hl [2, 3, 1, 0] rfl) hm
  · replace hm := if_s hm c_4
    refine lv_iconst (v := (0 : Int32)) hx hb dX9_readProgram_9 (by decide) ?_
    obtain ⟨hf0, hf1, hf2⟩ := si3 hm
    subst hf0
    subst hf1
    subst hf2
    exact W.zret (v := (0 : Int32)) hx hb hr rfl (fun t ht hW => ⟨⟨rfl, by rw [ht]; exact hP⟩, hS.F ht⟩) hS.2.2 dX9_readProgram_10
def mX9_readPart (mi : Nat → Int32) (vtt : Nat → Int32) (vs : Nat → Int32) : Option (Int32 × (Nat → Int32) × (Nat → Int32)) := (if ¬ ((mi 16) < 0 ∨ 120 ≤ (mi 16).toNatClampNeg) then (if (vtt (mi 16).toNatClampNeg) = (99 : Int32) then (bo2 (mX9_digits (upd mi 16 ((mi 16) + (1 : Int32))) vtt (10 : Int32) (35 : Int32)) (fun r_4 mi_5 => (if r_4 = 0 then (some ((0 : Int32), mi_5, vs)) else (bo1 (mX9_canCrate vs (mi_5 18)) (fun r_8 => (if r_8 = 0 then (some ((1 : Int32), (upd mi_5 17 ((mi_5 17) + (1 : Int32))), vs)) else (bo2 (mX9_crateOn vs (mi_5 18)) (fun r_12 vs_13 => (if r_12 ≤ 0 then (some ((1 : Int32), (upd mi_5 17 ((mi_5 17) + (1 : Int32))), vs_13)) else (some ((1 : Int32), (upd mi_5 17 ((mi_5 17) + (0 : Int32))), vs_13))))))))))) else (if (vtt (mi 16).toNatClampNeg) = (105 : Int32) then (bo3 (mX9_readProgram (upd mi 16 ((mi 16) + (1 : Int32))) vtt vs) (fun r_19 mi_20 vs_21 => (if r_19 = 0 ∨ r_19 = 1 then (some (r_19, mi_20, vs_21)) else none))) else (if (vtt (mi 16).toNatClampNeg) = (112 : Int32) then (bo2 (mX9_digits (upd mi 16 ((mi 16) + (1 : Int32))) vtt (10 : Int32) (35 : Int32)) (fun r_25 mi_26 => (if r_25 = 0 then (some ((0 : Int32), mi_26, vs)) else (bo1 (mX9_canPoint vs (mi_26 18)) (fun r_29 => (if r_29 = 0 then (some ((1 : Int32), (upd mi_26 17 ((mi_26 17) + (1 : Int32))), vs)) else (bo2 (mX9_pointOn vs (mi_26 18)) (fun r_33 vs_34 => (if r_33 ≤ 0 then (some ((1 : Int32), (upd mi_26 17 ((mi_26 17) + (1 : Int32))), vs_34)) else (some ((1 : Int32), (upd mi_26 17 ((mi_26 17) + (0 : Int32))), vs_34))))))))))) else (if (vtt (mi 16).toNatClampNeg) = (114 : Int32) then (bo3 (mX9_readRobot (upd mi 16 ((mi 16) + (1 : Int32))) vtt vs) (fun r_40 mi_41 vs_42 => (if r_40 = 0 ∨ r_40 = 1 then (some (r_40, mi_41, vs_42)) else none))) else (some ((0 : Int32), (upd (upd mi 16 ((mi 16) + (1 : Int32))) 16 (((mi 16) + (1 : Int32)) - (1 : Int32))), vs)))))) else none)
set_option maxHeartbeats 4000000 in
set_option maxRecDepth 100000 in
theorem kX9_readPart (l : Launch) (Γ : my_G) (q_mo q_tt q_s q_nw q_tr q_ot q_di q_kp q_ik q_wy q_ah q_tg q_ws q_fr q_rw : Nat) (mi : Nat → Int32) (vtt : Nat → Int32) (vs : Nat → Int32)  (rr : Int32) (mi_z : Nat → Int32) (vs_z : Nat → Int32) (hm : mX9_readPart mi vtt vs = (some (rr, mi_z, vs_z))) : Mn l yX9_readPart wsX9_readPart ({ frames := 5, cells := 0, slots := 0, locals := 109 } : Room) Γ [.ref q_mo, .ref q_s] (wRead Γ q_mo q_tt q_s q_nw q_tr q_ot q_di q_kp q_ik q_wy q_ah q_tg q_ws q_fr q_rw mi vtt vs) (some (.int rr)) (wRead Γ q_mo q_tt q_s q_nw q_tr q_ot q_di q_kp q_ik q_wy q_ah q_tg q_ws q_fr q_rw mi_z vtt vs_z) := by
  intro sz
  refine Met.ofW (cc := cX9_readPart) (maxL := 3) (ret := (some .boolean)) (by decide) rfl ?_
  intro p e s m args below meth c s₁ B hml hv
  obtain ⟨rfl, hsz, hP, hK, hD0⟩ := hv
  have hx := B.exec
  have hb := B.bytes
  have hr := B.returns
  have hts := atoms_spec (ws := wsX9_readPart) B.pre
  have hown : s.vm.findClass RX9 = some m.cls := findClass_of_methodNamed B.named
  have hlocks := B.notSynchronized
  have hinX9 : ∀ w ∈ u_ws RX9 TX9 19, w ∈ wsX9_readPart := fun w h => List.mem_cons_of_mem _ (List.mem_append_right _ h)
  subst hsz
  have hD := hD0.self (sz := s.heap.size)
  have hA : ∀ q : Nat, s.heap.size ≤ q → va_A (wRead Γ q_mo q_tt q_s q_nw q_tr q_ot q_di q_kp q_ik q_wy q_ah q_tg q_ws q_fr q_rw mi vtt vs) s.heap.size q := fun q h => Or.inr h
  generalize va_A (wRead Γ q_mo q_tt q_s q_nw q_tr q_ot q_di q_kp q_ik q_wy q_ah q_tg q_ws q_fr q_rw mi vtt vs) s.heap.size = A at hD hA ⊢
  have hS : va_S A s.heap s.heap [] := va_S.rf
  have hl := lv_entry ([.ref q_mo, .ref q_s]) (n := 3) (Nat.le_of_ble_eq_true rfl)
  rw [lg_entry_eq]
  generalize (lg_sl ([.ref q_mo, .ref q_s]) ++ List.replicate (3 - (lg_sl ([.ref q_mo, .ref q_s])).length) Slot.unset).toArray = ls at hl ⊢
  replace hl : lv_has ls 3 [(0, .ref q_mo), (1, .ref q_s)] := hl
  unfold mX9_readPart at hm
  refine lv_aload_n hx hb dX9_readPart_0 rfl (lv_at hl 0 rfl) ?_
  refine va_get (D := my_D Γ) (ci := 7) (v := .ref q_tt) (C := RX9) (T := TX9) (N := 19) hx hb hts hinX9 hown hK hP 0 rfl rfl 1 (by decide) (hts (.fieldLink RX9 7 "BeltFloorModel" "text" "[I") (List.mem_of_getElem? (i := 1) rfl)) (fun _ h9 => h9) rfl dX9_readPart_1 ?_
  refine lv_aload_n hx hb dX9_readPart_4 rfl (lv_at hl 0 rfl) ?_
  refine va_get (D := my_D Γ) (ci := 7) (v := .int (mi 16)) (C := RX9) (T := TX9) (N := 19) hx hb hts hinX9 hown hK hP 0 rfl rfl 16 (by decide) (hts (.fieldLink RX9 163 "BeltFloorModel" "spot" "I") (List.mem_of_getElem? (i := 2) rfl)) (fun _ h9 => h9) rfl dX9_readPart_5 ?_
  obtain ⟨hi_1, hm⟩ := if_in hm
  refine va_iald hx hb hK hP 1 0 rfl rfl hi_1 dX9_readPart_8 ?_
  refine lv_istore_n (lv' := [(2, .int (vtt (mi 16).toNatClampNeg)), (0, .ref q_mo), (1, .ref q_s)]) hx hb dX9_readPart_9 rfl hl (by decide) rfl (fun ls hl => ?_)
  refine lv_aload_n hx hb dX9_readPart_10 rfl (lv_at hl 1 rfl) ?_
  refine lv_dup hx hb dX9_readPart_11 rfl ?_
  refine va_get (D := my_D Γ) (ci := 7) (v := .int (mi 16)) (C := RX9) (T := TX9) (N := 19) hx hb hts hinX9 hown hK hP 0 rfl rfl 16 (by decide) (hts (.fieldLink RX9 163 "BeltFloorModel" "spot" "I") (List.mem_of_getElem? (i := 2) rfl)) (fun _ h9 => h9) rfl dX9_readPart_12 ?_
  refine lv_iconst (v := (1 : Int32)) hx hb dX9_readPart_15 (by decide) ?_
  refine lv_iadd hx hb dX9_readPart_16 ?_
  refine lv_topi (fun y_2 ey_2 => ?_)
  refine va_put (D := my_D Γ) (ci := 7) (v := .int y_2) (ty := .int) (C := RX9) (T := TX9) (N := 19) hx hb hts hinX9 tyX9 tyX9_ok nmX9 hown hK hP hD hS 0 rfl rfl 16 (by decide) (hts (.fieldLink RX9 163 "BeltFloorModel" "spot" "I") (List.mem_of_getElem? (i := 2) rfl)) (fun _ h9 => h9) rfl (by decide +kernel) rfl rfl (Nat.le_of_ble_eq_true rfl) dX9_readPart_17 (fun H locs hP hD hS => ?_)
  replace hP : va_P (my_D Γ) vwCl (wRead Γ q_mo q_tt q_s q_nw q_tr q_ot q_di q_kp q_ik q_wy q_ah q_tg q_ws q_fr q_rw (upd mi 16 y_2) vtt vs) H := hP
  replace hD : va_D A (wRead Γ q_mo q_tt q_s q_nw q_tr q_ot q_di q_kp q_ik q_wy q_ah q_tg q_ws q_fr q_rw (upd mi 16 y_2) vtt vs) := hD
  subst ey_2
  refine lv_iload_n hx hb dX9_readPart_20 rfl (lv_at hl 0 rfl) ?_
  by_cases c_3 : (vtt (mi 16).toNatClampNeg) = (99 : Int32)
  · replace hm := if_s hm c_3
    refine lv_lookup (off := 43) (tgt := 64) hx hb dX9_readPart_21 (by decide) (by rw [c_3]; rfl) (by decide) ?_
    refine lv_aload_n hx hb dX9_readPart_64 rfl (lv_at hl 1 rfl) ?_
    refine lv_bipush (v := (10 : Int32)) hx hb dX9_readPart_65 (by decide) ?_
    refine lv_bipush (v := (35 : Int32)) hx hb dX9_readPart_67 (by decide) ?_
    obtain ⟨r_4, mi_5, hc_6, hm⟩ := bo2_s hm
    refine my_callP1 (wc := (wMoT Γ q_mo q_tt q_nw q_tr q_ot q_di q_kp q_ik q_wy q_ah q_tg q_ws q_fr q_rw (upd mi 16 ((mi 16) + (1 : Int32))) vtt)) (w1 := (wMoT Γ q_mo q_tt q_nw q_tr q_ot q_di q_kp q_ik q_wy q_ah q_tg q_ws q_fr q_rw mi_5 vtt)) (ws1 := (wRead Γ q_mo q_tt q_s q_nw q_tr q_ot q_di q_kp q_ik q_wy q_ah q_tg q_ws q_fr q_rw mi_5 vtt vs)) hP hD hS hA [0, 1] rfl rfl rfl (va_runV (As := [.int (10 : Int32), .int (35 : Int32)]) (rest := []) ⟨hx, hb, hml, hown, hts⟩ (kX9_digits l Γ q_mo q_tt q_nw q_tr q_ot q_di q_kp q_ik q_wy q_ah q_tg q_ws q_fr q_rw (upd mi 16 ((mi 16) + (1 : Int32))) vtt (10 : Int32) (35 : Int32) r_4 mi_5 hc_6 _) (cwV 2 hts gX9_readPart_X9_digits rfl rfl rfl (by decide +kernel) ⟨Nat.le_of_ble_eq_true rfl, Nat.le_of_ble_eq_true rfl⟩) (my_preV (wc := (wMoT Γ q_mo q_tt q_nw q_tr q_ot q_di q_kp q_ik q_wy q_ah q_tg q_ws q_fr q_rw (upd mi 16 ((mi 16) + (1 : Int32))) vtt)) (ci := 7) (q0 := 0) [0, 1] hK hP hD rfl rfl rfl rfl) rfl rfl hl.1 rfl (lv_room (Nat.le_of_ble_eq_true rfl)) dX9_readPart_69 ⟨Nat.le_of_ble_eq_true rfl, Nat.le_of_ble_eq_true rfl⟩) (fun H locs hP hD hS => ?_)
    refine lv_if_ne (tgt := 77) hx hb dX9_readPart_72 (by decide) (fun c_7 => ?_) (fun c_7 => ?_)
    · replace hm := if_f hm c_7
      refine lv_aload_n hx hb dX9_readPart_77 rfl (lv_at hl 1 rfl) ?_
      refine lv_dup hx hb dX9_readPart_78 rfl ?_
      refine va_get (D := my_D Γ) (ci := 7) (v := .int (mi_5 17)) (C := RX9) (T := TX9) (N := 19) hx hb hts hinX9 hown hK hP 0 rfl rfl 17 (by decide) (hts (.fieldLink RX9 176 "BeltFloorModel" "skipped" "I") (List.mem_of_getElem? (i := 3) rfl)) (fun _ h9 => h9) rfl dX9_readPart_79 ?_
      refine lv_aload_n hx hb dX9_readPart_82 rfl (lv_at hl 2 rfl) ?_
      refine lv_aload_n hx hb dX9_readPart_83 rfl (lv_at hl 1 rfl) ?_
      refine va_get (D := my_D Γ) (ci := 7) (v := .int (mi_5 18)) (C := RX9) (T := TX9) (N := 19) hx hb hts hinX9 hown hK hP 0 rfl rfl 18 (by decide) (hts (.fieldLink RX9 160 "BeltFloorModel" "value" "I") (List.mem_of_getElem? (i := 4) rfl)) (fun _ h9 => h9) rfl dX9_readPart_84 ?_
      obtain ⟨r_8, hc_9, hm⟩ := bo1_s hm
      refine my_callP1 (wc := (wArr117 Γ q_s vs)) (w1 := (wArr117 Γ q_s vs)) (ws1 := (wRead Γ q_mo q_tt q_s q_nw q_tr q_ot q_di q_kp q_ik q_wy q_ah q_tg q_ws q_fr q_rw mi_5 vtt vs)) hP hD hS hA [2] rfl rfl rfl (va_runS (As := [.ref q_s, .int (mi_5 18)]) (rest := [.int (mi_5 17), .ref q_mo]) ⟨hx, hb, hml, hown, hts⟩ (kX9_canCrate l Γ q_s vs (mi_5 18) r_8 hc_9 _) (va_cwS 2 hts gX9_readPart_X9_canCrate rfl rfl rfl (by decide +kernel) ⟨Nat.le_of_ble_eq_true rfl, Nat.le_of_ble_eq_true rfl⟩) (my_preS (wc := (wArr117 Γ q_s vs)) [2] hK hP hD rfl rfl) rfl rfl hl.1 rfl (lv_room (Nat.le_of_ble_eq_true rfl)) dX9_readPart_87 ⟨Nat.le_of_ble_eq_true rfl, Nat.le_of_ble_eq_true rfl⟩) (fun H locs hP hD hS => ?_)
      refine lv_if_eq (tgt := 108) hx hb dX9_readPart_90 (by decide) (fun c_10 => ?_) (fun c_10 => ?_)
      · replace hm := if_s hm c_10
        refine lv_iconst (v := (1 : Int32)) hx hb dX9_readPart_108 (by decide) ?_
        refine lv_iadd hx hb dX9_readPart_109 ?_
        refine lv_topi (fun y_11 ey_11 => ?_)
        refine va_put (D := my_D Γ) (ci := 7) (v := .int y_11) (ty := .int) (C := RX9) (T := TX9) (N := 19) hx hb hts hinX9 tyX9 tyX9_ok nmX9 hown hK hP hD hS 0 rfl rfl 17 (by decide) (hts (.fieldLink RX9 176 "BeltFloorModel" "skipped" "I") (List.mem_of_getElem? (i := 3) rfl)) (fun _ h9 => h9) rfl (by decide +kernel) rfl rfl (Nat.le_of_ble_eq_true rfl) dX9_readPart_110 (fun H locs hP hD hS => ?_)
        replace hP : va_P (my_D Γ) vwCl (wRead Γ q_mo q_tt q_s q_nw q_tr q_ot q_di q_kp q_ik q_wy q_ah q_tg q_ws q_fr q_rw (upd mi_5 17 y_11) vtt vs) H := hP
        replace hD : va_D A (wRead Γ q_mo q_tt q_s q_nw q_tr q_ot q_di q_kp q_ik q_wy q_ah q_tg q_ws q_fr q_rw (upd mi_5 17 y_11) vtt vs) := hD
        subst ey_11
        refine lv_iconst (v := (1 : Int32)) hx hb dX9_readPart_113 (by decide) ?_
        obtain ⟨hf0, hf1, hf2⟩ := si3 hm
        subst hf0
        subst hf1
        subst hf2
        exact W.zret (v := (1 : Int32)) hx hb hr rfl (fun t ht hW => ⟨⟨rfl, by rw [ht]; exact hP⟩, hS.F ht⟩) hS.2.2 dX9_readPart_114
      · replace hm := if_f hm c_10
        refine lv_aload_n hx hb dX9_readPart_93 rfl (lv_at hl 2 rfl) ?_
        refine lv_aload_n hx hb dX9_readPart_94 rfl (lv_at hl 1 rfl) ?_
        refine va_get (D := my_D Γ) (ci := 7) (v := .int (mi_5 18)) (C := RX9) (T := TX9) (N := 19) hx hb hts hinX9 hown hK hP 0 rfl rfl 18 (by decide) (hts (.fieldLink RX9 160 "BeltFloorModel" "value" "I") (List.mem_of_getElem? (i := 4) rfl)) (fun _ h9 => h9) rfl dX9_readPart_95 ?_
        obtain ⟨r_12, vs_13, hc_14, hm⟩ := bo2_s hm
        refine my_callP1 (wc := (wArr117 Γ q_s vs)) (w1 := (wArr117 Γ q_s vs_13)) (ws1 := (wRead Γ q_mo q_tt q_s q_nw q_tr q_ot q_di q_kp q_ik q_wy q_ah q_tg q_ws q_fr q_rw mi_5 vtt vs_13)) hP hD hS hA [2] rfl rfl rfl (va_runS (As := [.ref q_s, .int (mi_5 18)]) (rest := [.int (mi_5 17), .ref q_mo]) ⟨hx, hb, hml, hown, hts⟩ (kX9_crateOn l Γ q_s vs (mi_5 18) r_12 vs_13 hc_14 _) (va_cwS 2 hts gX9_readPart_X9_crateOn rfl rfl rfl (by decide +kernel) ⟨Nat.le_of_ble_eq_true rfl, Nat.le_of_ble_eq_true rfl⟩) (my_preS (wc := (wArr117 Γ q_s vs)) [2] hK hP hD rfl rfl) rfl rfl hl.1 rfl (lv_room (Nat.le_of_ble_eq_true rfl)) dX9_readPart_98 ⟨Nat.le_of_ble_eq_true rfl, Nat.le_of_ble_eq_true rfl⟩) (fun H locs hP hD hS => ?_)
        refine lv_if_le (tgt := 108) hx hb dX9_readPart_101 (by decide) (fun c_15 => ?_) (fun c_15 => ?_)
        · replace hm := if_s hm c_15
          refine lv_iconst (v := (1 : Int32)) hx hb dX9_readPart_108 (by decide) ?_
          refine lv_iadd hx hb dX9_readPart_109 ?_
          refine lv_topi (fun y_16 ey_16 => ?_)
          refine va_put (D := my_D Γ) (ci := 7) (v := .int y_16) (ty := .int) (C := RX9) (T := TX9) (N := 19) hx hb hts hinX9 tyX9 tyX9_ok nmX9 hown hK hP hD hS 0 rfl rfl 17 (by decide) (hts (.fieldLink RX9 176 "BeltFloorModel" "skipped" "I") (List.mem_of_getElem? (i := 3) rfl)) (fun _ h9 => h9) rfl (by decide +kernel) rfl rfl (Nat.le_of_ble_eq_true rfl) dX9_readPart_110 (fun H locs hP hD hS => ?_)
          replace hP : va_P (my_D Γ) vwCl (wRead Γ q_mo q_tt q_s q_nw q_tr q_ot q_di q_kp q_ik q_wy q_ah q_tg q_ws q_fr q_rw (upd mi_5 17 y_16) vtt vs_13) H := hP
          replace hD : va_D A (wRead Γ q_mo q_tt q_s q_nw q_tr q_ot q_di q_kp q_ik q_wy q_ah q_tg q_ws q_fr q_rw (upd mi_5 17 y_16) vtt vs_13) := hD
          subst ey_16
          refine lv_iconst (v := (1 : Int32)) hx hb dX9_readPart_113 (by decide) ?_
          obtain ⟨hf0, hf1, hf2⟩ := si3 hm
          subst hf0
          subst hf1
          subst hf2
          exact W.zret (v := (1 : Int32)) hx hb hr rfl (fun t ht hW => ⟨⟨rfl, by rw [ht]; exact hP⟩, hS.F ht⟩) hS.2.2 dX9_readPart_114
        · replace hm := if_f hm c_15
          refine lv_iconst (v := (0 : Int32)) hx hb dX9_readPart_104 (by decide) ?_
          refine lv_goto (tgt := 109) hx hb dX9_readPart_105 (by decide) ?_
          refine lv_iadd hx hb dX9_readPart_109 ?_
          refine lv_topi (fun y_17 ey_17 => ?_)
          refine va_put (D := my_D Γ) (ci := 7) (v := .int y_17) (ty := .int) (C := RX9) (T := TX9) (N := 19) hx hb hts hinX9 tyX9 tyX9_ok nmX9 hown hK hP hD hS 0 rfl rfl 17 (by decide) (hts (.fieldLink RX9 176 "BeltFloorModel" "skipped" "I") (List.mem_of_getElem? (i := 3) rfl)) (fun _ h9 => h9) rfl (by decide +kernel) rfl rfl (Nat.le_of_ble_eq_true rfl) dX9_readPart_110 (fun H locs hP hD hS => ?_)
          replace hP : va_P (my_D Γ) vwCl (wRead Γ q_mo q_tt q_s q_nw q_tr q_ot q_di q_kp q_ik q_wy q_ah q_tg q_ws q_fr q_rw (upd mi_5 17 y_17) vtt vs_13) H := hP
          replace hD : va_D A (wRead Γ q_mo q_tt q_s q_nw q_tr q_ot q_di q_kp q_ik q_wy q_ah q_tg q_ws q_fr q_rw (upd mi_5 17 y_17) vtt vs_13) := hD
          subst ey_17
          refine lv_iconst (v := (1 : Int32)) hx hb dX9_readPart_113 (by decide) ?_
          obtain ⟨hf0, hf1, hf2⟩ := si3 hm
          subst hf0
          subst hf1
          subst hf2
          exact W.zret (v := (1 : Int32)) hx hb hr rfl (fun t ht hW => ⟨⟨rfl, by rw [ht]; exact hP⟩, hS.F ht⟩) hS.2.2 dX9_readPart_114
    · replace hm := if_s hm c_7
      refine lv_iconst (v := (0 : Int32)) hx hb dX9_readPart_75 (by decide) ?_
      obtain ⟨hf0, hf1, hf2⟩ := si3 hm
      subst hf0
      subst hf1
      subst hf2
      exact W.zret (v := (0 : Int32)) hx hb hr rfl (fun t ht hW => ⟨⟨rfl, by rw [ht]; exact hP⟩, hS.F ht⟩) hS.2.2 dX9_readPart_76
  · replace hm := if_f hm c_3
    by_cases c_18 : (vtt (mi 16).toNatClampNeg) = (105 : Int32)
    · replace hm := if_s hm c_18
      refine lv_lookup (off := 151) (tgt := 172) hx hb dX9_readPart_21 (by decide) (by rw [c_18]; rfl) (by decide) ?_
      refine lv_aload_n hx hb dX9_readPart_172 rfl (lv_at hl 1 rfl) ?_
      refine lv_aload_n hx hb dX9_readPart_173 rfl (lv_at hl 2 rfl) ?_
      obtain ⟨r_19, mi_20, vs_21, hc_22, hm⟩ := bo3_s hm
      refine my_callP1 (wc := (wRead Γ q_mo q_tt q_s q_nw q_tr q_ot q_di q_kp q_ik q_wy q_ah q_tg q_ws q_fr q_rw (upd mi 16 ((mi 16) + (1 : Int32))) vtt vs)) (w1 := (wRead Γ q_mo q_tt q_s q_nw q_tr q_ot q_di q_kp q_ik q_wy q_ah q_tg q_ws q_fr q_rw mi_20 vtt vs_21)) (ws1 := (wRead Γ q_mo q_tt q_s q_nw q_tr q_ot q_di q_kp q_ik q_wy q_ah q_tg q_ws q_fr q_rw mi_20 vtt vs_21)) hP hD hS hA [0, 1, 2] rfl rfl rfl (va_runV (As := [.ref q_s]) (rest := []) ⟨hx, hb, hml, hown, hts⟩ (kX9_readProgram l Γ q_mo q_tt q_s q_nw q_tr q_ot q_di q_kp q_ik q_wy q_ah q_tg q_ws q_fr q_rw (upd mi 16 ((mi 16) + (1 : Int32))) vtt vs r_19 mi_20 vs_21 hc_22 _) (cwV 1 hts gX9_readPart_X9_readProgram rfl rfl rfl (by decide +kernel) ⟨Nat.le_of_ble_eq_true rfl, Nat.le_of_ble_eq_true rfl⟩) (my_preV (wc := (wRead Γ q_mo q_tt q_s q_nw q_tr q_ot q_di q_kp q_ik q_wy q_ah q_tg q_ws q_fr q_rw (upd mi 16 ((mi 16) + (1 : Int32))) vtt vs)) (ci := 7) (q0 := 0) [0, 1, 2] hK hP hD rfl rfl rfl rfl) rfl rfl hl.1 rfl (lv_room (Nat.le_of_ble_eq_true rfl)) dX9_readPart_174 ⟨Nat.le_of_ble_eq_true rfl, Nat.le_of_ble_eq_true rfl⟩) (fun H locs hP hD hS => ?_)
      obtain ⟨hz_23, hm⟩ := if_bz hm
      obtain ⟨hf0, hf1, hf2⟩ := si3 hm
      subst hf0
      subst hf1
      subst hf2
      exact W.zret (v := r_19) hx hb hr hz_23 (fun t ht hW => ⟨⟨rfl, by rw [ht]; exact hP⟩, hS.F ht⟩) hS.2.2 dX9_readPart_177
    · replace hm := if_f hm c_18
      by_cases c_24 : (vtt (mi 16).toNatClampNeg) = (112 : Int32)
      · replace hm := if_s hm c_24
        refine lv_lookup (off := 94) (tgt := 115) hx hb dX9_readPart_21 (by decide) (by rw [c_24]; rfl) (by decide) ?_
        refine lv_aload_n hx hb dX9_readPart_115 rfl (lv_at hl 1 rfl) ?_
        refine lv_bipush (v := (10 : Int32)) hx hb dX9_readPart_116 (by decide) ?_
        refine lv_bipush (v := (35 : Int32)) hx hb dX9_readPart_118 (by decide) ?_
        obtain ⟨r_25, mi_26, hc_27, hm⟩ := bo2_s hm
        refine my_callP1 (wc := (wMoT Γ q_mo q_tt q_nw q_tr q_ot q_di q_kp q_ik q_wy q_ah q_tg q_ws q_fr q_rw (upd mi 16 ((mi 16) + (1 : Int32))) vtt)) (w1 := (wMoT Γ q_mo q_tt q_nw q_tr q_ot q_di q_kp q_ik q_wy q_ah q_tg q_ws q_fr q_rw mi_26 vtt)) (ws1 := (wRead Γ q_mo q_tt q_s q_nw q_tr q_ot q_di q_kp q_ik q_wy q_ah q_tg q_ws q_fr q_rw mi_26 vtt vs)) hP hD hS hA [0, 1] rfl rfl rfl (va_runV (As := [.int (10 : Int32), .int (35 : Int32)]) (rest := []) ⟨hx, hb, hml, hown, hts⟩ (kX9_digits l Γ q_mo q_tt q_nw q_tr q_ot q_di q_kp q_ik q_wy q_ah q_tg q_ws q_fr q_rw (upd mi 16 ((mi 16) + (1 : Int32))) vtt (10 : Int32) (35 : Int32) r_25 mi_26 hc_27 _) (cwV 2 hts gX9_readPart_X9_digits rfl rfl rfl (by decide +kernel) ⟨Nat.le_of_ble_eq_true rfl, Nat.le_of_ble_eq_true rfl⟩) (my_preV (wc := (wMoT Γ q_mo q_tt q_nw q_tr q_ot q_di q_kp q_ik q_wy q_ah q_tg q_ws q_fr q_rw (upd mi 16 ((mi 16) + (1 : Int32))) vtt)) (ci := 7) (q0 := 0) [0, 1] hK hP hD rfl rfl rfl rfl) rfl rfl hl.1 rfl (lv_room (Nat.le_of_ble_eq_true rfl)) dX9_readPart_120 ⟨Nat.le_of_ble_eq_true rfl, Nat.le_of_ble_eq_true rfl⟩) (fun H locs hP hD hS => ?_)
        refine lv_if_ne (tgt := 128) hx hb dX9_readPart_123 (by decide) (fun c_28 => ?_) (fun c_28 => ?_)
        · replace hm := if_f hm c_28
          refine lv_aload_n hx hb dX9_readPart_128 rfl (lv_at hl 1 rfl) ?_
          refine lv_dup hx hb dX9_readPart_129 rfl ?_
          refine va_get (D := my_D Γ) (ci := 7) (v := .int (mi_26 17)) (C := RX9) (T := TX9) (N := 19) hx hb hts hinX9 hown hK hP 0 rfl rfl 17 (by decide) (hts (.fieldLink RX9 176 "BeltFloorModel" "skipped" "I") (List.mem_of_getElem? (i := 3) rfl)) (fun _ h9 => h9) rfl dX9_readPart_130 ?_
          refine lv_aload_n hx hb dX9_readPart_133 rfl (lv_at hl 2 rfl) ?_
          refine lv_aload_n hx hb dX9_readPart_134 rfl (lv_at hl 1 rfl) ?_
          refine va_get (D := my_D Γ) (ci := 7) (v := .int (mi_26 18)) (C := RX9) (T := TX9) (N := 19) hx hb hts hinX9 hown hK hP 0 rfl rfl 18 (by decide) (hts (.fieldLink RX9 160 "BeltFloorModel" "value" "I") (List.mem_of_getElem? (i := 4) rfl)) (fun _ h9 => h9) rfl dX9_readPart_135 ?_
          obtain ⟨r_29, hc_30, hm⟩ := bo1_s hm
          refine my_callP1 (wc := (wArr117 Γ q_s vs)) (w1 := (wArr117 Γ q_s vs)) (ws1 := (wRead Γ q_mo q_tt q_s q_nw q_tr q_ot q_di q_kp q_ik q_wy q_ah q_tg q_ws q_fr q_rw mi_26 vtt vs)) hP hD hS hA [2] rfl rfl rfl (va_runS (As := [.ref q_s, .int (mi_26 18)]) (rest := [.int (mi_26 17), .ref q_mo]) ⟨hx, hb, hml, hown, hts⟩ (kX9_canPoint l Γ q_s vs (mi_26 18) r_29 hc_30 _) (va_cwS 2 hts gX9_readPart_X9_canPoint rfl rfl rfl (by decide +kernel) ⟨Nat.le_of_ble_eq_true rfl, Nat.le_of_ble_eq_true rfl⟩) (my_preS (wc := (wArr117 Γ q_s vs)) [2] hK hP hD rfl rfl) rfl rfl hl.1 rfl (lv_room (Nat.le_of_ble_eq_true rfl)) dX9_readPart_138 ⟨Nat.le_of_ble_eq_true rfl, Nat.le_of_ble_eq_true rfl⟩) (fun H locs hP hD hS => ?_)
          refine lv_if_eq (tgt := 159) hx hb dX9_readPart_141 (by decide) (fun c_31 => ?_) (fun c_31 => ?_)
          · replace hm := if_s hm c_31
            refine lv_iconst (v := (1 : Int32)) hx hb dX9_readPart_159 (by decide) ?_
            refine lv_iadd hx hb dX9_readPart_160 ?_
            refine lv_topi (fun y_32 ey_32 => ?_)
            refine va_put (D := my_D Γ) (ci := 7) (v := .int y_32) (ty := .int) (C := RX9) (T := TX9) (N := 19) hx hb hts hinX9 tyX9 tyX9_ok nmX9 hown hK hP hD hS 0 rfl rfl 17 (by decide) (hts (.fieldLink RX9 176 "BeltFloorModel" "skipped" "I") (List.mem_of_getElem? (i := 3) rfl)) (fun _ h9 => h9) rfl (by decide +kernel) rfl rfl (Nat.le_of_ble_eq_true rfl) dX9_readPart_161 (fun H locs hP hD hS => ?_)
            replace hP : va_P (my_D Γ) vwCl (wRead Γ q_mo q_tt q_s q_nw q_tr q_ot q_di q_kp q_ik q_wy q_ah q_tg q_ws q_fr q_rw (upd mi_26 17 y_32) vtt vs) H := hP
            replace hD : va_D A (wRead Γ q_mo q_tt q_s q_nw q_tr q_ot q_di q_kp q_ik q_wy q_ah q_tg q_ws q_fr q_rw (upd mi_26 17 y_32) vtt vs) := hD
            subst ey_32
            refine lv_iconst (v := (1 : Int32)) hx hb dX9_readPart_164 (by decide) ?_
            obtain ⟨hf0, hf1, hf2⟩ := si3 hm
            subst hf0
            subst hf1
            subst hf2
            exact W.zret (v := (1 : Int32)) hx hb hr rfl (fun t ht hW => ⟨⟨rfl, by rw [ht]; exact hP⟩, hS.F ht⟩) hS.2.2 dX9_readPart_165
          · replace hm := if_f hm c_31
            refine lv_aload_n hx hb dX9_readPart_144 rfl (lv_at hl 2 rfl) ?_
            refine lv_aload_n hx hb dX9_readPart_145 rfl (lv_at hl 1 rfl) ?_
            refine va_get (D := my_D Γ) (ci := 7) (v := .int (mi_26 18)) (C := RX9) (T := TX9) (N := 19) hx hb hts hinX9 hown hK hP 0 rfl rfl 18 (by decide) (hts (.fieldLink RX9 160 "BeltFloorModel" "value" "I") (List.mem_of_getElem? (i := 4) rfl)) (fun _ h9 => h9) rfl dX9_readPart_146 ?_
            obtain ⟨r_33, vs_34, hc_35, hm⟩ := bo2_s hm
            refine my_callP1 (wc := (wArr117 Γ q_s vs)) (w1 := (wArr117 Γ q_s vs_34)) (ws1 := (wRead Γ q_mo q_tt q_s q_nw q_tr q_ot q_di q_kp q_ik q_wy q_ah q_tg q_ws q_fr q_rw mi_26 vtt vs_34)) hP hD hS hA [2] rfl rfl rfl (va_runS (As := [.ref q_s, .int (mi_26 18)]) (rest := [.int (mi_26 17), .ref q_mo]) ⟨hx, hb, hml, hown, hts⟩ (kX9_pointOn l Γ q_s vs (mi_26 18) r_33 vs_34 hc_35 _) (va_cwS 2 hts gX9_readPart_X9_pointOn rfl rfl rfl (by decide +kernel) ⟨Nat.le_of_ble_eq_true rfl, Nat.le_of_ble_eq_true rfl⟩) (my_preS (wc := (wArr117 Γ q_s vs)) [2] hK hP hD rfl rfl) rfl rfl hl.1 rfl (lv_room (Nat.le_of_ble_eq_true rfl)) dX9_readPart_149 ⟨Nat.le_of_ble_eq_true rfl, Nat.le_of_ble_eq_true rfl⟩) (fun H locs hP hD hS => ?_)
            refine lv_if_le (tgt := 159) hx hb dX9_readPart_152 (by decide) (fun c_36 => ?_) (fun c_36 => ?_)
            · replace hm := if_s hm c_36
              refine lv_iconst (v := (1 : Int32)) hx hb dX9_readPart_159 (by decide) ?_
              refine lv_iadd hx hb dX9_readPart_160 ?_
              refine lv_topi (fun y_37 ey_37 => ?_)
              refine va_put (D := my_D Γ) (ci := 7) (v := .int y_37) (ty := .int) (C := RX9) (T := TX9) (N := 19) hx hb hts hinX9 tyX9 tyX9_ok nmX9 hown hK hP hD hS 0 rfl rfl 17 (by decide) (hts (.fieldLink RX9 176 "BeltFloorModel" "skipped" "I") (List.mem_of_getElem? (i := 3) rfl)) (fun _ h9 => h9) rfl (by decide +kernel) rfl rfl (Nat.le_of_ble_eq_true rfl) dX9_readPart_161 (fun H locs hP hD hS => ?_)
              replace hP : va_P (my_D Γ) vwCl (wRead Γ q_mo q_tt q_s q_nw q_tr q_ot q_di q_kp q_ik q_wy q_ah q_tg q_ws q_fr q_rw (upd mi_26 17 y_37) vtt vs_34) H := hP
              replace hD : va_D A (wRead Γ q_mo q_tt q_s q_nw q_tr q_ot q_di q_kp q_ik q_wy q_ah q_tg q_ws q_fr q_rw (upd mi_26 17 y_37) vtt vs_34) := hD
              subst ey_37
              refine lv_iconst (v := (1 : Int32)) hx hb dX9_readPart_164 (by decide) ?_
              obtain ⟨hf0, hf1, hf2⟩ := si3 hm
              subst hf0
              subst hf1
              subst hf2
              exact W.zret (v := (1 : Int32)) hx hb hr rfl (fun t ht hW => ⟨⟨rfl, by rw [ht]; exact hP⟩, hS.F ht⟩) hS.2.2 dX9_readPart_165
            · replace hm := if_f hm c_36
              refine lv_iconst (v := (0 : Int32)) hx hb dX9_readPart_155 (by decide) ?_
              refine lv_goto (tgt := 160) hx hb dX9_readPart_156 (by decide) ?_
              refine lv_iadd hx hb dX9_readPart_160 ?_
              refine lv_topi (fun y_38 ey_38 => ?_)
              refine va_put (D := my_D Γ) (ci := 7) (v := .int y_38) (ty := .int) (C := RX9) (T := TX9) (N := 19) hx hb hts hinX9 tyX9 tyX9_ok nmX9 hown hK hP hD hS 0 rfl rfl 17 (by decide) (hts (.fieldLink RX9 176 "BeltFloorModel" "skipped" "I") (List.mem_of_getElem? (i := 3) rfl)) (fun _ h9 => h9) rfl (by decide +kernel) rfl rfl (Nat.le_of_ble_eq_true rfl) dX9_readPart_161 (fun H locs hP hD hS => ?_)
              replace hP : va_P (my_D Γ) vwCl (wRead Γ q_mo q_tt q_s q_nw q_tr q_ot q_di q_kp q_ik q_wy q_ah q_tg q_ws q_fr q_rw (upd mi_26 17 y_38) vtt vs_34) H := hP
              replace hD : va_D A (wRead Γ q_mo q_tt q_s q_nw q_tr q_ot q_di q_kp q_ik q_wy q_ah q_tg q_ws q_fr q_rw (upd mi_26 17 y_38) vtt vs_34) := hD
              subst ey_38
              refine lv_iconst (v := (1 : Int32)) hx hb dX9_readPart_164 (by decide) ?_
              obtain ⟨hf0, hf1, hf2⟩ := si3 hm
              subst hf0
              subst hf1
              subst hf2
              exact W.zret (v := (1 : Int32)) hx hb hr rfl (fun t ht hW => ⟨⟨rfl, by rw [ht]; exact hP⟩, hS.F ht⟩) hS.2.2 dX9_readPart_165
        · replace hm := if_s hm c_28
          refine lv_iconst (v := (0 : Int32)) hx hb dX9_readPart_126 (by decide) ?_
          obtain ⟨hf0, hf1, hf2⟩ := si3 hm
          subst hf0
          subst hf1
          subst hf2
          exact W.zret (v := (0 : Int32)) hx hb hr rfl (fun t ht hW => ⟨⟨rfl, by rw [ht]; exact hP⟩, hS.F ht⟩) hS.2.2 dX9_readPart_127
      · replace hm := if_f hm c_24
        by_cases c_39 : (vtt (mi 16).toNatClampNeg) = (114 : Int32)
        · replace hm := if_s hm c_39
          refine lv_lookup (off := 145) (tgt := 166) hx hb dX9_readPart_21 (by decide) (by rw [c_39]; rfl) (by decide) ?_
          refine lv_aload_n hx hb dX9_readPart_166 rfl (lv_at hl 1 rfl) ?_
          refine lv_aload_n hx hb dX9_readPart_167 rfl (lv_at hl 2 rfl) ?_
          obtain ⟨r_40, mi_41, vs_42, hc_43, hm⟩ := bo3_s hm
          refine my_callP1 (wc := (wRead Γ q_mo q_tt q_s q_nw q_tr q_ot q_di q_kp q_ik q_wy q_ah q_tg q_ws q_fr q_rw (upd mi 16 ((mi 16) + (1 : Int32))) vtt vs)) (w1 := (wRead Γ q_mo q_tt q_s q_nw q_tr q_ot q_di q_kp q_ik q_wy q_ah q_tg q_ws q_fr q_rw mi_41 vtt vs_42)) (ws1 := (wRead Γ q_mo q_tt q_s q_nw q_tr q_ot q_di q_kp q_ik q_wy q_ah q_tg q_ws q_fr q_rw mi_41 vtt vs_42)) hP hD hS hA [0, 1, 2] rfl rfl rfl (va_runV (As := [.ref q_s]) (rest := []) ⟨hx, hb, hml, hown, hts⟩ (kX9_readRobot l Γ q_mo q_tt q_s q_nw q_tr q_ot q_di q_kp q_ik q_wy q_ah q_tg q_ws q_fr q_rw (upd mi 16 ((mi 16) + (1 : Int32))) vtt vs r_40 mi_41 vs_42 hc_43 _) (cwV 1 hts gX9_readPart_X9_readRobot rfl rfl rfl (by decide +kernel) ⟨Nat.le_of_ble_eq_true rfl, Nat.le_of_ble_eq_true rfl⟩) (my_preV (wc := (wRead Γ q_mo q_tt q_s q_nw q_tr q_ot q_di q_kp q_ik q_wy q_ah q_tg q_ws q_fr q_rw (upd mi 16 ((mi 16) + (1 : Int32))) vtt vs)) (ci := 7) (q0 := 0) [0, 1, 2] hK hP hD rfl rfl rfl rfl) rfl rfl hl.1 rfl (lv_room (Nat.le_of_ble_eq_true rfl)) dX9_readPart_168 ⟨Nat.le_of_ble_eq_true rfl, Nat.le_of_ble_eq_true rfl⟩) (fun H locs hP hD hS => ?_)
          obtain ⟨hz_44, hm⟩ := if_bz hm
          obtain ⟨hf0, hf1, hf2⟩ := si3 hm
          subst hf0
          subst hf1
          subst hf2
          exact W.zret (v := r_40) hx hb hr hz_44 (fun t ht hW => ⟨⟨rfl, by rw [ht]; exact hP⟩, hS.F ht⟩) hS.2.2 dX9_readPart_171
        · replace hm := if_f hm c_39
          refine lv_lookup (off := 157) (tgt := 178) hx hb dX9_readPart_21 (by decide) ((lv_osw c_3 rfl).trans ((lv_osw c_18 rfl).trans ((lv_osw c_24 rfl).trans ((lv_osw c_39 rfl).trans rfl)))) (by decide) ?_
          refine lv_aload_n hx hb dX9_readPart_178 rfl (lv_at hl 1 rfl) ?_
          refine lv_dup hx hb dX9_readPart_179 rfl ?_
          refine va_get (D := my_D Γ) (ci := 7) (v := .int ((mi 16) + (1 : Int32))) (C := RX9) (T := TX9) (N := 19) hx hb hts hinX9 hown hK hP 0 rfl rfl 16 (by decide) (hts (.fieldLink RX9 163 "BeltFloorModel" "spot" "I") (List.mem_of_getElem? (i := 2) rfl)) (fun _ h9 => h9) rfl dX9_readPart_180 ?_
          refine lv_iconst (v := (1 : Int32)) hx hb dX9_readPart_183 (by decide) ?_
          refine lv_isub hx hb dX9_readPart_184 ?_
          refine lv_topi (fun y_45 ey_45 => ?_)
          refine va_put (D := my_D Γ) (ci := 7) (v := .int y_45) (ty := .int) (C := RX9) (T := TX9) (N := 19) hx hb hts hinX9 tyX9 tyX9_ok nmX9 hown hK hP hD hS 0 rfl rfl 16 (by decide) (hts (.fieldLink RX9 163 "BeltFloorModel" "spot" "I") (List.mem_of_getElem? (i := 2) rfl)) (fun _ h9 => h9) rfl (by decide +kernel) rfl rfl (Nat.le_of_ble_eq_true rfl) dX9_readPart_185 (fun H locs hP hD hS => ?_)
          replace hP : va_P (my_D Γ) vwCl (wRead Γ q_mo q_tt q_s q_nw q_tr q_ot q_di q_kp q_ik q_wy q_ah q_tg q_ws q_fr q_rw (upd (upd mi 16 ((mi 16) + (1 : Int32))) 16 y_45) vtt vs) H := hP
          replace hD : va_D A (wRead Γ q_mo q_tt q_s q_nw q_tr q_ot q_di q_kp q_ik q_wy q_ah q_tg q_ws q_fr q_rw (upd (upd mi 16 ((mi 16) + (1 : Int32))) 16 y_45) vtt vs) := hD
          subst ey_45
          refine lv_iconst (v := (0 : Int32)) hx hb dX9_readPart_188 (by decide) ?_
          obtain ⟨hf0, hf1, hf2⟩ := si3 hm
          subst hf0
          subst hf1
          subst hf2
          exact W.zret (v := (0 : Int32)) hx hb hr rfl (fun t ht hW => ⟨⟨rfl, by rw [ht]; exact hP⟩, hS.F ht⟩) hS.2.2 dX9_readPart_189
def mX9_readText_L52  : Nat → (Nat → Int32) → (Nat → Int32) → (Nat → Int32) → Option (Int32 × (Nat → Int32) × (Nat → Int32))
  | 0, _, _, _ => none
  | n + 1, mi, vtt, vs => (if (mi 2) ≤ (mi 16) then (some ((-1 : Int32), mi, vs)) else (bo3 (mX9_readPart mi vtt vs) (fun r_11 mi_12 vs_13 => (if r_11 = 0 then (some ((mi_12 16), mi_12, vs_13)) else (mX9_readText_L52 n mi_12 vtt vs_13)))))
def mX9_readText (mi : Nat → Int32) (vtt : Nat → Int32) (vs : Nat → Int32) : Option (Int32 × (Nat → Int32) × (Nat → Int32)) := (bo1 (mX9_clear vs) (fun vs_1 => (if (mi 2) = 0 then (some ((0 : Int32), (upd (upd mi 17 (0 : Int32)) 16 (0 : Int32)), vs_1)) else (if (vtt (0 : Int32).toNatClampNeg) = (70 : Int32) then (bo3 (mX9_readKinds (upd (upd (upd mi 17 (0 : Int32)) 16 (0 : Int32)) 16 (1 : Int32)) vtt vs_1) (fun r_5 mi_6 vs_7 => (if r_5 = 0 then (some ((mi_6 16), mi_6, vs_7)) else (mX9_readText_L52 4096 mi_6 vtt vs_7)))) else (some ((0 : Int32), (upd (upd mi 17 (0 : Int32)) 16 (0 : Int32)), vs_1))))))
set_option maxHeartbeats 4000000 in
set_option maxRecDepth 100000 in
theorem kX9_readText (l : Launch) (Γ : my_G) (q_mo q_tt q_s q_nw q_tr q_ot q_di q_kp q_ik q_wy q_ah q_tg q_ws q_fr q_rw : Nat) (mi : Nat → Int32) (vtt : Nat → Int32) (vs : Nat → Int32)  (rr : Int32) (mi_z : Nat → Int32) (vs_z : Nat → Int32) (hm : mX9_readText mi vtt vs = (some (rr, mi_z, vs_z))) : Mn l yX9_readText wsX9_readText ({ frames := 6, cells := 0, slots := 0, locals := 131 } : Room) Γ [.ref q_mo, .ref q_s] (wRead Γ q_mo q_tt q_s q_nw q_tr q_ot q_di q_kp q_ik q_wy q_ah q_tg q_ws q_fr q_rw mi vtt vs) (some (.int rr)) (wRead Γ q_mo q_tt q_s q_nw q_tr q_ot q_di q_kp q_ik q_wy q_ah q_tg q_ws q_fr q_rw mi_z vtt vs_z) := by
  intro sz
  refine Met.ofW (cc := cX9_readText) (maxL := 2) (ret := (some .int)) (by decide) rfl ?_
  intro p e s m args below meth c s₁ B hml hv
  obtain ⟨rfl, hsz, hP, hK, hD0⟩ := hv
  have hx := B.exec
  have hb := B.bytes
  have hr := B.returns
  have hts := atoms_spec (ws := wsX9_readText) B.pre
  have hown : s.vm.findClass RX9 = some m.cls := findClass_of_methodNamed B.named
  have hlocks := B.notSynchronized
  have hinX9 : ∀ w ∈ u_ws RX9 TX9 19, w ∈ wsX9_readText := fun w h => List.mem_cons_of_mem _ (List.mem_append_right _ h)
  subst hsz
  have hD := hD0.self (sz := s.heap.size)
  have hA : ∀ q : Nat, s.heap.size ≤ q → va_A (wRead Γ q_mo q_tt q_s q_nw q_tr q_ot q_di q_kp q_ik q_wy q_ah q_tg q_ws q_fr q_rw mi vtt vs) s.heap.size q := fun q h => Or.inr h
  generalize va_A (wRead Γ q_mo q_tt q_s q_nw q_tr q_ot q_di q_kp q_ik q_wy q_ah q_tg q_ws q_fr q_rw mi vtt vs) s.heap.size = A at hD hA ⊢
  have hS : va_S A s.heap s.heap [] := va_S.rf
  have hl := lv_entry ([.ref q_mo, .ref q_s]) (n := 2) (Nat.le_of_ble_eq_true rfl)
  rw [lg_entry_eq]
  generalize (lg_sl ([.ref q_mo, .ref q_s]) ++ List.replicate (2 - (lg_sl ([.ref q_mo, .ref q_s])).length) Slot.unset).toArray = ls at hl ⊢
  replace hl : lv_has ls 2 [(0, .ref q_mo), (1, .ref q_s)] := hl
  have J_52 : ∀ n : Nat, ∀ (mi : Nat → Int32) (vtt : Nat → Int32) (vs : Nat → Int32)  (H : Heap) (locs : List Loc) (ls : Array Slot), va_P (my_D Γ) vwCl (wRead Γ q_mo q_tt q_s q_nw q_tr q_ot q_di q_kp q_ik q_wy q_ah q_tg q_ws q_fr q_rw mi vtt vs) H → va_D A (wRead Γ q_mo q_tt q_s q_nw q_tr q_ot q_di q_kp q_ik q_wy q_ah q_tg q_ws q_fr q_rw mi vtt vs) → va_S A s.heap H locs → lv_has ls 2 [(0, .ref q_mo), (1, .ref q_s)] → mX9_readText_L52 n mi vtt vs = (some (rr, mi_z, vs_z)) → W p l e (headSpec wsX9_readText ({ frames := 6, cells := 0, slots := 0, locals := 131 } : Room)).room s m ([.ref q_mo, .ref q_s] : List Value).toArray below meth c H locs 0 0 (MQ below (my_Q Γ A (some (.int rr)) (wRead Γ q_mo q_tt q_s q_nw q_tr q_ot q_di q_kp q_ik q_wy q_ah q_tg q_ws q_fr q_rw mi_z vtt vs_z)) ([.ref q_mo, .ref q_s] : List Value).toArray s 0 0 A) (F0 m 52 ls []) := by
    intro  n
    induction n with
    | zero => intro mi vtt vs H locs ls hP hD hS hl hm; cases hm
    | succ n ih =>
      intro mi vtt vs H locs ls hP hD hS hl hm
      unfold mX9_readText_L52 at hm
      refine lv_aload_n hx hb dX9_readText_52 rfl (lv_at hl 0 rfl) ?_
      refine va_get (D := my_D Γ) (ci := 7) (v := .int (mi 16)) (C := RX9) (T := TX9) (N := 19) hx hb hts hinX9 hown hK hP 0 rfl rfl 16 (by decide) (hts (.fieldLink RX9 163 "BeltFloorModel" "spot" "I") (List.mem_of_getElem? (i := 2) rfl)) (fun _ h9 => h9) rfl dX9_readText_53 ?_
      refine lv_aload_n hx hb dX9_readText_56 rfl (lv_at hl 0 rfl) ?_
      refine va_get (D := my_D Γ) (ci := 7) (v := .int (mi 2)) (C := RX9) (T := TX9) (N := 19) hx hb hts hinX9 hown hK hP 0 rfl rfl 2 (by decide) (hts (.fieldLink RX9 153 "BeltFloorModel" "size" "I") (List.mem_of_getElem? (i := 3) rfl)) (fun _ h9 => h9) rfl dX9_readText_57 ?_
      refine lv_icmp_ge (tgt := 76) hx hb dX9_readText_60 (by decide) (fun c_10 => ?_) (fun c_10 => ?_)
      · replace hm := if_s hm c_10
        refine lv_iconst (v := (-1 : Int32)) hx hb dX9_readText_76 (by decide) ?_
        obtain ⟨hf0, hf1, hf2⟩ := si3 hm
        subst hf0
        subst hf1
        subst hf2
        exact W.iret (v := (-1 : Int32)) hx hb hr (fun t ht hW => ⟨⟨rfl, by rw [ht]; exact hP⟩, hS.F ht⟩) hS.2.2 dX9_readText_77
      · replace hm := if_f hm c_10
        refine lv_aload_n hx hb dX9_readText_63 rfl (lv_at hl 0 rfl) ?_
        refine lv_aload_n hx hb dX9_readText_64 rfl (lv_at hl 1 rfl) ?_
        obtain ⟨r_11, mi_12, vs_13, hc_14, hm⟩ := bo3_s hm
        refine my_callP1 (wc := (wRead Γ q_mo q_tt q_s q_nw q_tr q_ot q_di q_kp q_ik q_wy q_ah q_tg q_ws q_fr q_rw mi vtt vs)) (w1 := (wRead Γ q_mo q_tt q_s q_nw q_tr q_ot q_di q_kp q_ik q_wy q_ah q_tg q_ws q_fr q_rw mi_12 vtt vs_13)) (ws1 := (wRead Γ q_mo q_tt q_s q_nw q_tr q_ot q_di q_kp q_ik q_wy q_ah q_tg q_ws q_fr q_rw mi_12 vtt vs_13)) hP hD hS hA [0, 1, 2] rfl rfl rfl (va_runV (As := [.ref q_s]) (rest := []) ⟨hx, hb, hml, hown, hts⟩ (kX9_readPart l Γ q_mo q_tt q_s q_nw q_tr q_ot q_di q_kp q_ik q_wy q_ah q_tg q_ws q_fr q_rw mi vtt vs r_11 mi_12 vs_13 hc_14 _) (cwV 1 hts gX9_readText_X9_readPart rfl rfl rfl (by decide +kernel) ⟨Nat.le_of_ble_eq_true rfl, Nat.le_of_ble_eq_true rfl⟩) (my_preV (wc := (wRead Γ q_mo q_tt q_s q_nw q_tr q_ot q_di q_kp q_ik q_wy q_ah q_tg q_ws q_fr q_rw mi vtt vs)) (ci := 7) (q0 := 0) [0, 1, 2] hK hP hD rfl rfl rfl rfl) rfl rfl hl.1 rfl (lv_room (Nat.le_of_ble_eq_true rfl)) dX9_readText_65 ⟨Nat.le_of_ble_eq_true rfl, Nat.le_of_ble_eq_true rfl⟩) (fun H locs hP hD hS => ?_)
        refine lv_if_ne (tgt := 52) hx hb dX9_readText_68 (by decide) (fun c_15 => ?_) (fun c_15 => ?_)
        · replace hm := if_f hm c_15
          exact ih mi_12 vtt vs_13 _ _ _ hP hD hS (lv_sub hl [0, 1] rfl) hm
        · replace hm := if_s hm c_15
          refine lv_aload_n hx hb dX9_readText_71 rfl (lv_at hl 0 rfl) ?_
          refine va_get (D := my_D Γ) (ci := 7) (v := .int (mi_12 16)) (C := RX9) (T := TX9) (N := 19) hx hb hts hinX9 hown hK hP 0 rfl rfl 16 (by decide) (hts (.fieldLink RX9 163 "BeltFloorModel" "spot" "I") (List.mem_of_getElem? (i := 2) rfl)) (fun _ h9 => h9) rfl dX9_readText_72 ?_
          obtain ⟨hf0, hf1, hf2⟩ := si3 hm
          subst hf0
          subst hf1
          subst hf2
          exact W.iret (v := (mi_12 16)) hx hb hr (fun t ht hW => ⟨⟨rfl, by rw [ht]; exact hP⟩, hS.F ht⟩) hS.2.2 dX9_readText_75
  unfold mX9_readText at hm
  refine lv_aload_n hx hb dX9_readText_0 rfl (lv_at hl 1 rfl) ?_
  obtain ⟨vs_1, hc_2, hm⟩ := bo1_s hm
  refine my_callP0 (wc := (wArr117 Γ q_s vs)) (w1 := (wArr117 Γ q_s vs_1)) (ws1 := (wRead Γ q_mo q_tt q_s q_nw q_tr q_ot q_di q_kp q_ik q_wy q_ah q_tg q_ws q_fr q_rw mi vtt vs_1)) hP hD hS hA [2] rfl rfl rfl (va_runS (As := [.ref q_s]) (rest := []) ⟨hx, hb, hml, hown, hts⟩ (kX9_clear l Γ q_s vs vs_1 hc_2 _) (va_cwS 1 hts gX9_readText_X9_clear rfl rfl rfl (by decide +kernel) ⟨Nat.le_of_ble_eq_true rfl, Nat.le_of_ble_eq_true rfl⟩) (my_preS (wc := (wArr117 Γ q_s vs)) [2] hK hP hD rfl rfl) rfl rfl hl.1 rfl (lv_room (Nat.le_of_ble_eq_true rfl)) dX9_readText_1 ⟨Nat.le_of_ble_eq_true rfl, Nat.le_of_ble_eq_true rfl⟩) (fun H locs hP hD hS => ?_)
  refine lv_aload_n hx hb dX9_readText_4 rfl (lv_at hl 0 rfl) ?_
  refine lv_iconst (v := (0 : Int32)) hx hb dX9_readText_5 (by decide) ?_
  refine va_put (D := my_D Γ) (ci := 7) (v := .int (0 : Int32)) (ty := .int) (C := RX9) (T := TX9) (N := 19) hx hb hts hinX9 tyX9 tyX9_ok nmX9 hown hK hP hD hS 0 rfl rfl 17 (by decide) (hts (.fieldLink RX9 176 "BeltFloorModel" "skipped" "I") (List.mem_of_getElem? (i := 1) rfl)) (fun _ h9 => h9) rfl (by decide +kernel) rfl rfl (Nat.le_of_ble_eq_true rfl) dX9_readText_6 (fun H locs hP hD hS => ?_)
  replace hP : va_P (my_D Γ) vwCl (wRead Γ q_mo q_tt q_s q_nw q_tr q_ot q_di q_kp q_ik q_wy q_ah q_tg q_ws q_fr q_rw (upd mi 17 (0 : Int32)) vtt vs_1) H := hP
  replace hD : va_D A (wRead Γ q_mo q_tt q_s q_nw q_tr q_ot q_di q_kp q_ik q_wy q_ah q_tg q_ws q_fr q_rw (upd mi 17 (0 : Int32)) vtt vs_1) := hD
  refine lv_aload_n hx hb dX9_readText_9 rfl (lv_at hl 0 rfl) ?_
  refine lv_iconst (v := (0 : Int32)) hx hb dX9_readText_10 (by decide) ?_
  refine va_put (D := my_D Γ) (ci := 7) (v := .int (0 : Int32)) (ty := .int) (C := RX9) (T := TX9) (N := 19) hx hb hts hinX9 tyX9 tyX9_ok nmX9 hown hK hP hD hS 0 rfl rfl 16 (by decide) (hts (.fieldLink RX9 163 "BeltFloorModel" "spot" "I") (List.mem_of_getElem? (i := 2) rfl)) (fun _ h9 => h9) rfl (by decide +kernel) rfl rfl (Nat.le_of_ble_eq_true rfl) dX9_readText_11 (fun H locs hP hD hS => ?_)
  replace hP : va_P (my_D Γ) vwCl (wRead Γ q_mo q_tt q_s q_nw q_tr q_ot q_di q_kp q_ik q_wy q_ah q_tg q_ws q_fr q_rw (upd (upd mi 17 (0 : Int32)) 16 (0 : Int32)) vtt vs_1) H := hP
  replace hD : va_D A (wRead Γ q_mo q_tt q_s q_nw q_tr q_ot q_di q_kp q_ik q_wy q_ah q_tg q_ws q_fr q_rw (upd (upd mi 17 (0 : Int32)) 16 (0 : Int32)) vtt vs_1) := hD
  refine lv_aload_n hx hb dX9_readText_14 rfl (lv_at hl 0 rfl) ?_
  refine va_get (D := my_D Γ) (ci := 7) (v := .int (mi 2)) (C := RX9) (T := TX9) (N := 19) hx hb hts hinX9 hown hK hP 0 rfl rfl 2 (by decide) (hts (.fieldLink RX9 153 "BeltFloorModel" "size" "I") (List.mem_of_getElem? (i := 3) rfl)) (fun _ h9 => h9) rfl dX9_readText_15 ?_
  refine lv_if_eq (tgt := 32) hx hb dX9_readText_18 (by decide) (fun c_3 => ?_) (fun c_3 => ?_)
  · replace hm := if_s hm c_3
    refine lv_iconst (v := (0 : Int32)) hx hb dX9_readText_32 (by decide) ?_
    obtain ⟨hf0, hf1, hf2⟩ := si3 hm
    subst hf0
    subst hf1
    subst hf2
    exact W.iret (v := (0 : Int32)) hx hb hr (fun t ht hW => ⟨⟨rfl, by rw [ht]; exact hP⟩, hS.F ht⟩) hS.2.2 dX9_readText_33
  · replace hm := if_f hm c_3
    refine lv_aload_n hx hb dX9_readText_21 rfl (lv_at hl 0 rfl) ?_
    refine va_get (D := my_D Γ) (ci := 7) (v := .ref q_tt) (C := RX9) (T := TX9) (N := 19) hx hb hts hinX9 hown hK hP 0 rfl rfl 1 (by decide) (hts (.fieldLink RX9 7 "BeltFloorModel" "text" "[I") (List.mem_of_getElem? (i := 4) rfl)) (fun _ h9 => h9) rfl dX9_readText_22 ?_
    refine lv_iconst (v := (0 : Int32)) hx hb dX9_readText_25 (by decide) ?_
    refine va_iald hx hb hK hP 1 0 rfl rfl (show vp_in (0 : Int32) 120 from (by decide : ¬ ((0 : Int32) < 0 ∨ 120 ≤ (0 : Int32).toNatClampNeg))) dX9_readText_26 ?_
    refine lv_bipush (v := (70 : Int32)) hx hb dX9_readText_27 (by decide) ?_
    refine lv_icmp_eq (tgt := 34) hx hb dX9_readText_29 (by decide) (fun c_4 => ?_) (fun c_4 => ?_)
    · replace hm := if_s hm c_4
      refine lv_aload_n hx hb dX9_readText_34 rfl (lv_at hl 0 rfl) ?_
      refine lv_iconst (v := (1 : Int32)) hx hb dX9_readText_35 (by decide) ?_
      refine va_put (D := my_D Γ) (ci := 7) (v := .int (1 : Int32)) (ty := .int) (C := RX9) (T := TX9) (N := 19) hx hb hts hinX9 tyX9 tyX9_ok nmX9 hown hK hP hD hS 0 rfl rfl 16 (by decide) (hts (.fieldLink RX9 163 "BeltFloorModel" "spot" "I") (List.mem_of_getElem? (i := 2) rfl)) (fun _ h9 => h9) rfl (by decide +kernel) rfl rfl (Nat.le_of_ble_eq_true rfl) dX9_readText_36 (fun H locs hP hD hS => ?_)
      replace hP : va_P (my_D Γ) vwCl (wRead Γ q_mo q_tt q_s q_nw q_tr q_ot q_di q_kp q_ik q_wy q_ah q_tg q_ws q_fr q_rw (upd (upd (upd mi 17 (0 : Int32)) 16 (0 : Int32)) 16 (1 : Int32)) vtt vs_1) H := hP
      replace hD : va_D A (wRead Γ q_mo q_tt q_s q_nw q_tr q_ot q_di q_kp q_ik q_wy q_ah q_tg q_ws q_fr q_rw (upd (upd (upd mi 17 (0 : Int32)) 16 (0 : Int32)) 16 (1 : Int32)) vtt vs_1) := hD
      refine lv_aload_n hx hb dX9_readText_39 rfl (lv_at hl 0 rfl) ?_
      refine lv_aload_n hx hb dX9_readText_40 rfl (lv_at hl 1 rfl) ?_
      obtain ⟨r_5, mi_6, vs_7, hc_8, hm⟩ := bo3_s hm
      refine my_callP1 (wc := (wRead Γ q_mo q_tt q_s q_nw q_tr q_ot q_di q_kp q_ik q_wy q_ah q_tg q_ws q_fr q_rw (upd (upd (upd mi 17 (0 : Int32)) 16 (0 : Int32)) 16 (1 : Int32)) vtt vs_1)) (w1 := (wRead Γ q_mo q_tt q_s q_nw q_tr q_ot q_di q_kp q_ik q_wy q_ah q_tg q_ws q_fr q_rw mi_6 vtt vs_7)) (ws1 := (wRead Γ q_mo q_tt q_s q_nw q_tr q_ot q_di q_kp q_ik q_wy q_ah q_tg q_ws q_fr q_rw mi_6 vtt vs_7)) hP hD hS hA [0, 1, 2] rfl rfl rfl (va_runV (As := [.ref q_s]) (rest := []) ⟨hx, hb, hml, hown, hts⟩ (kX9_readKinds l Γ q_mo q_tt q_s q_nw q_tr q_ot q_di q_kp q_ik q_wy q_ah q_tg q_ws q_fr q_rw (upd (upd (upd mi 17 (0 : Int32)) 16 (0 : Int32)) 16 (1 : Int32)) vtt vs_1 r_5 mi_6 vs_7 hc_8 _) (cwV 1 hts gX9_readText_X9_readKinds rfl rfl rfl (by decide +kernel) ⟨Nat.le_of_ble_eq_true rfl, Nat.le_of_ble_eq_true rfl⟩) (my_preV (wc := (wRead Γ q_mo q_tt q_s q_nw q_tr q_ot q_di q_kp q_ik q_wy q_ah q_tg q_ws q_fr q_rw (upd (upd (upd mi 17 (0 : Int32)) 16 (0 : Int32)) 16 (1 : Int32)) vtt vs_1)) (ci := 7) (q0 := 0) [0, 1, 2] hK hP hD rfl rfl rfl rfl) rfl rfl hl.1 rfl (lv_room (Nat.le_of_ble_eq_true rfl)) dX9_readText_41 ⟨Nat.le_of_ble_eq_true rfl, Nat.le_of_ble_eq_true rfl⟩) (fun H locs hP hD hS => ?_)
      refine lv_if_ne (tgt := 52) hx hb dX9_readText_44 (by decide) (fun c_9 => ?_) (fun c_9 => ?_)
      · replace hm := if_f hm c_9
        exact J_52 4096 mi_6 vtt vs_7 _ _ _ hP hD hS (lv_sub hl [0, 1] rfl) hm
      · replace hm := if_s hm c_9
        refine lv_aload_n hx hb dX9_readText_47 rfl (lv_at hl 0 rfl) ?_
        refine va_get (D := my_D Γ) (ci := 7) (v := .int (mi_6 16)) (C := RX9) (T := TX9) (N := 19) hx hb hts hinX9 hown hK hP 0 rfl rfl 16 (by decide) (hts (.fieldLink RX9 163 "BeltFloorModel" "spot" "I") (List.mem_of_getElem? (i := 2) rfl)) (fun _ h9 => h9) rfl dX9_readText_48 ?_
        obtain ⟨hf0, hf1, hf2⟩ := si3 hm
        subst hf0
        subst hf1
        subst hf2
        exact W.iret (v := (mi_6 16)) hx hb hr (fun t ht hW => ⟨⟨rfl, by rw [ht]; exact hP⟩, hS.F ht⟩) hS.2.2 dX9_readText_51
    · replace hm := if_f hm c_4
      refine lv_iconst (v := (0 : Int32)) hx hb dX9_readText_32 (by decide) ?_
      obtain ⟨hf0, hf1, hf2⟩ := si3 hm
      subst hf0
      subst hf1
      subst hf2
      exact W.iret (v := (0 : Int32)) hx hb hr (fun t ht hW => ⟨⟨rfl, by rw [ht]; exact hP⟩, hS.F ht⟩) hS.2.2 dX9_readText_33
