def mX9_in (x0 : Int64) (x1 : Int64) (x2 : Int64) : Int32 := (if (lg_cmp x0 x1) < 0 then (0 : Int32) else (if 0 < (lg_cmp x0 x2) then (0 : Int32) else (1 : Int32)))
theorem nbX9_in (x0 : Int64) (x1 : Int64) (x2 : Int64) : narrow .boolean (.int (mX9_in x0 x1 x2)) = .int (mX9_in x0 x1 x2) := by
  unfold mX9_in
  repeat' split
  all_goals rfl
set_option maxHeartbeats 4000000 in
set_option maxRecDepth 100000 in
theorem kX9_in (l : Launch) (Γ : my_G)   (x0 : Int64) (x1 : Int64) (x2 : Int64) (rr : Int32) (hm : mX9_in x0 x1 x2 = rr) : Mn l yX9_in wsX9_in ({ frames := 0, cells := 0, slots := 0, locals := 0 } : Room) Γ [.long x0, .long x1, .long x2] ([] : va_W) (some (.int rr)) ([] : va_W) := by
  intro sz
  refine Met.ofW (cc := cX9_in) (maxL := 6) (ret := (some .boolean)) (by decide) rfl ?_
  intro p e s m args below meth c s₁ B hml hv
  obtain ⟨rfl, hsz, hP, hK, hD0⟩ := hv
  have hx := B.exec
  have hb := B.bytes
  have hr := B.returns
  have hts := atoms_spec (ws := wsX9_in) B.pre
  have hown : s.vm.findClass RX9 = some m.cls := findClass_of_methodNamed B.named
  have hlocks := B.notSynchronized
  subst hsz
  have hD := hD0.self (sz := s.heap.size)
  have hA : ∀ q : Nat, s.heap.size ≤ q → va_A ([] : va_W) s.heap.size q := fun q h => Or.inr h
  generalize va_A ([] : va_W) s.heap.size = A at hD hA ⊢
  have hS : va_S A s.heap s.heap [] := va_S.rf
  have hl := lv_entry ([.long x0, .long x1, .long x2]) (n := 6) (Nat.le_of_ble_eq_true rfl)
  rw [lg_entry_eq]
  generalize (lg_sl ([.long x0, .long x1, .long x2]) ++ List.replicate (6 - (lg_sl ([.long x0, .long x1, .long x2])).length) Slot.unset).toArray = ls at hl ⊢
  replace hl : lv_has ls 6 [(0, .long x0), (2, .long x1), (4, .long x2)] := hl
  unfold mX9_in at hm
  refine lv_lload_n hx hb dX9_in_0 rfl (lv_at hl 0 rfl) ?_
  refine lv_lload_n hx hb dX9_in_1 rfl (lv_at hl 1 rfl) ?_
  refine W.lcmp hx hb dX9_in_2 ?_
  refine lv_if_lt (tgt := 17) hx hb dX9_in_3 (by decide) (fun c_1 => ?_) (fun c_1 => ?_)
  · replace hm := if_s hm c_1
    refine lv_iconst (v := (0 : Int32)) hx hb dX9_in_17 (by decide) ?_
    have hf0 := hm
    subst hf0
    exact W.zret (v := (0 : Int32)) hx hb hr rfl (fun t ht hW => ⟨⟨rfl, by rw [ht]; exact hP⟩, hS.F ht⟩) hS.2.2 dX9_in_18
  · replace hm := if_f hm c_1
    refine lv_lload_n hx hb dX9_in_6 rfl (lv_at hl 0 rfl) ?_
    refine lv_lload hx hb dX9_in_7 (lv_at hl 2 rfl) ?_
    refine W.lcmp hx hb dX9_in_9 ?_
    refine lv_if_gt (tgt := 17) hx hb dX9_in_10 (by decide) (fun c_2 => ?_) (fun c_2 => ?_)
    · replace hm := if_s hm c_2
      refine lv_iconst (v := (0 : Int32)) hx hb dX9_in_17 (by decide) ?_
      have hf0 := hm
      subst hf0
      exact W.zret (v := (0 : Int32)) hx hb hr rfl (fun t ht hW => ⟨⟨rfl, by rw [ht]; exact hP⟩, hS.F ht⟩) hS.2.2 dX9_in_18
    · replace hm := if_f hm c_2
      refine lv_iconst (v := (1 : Int32)) hx hb dX9_in_13 (by decide) ?_
      refine lv_goto (tgt := 18) hx hb dX9_in_14 (by decide) ?_
      have hf0 := hm
      subst hf0
      exact W.zret (v := (1 : Int32)) hx hb hr rfl (fun t ht hW => ⟨⟨rfl, by rw [ht]; exact hP⟩, hS.F ht⟩) hS.2.2 dX9_in_18
def mX9_isCell (x0 : Int32) : Int32 := (mX9_in (x0.toInt64) (0 : Int64) (35 : Int64))
theorem nbX9_isCell (x0 : Int32) : narrow .boolean (.int (mX9_isCell x0)) = .int (mX9_isCell x0) := by
  unfold mX9_isCell
  repeat' split
  all_goals first | rfl | apply nbX9_in
set_option maxHeartbeats 4000000 in
set_option maxRecDepth 100000 in
theorem kX9_isCell (l : Launch) (Γ : my_G)   (x0 : Int32) (rr : Int32) (hm : mX9_isCell x0 = rr) : Mn l yX9_isCell wsX9_isCell ({ frames := 1, cells := 0, slots := 0, locals := 25 } : Room) Γ [.int x0] ([] : va_W) (some (.int rr)) ([] : va_W) := by
  intro sz
  refine Met.ofW (cc := cX9_isCell) (maxL := 1) (ret := (some .boolean)) (by decide) rfl ?_
  intro p e s m args below meth c s₁ B hml hv
  obtain ⟨rfl, hsz, hP, hK, hD0⟩ := hv
  have hx := B.exec
  have hb := B.bytes
  have hr := B.returns
  have hts := atoms_spec (ws := wsX9_isCell) B.pre
  have hown : s.vm.findClass RX9 = some m.cls := findClass_of_methodNamed B.named
  have hlocks := B.notSynchronized
  subst hsz
  have hD := hD0.self (sz := s.heap.size)
  have hA : ∀ q : Nat, s.heap.size ≤ q → va_A ([] : va_W) s.heap.size q := fun q h => Or.inr h
  generalize va_A ([] : va_W) s.heap.size = A at hD hA ⊢
  have hS : va_S A s.heap s.heap [] := va_S.rf
  have hl := lv_entry ([.int x0]) (n := 1) (Nat.le_of_ble_eq_true rfl)
  rw [lg_entry_eq]
  generalize (lg_sl ([.int x0]) ++ List.replicate (1 - (lg_sl ([.int x0])).length) Slot.unset).toArray = ls at hl ⊢
  replace hl : lv_has ls 1 [(0, .int x0)] := hl
  unfold mX9_isCell at hm
  refine lv_iload_n hx hb dX9_isCell_0 rfl (lv_at hl 0 rfl) ?_
  refine lv_i2l (v := x0.toInt64) hx hb dX9_isCell_1 rfl ?_
  refine lv_lconst (v := (0 : Int64)) hx hb dX9_isCell_2 (by decide) ?_
  refine lv_ldc2 (v := (35 : Int64)) hx hb hown (hts (.constantLong RX9 58 (35)) (List.mem_of_getElem? (i := 1) rfl)) dX9_isCell_3 ?_
  refine my_callP1 (wc := ([] : va_W)) (w1 := ([] : va_W)) (ws1 := ([] : va_W)) hP hD hS hA [] rfl rfl rfl (va_runS (As := [.long (x0.toInt64), .long (0 : Int64), .long (35 : Int64)]) (rest := []) ⟨hx, hb, hml, hown, hts⟩ (kX9_in l Γ (x0.toInt64) (0 : Int64) (35 : Int64) (mX9_in (x0.toInt64) (0 : Int64) (35 : Int64)) rfl _) (va_cwS 3 hts gX9_isCell_X9_in rfl rfl rfl (by decide +kernel) ⟨Nat.le_of_ble_eq_true rfl, Nat.le_of_ble_eq_true rfl⟩) (my_preS (wc := ([] : va_W)) [] hK hP hD rfl rfl) rfl rfl hl.1 rfl (lv_room (Nat.le_of_ble_eq_true rfl)) dX9_isCell_6 ⟨Nat.le_of_ble_eq_true rfl, Nat.le_of_ble_eq_true rfl⟩) (fun H locs hP hD hS => ?_)
  have hf0 := hm
  subst hf0
  exact W.zret (v := (mX9_in (x0.toInt64) (0 : Int64) (35 : Int64))) hx hb hr (nbX9_in (x0.toInt64) (0 : Int64) (35 : Int64)) (fun t ht hW => ⟨⟨rfl, by rw [ht]; exact hP⟩, hS.F ht⟩) hS.2.2 dX9_isCell_9
def mX9_isRobot (x0 : Int32) : Int32 := (mX9_in (x0.toInt64) (0 : Int64) (1 : Int64))
theorem nbX9_isRobot (x0 : Int32) : narrow .boolean (.int (mX9_isRobot x0)) = .int (mX9_isRobot x0) := by
  unfold mX9_isRobot
  repeat' split
  all_goals first | rfl | apply nbX9_in
set_option maxHeartbeats 4000000 in
set_option maxRecDepth 100000 in
theorem kX9_isRobot (l : Launch) (Γ : my_G)   (x0 : Int32) (rr : Int32) (hm : mX9_isRobot x0 = rr) : Mn l yX9_isRobot wsX9_isRobot ({ frames := 1, cells := 0, slots := 0, locals := 25 } : Room) Γ [.int x0] ([] : va_W) (some (.int rr)) ([] : va_W) := by
  intro sz
  refine Met.ofW (cc := cX9_isRobot) (maxL := 1) (ret := (some .boolean)) (by decide) rfl ?_
  intro p e s m args below meth c s₁ B hml hv
  obtain ⟨rfl, hsz, hP, hK, hD0⟩ := hv
  have hx := B.exec
  have hb := B.bytes
  have hr := B.returns
  have hts := atoms_spec (ws := wsX9_isRobot) B.pre
  have hown : s.vm.findClass RX9 = some m.cls := findClass_of_methodNamed B.named
  have hlocks := B.notSynchronized
  subst hsz
  have hD := hD0.self (sz := s.heap.size)
  have hA : ∀ q : Nat, s.heap.size ≤ q → va_A ([] : va_W) s.heap.size q := fun q h => Or.inr h
  generalize va_A ([] : va_W) s.heap.size = A at hD hA ⊢
  have hS : va_S A s.heap s.heap [] := va_S.rf
  have hl := lv_entry ([.int x0]) (n := 1) (Nat.le_of_ble_eq_true rfl)
  rw [lg_entry_eq]
  generalize (lg_sl ([.int x0]) ++ List.replicate (1 - (lg_sl ([.int x0])).length) Slot.unset).toArray = ls at hl ⊢
  replace hl : lv_has ls 1 [(0, .int x0)] := hl
  unfold mX9_isRobot at hm
  refine lv_iload_n hx hb dX9_isRobot_0 rfl (lv_at hl 0 rfl) ?_
  refine lv_i2l (v := x0.toInt64) hx hb dX9_isRobot_1 rfl ?_
  refine lv_lconst (v := (0 : Int64)) hx hb dX9_isRobot_2 (by decide) ?_
  refine lv_lconst (v := (1 : Int64)) hx hb dX9_isRobot_3 (by decide) ?_
  refine my_callP1 (wc := ([] : va_W)) (w1 := ([] : va_W)) (ws1 := ([] : va_W)) hP hD hS hA [] rfl rfl rfl (va_runS (As := [.long (x0.toInt64), .long (0 : Int64), .long (1 : Int64)]) (rest := []) ⟨hx, hb, hml, hown, hts⟩ (kX9_in l Γ (x0.toInt64) (0 : Int64) (1 : Int64) (mX9_in (x0.toInt64) (0 : Int64) (1 : Int64)) rfl _) (va_cwS 3 hts gX9_isRobot_X9_in rfl rfl rfl (by decide +kernel) ⟨Nat.le_of_ble_eq_true rfl, Nat.le_of_ble_eq_true rfl⟩) (my_preS (wc := ([] : va_W)) [] hK hP hD rfl rfl) rfl rfl hl.1 rfl (lv_room (Nat.le_of_ble_eq_true rfl)) dX9_isRobot_4 ⟨Nat.le_of_ble_eq_true rfl, Nat.le_of_ble_eq_true rfl⟩) (fun H locs hP hD hS => ?_)
  have hf0 := hm
  subst hf0
  exact W.zret (v := (mX9_in (x0.toInt64) (0 : Int64) (1 : Int64))) hx hb hr (nbX9_in (x0.toInt64) (0 : Int64) (1 : Int64)) (fun t ht hW => ⟨⟨rfl, by rw [ht]; exact hP⟩, hS.F ht⟩) hS.2.2 dX9_isRobot_7
def mX9_next_J47   (l2 : Int32) (s0 : Int32) (s1 : Int32) : Int32 := (if (mX9_in (l2.toInt64) (0 : Int64) (5 : Int64)) = 0 then (-1 : Int32) else (if (mX9_in ((s0 + s1).toInt64) (0 : Int64) (5 : Int64)) = 0 then (-1 : Int32) else (((6 : Int32) * l2) + (s0 + s1))))
def mX9_next_J22   (l0 : Int32) (l1 : Int32) (s0 : Int32) (s1 : Int32) : Int32 := (if l1 = (3 : Int32) then (mX9_next_J47 (s0 + s1) (jrem l0 (6 : Int32)) (-1 : Int32)) else (if l1 = (1 : Int32) then (mX9_next_J47 (s0 + s1) (jrem l0 (6 : Int32)) (1 : Int32)) else (mX9_next_J47 (s0 + s1) (jrem l0 (6 : Int32)) (0 : Int32))))
def mX9_next (x0 : Int32) (x1 : Int32) : Int32 := (if x1 = 0 then (mX9_next_J22 x0 x1 (x0 / (6 : Int32)) (-1 : Int32)) else (if x1 = (2 : Int32) then (mX9_next_J22 x0 x1 (x0 / (6 : Int32)) (1 : Int32)) else (mX9_next_J22 x0 x1 (x0 / (6 : Int32)) (0 : Int32))))
set_option maxHeartbeats 4000000 in
set_option maxRecDepth 100000 in
theorem kX9_next (l : Launch) (Γ : my_G)   (x0 : Int32) (x1 : Int32) (rr : Int32) (hm : mX9_next x0 x1 = rr) : Mn l yX9_next wsX9_next ({ frames := 1, cells := 0, slots := 0, locals := 25 } : Room) Γ [.int x0, .int x1] ([] : va_W) (some (.int rr)) ([] : va_W) := by
  intro sz
  refine Met.ofW (cc := cX9_next) (maxL := 4) (ret := (some .int)) (by decide) rfl ?_
  intro p e s m args below meth c s₁ B hml hv
  obtain ⟨rfl, hsz, hP, hK, hD0⟩ := hv
  have hx := B.exec
  have hb := B.bytes
  have hr := B.returns
  have hts := atoms_spec (ws := wsX9_next) B.pre
  have hown : s.vm.findClass RX9 = some m.cls := findClass_of_methodNamed B.named
  have hlocks := B.notSynchronized
  subst hsz
  have hD := hD0.self (sz := s.heap.size)
  have hA : ∀ q : Nat, s.heap.size ≤ q → va_A ([] : va_W) s.heap.size q := fun q h => Or.inr h
  generalize va_A ([] : va_W) s.heap.size = A at hD hA ⊢
  have hS : va_S A s.heap s.heap [] := va_S.rf
  have hl := lv_entry ([.int x0, .int x1]) (n := 4) (Nat.le_of_ble_eq_true rfl)
  rw [lg_entry_eq]
  generalize (lg_sl ([.int x0, .int x1]) ++ List.replicate (4 - (lg_sl ([.int x0, .int x1])).length) Slot.unset).toArray = ls at hl ⊢
  replace hl : lv_has ls 4 [(0, .int x0), (1, .int x1)] := hl
  have J_47 : ∀  (l2 : Int32) (s0 : Int32) (s1 : Int32) (H : Heap) (locs : List Loc) (ls : Array Slot), va_P (my_D Γ) vwCl ([] : va_W) H → va_D A ([] : va_W) → va_S A s.heap H locs → lv_has ls 4 [(2, .int l2)] → mX9_next_J47 l2 s0 s1 = rr → W p l e (headSpec wsX9_next ({ frames := 1, cells := 0, slots := 0, locals := 25 } : Room)).room s m ([.int x0, .int x1] : List Value).toArray below meth c H locs 0 0 (MQ below (my_Q Γ A (some (.int rr)) ([] : va_W)) ([.int x0, .int x1] : List Value).toArray s 0 0 A) (F0 m 47 ls [.int s1, .int s0]) := by
    intro  l2 s0 s1 H locs ls hP hD hS hl hm
    unfold mX9_next_J47 at hm
    refine lv_iadd hx hb dX9_next_47 ?_
    refine lv_istore_n (lv' := [(3, .int (s0 + s1)), (2, .int l2)]) hx hb dX9_next_48 rfl hl (by decide) rfl (fun ls hl => ?_)
    refine lv_iload_n hx hb dX9_next_49 rfl (lv_at hl 1 rfl) ?_
    refine lv_i2l (v := l2.toInt64) hx hb dX9_next_50 rfl ?_
    refine lv_lconst (v := (0 : Int64)) hx hb dX9_next_51 (by decide) ?_
    refine lv_ldc2 (v := (5 : Int64)) hx hb hown (hts (.constantLong RX9 72 (5)) (List.mem_of_getElem? (i := 1) rfl)) dX9_next_52 ?_
    refine my_callP1 (wc := ([] : va_W)) (w1 := ([] : va_W)) (ws1 := ([] : va_W)) hP hD hS hA [] rfl rfl rfl (va_runS (As := [.long (l2.toInt64), .long (0 : Int64), .long (5 : Int64)]) (rest := []) ⟨hx, hb, hml, hown, hts⟩ (kX9_in l Γ (l2.toInt64) (0 : Int64) (5 : Int64) (mX9_in (l2.toInt64) (0 : Int64) (5 : Int64)) rfl _) (va_cwS 3 hts gX9_next_X9_in rfl rfl rfl (by decide +kernel) ⟨Nat.le_of_ble_eq_true rfl, Nat.le_of_ble_eq_true rfl⟩) (my_preS (wc := ([] : va_W)) [] hK hP hD rfl rfl) rfl rfl hl.1 rfl (lv_room (Nat.le_of_ble_eq_true rfl)) dX9_next_55 ⟨Nat.le_of_ble_eq_true rfl, Nat.le_of_ble_eq_true rfl⟩) (fun H locs hP hD hS => ?_)
    refine lv_if_eq (tgt := 82) hx hb dX9_next_58 (by decide) (fun c_5 => ?_) (fun c_5 => ?_)
    · replace hm := if_s hm c_5
      refine lv_iconst (v := (-1 : Int32)) hx hb dX9_next_82 (by decide) ?_
      have hf0 := hm
      subst hf0
      exact W.iret (v := (-1 : Int32)) hx hb hr (fun t ht hW => ⟨⟨rfl, by rw [ht]; exact hP⟩, hS.F ht⟩) hS.2.2 dX9_next_83
    · replace hm := if_f hm c_5
      refine lv_iload_n hx hb dX9_next_61 rfl (lv_at hl 0 rfl) ?_
      refine lv_i2l (v := (s0 + s1).toInt64) hx hb dX9_next_62 rfl ?_
      refine lv_lconst (v := (0 : Int64)) hx hb dX9_next_63 (by decide) ?_
      refine lv_ldc2 (v := (5 : Int64)) hx hb hown (hts (.constantLong RX9 72 (5)) (List.mem_of_getElem? (i := 1) rfl)) dX9_next_64 ?_
      refine my_callP1 (wc := ([] : va_W)) (w1 := ([] : va_W)) (ws1 := ([] : va_W)) hP hD hS hA [] rfl rfl rfl (va_runS (As := [.long ((s0 + s1).toInt64), .long (0 : Int64), .long (5 : Int64)]) (rest := []) ⟨hx, hb, hml, hown, hts⟩ (kX9_in l Γ ((s0 + s1).toInt64) (0 : Int64) (5 : Int64) (mX9_in ((s0 + s1).toInt64) (0 : Int64) (5 : Int64)) rfl _) (va_cwS 3 hts gX9_next_X9_in rfl rfl rfl (by decide +kernel) ⟨Nat.le_of_ble_eq_true rfl, Nat.le_of_ble_eq_true rfl⟩) (my_preS (wc := ([] : va_W)) [] hK hP hD rfl rfl) rfl rfl hl.1 rfl (lv_room (Nat.le_of_ble_eq_true rfl)) dX9_next_67 ⟨Nat.le_of_ble_eq_true rfl, Nat.le_of_ble_eq_true rfl⟩) (fun H locs hP hD hS => ?_)
      refine lv_if_eq (tgt := 82) hx hb dX9_next_70 (by decide) (fun c_6 => ?_) (fun c_6 => ?_)
      · replace hm := if_s hm c_6
        refine lv_iconst (v := (-1 : Int32)) hx hb dX9_next_82 (by decide) ?_
        have hf0 := hm
        subst hf0
        exact W.iret (v := (-1 : Int32)) hx hb hr (fun t ht hW => ⟨⟨rfl, by rw [ht]; exact hP⟩, hS.F ht⟩) hS.2.2 dX9_next_83
      · replace hm := if_f hm c_6
        refine lv_bipush (v := (6 : Int32)) hx hb dX9_next_73 (by decide) ?_
        refine lv_iload_n hx hb dX9_next_75 rfl (lv_at hl 1 rfl) ?_
        refine lv_imul hx hb dX9_next_76 ?_
        refine lv_iload_n hx hb dX9_next_77 rfl (lv_at hl 0 rfl) ?_
        refine lv_iadd hx hb dX9_next_78 ?_
        refine lv_goto (tgt := 83) hx hb dX9_next_79 (by decide) ?_
        have hf0 := hm
        subst hf0
        exact W.iret (v := (((6 : Int32) * l2) + (s0 + s1))) hx hb hr (fun t ht hW => ⟨⟨rfl, by rw [ht]; exact hP⟩, hS.F ht⟩) hS.2.2 dX9_next_83
  have J_22 : ∀  (l0 : Int32) (l1 : Int32) (s0 : Int32) (s1 : Int32) (H : Heap) (locs : List Loc) (ls : Array Slot), va_P (my_D Γ) vwCl ([] : va_W) H → va_D A ([] : va_W) → va_S A s.heap H locs → lv_has ls 4 [(0, .int l0), (1, .int l1)] → mX9_next_J22 l0 l1 s0 s1 = rr → W p l e (headSpec wsX9_next ({ frames := 1, cells := 0, slots := 0, locals := 25 } : Room)).room s m ([.int x0, .int x1] : List Value).toArray below meth c H locs 0 0 (MQ below (my_Q Γ A (some (.int rr)) ([] : va_W)) ([.int x0, .int x1] : List Value).toArray s 0 0 A) (F0 m 22 ls [.int s1, .int s0]) := by
    intro  l0 l1 s0 s1 H locs ls hP hD hS hl hm
    unfold mX9_next_J22 at hm
    refine lv_iadd hx hb dX9_next_22 ?_
    refine lv_istore_n (lv' := [(2, .int (s0 + s1)), (0, .int l0), (1, .int l1)]) hx hb dX9_next_23 rfl hl (by decide) rfl (fun ls hl => ?_)
    refine lv_iload_n hx hb dX9_next_24 rfl (lv_at hl 1 rfl) ?_
    refine lv_bipush (v := (6 : Int32)) hx hb dX9_next_25 (by decide) ?_
    refine my_irem hx hb dX9_next_27 (by decide) ?_
    refine lv_iload_n hx hb dX9_next_28 rfl (lv_at hl 2 rfl) ?_
    refine lv_iconst (v := (3 : Int32)) hx hb dX9_next_29 (by decide) ?_
    refine lv_icmp_ne (tgt := 37) hx hb dX9_next_30 (by decide) (fun c_3 => ?_) (fun c_3 => ?_)
    · replace hm := if_f hm c_3
      refine lv_iload_n hx hb dX9_next_37 rfl (lv_at hl 2 rfl) ?_
      refine lv_iconst (v := (1 : Int32)) hx hb dX9_next_38 (by decide) ?_
      refine lv_icmp_ne (tgt := 46) hx hb dX9_next_39 (by decide) (fun c_4 => ?_) (fun c_4 => ?_)
      · replace hm := if_f hm c_4
        refine lv_iconst (v := (0 : Int32)) hx hb dX9_next_46 (by decide) ?_
        exact J_47 (s0 + s1) (jrem l0 (6 : Int32)) (0 : Int32) _ _ _ hP hD hS (lv_sub hl [0] rfl) hm
      · replace hm := if_s hm c_4
        refine lv_iconst (v := (1 : Int32)) hx hb dX9_next_42 (by decide) ?_
        refine lv_goto (tgt := 47) hx hb dX9_next_43 (by decide) ?_
        exact J_47 (s0 + s1) (jrem l0 (6 : Int32)) (1 : Int32) _ _ _ hP hD hS (lv_sub hl [0] rfl) hm
    · replace hm := if_s hm c_3
      refine lv_iconst (v := (-1 : Int32)) hx hb dX9_next_33 (by decide) ?_
      refine lv_goto (tgt := 47) hx hb dX9_next_34 (by decide) ?_
      exact J_47 (s0 + s1) (jrem l0 (6 : Int32)) (-1 : Int32) _ _ _ hP hD hS (lv_sub hl [0] rfl) hm
  unfold mX9_next at hm
  refine lv_iload_n hx hb dX9_next_0 rfl (lv_at hl 0 rfl) ?_
  refine lv_bipush (v := (6 : Int32)) hx hb dX9_next_1 (by decide) ?_
  refine lv_idiv hx hb dX9_next_3 (by decide) ?_
  refine lv_iload_n hx hb dX9_next_4 rfl (lv_at hl 1 rfl) ?_
  refine lv_if_ne (tgt := 12) hx hb dX9_next_5 (by decide) (fun c_1 => ?_) (fun c_1 => ?_)
  · replace hm := if_f hm c_1
    refine lv_iload_n hx hb dX9_next_12 rfl (lv_at hl 1 rfl) ?_
    refine lv_iconst (v := (2 : Int32)) hx hb dX9_next_13 (by decide) ?_
    refine lv_icmp_ne (tgt := 21) hx hb dX9_next_14 (by decide) (fun c_2 => ?_) (fun c_2 => ?_)
    · replace hm := if_f hm c_2
      refine lv_iconst (v := (0 : Int32)) hx hb dX9_next_21 (by decide) ?_
      exact J_22 x0 x1 (x0 / (6 : Int32)) (0 : Int32) _ _ _ hP hD hS (lv_sub hl [0, 1] rfl) hm
    · replace hm := if_s hm c_2
      refine lv_iconst (v := (1 : Int32)) hx hb dX9_next_17 (by decide) ?_
      refine lv_goto (tgt := 22) hx hb dX9_next_18 (by decide) ?_
      exact J_22 x0 x1 (x0 / (6 : Int32)) (1 : Int32) _ _ _ hP hD hS (lv_sub hl [0, 1] rfl) hm
  · replace hm := if_s hm c_1
    refine lv_iconst (v := (-1 : Int32)) hx hb dX9_next_8 (by decide) ?_
    refine lv_goto (tgt := 22) hx hb dX9_next_9 (by decide) ?_
    exact J_22 x0 x1 (x0 / (6 : Int32)) (-1 : Int32) _ _ _ hP hD hS (lv_sub hl [0, 1] rfl) hm
def mX9_isOnWay_L6  : Nat → Int32 → Int32 → Int32 → Int32 → Int32 → Option (Int32)
  | 0, _, _, _, _, _ => none
  | n + 1, l1, l2, l3, l4, l5 => (if (l2 + (1 : Int32)) ≤ l5 then (if l4 = l3 then (some (1 : Int32)) else (some (0 : Int32))) else (if l4 = l3 then (some (1 : Int32)) else (mX9_isOnWay_L6 n l1 l2 l3 (mX9_next l4 l1) (l5 + (1 : Int32)))))
def mX9_isOnWay (x0 : Int32) (x1 : Int32) (x2 : Int32) (x3 : Int32) : Option (Int32) := (mX9_isOnWay_L6 4096 x1 x2 x3 x0 (0 : Int32))
set_option maxHeartbeats 4000000 in
set_option maxRecDepth 100000 in
theorem kX9_isOnWay (l : Launch) (Γ : my_G)   (x0 : Int32) (x1 : Int32) (x2 : Int32) (x3 : Int32) (rr : Int32) (hm : mX9_isOnWay x0 x1 x2 x3 = (some rr)) : Mn l yX9_isOnWay wsX9_isOnWay ({ frames := 2, cells := 0, slots := 0, locals := 48 } : Room) Γ [.int x0, .int x1, .int x2, .int x3] ([] : va_W) (some (.int rr)) ([] : va_W) := by
  intro sz
  refine Met.ofW (cc := cX9_isOnWay) (maxL := 6) (ret := (some .boolean)) (by decide) rfl ?_
  intro p e s m args below meth c s₁ B hml hv
  obtain ⟨rfl, hsz, hP, hK, hD0⟩ := hv
  have hx := B.exec
  have hb := B.bytes
  have hr := B.returns
  have hts := atoms_spec (ws := wsX9_isOnWay) B.pre
  have hown : s.vm.findClass RX9 = some m.cls := findClass_of_methodNamed B.named
  have hlocks := B.notSynchronized
  subst hsz
  have hD := hD0.self (sz := s.heap.size)
  have hA : ∀ q : Nat, s.heap.size ≤ q → va_A ([] : va_W) s.heap.size q := fun q h => Or.inr h
  generalize va_A ([] : va_W) s.heap.size = A at hD hA ⊢
  have hS : va_S A s.heap s.heap [] := va_S.rf
  have hl := lv_entry ([.int x0, .int x1, .int x2, .int x3]) (n := 6) (Nat.le_of_ble_eq_true rfl)
  rw [lg_entry_eq]
  generalize (lg_sl ([.int x0, .int x1, .int x2, .int x3]) ++ List.replicate (6 - (lg_sl ([.int x0, .int x1, .int x2, .int x3])).length) Slot.unset).toArray = ls at hl ⊢
  replace hl : lv_has ls 6 [(0, .int x0), (1, .int x1), (2, .int x2), (3, .int x3)] := hl
  have J_6 : ∀ n : Nat, ∀  (l1 : Int32) (l2 : Int32) (l3 : Int32) (l4 : Int32) (l5 : Int32) (H : Heap) (locs : List Loc) (ls : Array Slot), va_P (my_D Γ) vwCl ([] : va_W) H → va_D A ([] : va_W) → va_S A s.heap H locs → lv_has ls 6 [(1, .int l1), (2, .int l2), (3, .int l3), (4, .int l4), (5, .int l5)] → mX9_isOnWay_L6 n l1 l2 l3 l4 l5 = (some rr) → W p l e (headSpec wsX9_isOnWay ({ frames := 2, cells := 0, slots := 0, locals := 48 } : Room)).room s m ([.int x0, .int x1, .int x2, .int x3] : List Value).toArray below meth c H locs 0 0 (MQ below (my_Q Γ A (some (.int rr)) ([] : va_W)) ([.int x0, .int x1, .int x2, .int x3] : List Value).toArray s 0 0 A) (F0 m 6 ls []) := by
    intro  n
    induction n with
    | zero => intro l1 l2 l3 l4 l5 H locs ls hP hD hS hl hm; cases hm
    | succ n ih =>
      intro l1 l2 l3 l4 l5 H locs ls hP hD hS hl hm
      unfold mX9_isOnWay_L6 at hm
      refine lv_iload hx hb dX9_isOnWay_6 (lv_at hl 4 rfl) ?_
      refine lv_iload_n hx hb dX9_isOnWay_8 rfl (lv_at hl 1 rfl) ?_
      refine lv_iconst (v := (1 : Int32)) hx hb dX9_isOnWay_9 (by decide) ?_
      refine lv_iadd hx hb dX9_isOnWay_10 ?_
      refine lv_icmp_ge (tgt := 36) hx hb dX9_isOnWay_11 (by decide) (fun c_1 => ?_) (fun c_1 => ?_)
      · replace hm := if_s hm c_1
        refine lv_iload hx hb dX9_isOnWay_36 (lv_at hl 3 rfl) ?_
        refine lv_iload_n hx hb dX9_isOnWay_38 rfl (lv_at hl 2 rfl) ?_
        refine lv_icmp_ne (tgt := 46) hx hb dX9_isOnWay_39 (by decide) (fun c_2 => ?_) (fun c_2 => ?_)
        · replace hm := if_f hm c_2
          refine lv_iconst (v := (0 : Int32)) hx hb dX9_isOnWay_46 (by decide) ?_
          obtain hf0 := Option.some.inj hm
          subst hf0
          exact W.zret (v := (0 : Int32)) hx hb hr rfl (fun t ht hW => ⟨⟨rfl, by rw [ht]; exact hP⟩, hS.F ht⟩) hS.2.2 dX9_isOnWay_47
        · replace hm := if_s hm c_2
          refine lv_iconst (v := (1 : Int32)) hx hb dX9_isOnWay_42 (by decide) ?_
          refine lv_goto (tgt := 47) hx hb dX9_isOnWay_43 (by decide) ?_
          obtain hf0 := Option.some.inj hm
          subst hf0
          exact W.zret (v := (1 : Int32)) hx hb hr rfl (fun t ht hW => ⟨⟨rfl, by rw [ht]; exact hP⟩, hS.F ht⟩) hS.2.2 dX9_isOnWay_47
      · replace hm := if_f hm c_1
        refine lv_iload hx hb dX9_isOnWay_14 (lv_at hl 3 rfl) ?_
        refine lv_iload_n hx hb dX9_isOnWay_16 rfl (lv_at hl 2 rfl) ?_
        refine lv_icmp_ne (tgt := 22) hx hb dX9_isOnWay_17 (by decide) (fun c_3 => ?_) (fun c_3 => ?_)
        · replace hm := if_f hm c_3
          refine lv_iload hx hb dX9_isOnWay_22 (lv_at hl 3 rfl) ?_
          refine lv_iload_n hx hb dX9_isOnWay_24 rfl (lv_at hl 0 rfl) ?_
          refine my_callP1 (wc := ([] : va_W)) (w1 := ([] : va_W)) (ws1 := ([] : va_W)) hP hD hS hA [] rfl rfl rfl (va_runS (As := [.int l4, .int l1]) (rest := []) ⟨hx, hb, hml, hown, hts⟩ (kX9_next l Γ l4 l1 (mX9_next l4 l1) rfl _) (va_cwS 2 hts gX9_isOnWay_X9_next rfl rfl rfl (by decide +kernel) ⟨Nat.le_of_ble_eq_true rfl, Nat.le_of_ble_eq_true rfl⟩) (my_preS (wc := ([] : va_W)) [] hK hP hD rfl rfl) rfl rfl hl.1 rfl (lv_room (Nat.le_of_ble_eq_true rfl)) dX9_isOnWay_25 ⟨Nat.le_of_ble_eq_true rfl, Nat.le_of_ble_eq_true rfl⟩) (fun H locs hP hD hS => ?_)
          refine lv_istore (lv' := [(4, .int (mX9_next l4 l1)), (1, .int l1), (2, .int l2), (3, .int l3), (5, .int l5)]) hx hb dX9_isOnWay_28 hl (by decide) rfl (fun ls hl => ?_)
          refine lv_iinc (v := (l5 + (1 : Int32))) (lv' := [(5, .int (l5 + (1 : Int32))), (4, .int (mX9_next l4 l1)), (1, .int l1), (2, .int l2), (3, .int l3)]) hx hb dX9_isOnWay_30 hl (k := 4) rfl rfl (by decide) rfl (fun ls hl => ?_)
          refine lv_goto (tgt := 6) hx hb dX9_isOnWay_33 (by decide) ?_
          exact ih l1 l2 l3 (mX9_next l4 l1) (l5 + (1 : Int32)) _ _ _ hP hD hS (lv_sub hl [2, 3, 4, 1, 0] rfl) hm
        · replace hm := if_s hm c_3
          refine lv_iconst (v := (1 : Int32)) hx hb dX9_isOnWay_20 (by decide) ?_
          obtain hf0 := Option.some.inj hm
          subst hf0
          exact W.zret (v := (1 : Int32)) hx hb hr rfl (fun t ht hW => ⟨⟨rfl, by rw [ht]; exact hP⟩, hS.F ht⟩) hS.2.2 dX9_isOnWay_21
  unfold mX9_isOnWay at hm
  refine lv_iload_n hx hb dX9_isOnWay_0 rfl (lv_at hl 0 rfl) ?_
  refine lv_istore (lv' := [(4, .int x0), (0, .int x0), (1, .int x1), (2, .int x2), (3, .int x3)]) hx hb dX9_isOnWay_1 hl (by decide) rfl (fun ls hl => ?_)
  refine lv_iconst (v := (0 : Int32)) hx hb dX9_isOnWay_3 (by decide) ?_
  refine lv_istore (lv' := [(5, .int (0 : Int32)), (4, .int x0), (0, .int x0), (1, .int x1), (2, .int x2), (3, .int x3)]) hx hb dX9_isOnWay_4 hl (by decide) rfl (fun ls hl => ?_)
  exact J_6 4096 x1 x2 x3 x0 (0 : Int32) _ _ _ hP hD hS (lv_sub hl [3, 4, 5, 1, 0] rfl) hm
def mX9_kindOfSign (x0 : Int32) : Int32 := (if x0 = (35 : Int32) then (1 : Int32) else (if x0 = (46 : Int32) then (0 : Int32) else (if x0 = (101 : Int32) then (4 : Int32) else (if x0 = (110 : Int32) then (3 : Int32) else (if x0 = (111 : Int32) then (2 : Int32) else (if x0 = (115 : Int32) then (5 : Int32) else (if x0 = (119 : Int32) then (6 : Int32) else (-1 : Int32))))))))
set_option maxHeartbeats 4000000 in
set_option maxRecDepth 100000 in
theorem kX9_kindOfSign (l : Launch) (Γ : my_G)   (x0 : Int32) (rr : Int32) (hm : mX9_kindOfSign x0 = rr) : Mn l yX9_kindOfSign wsX9_kindOfSign ({ frames := 0, cells := 0, slots := 0, locals := 0 } : Room) Γ [.int x0] ([] : va_W) (some (.int rr)) ([] : va_W) := by
  intro sz
  refine Met.ofW (cc := cX9_kindOfSign) (maxL := 1) (ret := (some .int)) (by decide) rfl ?_
  intro p e s m args below meth c s₁ B hml hv
  obtain ⟨rfl, hsz, hP, hK, hD0⟩ := hv
  have hx := B.exec
  have hb := B.bytes
  have hr := B.returns
  have hts := atoms_spec (ws := wsX9_kindOfSign) B.pre
  have hown : s.vm.findClass RX9 = some m.cls := findClass_of_methodNamed B.named
  have hlocks := B.notSynchronized
  subst hsz
  have hD := hD0.self (sz := s.heap.size)
  have hA : ∀ q : Nat, s.heap.size ≤ q → va_A ([] : va_W) s.heap.size q := fun q h => Or.inr h
  generalize va_A ([] : va_W) s.heap.size = A at hD hA ⊢
  have hS : va_S A s.heap s.heap [] := va_S.rf
  have hl := lv_entry ([.int x0]) (n := 1) (Nat.le_of_ble_eq_true rfl)
  rw [lg_entry_eq]
  generalize (lg_sl ([.int x0]) ++ List.replicate (1 - (lg_sl ([.int x0])).length) Slot.unset).toArray = ls at hl ⊢
  replace hl : lv_has ls 1 [(0, .int x0)] := hl
  unfold mX9_kindOfSign at hm
  refine lv_iload_n hx hb dX9_kindOfSign_0 rfl (lv_at hl 0 rfl) ?_
  by_cases c_1 : x0 = (35 : Int32)
  · replace hm := if_s hm c_1
    refine lv_lookup (off := 69) (tgt := 70) hx hb dX9_kindOfSign_1 (by decide) (by rw [c_1]; rfl) (by decide) ?_
    refine lv_iconst (v := (1 : Int32)) hx hb dX9_kindOfSign_70 (by decide) ?_
    have hf0 := hm
    subst hf0
    exact W.iret (v := (1 : Int32)) hx hb hr (fun t ht hW => ⟨⟨rfl, by rw [ht]; exact hP⟩, hS.F ht⟩) hS.2.2 dX9_kindOfSign_71
  · replace hm := if_f hm c_1
    by_cases c_2 : x0 = (46 : Int32)
    · replace hm := if_s hm c_2
      refine lv_lookup (off := 67) (tgt := 68) hx hb dX9_kindOfSign_1 (by decide) (by rw [c_2]; rfl) (by decide) ?_
      refine lv_iconst (v := (0 : Int32)) hx hb dX9_kindOfSign_68 (by decide) ?_
      have hf0 := hm
      subst hf0
      exact W.iret (v := (0 : Int32)) hx hb hr (fun t ht hW => ⟨⟨rfl, by rw [ht]; exact hP⟩, hS.F ht⟩) hS.2.2 dX9_kindOfSign_69
    · replace hm := if_f hm c_2
      by_cases c_3 : x0 = (101 : Int32)
      · replace hm := if_s hm c_3
        refine lv_lookup (off := 75) (tgt := 76) hx hb dX9_kindOfSign_1 (by decide) (by rw [c_3]; rfl) (by decide) ?_
        refine lv_iconst (v := (4 : Int32)) hx hb dX9_kindOfSign_76 (by decide) ?_
        have hf0 := hm
        subst hf0
        exact W.iret (v := (4 : Int32)) hx hb hr (fun t ht hW => ⟨⟨rfl, by rw [ht]; exact hP⟩, hS.F ht⟩) hS.2.2 dX9_kindOfSign_77
      · replace hm := if_f hm c_3
        by_cases c_4 : x0 = (110 : Int32)
        · replace hm := if_s hm c_4
          refine lv_lookup (off := 73) (tgt := 74) hx hb dX9_kindOfSign_1 (by decide) (by rw [c_4]; rfl) (by decide) ?_
          refine lv_iconst (v := (3 : Int32)) hx hb dX9_kindOfSign_74 (by decide) ?_
          have hf0 := hm
          subst hf0
          exact W.iret (v := (3 : Int32)) hx hb hr (fun t ht hW => ⟨⟨rfl, by rw [ht]; exact hP⟩, hS.F ht⟩) hS.2.2 dX9_kindOfSign_75
        · replace hm := if_f hm c_4
          by_cases c_5 : x0 = (111 : Int32)
          · replace hm := if_s hm c_5
            refine lv_lookup (off := 71) (tgt := 72) hx hb dX9_kindOfSign_1 (by decide) (by rw [c_5]; rfl) (by decide) ?_
            refine lv_iconst (v := (2 : Int32)) hx hb dX9_kindOfSign_72 (by decide) ?_
            have hf0 := hm
            subst hf0
            exact W.iret (v := (2 : Int32)) hx hb hr (fun t ht hW => ⟨⟨rfl, by rw [ht]; exact hP⟩, hS.F ht⟩) hS.2.2 dX9_kindOfSign_73
          · replace hm := if_f hm c_5
            by_cases c_6 : x0 = (115 : Int32)
            · replace hm := if_s hm c_6
              refine lv_lookup (off := 77) (tgt := 78) hx hb dX9_kindOfSign_1 (by decide) (by rw [c_6]; rfl) (by decide) ?_
              refine lv_iconst (v := (5 : Int32)) hx hb dX9_kindOfSign_78 (by decide) ?_
              have hf0 := hm
              subst hf0
              exact W.iret (v := (5 : Int32)) hx hb hr (fun t ht hW => ⟨⟨rfl, by rw [ht]; exact hP⟩, hS.F ht⟩) hS.2.2 dX9_kindOfSign_79
            · replace hm := if_f hm c_6
              by_cases c_7 : x0 = (119 : Int32)
              · replace hm := if_s hm c_7
                refine lv_lookup (off := 79) (tgt := 80) hx hb dX9_kindOfSign_1 (by decide) (by rw [c_7]; rfl) (by decide) ?_
                refine lv_bipush (v := (6 : Int32)) hx hb dX9_kindOfSign_80 (by decide) ?_
                have hf0 := hm
                subst hf0
                exact W.iret (v := (6 : Int32)) hx hb hr (fun t ht hW => ⟨⟨rfl, by rw [ht]; exact hP⟩, hS.F ht⟩) hS.2.2 dX9_kindOfSign_82
              · replace hm := if_f hm c_7
                refine lv_lookup (off := 82) (tgt := 83) hx hb dX9_kindOfSign_1 (by decide) ((lv_osw c_1 rfl).trans ((lv_osw c_2 rfl).trans ((lv_osw c_3 rfl).trans ((lv_osw c_4 rfl).trans ((lv_osw c_5 rfl).trans ((lv_osw c_6 rfl).trans ((lv_osw c_7 rfl).trans rfl))))))) (by decide) ?_
                refine lv_iconst (v := (-1 : Int32)) hx hb dX9_kindOfSign_83 (by decide) ?_
                have hf0 := hm
                subst hf0
                exact W.iret (v := (-1 : Int32)) hx hb hr (fun t ht hW => ⟨⟨rfl, by rw [ht]; exact hP⟩, hS.F ht⟩) hS.2.2 dX9_kindOfSign_84
def mX9_copyState_117_117_L3  : Nat → (Nat → Int32) → (Nat → Int32) → Int32 → Int32 → Int32 → Option ((Nat → Int32))
  | 0, _, _, _, _, _ => none
  | n + 1, vs, vt, l1, l3, l4 => (if (117 : Int32) ≤ l4 then (some vt) else (if ¬ ((l1 + l4) < 0 ∨ 117 ≤ (l1 + l4).toNatClampNeg) then (if ¬ ((l3 + l4) < 0 ∨ 117 ≤ (l3 + l4).toNatClampNeg) then (mX9_copyState_117_117_L3 n vs (upd vt (l3 + l4).toNatClampNeg (vs (l1 + l4).toNatClampNeg)) l1 l3 (l4 + (1 : Int32))) else none) else none))
def mX9_copyState_117_117 (vs : Nat → Int32) (vt : Nat → Int32) (x1 : Int32) (x3 : Int32) : Option ((Nat → Int32)) := (mX9_copyState_117_117_L3 4096 vs vt x1 x3 (0 : Int32))
set_option maxHeartbeats 4000000 in
set_option maxRecDepth 100000 in
theorem kX9_copyState_117_117 (l : Launch) (Γ : my_G) (q_s q_t : Nat) (vs : Nat → Int32) (vt : Nat → Int32) (x1 : Int32) (x3 : Int32) (vt_z : Nat → Int32) (hm : mX9_copyState_117_117 vs vt x1 x3 = (some vt_z)) : Mn l yX9_copyState wsX9_copyState ({ frames := 0, cells := 0, slots := 0, locals := 0 } : Room) Γ [.ref q_s, .int x1, .ref q_t, .int x3] (wArr117 Γ q_s vs ++ wArr117 Γ q_t vt) none (wArr117 Γ q_s vs ++ wArr117 Γ q_t vt_z) := by
  intro sz
  refine Met.ofW (cc := cX9_copyState) (maxL := 5) (ret := none) (by decide) rfl ?_
  intro p e s m args below meth c s₁ B hml hv
  obtain ⟨rfl, hsz, hP, hK, hD0⟩ := hv
  have hx := B.exec
  have hb := B.bytes
  have hr := B.returns
  have hts := atoms_spec (ws := wsX9_copyState) B.pre
  have hown : s.vm.findClass RX9 = some m.cls := findClass_of_methodNamed B.named
  have hlocks := B.notSynchronized
  subst hsz
  have hD := hD0.self (sz := s.heap.size)
  have hA : ∀ q : Nat, s.heap.size ≤ q → va_A (wArr117 Γ q_s vs ++ wArr117 Γ q_t vt) s.heap.size q := fun q h => Or.inr h
  generalize va_A (wArr117 Γ q_s vs ++ wArr117 Γ q_t vt) s.heap.size = A at hD hA ⊢
  have hS : va_S A s.heap s.heap [] := va_S.rf
  have hl := lv_entry ([.ref q_s, .int x1, .ref q_t, .int x3]) (n := 5) (Nat.le_of_ble_eq_true rfl)
  rw [lg_entry_eq]
  generalize (lg_sl ([.ref q_s, .int x1, .ref q_t, .int x3]) ++ List.replicate (5 - (lg_sl ([.ref q_s, .int x1, .ref q_t, .int x3])).length) Slot.unset).toArray = ls at hl ⊢
  replace hl : lv_has ls 5 [(0, .ref q_s), (1, .int x1), (2, .ref q_t), (3, .int x3)] := hl
  have J_3 : ∀ n : Nat, ∀ (vs : Nat → Int32) (vt : Nat → Int32) (l1 : Int32) (l3 : Int32) (l4 : Int32) (H : Heap) (locs : List Loc) (ls : Array Slot), va_P (my_D Γ) vwCl (wArr117 Γ q_s vs ++ wArr117 Γ q_t vt) H → va_D A (wArr117 Γ q_s vs ++ wArr117 Γ q_t vt) → va_S A s.heap H locs → lv_has ls 5 [(0, .ref q_s), (1, .int l1), (2, .ref q_t), (3, .int l3), (4, .int l4)] → mX9_copyState_117_117_L3 n vs vt l1 l3 l4 = (some vt_z) → W p l e (headSpec wsX9_copyState ({ frames := 0, cells := 0, slots := 0, locals := 0 } : Room)).room s m ([.ref q_s, .int x1, .ref q_t, .int x3] : List Value).toArray below meth c H locs 0 0 (MQ below (my_Q Γ A none (wArr117 Γ q_s vs ++ wArr117 Γ q_t vt_z)) ([.ref q_s, .int x1, .ref q_t, .int x3] : List Value).toArray s 0 0 A) (F0 m 3 ls []) := by
    intro  n
    induction n with
    | zero => intro vs vt l1 l3 l4 H locs ls hP hD hS hl hm; cases hm
    | succ n ih =>
      intro vs vt l1 l3 l4 H locs ls hP hD hS hl hm
      unfold mX9_copyState_117_117_L3 at hm
      refine lv_iload hx hb dX9_copyState_3 (lv_at hl 4 rfl) ?_
      refine lv_bipush (v := (117 : Int32)) hx hb dX9_copyState_5 (by decide) ?_
      refine lv_icmp_ge (tgt := 28) hx hb dX9_copyState_7 (by decide) (fun c_1 => ?_) (fun c_1 => ?_)
      · replace hm := if_s hm c_1
        obtain hf0 := Option.some.inj hm
        subst hf0
        exact W.vret hx hb hr (fun t ht hW => ⟨⟨rfl, by rw [ht]; exact hP⟩, hS.F ht⟩) hS.2.2 dX9_copyState_28
      · replace hm := if_f hm c_1
        refine lv_aload_n hx hb dX9_copyState_10 rfl (lv_at hl 2 rfl) ?_
        refine lv_iload_n hx hb dX9_copyState_11 rfl (lv_at hl 3 rfl) ?_
        refine lv_iload hx hb dX9_copyState_12 (lv_at hl 4 rfl) ?_
        refine lv_iadd hx hb dX9_copyState_14 ?_
        refine lv_aload_n hx hb dX9_copyState_15 rfl (lv_at hl 0 rfl) ?_
        refine lv_iload_n hx hb dX9_copyState_16 rfl (lv_at hl 1 rfl) ?_
        refine lv_iload hx hb dX9_copyState_17 (lv_at hl 4 rfl) ?_
        refine lv_iadd hx hb dX9_copyState_19 ?_
        obtain ⟨hi_2, hm⟩ := if_in hm
        refine va_iald hx hb hK hP 0 0 rfl rfl hi_2 dX9_copyState_20 ?_
        obtain ⟨hi_3, hm⟩ := if_in hm
        refine lv_topi (fun y_4 ey_4 => ?_)
        refine va_iast hx hb hK hP hD hS 1 0 rfl rfl hi_3 dX9_copyState_21 (fun H locs hP hD hS => ?_)
        replace hP : va_P (my_D Γ) vwCl (wArr117 Γ q_s vs ++ wArr117 Γ q_t (upd vt (l3 + l4).toNatClampNeg y_4)) H := hP
        replace hD : va_D A (wArr117 Γ q_s vs ++ wArr117 Γ q_t (upd vt (l3 + l4).toNatClampNeg y_4)) := hD
        subst ey_4
        refine lv_iinc (v := (l4 + (1 : Int32))) (lv' := [(4, .int (l4 + (1 : Int32))), (0, .ref q_s), (1, .int l1), (2, .ref q_t), (3, .int l3)]) hx hb dX9_copyState_22 hl (k := 4) rfl rfl (by decide) rfl (fun ls hl => ?_)
        refine lv_goto (tgt := 3) hx hb dX9_copyState_25 (by decide) ?_
        exact ih vs (upd vt (l3 + l4).toNatClampNeg (vs (l1 + l4).toNatClampNeg)) l1 l3 (l4 + (1 : Int32)) _ _ _ hP hD hS (lv_sub hl [1, 2, 3, 4, 0] rfl) hm
  unfold mX9_copyState_117_117 at hm
  refine lv_iconst (v := (0 : Int32)) hx hb dX9_copyState_0 (by decide) ?_
  refine lv_istore (lv' := [(4, .int (0 : Int32)), (0, .ref q_s), (1, .int x1), (2, .ref q_t), (3, .int x3)]) hx hb dX9_copyState_1 hl (by decide) rfl (fun ls hl => ?_)
  exact J_3 4096 vs vt x1 x3 (0 : Int32) _ _ _ hP hD hS (lv_sub hl [1, 2, 3, 4, 0] rfl) hm
def mX9_copyState_117_1638_L3  : Nat → (Nat → Int32) → (Nat → Int32) → Int32 → Int32 → Int32 → Option ((Nat → Int32))
  | 0, _, _, _, _, _ => none
  | n + 1, vs, vt, l1, l3, l4 => (if (117 : Int32) ≤ l4 then (some vt) else (if ¬ ((l1 + l4) < 0 ∨ 117 ≤ (l1 + l4).toNatClampNeg) then (if ¬ ((l3 + l4) < 0 ∨ 1638 ≤ (l3 + l4).toNatClampNeg) then (mX9_copyState_117_1638_L3 n vs (upd vt (l3 + l4).toNatClampNeg (vs (l1 + l4).toNatClampNeg)) l1 l3 (l4 + (1 : Int32))) else none) else none))
def mX9_copyState_117_1638 (vs : Nat → Int32) (vt : Nat → Int32) (x1 : Int32) (x3 : Int32) : Option ((Nat → Int32)) := (mX9_copyState_117_1638_L3 4096 vs vt x1 x3 (0 : Int32))
set_option maxHeartbeats 4000000 in
set_option maxRecDepth 100000 in
theorem kX9_copyState_117_1638 (l : Launch) (Γ : my_G) (q_s q_t : Nat) (vs : Nat → Int32) (vt : Nat → Int32) (x1 : Int32) (x3 : Int32) (vt_z : Nat → Int32) (hm : mX9_copyState_117_1638 vs vt x1 x3 = (some vt_z)) : Mn l yX9_copyState wsX9_copyState ({ frames := 0, cells := 0, slots := 0, locals := 0 } : Room) Γ [.ref q_s, .int x1, .ref q_t, .int x3] (wArr117 Γ q_s vs ++ wArr1638 Γ q_t vt) none (wArr117 Γ q_s vs ++ wArr1638 Γ q_t vt_z) := by
  intro sz
  refine Met.ofW (cc := cX9_copyState) (maxL := 5) (ret := none) (by decide) rfl ?_
  intro p e s m args below meth c s₁ B hml hv
  obtain ⟨rfl, hsz, hP, hK, hD0⟩ := hv
  have hx := B.exec
  have hb := B.bytes
  have hr := B.returns
  have hts := atoms_spec (ws := wsX9_copyState) B.pre
  have hown : s.vm.findClass RX9 = some m.cls := findClass_of_methodNamed B.named
  have hlocks := B.notSynchronized
  subst hsz
  have hD := hD0.self (sz := s.heap.size)
  have hA : ∀ q : Nat, s.heap.size ≤ q → va_A (wArr117 Γ q_s vs ++ wArr1638 Γ q_t vt) s.heap.size q := fun q h => Or.inr h
  generalize va_A (wArr117 Γ q_s vs ++ wArr1638 Γ q_t vt) s.heap.size = A at hD hA ⊢
  have hS : va_S A s.heap s.heap [] := va_S.rf
  have hl := lv_entry ([.ref q_s, .int x1, .ref q_t, .int x3]) (n := 5) (Nat.le_of_ble_eq_true rfl)
  rw [lg_entry_eq]
  generalize (lg_sl ([.ref q_s, .int x1, .ref q_t, .int x3]) ++ List.replicate (5 - (lg_sl ([.ref q_s, .int x1, .ref q_t, .int x3])).length) Slot.unset).toArray = ls at hl ⊢
  replace hl : lv_has ls 5 [(0, .ref q_s), (1, .int x1), (2, .ref q_t), (3, .int x3)] := hl
  have J_3 : ∀ n : Nat, ∀ (vs : Nat → Int32) (vt : Nat → Int32) (l1 : Int32) (l3 : Int32) (l4 : Int32) (H : Heap) (locs : List Loc) (ls : Array Slot), va_P (my_D Γ) vwCl (wArr117 Γ q_s vs ++ wArr1638 Γ q_t vt) H → va_D A (wArr117 Γ q_s vs ++ wArr1638 Γ q_t vt) → va_S A s.heap H locs → lv_has ls 5 [(0, .ref q_s), (1, .int l1), (2, .ref q_t), (3, .int l3), (4, .int l4)] → mX9_copyState_117_1638_L3 n vs vt l1 l3 l4 = (some vt_z) → W p l e (headSpec wsX9_copyState ({ frames := 0, cells := 0, slots := 0, locals := 0 } : Room)).room s m ([.ref q_s, .int x1, .ref q_t, .int x3] : List Value).toArray below meth c H locs 0 0 (MQ below (my_Q Γ A none (wArr117 Γ q_s vs ++ wArr1638 Γ q_t vt_z)) ([.ref q_s, .int x1, .ref q_t, .int x3] : List Value).toArray s 0 0 A) (F0 m 3 ls []) := by
    intro  n
    induction n with
    | zero => intro vs vt l1 l3 l4 H locs ls hP hD hS hl hm; cases hm
    | succ n ih =>
      intro vs vt l1 l3 l4 H locs ls hP hD hS hl hm
      unfold mX9_copyState_117_1638_L3 at hm
      refine lv_iload hx hb dX9_copyState_3 (lv_at hl 4 rfl) ?_
      refine lv_bipush (v := (117 : Int32)) hx hb dX9_copyState_5 (by decide) ?_
      refine lv_icmp_ge (tgt := 28) hx hb dX9_copyState_7 (by decide) (fun c_1 => ?_) (fun c_1 => ?_)
      · replace hm := if_s hm c_1
        obtain hf0 := Option.some.inj hm
        subst hf0
        exact W.vret hx hb hr (fun t ht hW => ⟨⟨rfl, by rw [ht]; exact hP⟩, hS.F ht⟩) hS.2.2 dX9_copyState_28
      · replace hm := if_f hm c_1
        refine lv_aload_n hx hb dX9_copyState_10 rfl (lv_at hl 2 rfl) ?_
        refine lv_iload_n hx hb dX9_copyState_11 rfl (lv_at hl 3 rfl) ?_
        refine lv_iload hx hb dX9_copyState_12 (lv_at hl 4 rfl) ?_
        refine lv_iadd hx hb dX9_copyState_14 ?_
        refine lv_aload_n hx hb dX9_copyState_15 rfl (lv_at hl 0 rfl) ?_
        refine lv_iload_n hx hb dX9_copyState_16 rfl (lv_at hl 1 rfl) ?_
        refine lv_iload hx hb dX9_copyState_17 (lv_at hl 4 rfl) ?_
        refine lv_iadd hx hb dX9_copyState_19 ?_
        obtain ⟨hi_2, hm⟩ := if_in hm
        refine va_iald hx hb hK hP 0 0 rfl rfl hi_2 dX9_copyState_20 ?_
        obtain ⟨hi_3, hm⟩ := if_in hm
        refine lv_topi (fun y_4 ey_4 => ?_)
        refine va_iast hx hb hK hP hD hS 1 0 rfl rfl hi_3 dX9_copyState_21 (fun H locs hP hD hS => ?_)
        replace hP : va_P (my_D Γ) vwCl (wArr117 Γ q_s vs ++ wArr1638 Γ q_t (upd vt (l3 + l4).toNatClampNeg y_4)) H := hP
        replace hD : va_D A (wArr117 Γ q_s vs ++ wArr1638 Γ q_t (upd vt (l3 + l4).toNatClampNeg y_4)) := hD
        subst ey_4
        refine lv_iinc (v := (l4 + (1 : Int32))) (lv' := [(4, .int (l4 + (1 : Int32))), (0, .ref q_s), (1, .int l1), (2, .ref q_t), (3, .int l3)]) hx hb dX9_copyState_22 hl (k := 4) rfl rfl (by decide) rfl (fun ls hl => ?_)
        refine lv_goto (tgt := 3) hx hb dX9_copyState_25 (by decide) ?_
        exact ih vs (upd vt (l3 + l4).toNatClampNeg (vs (l1 + l4).toNatClampNeg)) l1 l3 (l4 + (1 : Int32)) _ _ _ hP hD hS (lv_sub hl [1, 2, 3, 4, 0] rfl) hm
  unfold mX9_copyState_117_1638 at hm
  refine lv_iconst (v := (0 : Int32)) hx hb dX9_copyState_0 (by decide) ?_
  refine lv_istore (lv' := [(4, .int (0 : Int32)), (0, .ref q_s), (1, .int x1), (2, .ref q_t), (3, .int x3)]) hx hb dX9_copyState_1 hl (by decide) rfl (fun ls hl => ?_)
  exact J_3 4096 vs vt x1 x3 (0 : Int32) _ _ _ hP hD hS (lv_sub hl [1, 2, 3, 4, 0] rfl) hm
def mX9_copyState_1638_117_L3  : Nat → (Nat → Int32) → (Nat → Int32) → Int32 → Int32 → Int32 → Option ((Nat → Int32))
  | 0, _, _, _, _, _ => none
  | n + 1, vs, vt, l1, l3, l4 => (if (117 : Int32) ≤ l4 then (some vt) else (if ¬ ((l1 + l4) < 0 ∨ 1638 ≤ (l1 + l4).toNatClampNeg) then (if ¬ ((l3 + l4) < 0 ∨ 117 ≤ (l3 + l4).toNatClampNeg) then (mX9_copyState_1638_117_L3 n vs (upd vt (l3 + l4).toNatClampNeg (vs (l1 + l4).toNatClampNeg)) l1 l3 (l4 + (1 : Int32))) else none) else none))
def mX9_copyState_1638_117 (vs : Nat → Int32) (vt : Nat → Int32) (x1 : Int32) (x3 : Int32) : Option ((Nat → Int32)) := (mX9_copyState_1638_117_L3 4096 vs vt x1 x3 (0 : Int32))
set_option maxHeartbeats 4000000 in
set_option maxRecDepth 100000 in
theorem kX9_copyState_1638_117 (l : Launch) (Γ : my_G) (q_s q_t : Nat) (vs : Nat → Int32) (vt : Nat → Int32) (x1 : Int32) (x3 : Int32) (vt_z : Nat → Int32) (hm : mX9_copyState_1638_117 vs vt x1 x3 = (some vt_z)) : Mn l yX9_copyState wsX9_copyState ({ frames := 0, cells := 0, slots := 0, locals := 0 } : Room) Γ [.ref q_s, .int x1, .ref q_t, .int x3] (wArr1638 Γ q_s vs ++ wArr117 Γ q_t vt) none (wArr1638 Γ q_s vs ++ wArr117 Γ q_t vt_z) := by
  intro sz
  refine Met.ofW (cc := cX9_copyState) (maxL := 5) (ret := none) (by decide) rfl ?_
  intro p e s m args below meth c s₁ B hml hv
  obtain ⟨rfl, hsz, hP, hK, hD0⟩ := hv
  have hx := B.exec
  have hb := B.bytes
  have hr := B.returns
  have hts := atoms_spec (ws := wsX9_copyState) B.pre
  have hown : s.vm.findClass RX9 = some m.cls := findClass_of_methodNamed B.named
  have hlocks := B.notSynchronized
  subst hsz
  have hD := hD0.self (sz := s.heap.size)
  have hA : ∀ q : Nat, s.heap.size ≤ q → va_A (wArr1638 Γ q_s vs ++ wArr117 Γ q_t vt) s.heap.size q := fun q h => Or.inr h
  generalize va_A (wArr1638 Γ q_s vs ++ wArr117 Γ q_t vt) s.heap.size = A at hD hA ⊢
  have hS : va_S A s.heap s.heap [] := va_S.rf
  have hl := lv_entry ([.ref q_s, .int x1, .ref q_t, .int x3]) (n := 5) (Nat.le_of_ble_eq_true rfl)
  rw [lg_entry_eq]
  generalize (lg_sl ([.ref q_s, .int x1, .ref q_t, .int x3]) ++ List.replicate (5 - (lg_sl ([.ref q_s, .int x1, .ref q_t, .int x3])).length) Slot.unset).toArray = ls at hl ⊢
  replace hl : lv_has ls 5 [(0, .ref q_s), (1, .int x1), (2, .ref q_t), (3, .int x3)] := hl
  have J_3 : ∀ n : Nat, ∀ (vs : Nat → Int32) (vt : Nat → Int32) (l1 : Int32) (l3 : Int32) (l4 : Int32) (H : Heap) (locs : List Loc) (ls : Array Slot), va_P (my_D Γ) vwCl (wArr1638 Γ q_s vs ++ wArr117 Γ q_t vt) H → va_D A (wArr1638 Γ q_s vs ++ wArr117 Γ q_t vt) → va_S A s.heap H locs → lv_has ls 5 [(0, .ref q_s), (1, .int l1), (2, .ref q_t), (3, .int l3), (4, .int l4)] → mX9_copyState_1638_117_L3 n vs vt l1 l3 l4 = (some vt_z) → W p l e (headSpec wsX9_copyState ({ frames := 0, cells := 0, slots := 0, locals := 0 } : Room)).room s m ([.ref q_s, .int x1, .ref q_t, .int x3] : List Value).toArray below meth c H locs 0 0 (MQ below (my_Q Γ A none (wArr1638 Γ q_s vs ++ wArr117 Γ q_t vt_z)) ([.ref q_s, .int x1, .ref q_t, .int x3] : List Value).toArray s 0 0 A) (F0 m 3 ls []) := by
    intro  n
    induction n with
    | zero => intro vs vt l1 l3 l4 H locs ls hP hD hS hl hm; cases hm
    | succ n ih =>
      intro vs vt l1 l3 l4 H locs ls hP hD hS hl hm
      unfold mX9_copyState_1638_117_L3 at hm
      refine lv_iload hx hb dX9_copyState_3 (lv_at hl 4 rfl) ?_
      refine lv_bipush (v := (117 : Int32)) hx hb dX9_copyState_5 (by decide) ?_
      refine lv_icmp_ge (tgt := 28) hx hb dX9_copyState_7 (by decide) (fun c_1 => ?_) (fun c_1 => ?_)
      · replace hm := if_s hm c_1
        obtain hf0 := Option.some.inj hm
        subst hf0
        exact W.vret hx hb hr (fun t ht hW => ⟨⟨rfl, by rw [ht]; exact hP⟩, hS.F ht⟩) hS.2.2 dX9_copyState_28
      · replace hm := if_f hm c_1
        refine lv_aload_n hx hb dX9_copyState_10 rfl (lv_at hl 2 rfl) ?_
        refine lv_iload_n hx hb dX9_copyState_11 rfl (lv_at hl 3 rfl) ?_
        refine lv_iload hx hb dX9_copyState_12 (lv_at hl 4 rfl) ?_
        refine lv_iadd hx hb dX9_copyState_14 ?_
        refine lv_aload_n hx hb dX9_copyState_15 rfl (lv_at hl 0 rfl) ?_
        refine lv_iload_n hx hb dX9_copyState_16 rfl (lv_at hl 1 rfl) ?_
        refine lv_iload hx hb dX9_copyState_17 (lv_at hl 4 rfl) ?_
        refine lv_iadd hx hb dX9_copyState_19 ?_
        obtain ⟨hi_2, hm⟩ := if_in hm
        refine va_iald hx hb hK hP 0 0 rfl rfl hi_2 dX9_copyState_20 ?_
        obtain ⟨hi_3, hm⟩ := if_in hm
        refine lv_topi (fun y_4 ey_4 => ?_)
        refine va_iast hx hb hK hP hD hS 1 0 rfl rfl hi_3 dX9_copyState_21 (fun H locs hP hD hS => ?_)
        replace hP : va_P (my_D Γ) vwCl (wArr1638 Γ q_s vs ++ wArr117 Γ q_t (upd vt (l3 + l4).toNatClampNeg y_4)) H := hP
        replace hD : va_D A (wArr1638 Γ q_s vs ++ wArr117 Γ q_t (upd vt (l3 + l4).toNatClampNeg y_4)) := hD
        subst ey_4
        refine lv_iinc (v := (l4 + (1 : Int32))) (lv' := [(4, .int (l4 + (1 : Int32))), (0, .ref q_s), (1, .int l1), (2, .ref q_t), (3, .int l3)]) hx hb dX9_copyState_22 hl (k := 4) rfl rfl (by decide) rfl (fun ls hl => ?_)
        refine lv_goto (tgt := 3) hx hb dX9_copyState_25 (by decide) ?_
        exact ih vs (upd vt (l3 + l4).toNatClampNeg (vs (l1 + l4).toNatClampNeg)) l1 l3 (l4 + (1 : Int32)) _ _ _ hP hD hS (lv_sub hl [1, 2, 3, 4, 0] rfl) hm
  unfold mX9_copyState_1638_117 at hm
  refine lv_iconst (v := (0 : Int32)) hx hb dX9_copyState_0 (by decide) ?_
  refine lv_istore (lv' := [(4, .int (0 : Int32)), (0, .ref q_s), (1, .int x1), (2, .ref q_t), (3, .int x3)]) hx hb dX9_copyState_1 hl (by decide) rfl (fun ls hl => ?_)
  exact J_3 4096 vs vt x1 x3 (0 : Int32) _ _ _ hP hD hS (lv_sub hl [1, 2, 3, 4, 0] rfl) hm
def mX9_copyState_117_234_L3  : Nat → (Nat → Int32) → (Nat → Int32) → Int32 → Int32 → Int32 → Option ((Nat → Int32))
  | 0, _, _, _, _, _ => none
  | n + 1, vs, vt, l1, l3, l4 => (if (117 : Int32) ≤ l4 then (some vt) else (if ¬ ((l1 + l4) < 0 ∨ 117 ≤ (l1 + l4).toNatClampNeg) then (if ¬ ((l3 + l4) < 0 ∨ 234 ≤ (l3 + l4).toNatClampNeg) then (mX9_copyState_117_234_L3 n vs (upd vt (l3 + l4).toNatClampNeg (vs (l1 + l4).toNatClampNeg)) l1 l3 (l4 + (1 : Int32))) else none) else none))
def mX9_copyState_117_234 (vs : Nat → Int32) (vt : Nat → Int32) (x1 : Int32) (x3 : Int32) : Option ((Nat → Int32)) := (mX9_copyState_117_234_L3 4096 vs vt x1 x3 (0 : Int32))
set_option maxHeartbeats 4000000 in
set_option maxRecDepth 100000 in
theorem kX9_copyState_117_234 (l : Launch) (Γ : my_G) (q_s q_t : Nat) (vs : Nat → Int32) (vt : Nat → Int32) (x1 : Int32) (x3 : Int32) (vt_z : Nat → Int32) (hm : mX9_copyState_117_234 vs vt x1 x3 = (some vt_z)) : Mn l yX9_copyState wsX9_copyState ({ frames := 0, cells := 0, slots := 0, locals := 0 } : Room) Γ [.ref q_s, .int x1, .ref q_t, .int x3] (wArr117 Γ q_s vs ++ wArr234 Γ q_t vt) none (wArr117 Γ q_s vs ++ wArr234 Γ q_t vt_z) := by
  intro sz
  refine Met.ofW (cc := cX9_copyState) (maxL := 5) (ret := none) (by decide) rfl ?_
  intro p e s m args below meth c s₁ B hml hv
  obtain ⟨rfl, hsz, hP, hK, hD0⟩ := hv
  have hx := B.exec
  have hb := B.bytes
  have hr := B.returns
  have hts := atoms_spec (ws := wsX9_copyState) B.pre
  have hown : s.vm.findClass RX9 = some m.cls := findClass_of_methodNamed B.named
  have hlocks := B.notSynchronized
  subst hsz
  have hD := hD0.self (sz := s.heap.size)
  have hA : ∀ q : Nat, s.heap.size ≤ q → va_A (wArr117 Γ q_s vs ++ wArr234 Γ q_t vt) s.heap.size q := fun q h => Or.inr h
  generalize va_A (wArr117 Γ q_s vs ++ wArr234 Γ q_t vt) s.heap.size = A at hD hA ⊢
  have hS : va_S A s.heap s.heap [] := va_S.rf
  have hl := lv_entry ([.ref q_s, .int x1, .ref q_t, .int x3]) (n := 5) (Nat.le_of_ble_eq_true rfl)
  rw [lg_entry_eq]
  generalize (lg_sl ([.ref q_s, .int x1, .ref q_t, .int x3]) ++ List.replicate (5 - (lg_sl ([.ref q_s, .int x1, .ref q_t, .int x3])).length) Slot.unset).toArray = ls at hl ⊢
  replace hl : lv_has ls 5 [(0, .ref q_s), (1, .int x1), (2, .ref q_t), (3, .int x3)] := hl
  have J_3 : ∀ n : Nat, ∀ (vs : Nat → Int32) (vt : Nat → Int32) (l1 : Int32) (l3 : Int32) (l4 : Int32) (H : Heap) (locs : List Loc) (ls : Array Slot), va_P (my_D Γ) vwCl (wArr117 Γ q_s vs ++ wArr234 Γ q_t vt) H → va_D A (wArr117 Γ q_s vs ++ wArr234 Γ q_t vt) → va_S A s.heap H locs → lv_has ls 5 [(0, .ref q_s), (1, .int l1), (2, .ref q_t), (3, .int l3), (4, .int l4)] → mX9_copyState_117_234_L3 n vs vt l1 l3 l4 = (some vt_z) → W p l e (headSpec wsX9_copyState ({ frames := 0, cells := 0, slots := 0, locals := 0 } : Room)).room s m ([.ref q_s, .int x1, .ref q_t, .int x3] : List Value).toArray below meth c H locs 0 0 (MQ below (my_Q Γ A none (wArr117 Γ q_s vs ++ wArr234 Γ q_t vt_z)) ([.ref q_s, .int x1, .ref q_t, .int x3] : List Value).toArray s 0 0 A) (F0 m 3 ls []) := by
    intro  n
    induction n with
    | zero => intro vs vt l1 l3 l4 H locs ls hP hD hS hl hm; cases hm
    | succ n ih =>
      intro vs vt l1 l3 l4 H locs ls hP hD hS hl hm
      unfold mX9_copyState_117_234_L3 at hm
      refine lv_iload hx hb dX9_copyState_3 (lv_at hl 4 rfl) ?_
      refine lv_bipush (v := (117 : Int32)) hx hb dX9_copyState_5 (by decide) ?_
      refine lv_icmp_ge (tgt := 28) hx hb dX9_copyState_7 (by decide) (fun c_1 => ?_) (fun c_1 => ?_)
      · replace hm := if_s hm c_1
        obtain hf0 := Option.some.inj hm
        subst hf0
        exact W.vret hx hb hr (fun t ht hW => ⟨⟨rfl, by rw [ht]; exact hP⟩, hS.F ht⟩) hS.2.2 dX9_copyState_28
      · replace hm := if_f hm c_1
        refine lv_aload_n hx hb dX9_copyState_10 rfl (lv_at hl 2 rfl) ?_
        refine lv_iload_n hx hb dX9_copyState_11 rfl (lv_at hl 3 rfl) ?_
        refine lv_iload hx hb dX9_copyState_12 (lv_at hl 4 rfl) ?_
        refine lv_iadd hx hb dX9_copyState_14 ?_
        refine lv_aload_n hx hb dX9_copyState_15 rfl (lv_at hl 0 rfl) ?_
        refine lv_iload_n hx hb dX9_copyState_16 rfl (lv_at hl 1 rfl) ?_
        refine lv_iload hx hb dX9_copyState_17 (lv_at hl 4 rfl) ?_
        refine lv_iadd hx hb dX9_copyState_19 ?_
        obtain ⟨hi_2, hm⟩ := if_in hm
        refine va_iald hx hb hK hP 0 0 rfl rfl hi_2 dX9_copyState_20 ?_
        obtain ⟨hi_3, hm⟩ := if_in hm
        refine lv_topi (fun y_4 ey_4 => ?_)
        refine va_iast hx hb hK hP hD hS 1 0 rfl rfl hi_3 dX9_copyState_21 (fun H locs hP hD hS => ?_)
        replace hP : va_P (my_D Γ) vwCl (wArr117 Γ q_s vs ++ wArr234 Γ q_t (upd vt (l3 + l4).toNatClampNeg y_4)) H := hP
        replace hD : va_D A (wArr117 Γ q_s vs ++ wArr234 Γ q_t (upd vt (l3 + l4).toNatClampNeg y_4)) := hD
        subst ey_4
        refine lv_iinc (v := (l4 + (1 : Int32))) (lv' := [(4, .int (l4 + (1 : Int32))), (0, .ref q_s), (1, .int l1), (2, .ref q_t), (3, .int l3)]) hx hb dX9_copyState_22 hl (k := 4) rfl rfl (by decide) rfl (fun ls hl => ?_)
        refine lv_goto (tgt := 3) hx hb dX9_copyState_25 (by decide) ?_
        exact ih vs (upd vt (l3 + l4).toNatClampNeg (vs (l1 + l4).toNatClampNeg)) l1 l3 (l4 + (1 : Int32)) _ _ _ hP hD hS (lv_sub hl [1, 2, 3, 4, 0] rfl) hm
  unfold mX9_copyState_117_234 at hm
  refine lv_iconst (v := (0 : Int32)) hx hb dX9_copyState_0 (by decide) ?_
  refine lv_istore (lv' := [(4, .int (0 : Int32)), (0, .ref q_s), (1, .int x1), (2, .ref q_t), (3, .int x3)]) hx hb dX9_copyState_1 hl (by decide) rfl (fun ls hl => ?_)
  exact J_3 4096 vs vt x1 x3 (0 : Int32) _ _ _ hP hD hS (lv_sub hl [1, 2, 3, 4, 0] rfl) hm
def mX9_copyState_234_117_L3  : Nat → (Nat → Int32) → (Nat → Int32) → Int32 → Int32 → Int32 → Option ((Nat → Int32))
  | 0, _, _, _, _, _ => none
  | n + 1, vs, vt, l1, l3, l4 => (if (117 : Int32) ≤ l4 then (some vt) else (if ¬ ((l1 + l4) < 0 ∨ 234 ≤ (l1 + l4).toNatClampNeg) then (if ¬ ((l3 + l4) < 0 ∨ 117 ≤ (l3 + l4).toNatClampNeg) then (mX9_copyState_234_117_L3 n vs (upd vt (l3 + l4).toNatClampNeg (vs (l1 + l4).toNatClampNeg)) l1 l3 (l4 + (1 : Int32))) else none) else none))
def mX9_copyState_234_117 (vs : Nat → Int32) (vt : Nat → Int32) (x1 : Int32) (x3 : Int32) : Option ((Nat → Int32)) := (mX9_copyState_234_117_L3 4096 vs vt x1 x3 (0 : Int32))
set_option maxHeartbeats 4000000 in
set_option maxRecDepth 100000 in
theorem kX9_copyState_234_117 (l : Launch) (Γ : my_G) (q_s q_t : Nat) (vs : Nat → Int32) (vt : Nat → Int32) (x1 : Int32) (x3 : Int32) (vt_z : Nat → Int32) (hm : mX9_copyState_234_117 vs vt x1 x3 = (some vt_z)) : Mn l yX9_copyState wsX9_copyState ({ frames := 0, cells := 0, slots := 0, locals := 0 } : Room) Γ [.ref q_s, .int x1, .ref q_t, .int x3] (wArr234 Γ q_s vs ++ wArr117 Γ q_t vt) none (wArr234 Γ q_s vs ++ wArr117 Γ q_t vt_z) := by
  intro sz
  refine Met.ofW (cc := cX9_copyState) (maxL := 5) (ret := none) (by decide) rfl ?_
  intro p e s m args below meth c s₁ B hml hv
  obtain ⟨rfl, hsz, hP, hK, hD0⟩ := hv
  have hx := B.exec
  have hb := B.bytes
  have hr := B.returns
  have hts := atoms_spec (ws := wsX9_copyState) B.pre
  have hown : s.vm.findClass RX9 = some m.cls := findClass_of_methodNamed B.named
  have hlocks := B.notSynchronized
  subst hsz
  have hD := hD0.self (sz := s.heap.size)
  have hA : ∀ q : Nat, s.heap.size ≤ q → va_A (wArr234 Γ q_s vs ++ wArr117 Γ q_t vt) s.heap.size q := fun q h => Or.inr h
  generalize va_A (wArr234 Γ q_s vs ++ wArr117 Γ q_t vt) s.heap.size = A at hD hA ⊢
  have hS : va_S A s.heap s.heap [] := va_S.rf
  have hl := lv_entry ([.ref q_s, .int x1, .ref q_t, .int x3]) (n := 5) (Nat.le_of_ble_eq_true rfl)
  rw [lg_entry_eq]
  generalize (lg_sl ([.ref q_s, .int x1, .ref q_t, .int x3]) ++ List.replicate (5 - (lg_sl ([.ref q_s, .int x1, .ref q_t, .int x3])).length) Slot.unset).toArray = ls at hl ⊢
  replace hl : lv_has ls 5 [(0, .ref q_s), (1, .int x1), (2, .ref q_t), (3, .int x3)] := hl
  have J_3 : ∀ n : Nat, ∀ (vs : Nat → Int32) (vt : Nat → Int32) (l1 : Int32) (l3 : Int32) (l4 : Int32) (H : Heap) (locs : List Loc) (ls : Array Slot), va_P (my_D Γ) vwCl (wArr234 Γ q_s vs ++ wArr117 Γ q_t vt) H → va_D A (wArr234 Γ q_s vs ++ wArr117 Γ q_t vt) → va_S A s.heap H locs → lv_has ls 5 [(0, .ref q_s), (1, .int l1), (2, .ref q_t), (3, .int l3), (4, .int l4)] → mX9_copyState_234_117_L3 n vs vt l1 l3 l4 = (some vt_z) → W p l e (headSpec wsX9_copyState ({ frames := 0, cells := 0, slots := 0, locals := 0 } : Room)).room s m ([.ref q_s, .int x1, .ref q_t, .int x3] : List Value).toArray below meth c H locs 0 0 (MQ below (my_Q Γ A none (wArr234 Γ q_s vs ++ wArr117 Γ q_t vt_z)) ([.ref q_s, .int x1, .ref q_t, .int x3] : List Value).toArray s 0 0 A) (F0 m 3 ls []) := by
    intro  n
    induction n with
    | zero => intro vs vt l1 l3 l4 H locs ls hP hD hS hl hm; cases hm
    | succ n ih =>
      intro vs vt l1 l3 l4 H locs ls hP hD hS hl hm
      unfold mX9_copyState_234_117_L3 at hm
      refine lv_iload hx hb dX9_copyState_3 (lv_at hl 4 rfl) ?_
      refine lv_bipush (v := (117 : Int32)) hx hb dX9_copyState_5 (by decide) ?_
      refine lv_icmp_ge (tgt := 28) hx hb dX9_copyState_7 (by decide) (fun c_1 => ?_) (fun c_1 => ?_)
      · replace hm := if_s hm c_1
        obtain hf0 := Option.some.inj hm
        subst hf0
        exact W.vret hx hb hr (fun t ht hW => ⟨⟨rfl, by rw [ht]; exact hP⟩, hS.F ht⟩) hS.2.2 dX9_copyState_28
      · replace hm := if_f hm c_1
        refine lv_aload_n hx hb dX9_copyState_10 rfl (lv_at hl 2 rfl) ?_
        refine lv_iload_n hx hb dX9_copyState_11 rfl (lv_at hl 3 rfl) ?_
        refine lv_iload hx hb dX9_copyState_12 (lv_at hl 4 rfl) ?_
        refine lv_iadd hx hb dX9_copyState_14 ?_
        refine lv_aload_n hx hb dX9_copyState_15 rfl (lv_at hl 0 rfl) ?_
        refine lv_iload_n hx hb dX9_copyState_16 rfl (lv_at hl 1 rfl) ?_
        refine lv_iload hx hb dX9_copyState_17 (lv_at hl 4 rfl) ?_
        refine lv_iadd hx hb dX9_copyState_19 ?_
        obtain ⟨hi_2, hm⟩ := if_in hm
        refine va_iald hx hb hK hP 0 0 rfl rfl hi_2 dX9_copyState_20 ?_
        obtain ⟨hi_3, hm⟩ := if_in hm
        refine lv_topi (fun y_4 ey_4 => ?_)
        refine va_iast hx hb hK hP hD hS 1 0 rfl rfl hi_3 dX9_copyState_21 (fun H locs hP hD hS => ?_)
        replace hP : va_P (my_D Γ) vwCl (wArr234 Γ q_s vs ++ wArr117 Γ q_t (upd vt (l3 + l4).toNatClampNeg y_4)) H := hP
        replace hD : va_D A (wArr234 Γ q_s vs ++ wArr117 Γ q_t (upd vt (l3 + l4).toNatClampNeg y_4)) := hD
        subst ey_4
        refine lv_iinc (v := (l4 + (1 : Int32))) (lv' := [(4, .int (l4 + (1 : Int32))), (0, .ref q_s), (1, .int l1), (2, .ref q_t), (3, .int l3)]) hx hb dX9_copyState_22 hl (k := 4) rfl rfl (by decide) rfl (fun ls hl => ?_)
        refine lv_goto (tgt := 3) hx hb dX9_copyState_25 (by decide) ?_
        exact ih vs (upd vt (l3 + l4).toNatClampNeg (vs (l1 + l4).toNatClampNeg)) l1 l3 (l4 + (1 : Int32)) _ _ _ hP hD hS (lv_sub hl [1, 2, 3, 4, 0] rfl) hm
  unfold mX9_copyState_234_117 at hm
  refine lv_iconst (v := (0 : Int32)) hx hb dX9_copyState_0 (by decide) ?_
  refine lv_istore (lv' := [(4, .int (0 : Int32)), (0, .ref q_s), (1, .int x1), (2, .ref q_t), (3, .int x3)]) hx hb dX9_copyState_1 hl (by decide) rfl (fun ls hl => ?_)
  exact J_3 4096 vs vt x1 x3 (0 : Int32) _ _ _ hP hD hS (lv_sub hl [1, 2, 3, 4, 0] rfl) hm
def mX9_clear_L2  : Nat → (Nat → Int32) → Int32 → Option ((Nat → Int32))
  | 0, _, _ => none
  | n + 1, vs, l1 => (if (117 : Int32) ≤ l1 then (some (upd (upd (upd (upd vs (72 : Int32).toNatClampNeg (30 : Int32)) (81 : Int32).toNatClampNeg (35 : Int32)) (74 : Int32).toNatClampNeg (1 : Int32)) (83 : Int32).toNatClampNeg (1 : Int32))) else (if ¬ (l1 < 0 ∨ 117 ≤ l1.toNatClampNeg) then (mX9_clear_L2 n (upd vs l1.toNatClampNeg (0 : Int32)) (l1 + (1 : Int32))) else none))
def mX9_clear (vs : Nat → Int32) : Option ((Nat → Int32)) := (mX9_clear_L2 4096 vs (0 : Int32))
set_option maxHeartbeats 4000000 in
set_option maxRecDepth 100000 in
theorem kX9_clear (l : Launch) (Γ : my_G) (q_s : Nat) (vs : Nat → Int32)  (vs_z : Nat → Int32) (hm : mX9_clear vs = (some vs_z)) : Mn l yX9_clear wsX9_clear ({ frames := 0, cells := 0, slots := 0, locals := 0 } : Room) Γ [.ref q_s] (wArr117 Γ q_s vs) none (wArr117 Γ q_s vs_z) := by
  intro sz
  refine Met.ofW (cc := cX9_clear) (maxL := 2) (ret := none) (by decide) rfl ?_
  intro p e s m args below meth c s₁ B hml hv
  obtain ⟨rfl, hsz, hP, hK, hD0⟩ := hv
  have hx := B.exec
  have hb := B.bytes
  have hr := B.returns
  have hts := atoms_spec (ws := wsX9_clear) B.pre
  have hown : s.vm.findClass RX9 = some m.cls := findClass_of_methodNamed B.named
  have hlocks := B.notSynchronized
  subst hsz
  have hD := hD0.self (sz := s.heap.size)
  have hA : ∀ q : Nat, s.heap.size ≤ q → va_A (wArr117 Γ q_s vs) s.heap.size q := fun q h => Or.inr h
  generalize va_A (wArr117 Γ q_s vs) s.heap.size = A at hD hA ⊢
  have hS : va_S A s.heap s.heap [] := va_S.rf
  have hl := lv_entry ([.ref q_s]) (n := 2) (Nat.le_of_ble_eq_true rfl)
  rw [lg_entry_eq]
  generalize (lg_sl ([.ref q_s]) ++ List.replicate (2 - (lg_sl ([.ref q_s])).length) Slot.unset).toArray = ls at hl ⊢
  replace hl : lv_has ls 2 [(0, .ref q_s)] := hl
  have J_2 : ∀ n : Nat, ∀ (vs : Nat → Int32) (l1 : Int32) (H : Heap) (locs : List Loc) (ls : Array Slot), va_P (my_D Γ) vwCl (wArr117 Γ q_s vs) H → va_D A (wArr117 Γ q_s vs) → va_S A s.heap H locs → lv_has ls 2 [(0, .ref q_s), (1, .int l1)] → mX9_clear_L2 n vs l1 = (some vs_z) → W p l e (headSpec wsX9_clear ({ frames := 0, cells := 0, slots := 0, locals := 0 } : Room)).room s m ([.ref q_s] : List Value).toArray below meth c H locs 0 0 (MQ below (my_Q Γ A none (wArr117 Γ q_s vs_z)) ([.ref q_s] : List Value).toArray s 0 0 A) (F0 m 2 ls []) := by
    intro  n
    induction n with
    | zero => intro vs l1 H locs ls hP hD hS hl hm; cases hm
    | succ n ih =>
      intro vs l1 H locs ls hP hD hS hl hm
      unfold mX9_clear_L2 at hm
      refine lv_iload_n hx hb dX9_clear_2 rfl (lv_at hl 1 rfl) ?_
      refine lv_bipush (v := (117 : Int32)) hx hb dX9_clear_3 (by decide) ?_
      refine lv_icmp_ge (tgt := 18) hx hb dX9_clear_5 (by decide) (fun c_1 => ?_) (fun c_1 => ?_)
      · replace hm := if_s hm c_1
        refine lv_aload_n hx hb dX9_clear_18 rfl (lv_at hl 0 rfl) ?_
        refine lv_bipush (v := (72 : Int32)) hx hb dX9_clear_19 (by decide) ?_
        refine lv_bipush (v := (30 : Int32)) hx hb dX9_clear_21 (by decide) ?_
        refine va_iast hx hb hK hP hD hS 0 0 rfl rfl (show vp_in (72 : Int32) 117 from (by decide : ¬ ((72 : Int32) < 0 ∨ 117 ≤ (72 : Int32).toNatClampNeg))) dX9_clear_23 (fun H locs hP hD hS => ?_)
        replace hP : va_P (my_D Γ) vwCl (wArr117 Γ q_s (upd vs (72 : Int32).toNatClampNeg (30 : Int32))) H := hP
        replace hD : va_D A (wArr117 Γ q_s (upd vs (72 : Int32).toNatClampNeg (30 : Int32))) := hD
        refine lv_aload_n hx hb dX9_clear_24 rfl (lv_at hl 0 rfl) ?_
        refine lv_bipush (v := (81 : Int32)) hx hb dX9_clear_25 (by decide) ?_
        refine lv_bipush (v := (35 : Int32)) hx hb dX9_clear_27 (by decide) ?_
        refine va_iast hx hb hK hP hD hS 0 0 rfl rfl (show vp_in (81 : Int32) 117 from (by decide : ¬ ((81 : Int32) < 0 ∨ 117 ≤ (81 : Int32).toNatClampNeg))) dX9_clear_29 (fun H locs hP hD hS => ?_)
        replace hP : va_P (my_D Γ) vwCl (wArr117 Γ q_s (upd (upd vs (72 : Int32).toNatClampNeg (30 : Int32)) (81 : Int32).toNatClampNeg (35 : Int32))) H := hP
        replace hD : va_D A (wArr117 Γ q_s (upd (upd vs (72 : Int32).toNatClampNeg (30 : Int32)) (81 : Int32).toNatClampNeg (35 : Int32))) := hD
        refine lv_aload_n hx hb dX9_clear_30 rfl (lv_at hl 0 rfl) ?_
        refine lv_bipush (v := (74 : Int32)) hx hb dX9_clear_31 (by decide) ?_
        refine lv_iconst (v := (1 : Int32)) hx hb dX9_clear_33 (by decide) ?_
        refine va_iast hx hb hK hP hD hS 0 0 rfl rfl (show vp_in (74 : Int32) 117 from (by decide : ¬ ((74 : Int32) < 0 ∨ 117 ≤ (74 : Int32).toNatClampNeg))) dX9_clear_34 (fun H locs hP hD hS => ?_)
        replace hP : va_P (my_D Γ) vwCl (wArr117 Γ q_s (upd (upd (upd vs (72 : Int32).toNatClampNeg (30 : Int32)) (81 : Int32).toNatClampNeg (35 : Int32)) (74 : Int32).toNatClampNeg (1 : Int32))) H := hP
        replace hD : va_D A (wArr117 Γ q_s (upd (upd (upd vs (72 : Int32).toNatClampNeg (30 : Int32)) (81 : Int32).toNatClampNeg (35 : Int32)) (74 : Int32).toNatClampNeg (1 : Int32))) := hD
        refine lv_aload_n hx hb dX9_clear_35 rfl (lv_at hl 0 rfl) ?_
        refine lv_bipush (v := (83 : Int32)) hx hb dX9_clear_36 (by decide) ?_
        refine lv_iconst (v := (1 : Int32)) hx hb dX9_clear_38 (by decide) ?_
        refine va_iast hx hb hK hP hD hS 0 0 rfl rfl (show vp_in (83 : Int32) 117 from (by decide : ¬ ((83 : Int32) < 0 ∨ 117 ≤ (83 : Int32).toNatClampNeg))) dX9_clear_39 (fun H locs hP hD hS => ?_)
        replace hP : va_P (my_D Γ) vwCl (wArr117 Γ q_s (upd (upd (upd (upd vs (72 : Int32).toNatClampNeg (30 : Int32)) (81 : Int32).toNatClampNeg (35 : Int32)) (74 : Int32).toNatClampNeg (1 : Int32)) (83 : Int32).toNatClampNeg (1 : Int32))) H := hP
        replace hD : va_D A (wArr117 Γ q_s (upd (upd (upd (upd vs (72 : Int32).toNatClampNeg (30 : Int32)) (81 : Int32).toNatClampNeg (35 : Int32)) (74 : Int32).toNatClampNeg (1 : Int32)) (83 : Int32).toNatClampNeg (1 : Int32))) := hD
        obtain hf0 := Option.some.inj hm
        subst hf0
        exact W.vret hx hb hr (fun t ht hW => ⟨⟨rfl, by rw [ht]; exact hP⟩, hS.F ht⟩) hS.2.2 dX9_clear_40
      · replace hm := if_f hm c_1
        refine lv_aload_n hx hb dX9_clear_8 rfl (lv_at hl 0 rfl) ?_
        refine lv_iload_n hx hb dX9_clear_9 rfl (lv_at hl 1 rfl) ?_
        refine lv_iconst (v := (0 : Int32)) hx hb dX9_clear_10 (by decide) ?_
        obtain ⟨hi_2, hm⟩ := if_in hm
        refine va_iast hx hb hK hP hD hS 0 0 rfl rfl hi_2 dX9_clear_11 (fun H locs hP hD hS => ?_)
        replace hP : va_P (my_D Γ) vwCl (wArr117 Γ q_s (upd vs l1.toNatClampNeg (0 : Int32))) H := hP
        replace hD : va_D A (wArr117 Γ q_s (upd vs l1.toNatClampNeg (0 : Int32))) := hD
        refine lv_iinc (v := (l1 + (1 : Int32))) (lv' := [(1, .int (l1 + (1 : Int32))), (0, .ref q_s)]) hx hb dX9_clear_12 hl (k := 1) rfl rfl (by decide) rfl (fun ls hl => ?_)
        refine lv_goto (tgt := 2) hx hb dX9_clear_15 (by decide) ?_
        exact ih (upd vs l1.toNatClampNeg (0 : Int32)) (l1 + (1 : Int32)) _ _ _ hP hD hS (lv_sub hl [1, 0] rfl) hm
  unfold mX9_clear at hm
  refine lv_iconst (v := (0 : Int32)) hx hb dX9_clear_0 (by decide) ?_
  refine lv_istore_n (lv' := [(1, .int (0 : Int32)), (0, .ref q_s)]) hx hb dX9_clear_1 rfl hl (by decide) rfl (fun ls hl => ?_)
  exact J_2 4096 vs (0 : Int32) _ _ _ hP hD hS (lv_sub hl [1, 0] rfl) hm
def mX9_of (vs : Nat → Int32) (x1 : Int32) (x2 : Int32) : Option (Int32) := (if ¬ ((((72 : Int32) + ((9 : Int32) * x1)) + x2) < 0 ∨ 117 ≤ (((72 : Int32) + ((9 : Int32) * x1)) + x2).toNatClampNeg) then (some (vs (((72 : Int32) + ((9 : Int32) * x1)) + x2).toNatClampNeg)) else none)
set_option maxHeartbeats 4000000 in
set_option maxRecDepth 100000 in
theorem kX9_of (l : Launch) (Γ : my_G) (q_s : Nat) (vs : Nat → Int32) (x1 : Int32) (x2 : Int32) (rr : Int32) (hm : mX9_of vs x1 x2 = (some rr)) : Mn l yX9_of wsX9_of ({ frames := 0, cells := 0, slots := 0, locals := 0 } : Room) Γ [.ref q_s, .int x1, .int x2] (wArr117 Γ q_s vs) (some (.int rr)) (wArr117 Γ q_s vs) := by
  intro sz
  refine Met.ofW (cc := cX9_of) (maxL := 3) (ret := (some .int)) (by decide) rfl ?_
  intro p e s m args below meth c s₁ B hml hv
  obtain ⟨rfl, hsz, hP, hK, hD0⟩ := hv
  have hx := B.exec
  have hb := B.bytes
  have hr := B.returns
  have hts := atoms_spec (ws := wsX9_of) B.pre
  have hown : s.vm.findClass RX9 = some m.cls := findClass_of_methodNamed B.named
  have hlocks := B.notSynchronized
  subst hsz
  have hD := hD0.self (sz := s.heap.size)
  have hA : ∀ q : Nat, s.heap.size ≤ q → va_A (wArr117 Γ q_s vs) s.heap.size q := fun q h => Or.inr h
  generalize va_A (wArr117 Γ q_s vs) s.heap.size = A at hD hA ⊢
  have hS : va_S A s.heap s.heap [] := va_S.rf
  have hl := lv_entry ([.ref q_s, .int x1, .int x2]) (n := 3) (Nat.le_of_ble_eq_true rfl)
  rw [lg_entry_eq]
  generalize (lg_sl ([.ref q_s, .int x1, .int x2]) ++ List.replicate (3 - (lg_sl ([.ref q_s, .int x1, .int x2])).length) Slot.unset).toArray = ls at hl ⊢
  replace hl : lv_has ls 3 [(0, .ref q_s), (1, .int x1), (2, .int x2)] := hl
  unfold mX9_of at hm
  refine lv_aload_n hx hb dX9_of_0 rfl (lv_at hl 0 rfl) ?_
  refine lv_bipush (v := (72 : Int32)) hx hb dX9_of_1 (by decide) ?_
  refine lv_bipush (v := (9 : Int32)) hx hb dX9_of_3 (by decide) ?_
  refine lv_iload_n hx hb dX9_of_5 rfl (lv_at hl 1 rfl) ?_
  refine lv_imul hx hb dX9_of_6 ?_
  refine lv_iadd hx hb dX9_of_7 ?_
  refine lv_iload_n hx hb dX9_of_8 rfl (lv_at hl 2 rfl) ?_
  refine lv_iadd hx hb dX9_of_9 ?_
  obtain ⟨hi_1, hm⟩ := if_in hm
  refine va_iald hx hb hK hP 0 0 rfl rfl hi_1 dX9_of_10 ?_
  obtain hf0 := Option.some.inj hm
  subst hf0
  exact W.iret (v := (vs (((72 : Int32) + ((9 : Int32) * x1)) + x2).toNatClampNeg)) hx hb hr (fun t ht hW => ⟨⟨rfl, by rw [ht]; exact hP⟩, hS.F ht⟩) hS.2.2 dX9_of_11
def mX9_puts (vs : Nat → Int32) (x1 : Int32) (x2 : Int32) (x3 : Int32) : Option ((Nat → Int32)) := (if ¬ ((((72 : Int32) + ((9 : Int32) * x1)) + x2) < 0 ∨ 117 ≤ (((72 : Int32) + ((9 : Int32) * x1)) + x2).toNatClampNeg) then (some (upd vs (((72 : Int32) + ((9 : Int32) * x1)) + x2).toNatClampNeg x3)) else none)
set_option maxHeartbeats 4000000 in
set_option maxRecDepth 100000 in
theorem kX9_puts (l : Launch) (Γ : my_G) (q_s : Nat) (vs : Nat → Int32) (x1 : Int32) (x2 : Int32) (x3 : Int32) (vs_z : Nat → Int32) (hm : mX9_puts vs x1 x2 x3 = (some vs_z)) : Mn l yX9_puts wsX9_puts ({ frames := 0, cells := 0, slots := 0, locals := 0 } : Room) Γ [.ref q_s, .int x1, .int x2, .int x3] (wArr117 Γ q_s vs) none (wArr117 Γ q_s vs_z) := by
  intro sz
  refine Met.ofW (cc := cX9_puts) (maxL := 4) (ret := none) (by decide) rfl ?_
  intro p e s m args below meth c s₁ B hml hv
  obtain ⟨rfl, hsz, hP, hK, hD0⟩ := hv
  have hx := B.exec
  have hb := B.bytes
  have hr := B.returns
  have hts := atoms_spec (ws := wsX9_puts) B.pre
  have hown : s.vm.findClass RX9 = some m.cls := findClass_of_methodNamed B.named
  have hlocks := B.notSynchronized
  subst hsz
  have hD := hD0.self (sz := s.heap.size)
  have hA : ∀ q : Nat, s.heap.size ≤ q → va_A (wArr117 Γ q_s vs) s.heap.size q := fun q h => Or.inr h
  generalize va_A (wArr117 Γ q_s vs) s.heap.size = A at hD hA ⊢
  have hS : va_S A s.heap s.heap [] := va_S.rf
  have hl := lv_entry ([.ref q_s, .int x1, .int x2, .int x3]) (n := 4) (Nat.le_of_ble_eq_true rfl)
  rw [lg_entry_eq]
  generalize (lg_sl ([.ref q_s, .int x1, .int x2, .int x3]) ++ List.replicate (4 - (lg_sl ([.ref q_s, .int x1, .int x2, .int x3])).length) Slot.unset).toArray = ls at hl ⊢
  replace hl : lv_has ls 4 [(0, .ref q_s), (1, .int x1), (2, .int x2), (3, .int x3)] := hl
  unfold mX9_puts at hm
  refine lv_aload_n hx hb dX9_puts_0 rfl (lv_at hl 0 rfl) ?_
  refine lv_bipush (v := (72 : Int32)) hx hb dX9_puts_1 (by decide) ?_
  refine lv_bipush (v := (9 : Int32)) hx hb dX9_puts_3 (by decide) ?_
  refine lv_iload_n hx hb dX9_puts_5 rfl (lv_at hl 1 rfl) ?_
  refine lv_imul hx hb dX9_puts_6 ?_
  refine lv_iadd hx hb dX9_puts_7 ?_
  refine lv_iload_n hx hb dX9_puts_8 rfl (lv_at hl 2 rfl) ?_
  refine lv_iadd hx hb dX9_puts_9 ?_
  refine lv_iload_n hx hb dX9_puts_10 rfl (lv_at hl 3 rfl) ?_
  obtain ⟨hi_1, hm⟩ := if_in hm
  refine va_iast hx hb hK hP hD hS 0 0 rfl rfl hi_1 dX9_puts_11 (fun H locs hP hD hS => ?_)
  replace hP : va_P (my_D Γ) vwCl (wArr117 Γ q_s (upd vs (((72 : Int32) + ((9 : Int32) * x1)) + x2).toNatClampNeg x3)) H := hP
  replace hD : va_D A (wArr117 Γ q_s (upd vs (((72 : Int32) + ((9 : Int32) * x1)) + x2).toNatClampNeg x3)) := hD
  obtain hf0 := Option.some.inj hm
  subst hf0
  exact W.vret hx hb hr (fun t ht hW => ⟨⟨rfl, by rw [ht]; exact hP⟩, hS.F ht⟩) hS.2.2 dX9_puts_12
def mX9_adds (vs : Nat → Int32) (x1 : Int32) (x2 : Int32) (x3 : Int32) : Option ((Nat → Int32)) := (if ¬ ((((72 : Int32) + ((9 : Int32) * x1)) + x2) < 0 ∨ 117 ≤ (((72 : Int32) + ((9 : Int32) * x1)) + x2).toNatClampNeg) then (some (upd vs (((72 : Int32) + ((9 : Int32) * x1)) + x2).toNatClampNeg ((vs (((72 : Int32) + ((9 : Int32) * x1)) + x2).toNatClampNeg) + x3))) else none)
set_option maxHeartbeats 4000000 in
set_option maxRecDepth 100000 in
theorem kX9_adds (l : Launch) (Γ : my_G) (q_s : Nat) (vs : Nat → Int32) (x1 : Int32) (x2 : Int32) (x3 : Int32) (vs_z : Nat → Int32) (hm : mX9_adds vs x1 x2 x3 = (some vs_z)) : Mn l yX9_adds wsX9_adds ({ frames := 0, cells := 0, slots := 0, locals := 0 } : Room) Γ [.ref q_s, .int x1, .int x2, .int x3] (wArr117 Γ q_s vs) none (wArr117 Γ q_s vs_z) := by
  intro sz
  refine Met.ofW (cc := cX9_adds) (maxL := 4) (ret := none) (by decide) rfl ?_
  intro p e s m args below meth c s₁ B hml hv
  obtain ⟨rfl, hsz, hP, hK, hD0⟩ := hv
  have hx := B.exec
  have hb := B.bytes
  have hr := B.returns
  have hts := atoms_spec (ws := wsX9_adds) B.pre
  have hown : s.vm.findClass RX9 = some m.cls := findClass_of_methodNamed B.named
  have hlocks := B.notSynchronized
  subst hsz
  have hD := hD0.self (sz := s.heap.size)
  have hA : ∀ q : Nat, s.heap.size ≤ q → va_A (wArr117 Γ q_s vs) s.heap.size q := fun q h => Or.inr h
  generalize va_A (wArr117 Γ q_s vs) s.heap.size = A at hD hA ⊢
  have hS : va_S A s.heap s.heap [] := va_S.rf
  have hl := lv_entry ([.ref q_s, .int x1, .int x2, .int x3]) (n := 4) (Nat.le_of_ble_eq_true rfl)
  rw [lg_entry_eq]
  generalize (lg_sl ([.ref q_s, .int x1, .int x2, .int x3]) ++ List.replicate (4 - (lg_sl ([.ref q_s, .int x1, .int x2, .int x3])).length) Slot.unset).toArray = ls at hl ⊢
  replace hl : lv_has ls 4 [(0, .ref q_s), (1, .int x1), (2, .int x2), (3, .int x3)] := hl
  unfold mX9_adds at hm
  refine lv_aload_n hx hb dX9_adds_0 rfl (lv_at hl 0 rfl) ?_
  refine lv_bipush (v := (72 : Int32)) hx hb dX9_adds_1 (by decide) ?_
  refine lv_bipush (v := (9 : Int32)) hx hb dX9_adds_3 (by decide) ?_
  refine lv_iload_n hx hb dX9_adds_5 rfl (lv_at hl 1 rfl) ?_
  refine lv_imul hx hb dX9_adds_6 ?_
  refine lv_iadd hx hb dX9_adds_7 ?_
  refine lv_iload_n hx hb dX9_adds_8 rfl (lv_at hl 2 rfl) ?_
  refine lv_iadd hx hb dX9_adds_9 ?_
  refine lv_dup2_11 hx hb dX9_adds_10 rfl rfl ?_
  obtain ⟨hi_1, hm⟩ := if_in hm
  refine va_iald hx hb hK hP 0 0 rfl rfl hi_1 dX9_adds_11 ?_
  refine lv_iload_n hx hb dX9_adds_12 rfl (lv_at hl 3 rfl) ?_
  refine lv_iadd hx hb dX9_adds_13 ?_
  refine lv_topi (fun y_2 ey_2 => ?_)
  refine va_iast hx hb hK hP hD hS 0 0 rfl rfl hi_1 dX9_adds_14 (fun H locs hP hD hS => ?_)
  replace hP : va_P (my_D Γ) vwCl (wArr117 Γ q_s (upd vs (((72 : Int32) + ((9 : Int32) * x1)) + x2).toNatClampNeg y_2)) H := hP
  replace hD : va_D A (wArr117 Γ q_s (upd vs (((72 : Int32) + ((9 : Int32) * x1)) + x2).toNatClampNeg y_2)) := hD
  subst ey_2
  obtain hf0 := Option.some.inj hm
  subst hf0
  exact W.vret hx hb hr (fun t ht hW => ⟨⟨rfl, by rw [ht]; exact hP⟩, hS.F ht⟩) hS.2.2 dX9_adds_15
def mX9_robotAt (vs : Nat → Int32) (x1 : Int32) : Option (Int32) := (bo1 (mX9_of vs (0 : Int32) (0 : Int32)) (fun r_1 => (if r_1 = x1 then (some (0 : Int32)) else (bo1 (mX9_of vs (1 : Int32) (0 : Int32)) (fun r_4 => (if r_4 = x1 then (some (1 : Int32)) else (some (-1 : Int32))))))))
set_option maxHeartbeats 4000000 in
set_option maxRecDepth 100000 in
theorem kX9_robotAt (l : Launch) (Γ : my_G) (q_s : Nat) (vs : Nat → Int32) (x1 : Int32) (rr : Int32) (hm : mX9_robotAt vs x1 = (some rr)) : Mn l yX9_robotAt wsX9_robotAt ({ frames := 1, cells := 0, slots := 0, locals := 22 } : Room) Γ [.ref q_s, .int x1] (wArr117 Γ q_s vs) (some (.int rr)) (wArr117 Γ q_s vs) := by
  intro sz
  refine Met.ofW (cc := cX9_robotAt) (maxL := 2) (ret := (some .int)) (by decide) rfl ?_
  intro p e s m args below meth c s₁ B hml hv
  obtain ⟨rfl, hsz, hP, hK, hD0⟩ := hv
  have hx := B.exec
  have hb := B.bytes
  have hr := B.returns
  have hts := atoms_spec (ws := wsX9_robotAt) B.pre
  have hown : s.vm.findClass RX9 = some m.cls := findClass_of_methodNamed B.named
  have hlocks := B.notSynchronized
  subst hsz
  have hD := hD0.self (sz := s.heap.size)
  have hA : ∀ q : Nat, s.heap.size ≤ q → va_A (wArr117 Γ q_s vs) s.heap.size q := fun q h => Or.inr h
  generalize va_A (wArr117 Γ q_s vs) s.heap.size = A at hD hA ⊢
  have hS : va_S A s.heap s.heap [] := va_S.rf
  have hl := lv_entry ([.ref q_s, .int x1]) (n := 2) (Nat.le_of_ble_eq_true rfl)
  rw [lg_entry_eq]
  generalize (lg_sl ([.ref q_s, .int x1]) ++ List.replicate (2 - (lg_sl ([.ref q_s, .int x1])).length) Slot.unset).toArray = ls at hl ⊢
  replace hl : lv_has ls 2 [(0, .ref q_s), (1, .int x1)] := hl
  unfold mX9_robotAt at hm
  refine lv_aload_n hx hb dX9_robotAt_0 rfl (lv_at hl 0 rfl) ?_
  refine lv_iconst (v := (0 : Int32)) hx hb dX9_robotAt_1 (by decide) ?_
  refine lv_iconst (v := (0 : Int32)) hx hb dX9_robotAt_2 (by decide) ?_
  obtain ⟨r_1, hc_2, hm⟩ := bo1_s hm
  refine my_callP1 (wc := (wArr117 Γ q_s vs)) (w1 := (wArr117 Γ q_s vs)) (ws1 := (wArr117 Γ q_s vs)) hP hD hS hA [0] rfl rfl rfl (va_runS (As := [.ref q_s, .int (0 : Int32), .int (0 : Int32)]) (rest := []) ⟨hx, hb, hml, hown, hts⟩ (kX9_of l Γ q_s vs (0 : Int32) (0 : Int32) r_1 hc_2 _) (va_cwS 3 hts gX9_robotAt_X9_of rfl rfl rfl (by decide +kernel) ⟨Nat.le_of_ble_eq_true rfl, Nat.le_of_ble_eq_true rfl⟩) (my_preS (wc := (wArr117 Γ q_s vs)) [0] hK hP hD rfl rfl) rfl rfl hl.1 rfl (lv_room (Nat.le_of_ble_eq_true rfl)) dX9_robotAt_3 ⟨Nat.le_of_ble_eq_true rfl, Nat.le_of_ble_eq_true rfl⟩) (fun H locs hP hD hS => ?_)
  refine lv_iload_n hx hb dX9_robotAt_6 rfl (lv_at hl 1 rfl) ?_
  refine lv_icmp_ne (tgt := 14) hx hb dX9_robotAt_7 (by decide) (fun c_3 => ?_) (fun c_3 => ?_)
  · replace hm := if_f hm c_3
    refine lv_aload_n hx hb dX9_robotAt_14 rfl (lv_at hl 0 rfl) ?_
    refine lv_iconst (v := (1 : Int32)) hx hb dX9_robotAt_15 (by decide) ?_
    refine lv_iconst (v := (0 : Int32)) hx hb dX9_robotAt_16 (by decide) ?_
    obtain ⟨r_4, hc_5, hm⟩ := bo1_s hm
    refine my_callP1 (wc := (wArr117 Γ q_s vs)) (w1 := (wArr117 Γ q_s vs)) (ws1 := (wArr117 Γ q_s vs)) hP hD hS hA [0] rfl rfl rfl (va_runS (As := [.ref q_s, .int (1 : Int32), .int (0 : Int32)]) (rest := []) ⟨hx, hb, hml, hown, hts⟩ (kX9_of l Γ q_s vs (1 : Int32) (0 : Int32) r_4 hc_5 _) (va_cwS 3 hts gX9_robotAt_X9_of rfl rfl rfl (by decide +kernel) ⟨Nat.le_of_ble_eq_true rfl, Nat.le_of_ble_eq_true rfl⟩) (my_preS (wc := (wArr117 Γ q_s vs)) [0] hK hP hD rfl rfl) rfl rfl hl.1 rfl (lv_room (Nat.le_of_ble_eq_true rfl)) dX9_robotAt_17 ⟨Nat.le_of_ble_eq_true rfl, Nat.le_of_ble_eq_true rfl⟩) (fun H locs hP hD hS => ?_)
    refine lv_iload_n hx hb dX9_robotAt_20 rfl (lv_at hl 1 rfl) ?_
    refine lv_icmp_ne (tgt := 28) hx hb dX9_robotAt_21 (by decide) (fun c_6 => ?_) (fun c_6 => ?_)
    · replace hm := if_f hm c_6
      refine lv_iconst (v := (-1 : Int32)) hx hb dX9_robotAt_28 (by decide) ?_
      obtain hf0 := Option.some.inj hm
      subst hf0
      exact W.iret (v := (-1 : Int32)) hx hb hr (fun t ht hW => ⟨⟨rfl, by rw [ht]; exact hP⟩, hS.F ht⟩) hS.2.2 dX9_robotAt_29
    · replace hm := if_s hm c_6
      refine lv_iconst (v := (1 : Int32)) hx hb dX9_robotAt_24 (by decide) ?_
      refine lv_goto (tgt := 29) hx hb dX9_robotAt_25 (by decide) ?_
      obtain hf0 := Option.some.inj hm
      subst hf0
      exact W.iret (v := (1 : Int32)) hx hb hr (fun t ht hW => ⟨⟨rfl, by rw [ht]; exact hP⟩, hS.F ht⟩) hS.2.2 dX9_robotAt_29
  · replace hm := if_s hm c_3
    refine lv_iconst (v := (0 : Int32)) hx hb dX9_robotAt_10 (by decide) ?_
    refine lv_goto (tgt := 29) hx hb dX9_robotAt_11 (by decide) ?_
    obtain hf0 := Option.some.inj hm
    subst hf0
    exact W.iret (v := (0 : Int32)) hx hb hr (fun t ht hW => ⟨⟨rfl, by rw [ht]; exact hP⟩, hS.F ht⟩) hS.2.2 dX9_robotAt_29
def mX9_hasThing (vs : Nat → Int32) (x1 : Int32) : Option (Int32) := (if ¬ (((36 : Int32) + x1) < 0 ∨ 117 ≤ ((36 : Int32) + x1).toNatClampNeg) then (if (vs ((36 : Int32) + x1).toNatClampNeg) = (1 : Int32) then (some (1 : Int32)) else (bo1 (mX9_robotAt vs x1) (fun r_3 => (if r_3 = (-1 : Int32) then (some (0 : Int32)) else (some (1 : Int32)))))) else none)
set_option maxHeartbeats 4000000 in
set_option maxRecDepth 100000 in
theorem kX9_hasThing (l : Launch) (Γ : my_G) (q_s : Nat) (vs : Nat → Int32) (x1 : Int32) (rr : Int32) (hm : mX9_hasThing vs x1 = (some rr)) : Mn l yX9_hasThing wsX9_hasThing ({ frames := 2, cells := 0, slots := 0, locals := 43 } : Room) Γ [.ref q_s, .int x1] (wArr117 Γ q_s vs) (some (.int rr)) (wArr117 Γ q_s vs) := by
  intro sz
  refine Met.ofW (cc := cX9_hasThing) (maxL := 2) (ret := (some .boolean)) (by decide) rfl ?_
  intro p e s m args below meth c s₁ B hml hv
  obtain ⟨rfl, hsz, hP, hK, hD0⟩ := hv
  have hx := B.exec
  have hb := B.bytes
  have hr := B.returns
  have hts := atoms_spec (ws := wsX9_hasThing) B.pre
  have hown : s.vm.findClass RX9 = some m.cls := findClass_of_methodNamed B.named
  have hlocks := B.notSynchronized
  subst hsz
  have hD := hD0.self (sz := s.heap.size)
  have hA : ∀ q : Nat, s.heap.size ≤ q → va_A (wArr117 Γ q_s vs) s.heap.size q := fun q h => Or.inr h
  generalize va_A (wArr117 Γ q_s vs) s.heap.size = A at hD hA ⊢
  have hS : va_S A s.heap s.heap [] := va_S.rf
  have hl := lv_entry ([.ref q_s, .int x1]) (n := 2) (Nat.le_of_ble_eq_true rfl)
  rw [lg_entry_eq]
  generalize (lg_sl ([.ref q_s, .int x1]) ++ List.replicate (2 - (lg_sl ([.ref q_s, .int x1])).length) Slot.unset).toArray = ls at hl ⊢
  replace hl : lv_has ls 2 [(0, .ref q_s), (1, .int x1)] := hl
  unfold mX9_hasThing at hm
  refine lv_aload_n hx hb dX9_hasThing_0 rfl (lv_at hl 0 rfl) ?_
  refine lv_bipush (v := (36 : Int32)) hx hb dX9_hasThing_1 (by decide) ?_
  refine lv_iload_n hx hb dX9_hasThing_3 rfl (lv_at hl 1 rfl) ?_
  refine lv_iadd hx hb dX9_hasThing_4 ?_
  obtain ⟨hi_1, hm⟩ := if_in hm
  refine va_iald hx hb hK hP 0 0 rfl rfl hi_1 dX9_hasThing_5 ?_
  refine lv_iconst (v := (1 : Int32)) hx hb dX9_hasThing_6 (by decide) ?_
  refine lv_icmp_eq (tgt := 19) hx hb dX9_hasThing_7 (by decide) (fun c_2 => ?_) (fun c_2 => ?_)
  · replace hm := if_s hm c_2
    refine lv_iconst (v := (1 : Int32)) hx hb dX9_hasThing_19 (by decide) ?_
    refine lv_goto (tgt := 24) hx hb dX9_hasThing_20 (by decide) ?_
    obtain hf0 := Option.some.inj hm
    subst hf0
    exact W.zret (v := (1 : Int32)) hx hb hr rfl (fun t ht hW => ⟨⟨rfl, by rw [ht]; exact hP⟩, hS.F ht⟩) hS.2.2 dX9_hasThing_24
  · replace hm := if_f hm c_2
    refine lv_aload_n hx hb dX9_hasThing_10 rfl (lv_at hl 0 rfl) ?_
    refine lv_iload_n hx hb dX9_hasThing_11 rfl (lv_at hl 1 rfl) ?_
    obtain ⟨r_3, hc_4, hm⟩ := bo1_s hm
    refine my_callP1 (wc := (wArr117 Γ q_s vs)) (w1 := (wArr117 Γ q_s vs)) (ws1 := (wArr117 Γ q_s vs)) hP hD hS hA [0] rfl rfl rfl (va_runS (As := [.ref q_s, .int x1]) (rest := []) ⟨hx, hb, hml, hown, hts⟩ (kX9_robotAt l Γ q_s vs x1 r_3 hc_4 _) (va_cwS 2 hts gX9_hasThing_X9_robotAt rfl rfl rfl (by decide +kernel) ⟨Nat.le_of_ble_eq_true rfl, Nat.le_of_ble_eq_true rfl⟩) (my_preS (wc := (wArr117 Γ q_s vs)) [0] hK hP hD rfl rfl) rfl rfl hl.1 rfl (lv_room (Nat.le_of_ble_eq_true rfl)) dX9_hasThing_12 ⟨Nat.le_of_ble_eq_true rfl, Nat.le_of_ble_eq_true rfl⟩) (fun H locs hP hD hS => ?_)
    refine lv_iconst (v := (-1 : Int32)) hx hb dX9_hasThing_15 (by decide) ?_
    refine lv_icmp_eq (tgt := 23) hx hb dX9_hasThing_16 (by decide) (fun c_5 => ?_) (fun c_5 => ?_)
    · replace hm := if_s hm c_5
      refine lv_iconst (v := (0 : Int32)) hx hb dX9_hasThing_23 (by decide) ?_
      obtain hf0 := Option.some.inj hm
      subst hf0
      exact W.zret (v := (0 : Int32)) hx hb hr rfl (fun t ht hW => ⟨⟨rfl, by rw [ht]; exact hP⟩, hS.F ht⟩) hS.2.2 dX9_hasThing_24
    · replace hm := if_f hm c_5
      refine lv_iconst (v := (1 : Int32)) hx hb dX9_hasThing_19 (by decide) ?_
      refine lv_goto (tgt := 24) hx hb dX9_hasThing_20 (by decide) ?_
      obtain hf0 := Option.some.inj hm
      subst hf0
      exact W.zret (v := (1 : Int32)) hx hb hr rfl (fun t ht hW => ⟨⟨rfl, by rw [ht]; exact hP⟩, hS.F ht⟩) hS.2.2 dX9_hasThing_24
def mX9_isHard (vs : Nat → Int32) (x1 : Int32) : Option (Int32) := (if ¬ (x1 < 0 ∨ 117 ≤ x1.toNatClampNeg) then (if (vs x1.toNatClampNeg) = (1 : Int32) then (some (1 : Int32)) else (if (vs x1.toNatClampNeg) = (2 : Int32) then (some (1 : Int32)) else (some (0 : Int32)))) else none)
set_option maxHeartbeats 4000000 in
set_option maxRecDepth 100000 in
theorem kX9_isHard (l : Launch) (Γ : my_G) (q_s : Nat) (vs : Nat → Int32) (x1 : Int32) (rr : Int32) (hm : mX9_isHard vs x1 = (some rr)) : Mn l yX9_isHard wsX9_isHard ({ frames := 0, cells := 0, slots := 0, locals := 0 } : Room) Γ [.ref q_s, .int x1] (wArr117 Γ q_s vs) (some (.int rr)) (wArr117 Γ q_s vs) := by
  intro sz
  refine Met.ofW (cc := cX9_isHard) (maxL := 2) (ret := (some .boolean)) (by decide) rfl ?_
  intro p e s m args below meth c s₁ B hml hv
  obtain ⟨rfl, hsz, hP, hK, hD0⟩ := hv
  have hx := B.exec
  have hb := B.bytes
  have hr := B.returns
  have hts := atoms_spec (ws := wsX9_isHard) B.pre
  have hown : s.vm.findClass RX9 = some m.cls := findClass_of_methodNamed B.named
  have hlocks := B.notSynchronized
  subst hsz
  have hD := hD0.self (sz := s.heap.size)
  have hA : ∀ q : Nat, s.heap.size ≤ q → va_A (wArr117 Γ q_s vs) s.heap.size q := fun q h => Or.inr h
  generalize va_A (wArr117 Γ q_s vs) s.heap.size = A at hD hA ⊢
  have hS : va_S A s.heap s.heap [] := va_S.rf
  have hl := lv_entry ([.ref q_s, .int x1]) (n := 2) (Nat.le_of_ble_eq_true rfl)
  rw [lg_entry_eq]
  generalize (lg_sl ([.ref q_s, .int x1]) ++ List.replicate (2 - (lg_sl ([.ref q_s, .int x1])).length) Slot.unset).toArray = ls at hl ⊢
  replace hl : lv_has ls 2 [(0, .ref q_s), (1, .int x1)] := hl
  unfold mX9_isHard at hm
  refine lv_aload_n hx hb dX9_isHard_0 rfl (lv_at hl 0 rfl) ?_
  refine lv_iload_n hx hb dX9_isHard_1 rfl (lv_at hl 1 rfl) ?_
  obtain ⟨hi_1, hm⟩ := if_in hm
  refine va_iald hx hb hK hP 0 0 rfl rfl hi_1 dX9_isHard_2 ?_
  refine lv_iconst (v := (1 : Int32)) hx hb dX9_isHard_3 (by decide) ?_
  refine lv_icmp_eq (tgt := 14) hx hb dX9_isHard_4 (by decide) (fun c_2 => ?_) (fun c_2 => ?_)
  · replace hm := if_s hm c_2
    refine lv_iconst (v := (1 : Int32)) hx hb dX9_isHard_14 (by decide) ?_
    refine lv_goto (tgt := 19) hx hb dX9_isHard_15 (by decide) ?_
    obtain hf0 := Option.some.inj hm
    subst hf0
    exact W.zret (v := (1 : Int32)) hx hb hr rfl (fun t ht hW => ⟨⟨rfl, by rw [ht]; exact hP⟩, hS.F ht⟩) hS.2.2 dX9_isHard_19
  · replace hm := if_f hm c_2
    refine lv_aload_n hx hb dX9_isHard_7 rfl (lv_at hl 0 rfl) ?_
    refine lv_iload_n hx hb dX9_isHard_8 rfl (lv_at hl 1 rfl) ?_
    refine va_iald hx hb hK hP 0 0 rfl rfl hi_1 dX9_isHard_9 ?_
    refine lv_iconst (v := (2 : Int32)) hx hb dX9_isHard_10 (by decide) ?_
    refine lv_icmp_ne (tgt := 18) hx hb dX9_isHard_11 (by decide) (fun c_3 => ?_) (fun c_3 => ?_)
    · replace hm := if_f hm c_3
      refine lv_iconst (v := (0 : Int32)) hx hb dX9_isHard_18 (by decide) ?_
      obtain hf0 := Option.some.inj hm
      subst hf0
      exact W.zret (v := (0 : Int32)) hx hb hr rfl (fun t ht hW => ⟨⟨rfl, by rw [ht]; exact hP⟩, hS.F ht⟩) hS.2.2 dX9_isHard_19
    · replace hm := if_s hm c_3
      refine lv_iconst (v := (1 : Int32)) hx hb dX9_isHard_14 (by decide) ?_
      refine lv_goto (tgt := 19) hx hb dX9_isHard_15 (by decide) ?_
      obtain hf0 := Option.some.inj hm
      subst hf0
      exact W.zret (v := (1 : Int32)) hx hb hr rfl (fun t ht hW => ⟨⟨rfl, by rw [ht]; exact hP⟩, hS.F ht⟩) hS.2.2 dX9_isHard_19
def mX9_rowFrom_J38  (vs : Nat → Int32) (l3 : Int32) (l4 : Int32) : Option (Int32) := (if l4 = (-1 : Int32) then (some (-1 : Int32)) else (if ¬ (l4 < 0 ∨ 117 ≤ l4.toNatClampNeg) then (if (vs l4.toNatClampNeg) = (1 : Int32) then (some (-1 : Int32)) else (some l3)) else none))
def mX9_rowFrom_L9  : Nat → (Nat → Int32) → Int32 → Int32 → Int32 → Option (Int32)
  | 0, _, _, _, _ => none
  | n + 1, vs, l2, l3, l4 => (if l4 = (-1 : Int32) then (mX9_rowFrom_J38 vs l3 l4) else (bo1 (mX9_hasThing vs l4) (fun r_5 => (if r_5 = 0 then (mX9_rowFrom_J38 vs l3 l4) else (mX9_rowFrom_L9 n vs l2 (l3 + (1 : Int32)) (mX9_next l4 l2))))))
def mX9_rowFrom (vs : Nat → Int32) (x1 : Int32) (x2 : Int32) : Option (Int32) := (mX9_rowFrom_L9 4096 vs x2 (0 : Int32) (mX9_next x1 x2))
set_option maxHeartbeats 4000000 in
set_option maxRecDepth 100000 in
theorem kX9_rowFrom (l : Launch) (Γ : my_G) (q_s : Nat) (vs : Nat → Int32) (x1 : Int32) (x2 : Int32) (rr : Int32) (hm : mX9_rowFrom vs x1 x2 = (some rr)) : Mn l yX9_rowFrom wsX9_rowFrom ({ frames := 3, cells := 0, slots := 0, locals := 64 } : Room) Γ [.ref q_s, .int x1, .int x2] (wArr117 Γ q_s vs) (some (.int rr)) (wArr117 Γ q_s vs) := by
  intro sz
  refine Met.ofW (cc := cX9_rowFrom) (maxL := 5) (ret := (some .int)) (by decide) rfl ?_
  intro p e s m args below meth c s₁ B hml hv
  obtain ⟨rfl, hsz, hP, hK, hD0⟩ := hv
  have hx := B.exec
  have hb := B.bytes
  have hr := B.returns
  have hts := atoms_spec (ws := wsX9_rowFrom) B.pre
  have hown : s.vm.findClass RX9 = some m.cls := findClass_of_methodNamed B.named
  have hlocks := B.notSynchronized
  subst hsz
  have hD := hD0.self (sz := s.heap.size)
  have hA : ∀ q : Nat, s.heap.size ≤ q → va_A (wArr117 Γ q_s vs) s.heap.size q := fun q h => Or.inr h
  generalize va_A (wArr117 Γ q_s vs) s.heap.size = A at hD hA ⊢
  have hS : va_S A s.heap s.heap [] := va_S.rf
  have hl := lv_entry ([.ref q_s, .int x1, .int x2]) (n := 5) (Nat.le_of_ble_eq_true rfl)
  rw [lg_entry_eq]
  generalize (lg_sl ([.ref q_s, .int x1, .int x2]) ++ List.replicate (5 - (lg_sl ([.ref q_s, .int x1, .int x2])).length) Slot.unset).toArray = ls at hl ⊢
  replace hl : lv_has ls 5 [(0, .ref q_s), (1, .int x1), (2, .int x2)] := hl
  have J_38 : ∀ (vs : Nat → Int32) (l3 : Int32) (l4 : Int32) (H : Heap) (locs : List Loc) (ls : Array Slot), va_P (my_D Γ) vwCl (wArr117 Γ q_s vs) H → va_D A (wArr117 Γ q_s vs) → va_S A s.heap H locs → lv_has ls 5 [(0, .ref q_s), (3, .int l3), (4, .int l4)] → mX9_rowFrom_J38 vs l3 l4 = (some rr) → W p l e (headSpec wsX9_rowFrom ({ frames := 3, cells := 0, slots := 0, locals := 64 } : Room)).room s m ([.ref q_s, .int x1, .int x2] : List Value).toArray below meth c H locs 0 0 (MQ below (my_Q Γ A (some (.int rr)) (wArr117 Γ q_s vs)) ([.ref q_s, .int x1, .int x2] : List Value).toArray s 0 0 A) (F0 m 38 ls []) := by
    intro  vs l3 l4 H locs ls hP hD hS hl hm
    unfold mX9_rowFrom_J38 at hm
    refine lv_iload hx hb dX9_rowFrom_38 (lv_at hl 2 rfl) ?_
    refine lv_iconst (v := (-1 : Int32)) hx hb dX9_rowFrom_40 (by decide) ?_
    refine lv_icmp_eq (tgt := 52) hx hb dX9_rowFrom_41 (by decide) (fun c_2 => ?_) (fun c_2 => ?_)
    · replace hm := if_s hm c_2
      refine lv_iconst (v := (-1 : Int32)) hx hb dX9_rowFrom_52 (by decide) ?_
      refine lv_goto (tgt := 57) hx hb dX9_rowFrom_53 (by decide) ?_
      obtain hf0 := Option.some.inj hm
      subst hf0
      exact W.iret (v := (-1 : Int32)) hx hb hr (fun t ht hW => ⟨⟨rfl, by rw [ht]; exact hP⟩, hS.F ht⟩) hS.2.2 dX9_rowFrom_57
    · replace hm := if_f hm c_2
      refine lv_aload_n hx hb dX9_rowFrom_44 rfl (lv_at hl 0 rfl) ?_
      refine lv_iload hx hb dX9_rowFrom_45 (lv_at hl 2 rfl) ?_
      obtain ⟨hi_3, hm⟩ := if_in hm
      refine va_iald hx hb hK hP 0 0 rfl rfl hi_3 dX9_rowFrom_47 ?_
      refine lv_iconst (v := (1 : Int32)) hx hb dX9_rowFrom_48 (by decide) ?_
      refine lv_icmp_ne (tgt := 56) hx hb dX9_rowFrom_49 (by decide) (fun c_4 => ?_) (fun c_4 => ?_)
      · replace hm := if_f hm c_4
        refine lv_iload_n hx hb dX9_rowFrom_56 rfl (lv_at hl 1 rfl) ?_
        obtain hf0 := Option.some.inj hm
        subst hf0
        exact W.iret (v := l3) hx hb hr (fun t ht hW => ⟨⟨rfl, by rw [ht]; exact hP⟩, hS.F ht⟩) hS.2.2 dX9_rowFrom_57
      · replace hm := if_s hm c_4
        refine lv_iconst (v := (-1 : Int32)) hx hb dX9_rowFrom_52 (by decide) ?_
        refine lv_goto (tgt := 57) hx hb dX9_rowFrom_53 (by decide) ?_
        obtain hf0 := Option.some.inj hm
        subst hf0
        exact W.iret (v := (-1 : Int32)) hx hb hr (fun t ht hW => ⟨⟨rfl, by rw [ht]; exact hP⟩, hS.F ht⟩) hS.2.2 dX9_rowFrom_57
  have J_9 : ∀ n : Nat, ∀ (vs : Nat → Int32) (l2 : Int32) (l3 : Int32) (l4 : Int32) (H : Heap) (locs : List Loc) (ls : Array Slot), va_P (my_D Γ) vwCl (wArr117 Γ q_s vs) H → va_D A (wArr117 Γ q_s vs) → va_S A s.heap H locs → lv_has ls 5 [(0, .ref q_s), (2, .int l2), (3, .int l3), (4, .int l4)] → mX9_rowFrom_L9 n vs l2 l3 l4 = (some rr) → W p l e (headSpec wsX9_rowFrom ({ frames := 3, cells := 0, slots := 0, locals := 64 } : Room)).room s m ([.ref q_s, .int x1, .int x2] : List Value).toArray below meth c H locs 0 0 (MQ below (my_Q Γ A (some (.int rr)) (wArr117 Γ q_s vs)) ([.ref q_s, .int x1, .int x2] : List Value).toArray s 0 0 A) (F0 m 9 ls []) := by
    intro  n
    induction n with
    | zero => intro vs l2 l3 l4 H locs ls hP hD hS hl hm; cases hm
    | succ n ih =>
      intro vs l2 l3 l4 H locs ls hP hD hS hl hm
      unfold mX9_rowFrom_L9 at hm
      refine lv_iload hx hb dX9_rowFrom_9 (lv_at hl 3 rfl) ?_
      refine lv_iconst (v := (-1 : Int32)) hx hb dX9_rowFrom_11 (by decide) ?_
      refine lv_icmp_eq (tgt := 38) hx hb dX9_rowFrom_12 (by decide) (fun c_1 => ?_) (fun c_1 => ?_)
      · replace hm := if_s hm c_1
        exact J_38 vs l3 l4 _ _ _ hP hD hS (lv_sub hl [0, 2, 3] rfl) hm
      · replace hm := if_f hm c_1
        refine lv_aload_n hx hb dX9_rowFrom_15 rfl (lv_at hl 0 rfl) ?_
        refine lv_iload hx hb dX9_rowFrom_16 (lv_at hl 3 rfl) ?_
        obtain ⟨r_5, hc_6, hm⟩ := bo1_s hm
        refine my_callP1 (wc := (wArr117 Γ q_s vs)) (w1 := (wArr117 Γ q_s vs)) (ws1 := (wArr117 Γ q_s vs)) hP hD hS hA [0] rfl rfl rfl (va_runS (As := [.ref q_s, .int l4]) (rest := []) ⟨hx, hb, hml, hown, hts⟩ (kX9_hasThing l Γ q_s vs l4 r_5 hc_6 _) (va_cwS 2 hts gX9_rowFrom_X9_hasThing rfl rfl rfl (by decide +kernel) ⟨Nat.le_of_ble_eq_true rfl, Nat.le_of_ble_eq_true rfl⟩) (my_preS (wc := (wArr117 Γ q_s vs)) [0] hK hP hD rfl rfl) rfl rfl hl.1 rfl (lv_room (Nat.le_of_ble_eq_true rfl)) dX9_rowFrom_18 ⟨Nat.le_of_ble_eq_true rfl, Nat.le_of_ble_eq_true rfl⟩) (fun H locs hP hD hS => ?_)
        refine lv_if_eq (tgt := 38) hx hb dX9_rowFrom_21 (by decide) (fun c_7 => ?_) (fun c_7 => ?_)
        · replace hm := if_s hm c_7
          exact J_38 vs l3 l4 _ _ _ hP hD hS (lv_sub hl [0, 2, 3] rfl) hm
        · replace hm := if_f hm c_7
          refine lv_iinc (v := (l3 + (1 : Int32))) (lv' := [(3, .int (l3 + (1 : Int32))), (0, .ref q_s), (2, .int l2), (4, .int l4)]) hx hb dX9_rowFrom_24 hl (k := 2) rfl rfl (by decide) rfl (fun ls hl => ?_)
          refine lv_iload hx hb dX9_rowFrom_27 (lv_at hl 3 rfl) ?_
          refine lv_iload_n hx hb dX9_rowFrom_29 rfl (lv_at hl 2 rfl) ?_
          refine my_callP1 (wc := ([] : va_W)) (w1 := ([] : va_W)) (ws1 := (wArr117 Γ q_s vs)) hP hD hS hA [] rfl rfl rfl (va_runS (As := [.int l4, .int l2]) (rest := []) ⟨hx, hb, hml, hown, hts⟩ (kX9_next l Γ l4 l2 (mX9_next l4 l2) rfl _) (va_cwS 2 hts gX9_rowFrom_X9_next rfl rfl rfl (by decide +kernel) ⟨Nat.le_of_ble_eq_true rfl, Nat.le_of_ble_eq_true rfl⟩) (my_preS (wc := ([] : va_W)) [] hK hP hD rfl rfl) rfl rfl hl.1 rfl (lv_room (Nat.le_of_ble_eq_true rfl)) dX9_rowFrom_30 ⟨Nat.le_of_ble_eq_true rfl, Nat.le_of_ble_eq_true rfl⟩) (fun H locs hP hD hS => ?_)
          refine lv_istore (lv' := [(4, .int (mX9_next l4 l2)), (3, .int (l3 + (1 : Int32))), (0, .ref q_s), (2, .int l2)]) hx hb dX9_rowFrom_33 hl (by decide) rfl (fun ls hl => ?_)
          refine lv_goto (tgt := 9) hx hb dX9_rowFrom_35 (by decide) ?_
          exact ih vs l2 (l3 + (1 : Int32)) (mX9_next l4 l2) _ _ _ hP hD hS (lv_sub hl [2, 3, 1, 0] rfl) hm
  unfold mX9_rowFrom at hm
  refine lv_iconst (v := (0 : Int32)) hx hb dX9_rowFrom_0 (by decide) ?_
  refine lv_istore_n (lv' := [(3, .int (0 : Int32)), (0, .ref q_s), (1, .int x1), (2, .int x2)]) hx hb dX9_rowFrom_1 rfl hl (by decide) rfl (fun ls hl => ?_)
  refine lv_iload_n hx hb dX9_rowFrom_2 rfl (lv_at hl 2 rfl) ?_
  refine lv_iload_n hx hb dX9_rowFrom_3 rfl (lv_at hl 3 rfl) ?_
  refine my_callP1 (wc := ([] : va_W)) (w1 := ([] : va_W)) (ws1 := (wArr117 Γ q_s vs)) hP hD hS hA [] rfl rfl rfl (va_runS (As := [.int x1, .int x2]) (rest := []) ⟨hx, hb, hml, hown, hts⟩ (kX9_next l Γ x1 x2 (mX9_next x1 x2) rfl _) (va_cwS 2 hts gX9_rowFrom_X9_next rfl rfl rfl (by decide +kernel) ⟨Nat.le_of_ble_eq_true rfl, Nat.le_of_ble_eq_true rfl⟩) (my_preS (wc := ([] : va_W)) [] hK hP hD rfl rfl) rfl rfl hl.1 rfl (lv_room (Nat.le_of_ble_eq_true rfl)) dX9_rowFrom_4 ⟨Nat.le_of_ble_eq_true rfl, Nat.le_of_ble_eq_true rfl⟩) (fun H locs hP hD hS => ?_)
  refine lv_istore (lv' := [(4, .int (mX9_next x1 x2)), (3, .int (0 : Int32)), (0, .ref q_s), (1, .int x1), (2, .int x2)]) hx hb dX9_rowFrom_7 hl (by decide) rfl (fun ls hl => ?_)
  exact J_9 4096 vs x2 (0 : Int32) (mX9_next x1 x2) _ _ _ hP hD hS (lv_sub hl [2, 4, 1, 0] rfl) hm
def mX9_wants (vs : Nat → Int32) (x1 : Int32) : Option (Int32) := (bo1 (mX9_of vs x1 (8 : Int32)) (fun r_1 => (if r_1 = 0 then (some (-1 : Int32)) else (bo1 (mX9_of vs x1 (7 : Int32)) (fun r_4 => (if ¬ ((((90 : Int32) + ((10 : Int32) * x1)) + r_4) < 0 ∨ 117 ≤ (((90 : Int32) + ((10 : Int32) * x1)) + r_4).toNatClampNeg) then (if (vs (((90 : Int32) + ((10 : Int32) * x1)) + r_4).toNatClampNeg) = 0 then (bo1 (mX9_of vs x1 (1 : Int32)) (fun r_11 => (some r_11))) else (if (vs (((90 : Int32) + ((10 : Int32) * x1)) + r_4).toNatClampNeg) = (1 : Int32) then (bo1 (mX9_of vs x1 (1 : Int32)) (fun r_9 => (some (jrem (r_9 + (2 : Int32)) (4 : Int32))))) else (some (-1 : Int32)))) else none))))))
set_option maxHeartbeats 4000000 in
set_option maxRecDepth 100000 in
theorem kX9_wants (l : Launch) (Γ : my_G) (q_s : Nat) (vs : Nat → Int32) (x1 : Int32) (rr : Int32) (hm : mX9_wants vs x1 = (some rr)) : Mn l yX9_wants wsX9_wants ({ frames := 1, cells := 0, slots := 0, locals := 22 } : Room) Γ [.ref q_s, .int x1] (wArr117 Γ q_s vs) (some (.int rr)) (wArr117 Γ q_s vs) := by
  intro sz
  refine Met.ofW (cc := cX9_wants) (maxL := 3) (ret := (some .int)) (by decide) rfl ?_
  intro p e s m args below meth c s₁ B hml hv
  obtain ⟨rfl, hsz, hP, hK, hD0⟩ := hv
  have hx := B.exec
  have hb := B.bytes
  have hr := B.returns
  have hts := atoms_spec (ws := wsX9_wants) B.pre
  have hown : s.vm.findClass RX9 = some m.cls := findClass_of_methodNamed B.named
  have hlocks := B.notSynchronized
  subst hsz
  have hD := hD0.self (sz := s.heap.size)
  have hA : ∀ q : Nat, s.heap.size ≤ q → va_A (wArr117 Γ q_s vs) s.heap.size q := fun q h => Or.inr h
  generalize va_A (wArr117 Γ q_s vs) s.heap.size = A at hD hA ⊢
  have hS : va_S A s.heap s.heap [] := va_S.rf
  have hl := lv_entry ([.ref q_s, .int x1]) (n := 3) (Nat.le_of_ble_eq_true rfl)
  rw [lg_entry_eq]
  generalize (lg_sl ([.ref q_s, .int x1]) ++ List.replicate (3 - (lg_sl ([.ref q_s, .int x1])).length) Slot.unset).toArray = ls at hl ⊢
  replace hl : lv_has ls 3 [(0, .ref q_s), (1, .int x1)] := hl
  unfold mX9_wants at hm
  refine lv_aload_n hx hb dX9_wants_0 rfl (lv_at hl 0 rfl) ?_
  refine lv_iload_n hx hb dX9_wants_1 rfl (lv_at hl 1 rfl) ?_
  refine lv_bipush (v := (8 : Int32)) hx hb dX9_wants_2 (by decide) ?_
  obtain ⟨r_1, hc_2, hm⟩ := bo1_s hm
  refine my_callP1 (wc := (wArr117 Γ q_s vs)) (w1 := (wArr117 Γ q_s vs)) (ws1 := (wArr117 Γ q_s vs)) hP hD hS hA [0] rfl rfl rfl (va_runS (As := [.ref q_s, .int x1, .int (8 : Int32)]) (rest := []) ⟨hx, hb, hml, hown, hts⟩ (kX9_of l Γ q_s vs x1 (8 : Int32) r_1 hc_2 _) (va_cwS 3 hts gX9_wants_X9_of rfl rfl rfl (by decide +kernel) ⟨Nat.le_of_ble_eq_true rfl, Nat.le_of_ble_eq_true rfl⟩) (my_preS (wc := (wArr117 Γ q_s vs)) [0] hK hP hD rfl rfl) rfl rfl hl.1 rfl (lv_room (Nat.le_of_ble_eq_true rfl)) dX9_wants_4 ⟨Nat.le_of_ble_eq_true rfl, Nat.le_of_ble_eq_true rfl⟩) (fun H locs hP hD hS => ?_)
  refine lv_if_ne (tgt := 12) hx hb dX9_wants_7 (by decide) (fun c_3 => ?_) (fun c_3 => ?_)
  · replace hm := if_f hm c_3
    refine lv_aload_n hx hb dX9_wants_12 rfl (lv_at hl 0 rfl) ?_
    refine lv_bipush (v := (90 : Int32)) hx hb dX9_wants_13 (by decide) ?_
    refine lv_bipush (v := (10 : Int32)) hx hb dX9_wants_15 (by decide) ?_
    refine lv_iload_n hx hb dX9_wants_17 rfl (lv_at hl 1 rfl) ?_
    refine lv_imul hx hb dX9_wants_18 ?_
    refine lv_iadd hx hb dX9_wants_19 ?_
    refine lv_aload_n hx hb dX9_wants_20 rfl (lv_at hl 0 rfl) ?_
    refine lv_iload_n hx hb dX9_wants_21 rfl (lv_at hl 1 rfl) ?_
    refine lv_bipush (v := (7 : Int32)) hx hb dX9_wants_22 (by decide) ?_
    obtain ⟨r_4, hc_5, hm⟩ := bo1_s hm
    refine my_callP1 (wc := (wArr117 Γ q_s vs)) (w1 := (wArr117 Γ q_s vs)) (ws1 := (wArr117 Γ q_s vs)) hP hD hS hA [0] rfl rfl rfl (va_runS (As := [.ref q_s, .int x1, .int (7 : Int32)]) (rest := [.int ((90 : Int32) + ((10 : Int32) * x1)), .ref q_s]) ⟨hx, hb, hml, hown, hts⟩ (kX9_of l Γ q_s vs x1 (7 : Int32) r_4 hc_5 _) (va_cwS 3 hts gX9_wants_X9_of rfl rfl rfl (by decide +kernel) ⟨Nat.le_of_ble_eq_true rfl, Nat.le_of_ble_eq_true rfl⟩) (my_preS (wc := (wArr117 Γ q_s vs)) [0] hK hP hD rfl rfl) rfl rfl hl.1 rfl (lv_room (Nat.le_of_ble_eq_true rfl)) dX9_wants_24 ⟨Nat.le_of_ble_eq_true rfl, Nat.le_of_ble_eq_true rfl⟩) (fun H locs hP hD hS => ?_)
    refine lv_iadd hx hb dX9_wants_27 ?_
    obtain ⟨hi_6, hm⟩ := if_in hm
    refine va_iald hx hb hK hP 0 0 rfl rfl hi_6 dX9_wants_28 ?_
    refine lv_istore_n (lv' := [(2, .int (vs (((90 : Int32) + ((10 : Int32) * x1)) + r_4).toNatClampNeg)), (0, .ref q_s), (1, .int x1)]) hx hb dX9_wants_29 rfl hl (by decide) rfl (fun ls hl => ?_)
    refine lv_iload_n hx hb dX9_wants_30 rfl (lv_at hl 0 rfl) ?_
    refine lv_if_ne (tgt := 43) hx hb dX9_wants_31 (by decide) (fun c_7 => ?_) (fun c_7 => ?_)
    · replace hm := if_f hm c_7
      refine lv_iload_n hx hb dX9_wants_43 rfl (lv_at hl 0 rfl) ?_
      refine lv_iconst (v := (1 : Int32)) hx hb dX9_wants_44 (by decide) ?_
      refine lv_icmp_ne (tgt := 61) hx hb dX9_wants_45 (by decide) (fun c_8 => ?_) (fun c_8 => ?_)
      · replace hm := if_f hm c_8
        refine lv_iconst (v := (-1 : Int32)) hx hb dX9_wants_61 (by decide) ?_
        obtain hf0 := Option.some.inj hm
        subst hf0
        exact W.iret (v := (-1 : Int32)) hx hb hr (fun t ht hW => ⟨⟨rfl, by rw [ht]; exact hP⟩, hS.F ht⟩) hS.2.2 dX9_wants_62
      · replace hm := if_s hm c_8
        refine lv_aload_n hx hb dX9_wants_48 rfl (lv_at hl 1 rfl) ?_
        refine lv_iload_n hx hb dX9_wants_49 rfl (lv_at hl 2 rfl) ?_
        refine lv_iconst (v := (1 : Int32)) hx hb dX9_wants_50 (by decide) ?_
        obtain ⟨r_9, hc_10, hm⟩ := bo1_s hm
        refine my_callP1 (wc := (wArr117 Γ q_s vs)) (w1 := (wArr117 Γ q_s vs)) (ws1 := (wArr117 Γ q_s vs)) hP hD hS hA [0] rfl rfl rfl (va_runS (As := [.ref q_s, .int x1, .int (1 : Int32)]) (rest := []) ⟨hx, hb, hml, hown, hts⟩ (kX9_of l Γ q_s vs x1 (1 : Int32) r_9 hc_10 _) (va_cwS 3 hts gX9_wants_X9_of rfl rfl rfl (by decide +kernel) ⟨Nat.le_of_ble_eq_true rfl, Nat.le_of_ble_eq_true rfl⟩) (my_preS (wc := (wArr117 Γ q_s vs)) [0] hK hP hD rfl rfl) rfl rfl hl.1 rfl (lv_room (Nat.le_of_ble_eq_true rfl)) dX9_wants_51 ⟨Nat.le_of_ble_eq_true rfl, Nat.le_of_ble_eq_true rfl⟩) (fun H locs hP hD hS => ?_)
        refine lv_iconst (v := (2 : Int32)) hx hb dX9_wants_54 (by decide) ?_
        refine lv_iadd hx hb dX9_wants_55 ?_
        refine lv_iconst (v := (4 : Int32)) hx hb dX9_wants_56 (by decide) ?_
        refine my_irem hx hb dX9_wants_57 (by decide) ?_
        refine lv_goto (tgt := 62) hx hb dX9_wants_58 (by decide) ?_
        obtain hf0 := Option.some.inj hm
        subst hf0
        exact W.iret (v := (jrem (r_9 + (2 : Int32)) (4 : Int32))) hx hb hr (fun t ht hW => ⟨⟨rfl, by rw [ht]; exact hP⟩, hS.F ht⟩) hS.2.2 dX9_wants_62
    · replace hm := if_s hm c_7
      refine lv_aload_n hx hb dX9_wants_34 rfl (lv_at hl 1 rfl) ?_
      refine lv_iload_n hx hb dX9_wants_35 rfl (lv_at hl 2 rfl) ?_
      refine lv_iconst (v := (1 : Int32)) hx hb dX9_wants_36 (by decide) ?_
      obtain ⟨r_11, hc_12, hm⟩ := bo1_s hm
      refine my_callP1 (wc := (wArr117 Γ q_s vs)) (w1 := (wArr117 Γ q_s vs)) (ws1 := (wArr117 Γ q_s vs)) hP hD hS hA [0] rfl rfl rfl (va_runS (As := [.ref q_s, .int x1, .int (1 : Int32)]) (rest := []) ⟨hx, hb, hml, hown, hts⟩ (kX9_of l Γ q_s vs x1 (1 : Int32) r_11 hc_12 _) (va_cwS 3 hts gX9_wants_X9_of rfl rfl rfl (by decide +kernel) ⟨Nat.le_of_ble_eq_true rfl, Nat.le_of_ble_eq_true rfl⟩) (my_preS (wc := (wArr117 Γ q_s vs)) [0] hK hP hD rfl rfl) rfl rfl hl.1 rfl (lv_room (Nat.le_of_ble_eq_true rfl)) dX9_wants_37 ⟨Nat.le_of_ble_eq_true rfl, Nat.le_of_ble_eq_true rfl⟩) (fun H locs hP hD hS => ?_)
      refine lv_goto (tgt := 62) hx hb dX9_wants_40 (by decide) ?_
      obtain hf0 := Option.some.inj hm
      subst hf0
      exact W.iret (v := r_11) hx hb hr (fun t ht hW => ⟨⟨rfl, by rw [ht]; exact hP⟩, hS.F ht⟩) hS.2.2 dX9_wants_62
  · replace hm := if_s hm c_3
    refine lv_iconst (v := (-1 : Int32)) hx hb dX9_wants_10 (by decide) ?_
    obtain hf0 := Option.some.inj hm
    subst hf0
    exact W.iret (v := (-1 : Int32)) hx hb hr (fun t ht hW => ⟨⟨rfl, by rw [ht]; exact hP⟩, hS.F ht⟩) hS.2.2 dX9_wants_11
def mX9_carry (vs : Nat → Int32) (x1 : Int32) (x2 : Int32) : Option ((Nat → Int32)) := (bo1 (mX9_robotAt vs x1) (fun r_1 => (if r_1 = (-1 : Int32) then (if ¬ (((36 : Int32) + x1) < 0 ∨ 117 ≤ ((36 : Int32) + x1).toNatClampNeg) then (if ¬ (((36 : Int32) + x2) < 0 ∨ 117 ≤ ((36 : Int32) + x2).toNatClampNeg) then (some (upd (upd vs ((36 : Int32) + x1).toNatClampNeg (0 : Int32)) ((36 : Int32) + x2).toNatClampNeg (1 : Int32))) else none) else none) else (bo1 (mX9_puts vs r_1 (0 : Int32) x2) (fun vs_6 => (some vs_6))))))
set_option maxHeartbeats 4000000 in
set_option maxRecDepth 100000 in
theorem kX9_carry (l : Launch) (Γ : my_G) (q_s : Nat) (vs : Nat → Int32) (x1 : Int32) (x2 : Int32) (vs_z : Nat → Int32) (hm : mX9_carry vs x1 x2 = (some vs_z)) : Mn l yX9_carry wsX9_carry ({ frames := 2, cells := 0, slots := 0, locals := 43 } : Room) Γ [.ref q_s, .int x1, .int x2] (wArr117 Γ q_s vs) none (wArr117 Γ q_s vs_z) := by
  intro sz
  refine Met.ofW (cc := cX9_carry) (maxL := 4) (ret := none) (by decide) rfl ?_
  intro p e s m args below meth c s₁ B hml hv
  obtain ⟨rfl, hsz, hP, hK, hD0⟩ := hv
  have hx := B.exec
  have hb := B.bytes
  have hr := B.returns
  have hts := atoms_spec (ws := wsX9_carry) B.pre
  have hown : s.vm.findClass RX9 = some m.cls := findClass_of_methodNamed B.named
  have hlocks := B.notSynchronized
  subst hsz
  have hD := hD0.self (sz := s.heap.size)
  have hA : ∀ q : Nat, s.heap.size ≤ q → va_A (wArr117 Γ q_s vs) s.heap.size q := fun q h => Or.inr h
  generalize va_A (wArr117 Γ q_s vs) s.heap.size = A at hD hA ⊢
  have hS : va_S A s.heap s.heap [] := va_S.rf
  have hl := lv_entry ([.ref q_s, .int x1, .int x2]) (n := 4) (Nat.le_of_ble_eq_true rfl)
  rw [lg_entry_eq]
  generalize (lg_sl ([.ref q_s, .int x1, .int x2]) ++ List.replicate (4 - (lg_sl ([.ref q_s, .int x1, .int x2])).length) Slot.unset).toArray = ls at hl ⊢
  replace hl : lv_has ls 4 [(0, .ref q_s), (1, .int x1), (2, .int x2)] := hl
  unfold mX9_carry at hm
  refine lv_aload_n hx hb dX9_carry_0 rfl (lv_at hl 0 rfl) ?_
  refine lv_iload_n hx hb dX9_carry_1 rfl (lv_at hl 1 rfl) ?_
  obtain ⟨r_1, hc_2, hm⟩ := bo1_s hm
  refine my_callP1 (wc := (wArr117 Γ q_s vs)) (w1 := (wArr117 Γ q_s vs)) (ws1 := (wArr117 Γ q_s vs)) hP hD hS hA [0] rfl rfl rfl (va_runS (As := [.ref q_s, .int x1]) (rest := []) ⟨hx, hb, hml, hown, hts⟩ (kX9_robotAt l Γ q_s vs x1 r_1 hc_2 _) (va_cwS 2 hts gX9_carry_X9_robotAt rfl rfl rfl (by decide +kernel) ⟨Nat.le_of_ble_eq_true rfl, Nat.le_of_ble_eq_true rfl⟩) (my_preS (wc := (wArr117 Γ q_s vs)) [0] hK hP hD rfl rfl) rfl rfl hl.1 rfl (lv_room (Nat.le_of_ble_eq_true rfl)) dX9_carry_2 ⟨Nat.le_of_ble_eq_true rfl, Nat.le_of_ble_eq_true rfl⟩) (fun H locs hP hD hS => ?_)
  refine lv_istore_n (lv' := [(3, .int r_1), (0, .ref q_s), (1, .int x1), (2, .int x2)]) hx hb dX9_carry_5 rfl hl (by decide) rfl (fun ls hl => ?_)
  refine lv_iload_n hx hb dX9_carry_6 rfl (lv_at hl 0 rfl) ?_
  refine lv_iconst (v := (-1 : Int32)) hx hb dX9_carry_7 (by decide) ?_
  refine lv_icmp_eq (tgt := 21) hx hb dX9_carry_8 (by decide) (fun c_3 => ?_) (fun c_3 => ?_)
  · replace hm := if_s hm c_3
    refine lv_aload_n hx hb dX9_carry_21 rfl (lv_at hl 1 rfl) ?_
    refine lv_bipush (v := (36 : Int32)) hx hb dX9_carry_22 (by decide) ?_
    refine lv_iload_n hx hb dX9_carry_24 rfl (lv_at hl 2 rfl) ?_
    refine lv_iadd hx hb dX9_carry_25 ?_
    refine lv_iconst (v := (0 : Int32)) hx hb dX9_carry_26 (by decide) ?_
    obtain ⟨hi_4, hm⟩ := if_in hm
    refine va_iast hx hb hK hP hD hS 0 0 rfl rfl hi_4 dX9_carry_27 (fun H locs hP hD hS => ?_)
    replace hP : va_P (my_D Γ) vwCl (wArr117 Γ q_s (upd vs ((36 : Int32) + x1).toNatClampNeg (0 : Int32))) H := hP
    replace hD : va_D A (wArr117 Γ q_s (upd vs ((36 : Int32) + x1).toNatClampNeg (0 : Int32))) := hD
    refine lv_aload_n hx hb dX9_carry_28 rfl (lv_at hl 1 rfl) ?_
    refine lv_bipush (v := (36 : Int32)) hx hb dX9_carry_29 (by decide) ?_
    refine lv_iload_n hx hb dX9_carry_31 rfl (lv_at hl 3 rfl) ?_
    refine lv_iadd hx hb dX9_carry_32 ?_
    refine lv_iconst (v := (1 : Int32)) hx hb dX9_carry_33 (by decide) ?_
    obtain ⟨hi_5, hm⟩ := if_in hm
    refine va_iast hx hb hK hP hD hS 0 0 rfl rfl hi_5 dX9_carry_34 (fun H locs hP hD hS => ?_)
    replace hP : va_P (my_D Γ) vwCl (wArr117 Γ q_s (upd (upd vs ((36 : Int32) + x1).toNatClampNeg (0 : Int32)) ((36 : Int32) + x2).toNatClampNeg (1 : Int32))) H := hP
    replace hD : va_D A (wArr117 Γ q_s (upd (upd vs ((36 : Int32) + x1).toNatClampNeg (0 : Int32)) ((36 : Int32) + x2).toNatClampNeg (1 : Int32))) := hD
    obtain hf0 := Option.some.inj hm
    subst hf0
    exact W.vret hx hb hr (fun t ht hW => ⟨⟨rfl, by rw [ht]; exact hP⟩, hS.F ht⟩) hS.2.2 dX9_carry_35
  · replace hm := if_f hm c_3
    refine lv_aload_n hx hb dX9_carry_11 rfl (lv_at hl 1 rfl) ?_
    refine lv_iload_n hx hb dX9_carry_12 rfl (lv_at hl 0 rfl) ?_
    refine lv_iconst (v := (0 : Int32)) hx hb dX9_carry_13 (by decide) ?_
    refine lv_iload_n hx hb dX9_carry_14 rfl (lv_at hl 3 rfl) ?_
    obtain ⟨vs_6, hc_7, hm⟩ := bo1_s hm
    refine my_callP0 (wc := (wArr117 Γ q_s vs)) (w1 := (wArr117 Γ q_s vs_6)) (ws1 := (wArr117 Γ q_s vs_6)) hP hD hS hA [0] rfl rfl rfl (va_runS (As := [.ref q_s, .int r_1, .int (0 : Int32), .int x2]) (rest := []) ⟨hx, hb, hml, hown, hts⟩ (kX9_puts l Γ q_s vs r_1 (0 : Int32) x2 vs_6 hc_7 _) (va_cwS 4 hts gX9_carry_X9_puts rfl rfl rfl (by decide +kernel) ⟨Nat.le_of_ble_eq_true rfl, Nat.le_of_ble_eq_true rfl⟩) (my_preS (wc := (wArr117 Γ q_s vs)) [0] hK hP hD rfl rfl) rfl rfl hl.1 rfl (lv_room (Nat.le_of_ble_eq_true rfl)) dX9_carry_15 ⟨Nat.le_of_ble_eq_true rfl, Nat.le_of_ble_eq_true rfl⟩) (fun H locs hP hD hS => ?_)
    refine lv_goto (tgt := 35) hx hb dX9_carry_18 (by decide) ?_
    obtain hf0 := Option.some.inj hm
    subst hf0
    exact W.vret hx hb hr (fun t ht hW => ⟨⟨rfl, by rw [ht]; exact hP⟩, hS.F ht⟩) hS.2.2 dX9_carry_35
def mX9_turns_J56  (vs : Nat → Int32) (l1 : Int32) (s0 : Int32) : Option ((Nat → Int32)) := (bo1 (mX9_of vs l1 (1 : Int32)) (fun r_10 => (bo1 (mX9_puts vs l1 (1 : Int32) (jrem (r_10 + s0) (4 : Int32))) (fun vs_12 => (bo1 (mX9_of vs_12 l1 (7 : Int32)) (fun r_14 => (bo1 (mX9_of vs_12 l1 (8 : Int32)) (fun r_16 => (if r_16 = 0 then none else (bo1 (mX9_puts vs_12 l1 (7 : Int32) (jrem (r_14 + (1 : Int32)) r_16)) (fun vs_19 => (some vs_19))))))))))))
def mX9_turns (vs : Nat → Int32) (x1 : Int32) : Option ((Nat → Int32)) := (bo1 (mX9_of vs x1 (8 : Int32)) (fun r_1 => (if r_1 ≤ 0 then (some vs) else (bo1 (mX9_of vs x1 (7 : Int32)) (fun r_4 => (if ¬ ((((90 : Int32) + ((10 : Int32) * x1)) + r_4) < 0 ∨ 117 ≤ (((90 : Int32) + ((10 : Int32) * x1)) + r_4).toNatClampNeg) then (if (vs (((90 : Int32) + ((10 : Int32) * x1)) + r_4).toNatClampNeg) = (2 : Int32) then (mX9_turns_J56 vs x1 (3 : Int32)) else (if (vs (((90 : Int32) + ((10 : Int32) * x1)) + r_4).toNatClampNeg) = (3 : Int32) then (mX9_turns_J56 vs x1 (1 : Int32)) else (if (vs (((90 : Int32) + ((10 : Int32) * x1)) + r_4).toNatClampNeg) = (4 : Int32) then (mX9_turns_J56 vs x1 (2 : Int32)) else (mX9_turns_J56 vs x1 (0 : Int32))))) else none))))))
set_option maxHeartbeats 4000000 in
set_option maxRecDepth 100000 in
theorem kX9_turns (l : Launch) (Γ : my_G) (q_s : Nat) (vs : Nat → Int32) (x1 : Int32) (vs_z : Nat → Int32) (hm : mX9_turns vs x1 = (some vs_z)) : Mn l yX9_turns wsX9_turns ({ frames := 1, cells := 0, slots := 0, locals := 23 } : Room) Γ [.ref q_s, .int x1] (wArr117 Γ q_s vs) none (wArr117 Γ q_s vs_z) := by
  intro sz
  refine Met.ofW (cc := cX9_turns) (maxL := 4) (ret := none) (by decide) rfl ?_
  intro p e s m args below meth c s₁ B hml hv
  obtain ⟨rfl, hsz, hP, hK, hD0⟩ := hv
  have hx := B.exec
  have hb := B.bytes
  have hr := B.returns
  have hts := atoms_spec (ws := wsX9_turns) B.pre
  have hown : s.vm.findClass RX9 = some m.cls := findClass_of_methodNamed B.named
  have hlocks := B.notSynchronized
  subst hsz
  have hD := hD0.self (sz := s.heap.size)
  have hA : ∀ q : Nat, s.heap.size ≤ q → va_A (wArr117 Γ q_s vs) s.heap.size q := fun q h => Or.inr h
  generalize va_A (wArr117 Γ q_s vs) s.heap.size = A at hD hA ⊢
  have hS : va_S A s.heap s.heap [] := va_S.rf
  have hl := lv_entry ([.ref q_s, .int x1]) (n := 4) (Nat.le_of_ble_eq_true rfl)
  rw [lg_entry_eq]
  generalize (lg_sl ([.ref q_s, .int x1]) ++ List.replicate (4 - (lg_sl ([.ref q_s, .int x1])).length) Slot.unset).toArray = ls at hl ⊢
  replace hl : lv_has ls 4 [(0, .ref q_s), (1, .int x1)] := hl
  have J_56 : ∀ (vs : Nat → Int32) (l1 : Int32) (s0 : Int32) (H : Heap) (locs : List Loc) (ls : Array Slot), va_P (my_D Γ) vwCl (wArr117 Γ q_s vs) H → va_D A (wArr117 Γ q_s vs) → va_S A s.heap H locs → lv_has ls 4 [(0, .ref q_s), (1, .int l1)] → mX9_turns_J56 vs l1 s0 = (some vs_z) → W p l e (headSpec wsX9_turns ({ frames := 1, cells := 0, slots := 0, locals := 23 } : Room)).room s m ([.ref q_s, .int x1] : List Value).toArray below meth c H locs 0 0 (MQ below (my_Q Γ A none (wArr117 Γ q_s vs_z)) ([.ref q_s, .int x1] : List Value).toArray s 0 0 A) (F0 m 56 ls [.int s0]) := by
    intro  vs l1 s0 H locs ls hP hD hS hl hm
    unfold mX9_turns_J56 at hm
    refine lv_istore_n (lv' := [(3, .int s0), (0, .ref q_s), (1, .int l1)]) hx hb dX9_turns_56 rfl hl (by decide) rfl (fun ls hl => ?_)
    refine lv_aload_n hx hb dX9_turns_57 rfl (lv_at hl 1 rfl) ?_
    refine lv_iload_n hx hb dX9_turns_58 rfl (lv_at hl 2 rfl) ?_
    refine lv_iconst (v := (1 : Int32)) hx hb dX9_turns_59 (by decide) ?_
    refine lv_aload_n hx hb dX9_turns_60 rfl (lv_at hl 1 rfl) ?_
    refine lv_iload_n hx hb dX9_turns_61 rfl (lv_at hl 2 rfl) ?_
    refine lv_iconst (v := (1 : Int32)) hx hb dX9_turns_62 (by decide) ?_
    obtain ⟨r_10, hc_11, hm⟩ := bo1_s hm
    refine my_callP1 (wc := (wArr117 Γ q_s vs)) (w1 := (wArr117 Γ q_s vs)) (ws1 := (wArr117 Γ q_s vs)) hP hD hS hA [0] rfl rfl rfl (va_runS (As := [.ref q_s, .int l1, .int (1 : Int32)]) (rest := [.int (1 : Int32), .int l1, .ref q_s]) ⟨hx, hb, hml, hown, hts⟩ (kX9_of l Γ q_s vs l1 (1 : Int32) r_10 hc_11 _) (va_cwS 3 hts gX9_turns_X9_of rfl rfl rfl (by decide +kernel) ⟨Nat.le_of_ble_eq_true rfl, Nat.le_of_ble_eq_true rfl⟩) (my_preS (wc := (wArr117 Γ q_s vs)) [0] hK hP hD rfl rfl) rfl rfl hl.1 rfl (lv_room (Nat.le_of_ble_eq_true rfl)) dX9_turns_63 ⟨Nat.le_of_ble_eq_true rfl, Nat.le_of_ble_eq_true rfl⟩) (fun H locs hP hD hS => ?_)
    refine lv_iload_n hx hb dX9_turns_66 rfl (lv_at hl 0 rfl) ?_
    refine lv_iadd hx hb dX9_turns_67 ?_
    refine lv_iconst (v := (4 : Int32)) hx hb dX9_turns_68 (by decide) ?_
    refine my_irem hx hb dX9_turns_69 (by decide) ?_
    obtain ⟨vs_12, hc_13, hm⟩ := bo1_s hm
    refine my_callP0 (wc := (wArr117 Γ q_s vs)) (w1 := (wArr117 Γ q_s vs_12)) (ws1 := (wArr117 Γ q_s vs_12)) hP hD hS hA [0] rfl rfl rfl (va_runS (As := [.ref q_s, .int l1, .int (1 : Int32), .int (jrem (r_10 + s0) (4 : Int32))]) (rest := []) ⟨hx, hb, hml, hown, hts⟩ (kX9_puts l Γ q_s vs l1 (1 : Int32) (jrem (r_10 + s0) (4 : Int32)) vs_12 hc_13 _) (va_cwS 4 hts gX9_turns_X9_puts rfl rfl rfl (by decide +kernel) ⟨Nat.le_of_ble_eq_true rfl, Nat.le_of_ble_eq_true rfl⟩) (my_preS (wc := (wArr117 Γ q_s vs)) [0] hK hP hD rfl rfl) rfl rfl hl.1 rfl (lv_room (Nat.le_of_ble_eq_true rfl)) dX9_turns_70 ⟨Nat.le_of_ble_eq_true rfl, Nat.le_of_ble_eq_true rfl⟩) (fun H locs hP hD hS => ?_)
    refine lv_aload_n hx hb dX9_turns_73 rfl (lv_at hl 1 rfl) ?_
    refine lv_iload_n hx hb dX9_turns_74 rfl (lv_at hl 2 rfl) ?_
    refine lv_bipush (v := (7 : Int32)) hx hb dX9_turns_75 (by decide) ?_
    refine lv_aload_n hx hb dX9_turns_77 rfl (lv_at hl 1 rfl) ?_
    refine lv_iload_n hx hb dX9_turns_78 rfl (lv_at hl 2 rfl) ?_
    refine lv_bipush (v := (7 : Int32)) hx hb dX9_turns_79 (by decide) ?_
    obtain ⟨r_14, hc_15, hm⟩ := bo1_s hm
    refine my_callP1 (wc := (wArr117 Γ q_s vs_12)) (w1 := (wArr117 Γ q_s vs_12)) (ws1 := (wArr117 Γ q_s vs_12)) hP hD hS hA [0] rfl rfl rfl (va_runS (As := [.ref q_s, .int l1, .int (7 : Int32)]) (rest := [.int (7 : Int32), .int l1, .ref q_s]) ⟨hx, hb, hml, hown, hts⟩ (kX9_of l Γ q_s vs_12 l1 (7 : Int32) r_14 hc_15 _) (va_cwS 3 hts gX9_turns_X9_of rfl rfl rfl (by decide +kernel) ⟨Nat.le_of_ble_eq_true rfl, Nat.le_of_ble_eq_true rfl⟩) (my_preS (wc := (wArr117 Γ q_s vs_12)) [0] hK hP hD rfl rfl) rfl rfl hl.1 rfl (lv_room (Nat.le_of_ble_eq_true rfl)) dX9_turns_81 ⟨Nat.le_of_ble_eq_true rfl, Nat.le_of_ble_eq_true rfl⟩) (fun H locs hP hD hS => ?_)
    refine lv_iconst (v := (1 : Int32)) hx hb dX9_turns_84 (by decide) ?_
    refine lv_iadd hx hb dX9_turns_85 ?_
    refine lv_aload_n hx hb dX9_turns_86 rfl (lv_at hl 1 rfl) ?_
    refine lv_iload_n hx hb dX9_turns_87 rfl (lv_at hl 2 rfl) ?_
    refine lv_bipush (v := (8 : Int32)) hx hb dX9_turns_88 (by decide) ?_
    obtain ⟨r_16, hc_17, hm⟩ := bo1_s hm
    refine my_callP1 (wc := (wArr117 Γ q_s vs_12)) (w1 := (wArr117 Γ q_s vs_12)) (ws1 := (wArr117 Γ q_s vs_12)) hP hD hS hA [0] rfl rfl rfl (va_runS (As := [.ref q_s, .int l1, .int (8 : Int32)]) (rest := [.int (r_14 + (1 : Int32)), .int (7 : Int32), .int l1, .ref q_s]) ⟨hx, hb, hml, hown, hts⟩ (kX9_of l Γ q_s vs_12 l1 (8 : Int32) r_16 hc_17 _) (va_cwS 3 hts gX9_turns_X9_of rfl rfl rfl (by decide +kernel) ⟨Nat.le_of_ble_eq_true rfl, Nat.le_of_ble_eq_true rfl⟩) (my_preS (wc := (wArr117 Γ q_s vs_12)) [0] hK hP hD rfl rfl) rfl rfl hl.1 rfl (lv_room (Nat.le_of_ble_eq_true rfl)) dX9_turns_90 ⟨Nat.le_of_ble_eq_true rfl, Nat.le_of_ble_eq_true rfl⟩) (fun H locs hP hD hS => ?_)
    obtain ⟨hz_18, hm⟩ := if_no hm
    refine my_irem hx hb dX9_turns_93 hz_18 ?_
    obtain ⟨vs_19, hc_20, hm⟩ := bo1_s hm
    refine my_callP0 (wc := (wArr117 Γ q_s vs_12)) (w1 := (wArr117 Γ q_s vs_19)) (ws1 := (wArr117 Γ q_s vs_19)) hP hD hS hA [0] rfl rfl rfl (va_runS (As := [.ref q_s, .int l1, .int (7 : Int32), .int (jrem (r_14 + (1 : Int32)) r_16)]) (rest := []) ⟨hx, hb, hml, hown, hts⟩ (kX9_puts l Γ q_s vs_12 l1 (7 : Int32) (jrem (r_14 + (1 : Int32)) r_16) vs_19 hc_20 _) (va_cwS 4 hts gX9_turns_X9_puts rfl rfl rfl (by decide +kernel) ⟨Nat.le_of_ble_eq_true rfl, Nat.le_of_ble_eq_true rfl⟩) (my_preS (wc := (wArr117 Γ q_s vs_12)) [0] hK hP hD rfl rfl) rfl rfl hl.1 rfl (lv_room (Nat.le_of_ble_eq_true rfl)) dX9_turns_94 ⟨Nat.le_of_ble_eq_true rfl, Nat.le_of_ble_eq_true rfl⟩) (fun H locs hP hD hS => ?_)
    obtain hf0 := Option.some.inj hm
    subst hf0
    exact W.vret hx hb hr (fun t ht hW => ⟨⟨rfl, by rw [ht]; exact hP⟩, hS.F ht⟩) hS.2.2 dX9_turns_97
  unfold mX9_turns at hm
  refine lv_aload_n hx hb dX9_turns_0 rfl (lv_at hl 0 rfl) ?_
  refine lv_iload_n hx hb dX9_turns_1 rfl (lv_at hl 1 rfl) ?_
  refine lv_bipush (v := (8 : Int32)) hx hb dX9_turns_2 (by decide) ?_
  obtain ⟨r_1, hc_2, hm⟩ := bo1_s hm
  refine my_callP1 (wc := (wArr117 Γ q_s vs)) (w1 := (wArr117 Γ q_s vs)) (ws1 := (wArr117 Γ q_s vs)) hP hD hS hA [0] rfl rfl rfl (va_runS (As := [.ref q_s, .int x1, .int (8 : Int32)]) (rest := []) ⟨hx, hb, hml, hown, hts⟩ (kX9_of l Γ q_s vs x1 (8 : Int32) r_1 hc_2 _) (va_cwS 3 hts gX9_turns_X9_of rfl rfl rfl (by decide +kernel) ⟨Nat.le_of_ble_eq_true rfl, Nat.le_of_ble_eq_true rfl⟩) (my_preS (wc := (wArr117 Γ q_s vs)) [0] hK hP hD rfl rfl) rfl rfl hl.1 rfl (lv_room (Nat.le_of_ble_eq_true rfl)) dX9_turns_4 ⟨Nat.le_of_ble_eq_true rfl, Nat.le_of_ble_eq_true rfl⟩) (fun H locs hP hD hS => ?_)
  refine lv_if_le (tgt := 97) hx hb dX9_turns_7 (by decide) (fun c_3 => ?_) (fun c_3 => ?_)
  · replace hm := if_s hm c_3
    obtain hf0 := Option.some.inj hm
    subst hf0
    exact W.vret hx hb hr (fun t ht hW => ⟨⟨rfl, by rw [ht]; exact hP⟩, hS.F ht⟩) hS.2.2 dX9_turns_97
  · replace hm := if_f hm c_3
    refine lv_aload_n hx hb dX9_turns_10 rfl (lv_at hl 0 rfl) ?_
    refine lv_bipush (v := (90 : Int32)) hx hb dX9_turns_11 (by decide) ?_
    refine lv_bipush (v := (10 : Int32)) hx hb dX9_turns_13 (by decide) ?_
    refine lv_iload_n hx hb dX9_turns_15 rfl (lv_at hl 1 rfl) ?_
    refine lv_imul hx hb dX9_turns_16 ?_
    refine lv_iadd hx hb dX9_turns_17 ?_
    refine lv_aload_n hx hb dX9_turns_18 rfl (lv_at hl 0 rfl) ?_
    refine lv_iload_n hx hb dX9_turns_19 rfl (lv_at hl 1 rfl) ?_
    refine lv_bipush (v := (7 : Int32)) hx hb dX9_turns_20 (by decide) ?_
    obtain ⟨r_4, hc_5, hm⟩ := bo1_s hm
    refine my_callP1 (wc := (wArr117 Γ q_s vs)) (w1 := (wArr117 Γ q_s vs)) (ws1 := (wArr117 Γ q_s vs)) hP hD hS hA [0] rfl rfl rfl (va_runS (As := [.ref q_s, .int x1, .int (7 : Int32)]) (rest := [.int ((90 : Int32) + ((10 : Int32) * x1)), .ref q_s]) ⟨hx, hb, hml, hown, hts⟩ (kX9_of l Γ q_s vs x1 (7 : Int32) r_4 hc_5 _) (va_cwS 3 hts gX9_turns_X9_of rfl rfl rfl (by decide +kernel) ⟨Nat.le_of_ble_eq_true rfl, Nat.le_of_ble_eq_true rfl⟩) (my_preS (wc := (wArr117 Γ q_s vs)) [0] hK hP hD rfl rfl) rfl rfl hl.1 rfl (lv_room (Nat.le_of_ble_eq_true rfl)) dX9_turns_22 ⟨Nat.le_of_ble_eq_true rfl, Nat.le_of_ble_eq_true rfl⟩) (fun H locs hP hD hS => ?_)
    refine lv_iadd hx hb dX9_turns_25 ?_
    obtain ⟨hi_6, hm⟩ := if_in hm
    refine va_iald hx hb hK hP 0 0 rfl rfl hi_6 dX9_turns_26 ?_
    refine lv_istore_n (lv' := [(2, .int (vs (((90 : Int32) + ((10 : Int32) * x1)) + r_4).toNatClampNeg)), (0, .ref q_s), (1, .int x1)]) hx hb dX9_turns_27 rfl hl (by decide) rfl (fun ls hl => ?_)
    refine lv_iload_n hx hb dX9_turns_28 rfl (lv_at hl 0 rfl) ?_
    refine lv_iconst (v := (2 : Int32)) hx hb dX9_turns_29 (by decide) ?_
    refine lv_icmp_ne (tgt := 37) hx hb dX9_turns_30 (by decide) (fun c_7 => ?_) (fun c_7 => ?_)
    · replace hm := if_f hm c_7
      refine lv_iload_n hx hb dX9_turns_37 rfl (lv_at hl 0 rfl) ?_
      refine lv_iconst (v := (3 : Int32)) hx hb dX9_turns_38 (by decide) ?_
      refine lv_icmp_ne (tgt := 46) hx hb dX9_turns_39 (by decide) (fun c_8 => ?_) (fun c_8 => ?_)
      · replace hm := if_f hm c_8
        refine lv_iload_n hx hb dX9_turns_46 rfl (lv_at hl 0 rfl) ?_
        refine lv_iconst (v := (4 : Int32)) hx hb dX9_turns_47 (by decide) ?_
        refine lv_icmp_ne (tgt := 55) hx hb dX9_turns_48 (by decide) (fun c_9 => ?_) (fun c_9 => ?_)
        · replace hm := if_f hm c_9
          refine lv_iconst (v := (0 : Int32)) hx hb dX9_turns_55 (by decide) ?_
          exact J_56 vs x1 (0 : Int32) _ _ _ hP hD hS (lv_sub hl [1, 2] rfl) hm
        · replace hm := if_s hm c_9
          refine lv_iconst (v := (2 : Int32)) hx hb dX9_turns_51 (by decide) ?_
          refine lv_goto (tgt := 56) hx hb dX9_turns_52 (by decide) ?_
          exact J_56 vs x1 (2 : Int32) _ _ _ hP hD hS (lv_sub hl [1, 2] rfl) hm
      · replace hm := if_s hm c_8
        refine lv_iconst (v := (1 : Int32)) hx hb dX9_turns_42 (by decide) ?_
        refine lv_goto (tgt := 56) hx hb dX9_turns_43 (by decide) ?_
        exact J_56 vs x1 (1 : Int32) _ _ _ hP hD hS (lv_sub hl [1, 2] rfl) hm
    · replace hm := if_s hm c_7
      refine lv_iconst (v := (3 : Int32)) hx hb dX9_turns_33 (by decide) ?_
      refine lv_goto (tgt := 56) hx hb dX9_turns_34 (by decide) ?_
      exact J_56 vs x1 (3 : Int32) _ _ _ hP hD hS (lv_sub hl [1, 2] rfl) hm
def mX9_falls_J47  (vs : Nat → Int32) (l1 : Int32) (s1 : Int32) (s2 : Int32) (s3 : Int32) : Option ((Nat → Int32)) := (bo1 (mX9_puts vs s1 s2 s3) (fun vs_5 => (bo1 (mX9_puts vs_5 l1 (1 : Int32) (0 : Int32)) (fun vs_7 => (bo1 (mX9_adds vs_7 l1 (6 : Int32) (1 : Int32)) (fun vs_9 => (some vs_9)))))))
def mX9_falls_J28  (vs : Nat → Int32) (l1 : Int32) (l2 : Int32) : Option ((Nat → Int32)) := (if (36 : Int32) ≤ l2 then (bo1 (mX9_of vs l1 (0 : Int32)) (fun r_3 => (mX9_falls_J47 vs l1 l1 (0 : Int32) r_3))) else (mX9_falls_J47 vs l1 l1 (0 : Int32) l2))
def mX9_falls_J22 (k2 : (Nat → Int32) → Int32 → Int32 → Option ((Nat → Int32))) (vs : Nat → Int32) (l1 : Int32) (l2 : Int32) : Option ((Nat → Int32)) := (k2 vs l1 (l2 + (1 : Int32)))
def mX9_falls_L2  : Nat → (Nat → Int32) → Int32 → Int32 → Option ((Nat → Int32))
  | 0, _, _, _ => none
  | n + 1, vs, l1, l2 => (if (36 : Int32) ≤ l2 then (mX9_falls_J28 vs l1 l2) else (if ¬ (l2 < 0 ∨ 117 ≤ l2.toNatClampNeg) then (if 0 < (vs l2.toNatClampNeg) then (mX9_falls_J22 (fun vs l1 l2 => mX9_falls_L2 n vs l1 l2) vs l1 l2) else (bo1 (mX9_hasThing vs l2) (fun r_13 => (if r_13 = 0 then (mX9_falls_J28 vs l1 l2) else (mX9_falls_J22 (fun vs l1 l2 => mX9_falls_L2 n vs l1 l2) vs l1 l2))))) else none))
def mX9_falls (vs : Nat → Int32) (x1 : Int32) : Option ((Nat → Int32)) := (mX9_falls_L2 4096 vs x1 (0 : Int32))
set_option maxHeartbeats 4000000 in
set_option maxRecDepth 100000 in
theorem kX9_falls (l : Launch) (Γ : my_G) (q_s : Nat) (vs : Nat → Int32) (x1 : Int32) (vs_z : Nat → Int32) (hm : mX9_falls vs x1 = (some vs_z)) : Mn l yX9_falls wsX9_falls ({ frames := 3, cells := 0, slots := 0, locals := 64 } : Room) Γ [.ref q_s, .int x1] (wArr117 Γ q_s vs) none (wArr117 Γ q_s vs_z) := by
  intro sz
  refine Met.ofW (cc := cX9_falls) (maxL := 3) (ret := none) (by decide) rfl ?_
  intro p e s m args below meth c s₁ B hml hv
  obtain ⟨rfl, hsz, hP, hK, hD0⟩ := hv
  have hx := B.exec
  have hb := B.bytes
  have hr := B.returns
  have hts := atoms_spec (ws := wsX9_falls) B.pre
  have hown : s.vm.findClass RX9 = some m.cls := findClass_of_methodNamed B.named
  have hlocks := B.notSynchronized
  subst hsz
  have hD := hD0.self (sz := s.heap.size)
  have hA : ∀ q : Nat, s.heap.size ≤ q → va_A (wArr117 Γ q_s vs) s.heap.size q := fun q h => Or.inr h
  generalize va_A (wArr117 Γ q_s vs) s.heap.size = A at hD hA ⊢
  have hS : va_S A s.heap s.heap [] := va_S.rf
  have hl := lv_entry ([.ref q_s, .int x1]) (n := 3) (Nat.le_of_ble_eq_true rfl)
  rw [lg_entry_eq]
  generalize (lg_sl ([.ref q_s, .int x1]) ++ List.replicate (3 - (lg_sl ([.ref q_s, .int x1])).length) Slot.unset).toArray = ls at hl ⊢
  replace hl : lv_has ls 3 [(0, .ref q_s), (1, .int x1)] := hl
  have J_47 : ∀ (vs : Nat → Int32) (l1 : Int32) (s1 : Int32) (s2 : Int32) (s3 : Int32) (H : Heap) (locs : List Loc) (ls : Array Slot), va_P (my_D Γ) vwCl (wArr117 Γ q_s vs) H → va_D A (wArr117 Γ q_s vs) → va_S A s.heap H locs → lv_has ls 3 [(0, .ref q_s), (1, .int l1)] → mX9_falls_J47 vs l1 s1 s2 s3 = (some vs_z) → W p l e (headSpec wsX9_falls ({ frames := 3, cells := 0, slots := 0, locals := 64 } : Room)).room s m ([.ref q_s, .int x1] : List Value).toArray below meth c H locs 0 0 (MQ below (my_Q Γ A none (wArr117 Γ q_s vs_z)) ([.ref q_s, .int x1] : List Value).toArray s 0 0 A) (F0 m 47 ls [.int s3, .int s2, .int s1, .ref q_s]) := by
    intro  vs l1 s1 s2 s3 H locs ls hP hD hS hl hm
    unfold mX9_falls_J47 at hm
    obtain ⟨vs_5, hc_6, hm⟩ := bo1_s hm
    refine my_callP0 (wc := (wArr117 Γ q_s vs)) (w1 := (wArr117 Γ q_s vs_5)) (ws1 := (wArr117 Γ q_s vs_5)) hP hD hS hA [0] rfl rfl rfl (va_runS (As := [.ref q_s, .int s1, .int s2, .int s3]) (rest := []) ⟨hx, hb, hml, hown, hts⟩ (kX9_puts l Γ q_s vs s1 s2 s3 vs_5 hc_6 _) (va_cwS 4 hts gX9_falls_X9_puts rfl rfl rfl (by decide +kernel) ⟨Nat.le_of_ble_eq_true rfl, Nat.le_of_ble_eq_true rfl⟩) (my_preS (wc := (wArr117 Γ q_s vs)) [0] hK hP hD rfl rfl) rfl rfl hl.1 rfl (lv_room (Nat.le_of_ble_eq_true rfl)) dX9_falls_47 ⟨Nat.le_of_ble_eq_true rfl, Nat.le_of_ble_eq_true rfl⟩) (fun H locs hP hD hS => ?_)
    refine lv_aload_n hx hb dX9_falls_50 rfl (lv_at hl 0 rfl) ?_
    refine lv_iload_n hx hb dX9_falls_51 rfl (lv_at hl 1 rfl) ?_
    refine lv_iconst (v := (1 : Int32)) hx hb dX9_falls_52 (by decide) ?_
    refine lv_iconst (v := (0 : Int32)) hx hb dX9_falls_53 (by decide) ?_
    obtain ⟨vs_7, hc_8, hm⟩ := bo1_s hm
    refine my_callP0 (wc := (wArr117 Γ q_s vs_5)) (w1 := (wArr117 Γ q_s vs_7)) (ws1 := (wArr117 Γ q_s vs_7)) hP hD hS hA [0] rfl rfl rfl (va_runS (As := [.ref q_s, .int l1, .int (1 : Int32), .int (0 : Int32)]) (rest := []) ⟨hx, hb, hml, hown, hts⟩ (kX9_puts l Γ q_s vs_5 l1 (1 : Int32) (0 : Int32) vs_7 hc_8 _) (va_cwS 4 hts gX9_falls_X9_puts rfl rfl rfl (by decide +kernel) ⟨Nat.le_of_ble_eq_true rfl, Nat.le_of_ble_eq_true rfl⟩) (my_preS (wc := (wArr117 Γ q_s vs_5)) [0] hK hP hD rfl rfl) rfl rfl hl.1 rfl (lv_room (Nat.le_of_ble_eq_true rfl)) dX9_falls_54 ⟨Nat.le_of_ble_eq_true rfl, Nat.le_of_ble_eq_true rfl⟩) (fun H locs hP hD hS => ?_)
    refine lv_aload_n hx hb dX9_falls_57 rfl (lv_at hl 0 rfl) ?_
    refine lv_iload_n hx hb dX9_falls_58 rfl (lv_at hl 1 rfl) ?_
    refine lv_bipush (v := (6 : Int32)) hx hb dX9_falls_59 (by decide) ?_
    refine lv_iconst (v := (1 : Int32)) hx hb dX9_falls_61 (by decide) ?_
    obtain ⟨vs_9, hc_10, hm⟩ := bo1_s hm
    refine my_callP0 (wc := (wArr117 Γ q_s vs_7)) (w1 := (wArr117 Γ q_s vs_9)) (ws1 := (wArr117 Γ q_s vs_9)) hP hD hS hA [0] rfl rfl rfl (va_runS (As := [.ref q_s, .int l1, .int (6 : Int32), .int (1 : Int32)]) (rest := []) ⟨hx, hb, hml, hown, hts⟩ (kX9_adds l Γ q_s vs_7 l1 (6 : Int32) (1 : Int32) vs_9 hc_10 _) (va_cwS 4 hts gX9_falls_X9_adds rfl rfl rfl (by decide +kernel) ⟨Nat.le_of_ble_eq_true rfl, Nat.le_of_ble_eq_true rfl⟩) (my_preS (wc := (wArr117 Γ q_s vs_7)) [0] hK hP hD rfl rfl) rfl rfl hl.1 rfl (lv_room (Nat.le_of_ble_eq_true rfl)) dX9_falls_62 ⟨Nat.le_of_ble_eq_true rfl, Nat.le_of_ble_eq_true rfl⟩) (fun H locs hP hD hS => ?_)
    obtain hf0 := Option.some.inj hm
    subst hf0
    exact W.vret hx hb hr (fun t ht hW => ⟨⟨rfl, by rw [ht]; exact hP⟩, hS.F ht⟩) hS.2.2 dX9_falls_65
  have J_28 : ∀ (vs : Nat → Int32) (l1 : Int32) (l2 : Int32) (H : Heap) (locs : List Loc) (ls : Array Slot), va_P (my_D Γ) vwCl (wArr117 Γ q_s vs) H → va_D A (wArr117 Γ q_s vs) → va_S A s.heap H locs → lv_has ls 3 [(0, .ref q_s), (1, .int l1), (2, .int l2)] → mX9_falls_J28 vs l1 l2 = (some vs_z) → W p l e (headSpec wsX9_falls ({ frames := 3, cells := 0, slots := 0, locals := 64 } : Room)).room s m ([.ref q_s, .int x1] : List Value).toArray below meth c H locs 0 0 (MQ below (my_Q Γ A none (wArr117 Γ q_s vs_z)) ([.ref q_s, .int x1] : List Value).toArray s 0 0 A) (F0 m 28 ls []) := by
    intro  vs l1 l2 H locs ls hP hD hS hl hm
    unfold mX9_falls_J28 at hm
    refine lv_aload_n hx hb dX9_falls_28 rfl (lv_at hl 0 rfl) ?_
    refine lv_iload_n hx hb dX9_falls_29 rfl (lv_at hl 1 rfl) ?_
    refine lv_iconst (v := (0 : Int32)) hx hb dX9_falls_30 (by decide) ?_
    refine lv_iload_n hx hb dX9_falls_31 rfl (lv_at hl 2 rfl) ?_
    refine lv_bipush (v := (36 : Int32)) hx hb dX9_falls_32 (by decide) ?_
    refine lv_icmp_ge (tgt := 41) hx hb dX9_falls_34 (by decide) (fun c_2 => ?_) (fun c_2 => ?_)
    · replace hm := if_s hm c_2
      refine lv_aload_n hx hb dX9_falls_41 rfl (lv_at hl 0 rfl) ?_
      refine lv_iload_n hx hb dX9_falls_42 rfl (lv_at hl 1 rfl) ?_
      refine lv_iconst (v := (0 : Int32)) hx hb dX9_falls_43 (by decide) ?_
      obtain ⟨r_3, hc_4, hm⟩ := bo1_s hm
      refine my_callP1 (wc := (wArr117 Γ q_s vs)) (w1 := (wArr117 Γ q_s vs)) (ws1 := (wArr117 Γ q_s vs)) hP hD hS hA [0] rfl rfl rfl (va_runS (As := [.ref q_s, .int l1, .int (0 : Int32)]) (rest := [.int (0 : Int32), .int l1, .ref q_s]) ⟨hx, hb, hml, hown, hts⟩ (kX9_of l Γ q_s vs l1 (0 : Int32) r_3 hc_4 _) (va_cwS 3 hts gX9_falls_X9_of rfl rfl rfl (by decide +kernel) ⟨Nat.le_of_ble_eq_true rfl, Nat.le_of_ble_eq_true rfl⟩) (my_preS (wc := (wArr117 Γ q_s vs)) [0] hK hP hD rfl rfl) rfl rfl hl.1 rfl (lv_room (Nat.le_of_ble_eq_true rfl)) dX9_falls_44 ⟨Nat.le_of_ble_eq_true rfl, Nat.le_of_ble_eq_true rfl⟩) (fun H locs hP hD hS => ?_)
      exact J_47 vs l1 l1 (0 : Int32) r_3 _ _ _ hP hD hS (lv_sub hl [0, 1] rfl) hm
    · replace hm := if_f hm c_2
      refine lv_iload_n hx hb dX9_falls_37 rfl (lv_at hl 2 rfl) ?_
      refine lv_goto (tgt := 47) hx hb dX9_falls_38 (by decide) ?_
      exact J_47 vs l1 l1 (0 : Int32) l2 _ _ _ hP hD hS (lv_sub hl [0, 1] rfl) hm
  have J_22 : ∀ (k2 : (Nat → Int32) → Int32 → Int32 → Option ((Nat → Int32))), (∀ (vs : Nat → Int32) (l1 : Int32) (l2 : Int32) (H : Heap) (locs : List Loc) (ls : Array Slot), va_P (my_D Γ) vwCl (wArr117 Γ q_s vs) H → va_D A (wArr117 Γ q_s vs) → va_S A s.heap H locs → lv_has ls 3 [(0, .ref q_s), (1, .int l1), (2, .int l2)] → k2 vs l1 l2 = (some vs_z) → W p l e (headSpec wsX9_falls ({ frames := 3, cells := 0, slots := 0, locals := 64 } : Room)).room s m ([.ref q_s, .int x1] : List Value).toArray below meth c H locs 0 0 (MQ below (my_Q Γ A none (wArr117 Γ q_s vs_z)) ([.ref q_s, .int x1] : List Value).toArray s 0 0 A) (F0 m 2 ls [])) → ∀ (vs : Nat → Int32) (l1 : Int32) (l2 : Int32) (H : Heap) (locs : List Loc) (ls : Array Slot), va_P (my_D Γ) vwCl (wArr117 Γ q_s vs) H → va_D A (wArr117 Γ q_s vs) → va_S A s.heap H locs → lv_has ls 3 [(0, .ref q_s), (1, .int l1), (2, .int l2)] → mX9_falls_J22 k2 vs l1 l2 = (some vs_z) → W p l e (headSpec wsX9_falls ({ frames := 3, cells := 0, slots := 0, locals := 64 } : Room)).room s m ([.ref q_s, .int x1] : List Value).toArray below meth c H locs 0 0 (MQ below (my_Q Γ A none (wArr117 Γ q_s vs_z)) ([.ref q_s, .int x1] : List Value).toArray s 0 0 A) (F0 m 22 ls []) := by
    intro k2 hk2 vs l1 l2 H locs ls hP hD hS hl hm
    unfold mX9_falls_J22 at hm
    refine lv_iinc (v := (l2 + (1 : Int32))) (lv' := [(2, .int (l2 + (1 : Int32))), (0, .ref q_s), (1, .int l1)]) hx hb dX9_falls_22 hl (k := 2) rfl rfl (by decide) rfl (fun ls hl => ?_)
    refine lv_goto (tgt := 2) hx hb dX9_falls_25 (by decide) ?_
    exact hk2 vs l1 (l2 + (1 : Int32)) _ _ _ hP hD hS (lv_sub hl [1, 2, 0] rfl) hm
  have J_2 : ∀ n : Nat, ∀ (vs : Nat → Int32) (l1 : Int32) (l2 : Int32) (H : Heap) (locs : List Loc) (ls : Array Slot), va_P (my_D Γ) vwCl (wArr117 Γ q_s vs) H → va_D A (wArr117 Γ q_s vs) → va_S A s.heap H locs → lv_has ls 3 [(0, .ref q_s), (1, .int l1), (2, .int l2)] → mX9_falls_L2 n vs l1 l2 = (some vs_z) → W p l e (headSpec wsX9_falls ({ frames := 3, cells := 0, slots := 0, locals := 64 } : Room)).room s m ([.ref q_s, .int x1] : List Value).toArray below meth c H locs 0 0 (MQ below (my_Q Γ A none (wArr117 Γ q_s vs_z)) ([.ref q_s, .int x1] : List Value).toArray s 0 0 A) (F0 m 2 ls []) := by
    intro  n
    induction n with
    | zero => intro vs l1 l2 H locs ls hP hD hS hl hm; cases hm
    | succ n ih =>
      intro vs l1 l2 H locs ls hP hD hS hl hm
      unfold mX9_falls_L2 at hm
      refine lv_iload_n hx hb dX9_falls_2 rfl (lv_at hl 2 rfl) ?_
      refine lv_bipush (v := (36 : Int32)) hx hb dX9_falls_3 (by decide) ?_
      refine lv_icmp_ge (tgt := 28) hx hb dX9_falls_5 (by decide) (fun c_1 => ?_) (fun c_1 => ?_)
      · replace hm := if_s hm c_1
        exact J_28 vs l1 l2 _ _ _ hP hD hS (lv_sub hl [0, 1, 2] rfl) hm
      · replace hm := if_f hm c_1
        refine lv_aload_n hx hb dX9_falls_8 rfl (lv_at hl 0 rfl) ?_
        refine lv_iload_n hx hb dX9_falls_9 rfl (lv_at hl 2 rfl) ?_
        obtain ⟨hi_11, hm⟩ := if_in hm
        refine va_iald hx hb hK hP 0 0 rfl rfl hi_11 dX9_falls_10 ?_
        refine lv_if_gt (tgt := 22) hx hb dX9_falls_11 (by decide) (fun c_12 => ?_) (fun c_12 => ?_)
        · replace hm := if_s hm c_12
          exact J_22 (fun vs l1 l2 => mX9_falls_L2 n vs l1 l2) ih vs l1 l2 _ _ _ hP hD hS (lv_sub hl [0, 1, 2] rfl) hm
        · replace hm := if_f hm c_12
          refine lv_aload_n hx hb dX9_falls_14 rfl (lv_at hl 0 rfl) ?_
          refine lv_iload_n hx hb dX9_falls_15 rfl (lv_at hl 2 rfl) ?_
          obtain ⟨r_13, hc_14, hm⟩ := bo1_s hm
          refine my_callP1 (wc := (wArr117 Γ q_s vs)) (w1 := (wArr117 Γ q_s vs)) (ws1 := (wArr117 Γ q_s vs)) hP hD hS hA [0] rfl rfl rfl (va_runS (As := [.ref q_s, .int l2]) (rest := []) ⟨hx, hb, hml, hown, hts⟩ (kX9_hasThing l Γ q_s vs l2 r_13 hc_14 _) (va_cwS 2 hts gX9_falls_X9_hasThing rfl rfl rfl (by decide +kernel) ⟨Nat.le_of_ble_eq_true rfl, Nat.le_of_ble_eq_true rfl⟩) (my_preS (wc := (wArr117 Γ q_s vs)) [0] hK hP hD rfl rfl) rfl rfl hl.1 rfl (lv_room (Nat.le_of_ble_eq_true rfl)) dX9_falls_16 ⟨Nat.le_of_ble_eq_true rfl, Nat.le_of_ble_eq_true rfl⟩) (fun H locs hP hD hS => ?_)
          refine lv_if_eq (tgt := 28) hx hb dX9_falls_19 (by decide) (fun c_15 => ?_) (fun c_15 => ?_)
          · replace hm := if_s hm c_15
            exact J_28 vs l1 l2 _ _ _ hP hD hS (lv_sub hl [0, 1, 2] rfl) hm
          · replace hm := if_f hm c_15
            exact J_22 (fun vs l1 l2 => mX9_falls_L2 n vs l1 l2) ih vs l1 l2 _ _ _ hP hD hS (lv_sub hl [0, 1, 2] rfl) hm
  unfold mX9_falls at hm
  refine lv_iconst (v := (0 : Int32)) hx hb dX9_falls_0 (by decide) ?_
  refine lv_istore_n (lv' := [(2, .int (0 : Int32)), (0, .ref q_s), (1, .int x1)]) hx hb dX9_falls_1 rfl hl (by decide) rfl (fun ls hl => ?_)
  exact J_2 4096 vs x1 (0 : Int32) _ _ _ hP hD hS (lv_sub hl [1, 2, 0] rfl) hm
def mX9_pits_J70 (k48 : (Nat → Int32) → Int32 → Option ((Nat → Int32))) (vs : Nat → Int32) (l1 : Int32) : Option ((Nat → Int32)) := (k48 vs (l1 + (1 : Int32)))
def mX9_pits_L48  : Nat → (Nat → Int32) → Int32 → Option ((Nat → Int32))
  | 0, _, _ => none
  | n + 1, vs, l1 => (if (2 : Int32) ≤ l1 then (some vs) else (bo1 (mX9_of vs l1 (0 : Int32)) (fun r_3 => (if ¬ (r_3 < 0 ∨ 117 ≤ r_3.toNatClampNeg) then (if (vs r_3.toNatClampNeg) = (2 : Int32) then (bo1 (mX9_falls vs l1) (fun vs_7 => (mX9_pits_J70 (fun vs l1 => mX9_pits_L48 n vs l1) vs_7 l1))) else (mX9_pits_J70 (fun vs l1 => mX9_pits_L48 n vs l1) vs l1)) else none))))
def mX9_pits_J40 (k2 : (Nat → Int32) → Int32 → Option ((Nat → Int32))) (vs : Nat → Int32) (l1 : Int32) : Option ((Nat → Int32)) := (k2 vs (l1 + (1 : Int32)))
def mX9_pits_L2  : Nat → (Nat → Int32) → Int32 → Option ((Nat → Int32))
  | 0, _, _ => none
  | n + 1, vs, l1 => (if (36 : Int32) ≤ l1 then (mX9_pits_L48 4096 vs (0 : Int32)) else (if ¬ (l1 < 0 ∨ 117 ≤ l1.toNatClampNeg) then (if (vs l1.toNatClampNeg) = (2 : Int32) then (if ¬ (((36 : Int32) + l1) < 0 ∨ 117 ≤ ((36 : Int32) + l1).toNatClampNeg) then (if (vs ((36 : Int32) + l1).toNatClampNeg) = (1 : Int32) then (mX9_pits_J40 (fun vs l1 => mX9_pits_L2 n vs l1) (upd (upd vs ((36 : Int32) + l1).toNatClampNeg (0 : Int32)) (115 : Int32).toNatClampNeg (((upd vs ((36 : Int32) + l1).toNatClampNeg (0 : Int32)) (115 : Int32).toNatClampNeg) + (1 : Int32))) l1) else (mX9_pits_J40 (fun vs l1 => mX9_pits_L2 n vs l1) vs l1)) else none) else (mX9_pits_J40 (fun vs l1 => mX9_pits_L2 n vs l1) vs l1)) else none))
def mX9_pits (vs : Nat → Int32) : Option ((Nat → Int32)) := (mX9_pits_L2 4096 vs (0 : Int32))
set_option maxHeartbeats 4000000 in
set_option maxRecDepth 100000 in
theorem kX9_pits (l : Launch) (Γ : my_G) (q_s : Nat) (vs : Nat → Int32)  (vs_z : Nat → Int32) (hm : mX9_pits vs = (some vs_z)) : Mn l yX9_pits wsX9_pits ({ frames := 4, cells := 0, slots := 0, locals := 86 } : Room) Γ [.ref q_s] (wArr117 Γ q_s vs) none (wArr117 Γ q_s vs_z) := by
  intro sz
  refine Met.ofW (cc := cX9_pits) (maxL := 2) (ret := none) (by decide) rfl ?_
  intro p e s m args below meth c s₁ B hml hv
  obtain ⟨rfl, hsz, hP, hK, hD0⟩ := hv
  have hx := B.exec
  have hb := B.bytes
  have hr := B.returns
  have hts := atoms_spec (ws := wsX9_pits) B.pre
  have hown : s.vm.findClass RX9 = some m.cls := findClass_of_methodNamed B.named
  have hlocks := B.notSynchronized
  subst hsz
  have hD := hD0.self (sz := s.heap.size)
  have hA : ∀ q : Nat, s.heap.size ≤ q → va_A (wArr117 Γ q_s vs) s.heap.size q := fun q h => Or.inr h
  generalize va_A (wArr117 Γ q_s vs) s.heap.size = A at hD hA ⊢
  have hS : va_S A s.heap s.heap [] := va_S.rf
  have hl := lv_entry ([.ref q_s]) (n := 2) (Nat.le_of_ble_eq_true rfl)
  rw [lg_entry_eq]
  generalize (lg_sl ([.ref q_s]) ++ List.replicate (2 - (lg_sl ([.ref q_s])).length) Slot.unset).toArray = ls at hl ⊢
  replace hl : lv_has ls 2 [(0, .ref q_s)] := hl
  have J_70 : ∀ (k48 : (Nat → Int32) → Int32 → Option ((Nat → Int32))), (∀ (vs : Nat → Int32) (l1 : Int32) (H : Heap) (locs : List Loc) (ls : Array Slot), va_P (my_D Γ) vwCl (wArr117 Γ q_s vs) H → va_D A (wArr117 Γ q_s vs) → va_S A s.heap H locs → lv_has ls 2 [(0, .ref q_s), (1, .int l1)] → k48 vs l1 = (some vs_z) → W p l e (headSpec wsX9_pits ({ frames := 4, cells := 0, slots := 0, locals := 86 } : Room)).room s m ([.ref q_s] : List Value).toArray below meth c H locs 0 0 (MQ below (my_Q Γ A none (wArr117 Γ q_s vs_z)) ([.ref q_s] : List Value).toArray s 0 0 A) (F0 m 48 ls [])) → ∀ (vs : Nat → Int32) (l1 : Int32) (H : Heap) (locs : List Loc) (ls : Array Slot), va_P (my_D Γ) vwCl (wArr117 Γ q_s vs) H → va_D A (wArr117 Γ q_s vs) → va_S A s.heap H locs → lv_has ls 2 [(0, .ref q_s), (1, .int l1)] → mX9_pits_J70 k48 vs l1 = (some vs_z) → W p l e (headSpec wsX9_pits ({ frames := 4, cells := 0, slots := 0, locals := 86 } : Room)).room s m ([.ref q_s] : List Value).toArray below meth c H locs 0 0 (MQ below (my_Q Γ A none (wArr117 Γ q_s vs_z)) ([.ref q_s] : List Value).toArray s 0 0 A) (F0 m 70 ls []) := by
    intro k48 hk48 vs l1 H locs ls hP hD hS hl hm
    unfold mX9_pits_J70 at hm
    refine lv_iinc (v := (l1 + (1 : Int32))) (lv' := [(1, .int (l1 + (1 : Int32))), (0, .ref q_s)]) hx hb dX9_pits_70 hl (k := 1) rfl rfl (by decide) rfl (fun ls hl => ?_)
    refine lv_goto (tgt := 48) hx hb dX9_pits_73 (by decide) ?_
    exact hk48 vs (l1 + (1 : Int32)) _ _ _ hP hD hS (lv_sub hl [1, 0] rfl) hm
  have J_48 : ∀ n : Nat, ∀ (vs : Nat → Int32) (l1 : Int32) (H : Heap) (locs : List Loc) (ls : Array Slot), va_P (my_D Γ) vwCl (wArr117 Γ q_s vs) H → va_D A (wArr117 Γ q_s vs) → va_S A s.heap H locs → lv_has ls 2 [(0, .ref q_s), (1, .int l1)] → mX9_pits_L48 n vs l1 = (some vs_z) → W p l e (headSpec wsX9_pits ({ frames := 4, cells := 0, slots := 0, locals := 86 } : Room)).room s m ([.ref q_s] : List Value).toArray below meth c H locs 0 0 (MQ below (my_Q Γ A none (wArr117 Γ q_s vs_z)) ([.ref q_s] : List Value).toArray s 0 0 A) (F0 m 48 ls []) := by
    intro  n
    induction n with
    | zero => intro vs l1 H locs ls hP hD hS hl hm; cases hm
    | succ n ih =>
      intro vs l1 H locs ls hP hD hS hl hm
      unfold mX9_pits_L48 at hm
      refine lv_iload_n hx hb dX9_pits_48 rfl (lv_at hl 1 rfl) ?_
      refine lv_iconst (v := (2 : Int32)) hx hb dX9_pits_49 (by decide) ?_
      refine lv_icmp_ge (tgt := 76) hx hb dX9_pits_50 (by decide) (fun c_2 => ?_) (fun c_2 => ?_)
      · replace hm := if_s hm c_2
        obtain hf0 := Option.some.inj hm
        subst hf0
        exact W.vret hx hb hr (fun t ht hW => ⟨⟨rfl, by rw [ht]; exact hP⟩, hS.F ht⟩) hS.2.2 dX9_pits_76
      · replace hm := if_f hm c_2
        refine lv_aload_n hx hb dX9_pits_53 rfl (lv_at hl 0 rfl) ?_
        refine lv_aload_n hx hb dX9_pits_54 rfl (lv_at hl 0 rfl) ?_
        refine lv_iload_n hx hb dX9_pits_55 rfl (lv_at hl 1 rfl) ?_
        refine lv_iconst (v := (0 : Int32)) hx hb dX9_pits_56 (by decide) ?_
        obtain ⟨r_3, hc_4, hm⟩ := bo1_s hm
        refine my_callP1 (wc := (wArr117 Γ q_s vs)) (w1 := (wArr117 Γ q_s vs)) (ws1 := (wArr117 Γ q_s vs)) hP hD hS hA [0] rfl rfl rfl (va_runS (As := [.ref q_s, .int l1, .int (0 : Int32)]) (rest := [.ref q_s]) ⟨hx, hb, hml, hown, hts⟩ (kX9_of l Γ q_s vs l1 (0 : Int32) r_3 hc_4 _) (va_cwS 3 hts gX9_pits_X9_of rfl rfl rfl (by decide +kernel) ⟨Nat.le_of_ble_eq_true rfl, Nat.le_of_ble_eq_true rfl⟩) (my_preS (wc := (wArr117 Γ q_s vs)) [0] hK hP hD rfl rfl) rfl rfl hl.1 rfl (lv_room (Nat.le_of_ble_eq_true rfl)) dX9_pits_57 ⟨Nat.le_of_ble_eq_true rfl, Nat.le_of_ble_eq_true rfl⟩) (fun H locs hP hD hS => ?_)
        obtain ⟨hi_5, hm⟩ := if_in hm
        refine va_iald hx hb hK hP 0 0 rfl rfl hi_5 dX9_pits_60 ?_
        refine lv_iconst (v := (2 : Int32)) hx hb dX9_pits_61 (by decide) ?_
        refine lv_icmp_ne (tgt := 70) hx hb dX9_pits_62 (by decide) (fun c_6 => ?_) (fun c_6 => ?_)
        · replace hm := if_f hm c_6
          exact J_70 (fun vs l1 => mX9_pits_L48 n vs l1) ih vs l1 _ _ _ hP hD hS (lv_sub hl [0, 1] rfl) hm
        · replace hm := if_s hm c_6
          refine lv_aload_n hx hb dX9_pits_65 rfl (lv_at hl 0 rfl) ?_
          refine lv_iload_n hx hb dX9_pits_66 rfl (lv_at hl 1 rfl) ?_
          obtain ⟨vs_7, hc_8, hm⟩ := bo1_s hm
          refine my_callP0 (wc := (wArr117 Γ q_s vs)) (w1 := (wArr117 Γ q_s vs_7)) (ws1 := (wArr117 Γ q_s vs_7)) hP hD hS hA [0] rfl rfl rfl (va_runS (As := [.ref q_s, .int l1]) (rest := []) ⟨hx, hb, hml, hown, hts⟩ (kX9_falls l Γ q_s vs l1 vs_7 hc_8 _) (va_cwS 2 hts gX9_pits_X9_falls rfl rfl rfl (by decide +kernel) ⟨Nat.le_of_ble_eq_true rfl, Nat.le_of_ble_eq_true rfl⟩) (my_preS (wc := (wArr117 Γ q_s vs)) [0] hK hP hD rfl rfl) rfl rfl hl.1 rfl (lv_room (Nat.le_of_ble_eq_true rfl)) dX9_pits_67 ⟨Nat.le_of_ble_eq_true rfl, Nat.le_of_ble_eq_true rfl⟩) (fun H locs hP hD hS => ?_)
          exact J_70 (fun vs l1 => mX9_pits_L48 n vs l1) ih vs_7 l1 _ _ _ hP hD hS (lv_sub hl [0, 1] rfl) hm
  have J_40 : ∀ (k2 : (Nat → Int32) → Int32 → Option ((Nat → Int32))), (∀ (vs : Nat → Int32) (l1 : Int32) (H : Heap) (locs : List Loc) (ls : Array Slot), va_P (my_D Γ) vwCl (wArr117 Γ q_s vs) H → va_D A (wArr117 Γ q_s vs) → va_S A s.heap H locs → lv_has ls 2 [(0, .ref q_s), (1, .int l1)] → k2 vs l1 = (some vs_z) → W p l e (headSpec wsX9_pits ({ frames := 4, cells := 0, slots := 0, locals := 86 } : Room)).room s m ([.ref q_s] : List Value).toArray below meth c H locs 0 0 (MQ below (my_Q Γ A none (wArr117 Γ q_s vs_z)) ([.ref q_s] : List Value).toArray s 0 0 A) (F0 m 2 ls [])) → ∀ (vs : Nat → Int32) (l1 : Int32) (H : Heap) (locs : List Loc) (ls : Array Slot), va_P (my_D Γ) vwCl (wArr117 Γ q_s vs) H → va_D A (wArr117 Γ q_s vs) → va_S A s.heap H locs → lv_has ls 2 [(0, .ref q_s), (1, .int l1)] → mX9_pits_J40 k2 vs l1 = (some vs_z) → W p l e (headSpec wsX9_pits ({ frames := 4, cells := 0, slots := 0, locals := 86 } : Room)).room s m ([.ref q_s] : List Value).toArray below meth c H locs 0 0 (MQ below (my_Q Γ A none (wArr117 Γ q_s vs_z)) ([.ref q_s] : List Value).toArray s 0 0 A) (F0 m 40 ls []) := by
    intro k2 hk2 vs l1 H locs ls hP hD hS hl hm
    unfold mX9_pits_J40 at hm
    refine lv_iinc (v := (l1 + (1 : Int32))) (lv' := [(1, .int (l1 + (1 : Int32))), (0, .ref q_s)]) hx hb dX9_pits_40 hl (k := 1) rfl rfl (by decide) rfl (fun ls hl => ?_)
    refine lv_goto (tgt := 2) hx hb dX9_pits_43 (by decide) ?_
    exact hk2 vs (l1 + (1 : Int32)) _ _ _ hP hD hS (lv_sub hl [1, 0] rfl) hm
  have J_2 : ∀ n : Nat, ∀ (vs : Nat → Int32) (l1 : Int32) (H : Heap) (locs : List Loc) (ls : Array Slot), va_P (my_D Γ) vwCl (wArr117 Γ q_s vs) H → va_D A (wArr117 Γ q_s vs) → va_S A s.heap H locs → lv_has ls 2 [(0, .ref q_s), (1, .int l1)] → mX9_pits_L2 n vs l1 = (some vs_z) → W p l e (headSpec wsX9_pits ({ frames := 4, cells := 0, slots := 0, locals := 86 } : Room)).room s m ([.ref q_s] : List Value).toArray below meth c H locs 0 0 (MQ below (my_Q Γ A none (wArr117 Γ q_s vs_z)) ([.ref q_s] : List Value).toArray s 0 0 A) (F0 m 2 ls []) := by
    intro  n
    induction n with
    | zero => intro vs l1 H locs ls hP hD hS hl hm; cases hm
    | succ n ih =>
      intro vs l1 H locs ls hP hD hS hl hm
      unfold mX9_pits_L2 at hm
      refine lv_iload_n hx hb dX9_pits_2 rfl (lv_at hl 1 rfl) ?_
      refine lv_bipush (v := (36 : Int32)) hx hb dX9_pits_3 (by decide) ?_
      refine lv_icmp_ge (tgt := 46) hx hb dX9_pits_5 (by decide) (fun c_1 => ?_) (fun c_1 => ?_)
      · replace hm := if_s hm c_1
        refine lv_iconst (v := (0 : Int32)) hx hb dX9_pits_46 (by decide) ?_
        refine lv_istore_n (lv' := [(1, .int (0 : Int32)), (0, .ref q_s)]) hx hb dX9_pits_47 rfl hl (by decide) rfl (fun ls hl => ?_)
        exact J_48 4096 vs (0 : Int32) _ _ _ hP hD hS (lv_sub hl [1, 0] rfl) hm
      · replace hm := if_f hm c_1
        refine lv_aload_n hx hb dX9_pits_8 rfl (lv_at hl 0 rfl) ?_
        refine lv_iload_n hx hb dX9_pits_9 rfl (lv_at hl 1 rfl) ?_
        obtain ⟨hi_9, hm⟩ := if_in hm
        refine va_iald hx hb hK hP 0 0 rfl rfl hi_9 dX9_pits_10 ?_
        refine lv_iconst (v := (2 : Int32)) hx hb dX9_pits_11 (by decide) ?_
        refine lv_icmp_ne (tgt := 40) hx hb dX9_pits_12 (by decide) (fun c_10 => ?_) (fun c_10 => ?_)
        · replace hm := if_f hm c_10
          exact J_40 (fun vs l1 => mX9_pits_L2 n vs l1) ih vs l1 _ _ _ hP hD hS (lv_sub hl [0, 1] rfl) hm
        · replace hm := if_s hm c_10
          refine lv_aload_n hx hb dX9_pits_15 rfl (lv_at hl 0 rfl) ?_
          refine lv_bipush (v := (36 : Int32)) hx hb dX9_pits_16 (by decide) ?_
          refine lv_iload_n hx hb dX9_pits_18 rfl (lv_at hl 1 rfl) ?_
          refine lv_iadd hx hb dX9_pits_19 ?_
          obtain ⟨hi_11, hm⟩ := if_in hm
          refine va_iald hx hb hK hP 0 0 rfl rfl hi_11 dX9_pits_20 ?_
          refine lv_iconst (v := (1 : Int32)) hx hb dX9_pits_21 (by decide) ?_
          refine lv_icmp_ne (tgt := 40) hx hb dX9_pits_22 (by decide) (fun c_12 => ?_) (fun c_12 => ?_)
          · replace hm := if_f hm c_12
            exact J_40 (fun vs l1 => mX9_pits_L2 n vs l1) ih vs l1 _ _ _ hP hD hS (lv_sub hl [0, 1] rfl) hm
          · replace hm := if_s hm c_12
            refine lv_aload_n hx hb dX9_pits_25 rfl (lv_at hl 0 rfl) ?_
            refine lv_bipush (v := (36 : Int32)) hx hb dX9_pits_26 (by decide) ?_
            refine lv_iload_n hx hb dX9_pits_28 rfl (lv_at hl 1 rfl) ?_
            refine lv_iadd hx hb dX9_pits_29 ?_
            refine lv_iconst (v := (0 : Int32)) hx hb dX9_pits_30 (by decide) ?_
            refine va_iast hx hb hK hP hD hS 0 0 rfl rfl hi_11 dX9_pits_31 (fun H locs hP hD hS => ?_)
            replace hP : va_P (my_D Γ) vwCl (wArr117 Γ q_s (upd vs ((36 : Int32) + l1).toNatClampNeg (0 : Int32))) H := hP
            replace hD : va_D A (wArr117 Γ q_s (upd vs ((36 : Int32) + l1).toNatClampNeg (0 : Int32))) := hD
            refine lv_aload_n hx hb dX9_pits_32 rfl (lv_at hl 0 rfl) ?_
            refine lv_bipush (v := (115 : Int32)) hx hb dX9_pits_33 (by decide) ?_
            refine lv_dup2_11 hx hb dX9_pits_35 rfl rfl ?_
            refine va_iald hx hb hK hP 0 0 rfl rfl (show vp_in (115 : Int32) 117 from (by decide : ¬ ((115 : Int32) < 0 ∨ 117 ≤ (115 : Int32).toNatClampNeg))) dX9_pits_36 ?_
            refine lv_iconst (v := (1 : Int32)) hx hb dX9_pits_37 (by decide) ?_
            refine lv_iadd hx hb dX9_pits_38 ?_
            refine lv_topi (fun y_13 ey_13 => ?_)
            refine va_iast hx hb hK hP hD hS 0 0 rfl rfl (show vp_in (115 : Int32) 117 from (by decide : ¬ ((115 : Int32) < 0 ∨ 117 ≤ (115 : Int32).toNatClampNeg))) dX9_pits_39 (fun H locs hP hD hS => ?_)
            replace hP : va_P (my_D Γ) vwCl (wArr117 Γ q_s (upd (upd vs ((36 : Int32) + l1).toNatClampNeg (0 : Int32)) (115 : Int32).toNatClampNeg y_13)) H := hP
            replace hD : va_D A (wArr117 Γ q_s (upd (upd vs ((36 : Int32) + l1).toNatClampNeg (0 : Int32)) (115 : Int32).toNatClampNeg y_13)) := hD
            subst ey_13
            exact J_40 (fun vs l1 => mX9_pits_L2 n vs l1) ih (upd (upd vs ((36 : Int32) + l1).toNatClampNeg (0 : Int32)) (115 : Int32).toNatClampNeg (((upd vs ((36 : Int32) + l1).toNatClampNeg (0 : Int32)) (115 : Int32).toNatClampNeg) + (1 : Int32))) l1 _ _ _ hP hD hS (lv_sub hl [0, 1] rfl) hm
  unfold mX9_pits at hm
  refine lv_iconst (v := (0 : Int32)) hx hb dX9_pits_0 (by decide) ?_
  refine lv_istore_n (lv' := [(1, .int (0 : Int32)), (0, .ref q_s)]) hx hb dX9_pits_1 rfl hl (by decide) rfl (fun ls hl => ?_)
  exact J_2 4096 vs (0 : Int32) _ _ _ hP hD hS (lv_sub hl [1, 0] rfl) hm
def mX9_passes_J49 (k4 : (Nat → Int32) → Int32 → Int32 → Option (Int32 × (Nat → Int32))) (vs : Nat → Int32) (l1 : Int32) (l2 : Int32) : Option (Int32 × (Nat → Int32)) := (k4 vs l1 (l2 + (1 : Int32)))
def mX9_passes_L4  : Nat → (Nat → Int32) → Int32 → Int32 → Option (Int32 × (Nat → Int32))
  | 0, _, _, _ => none
  | n + 1, vs, l1, l2 => (if (2 : Int32) ≤ l2 then (some (l1, vs)) else (bo1 (mX9_of vs l2 (2 : Int32)) (fun r_2 => (if (vs (110 : Int32).toNatClampNeg) < r_2 then (mX9_passes_J49 (fun vs l1 l2 => mX9_passes_L4 n vs l1 l2) vs l1 l2) else (if ¬ (((110 : Int32) + r_2) < 0 ∨ 117 ≤ ((110 : Int32) + r_2).toNatClampNeg) then (bo1 (mX9_of vs l2 (0 : Int32)) (fun r_6 => (if (vs ((110 : Int32) + r_2).toNatClampNeg) = r_6 then (bo1 (mX9_adds vs l2 (2 : Int32) (1 : Int32)) (fun vs_9 => (mX9_passes_J49 (fun vs l1 l2 => mX9_passes_L4 n vs l1 l2) vs_9 (l1 + (1 : Int32)) l2))) else (mX9_passes_J49 (fun vs l1 l2 => mX9_passes_L4 n vs l1 l2) vs l1 l2)))) else none)))))
def mX9_passes (vs : Nat → Int32) : Option (Int32 × (Nat → Int32)) := (mX9_passes_L4 4096 vs (0 : Int32) (0 : Int32))
set_option maxHeartbeats 4000000 in
set_option maxRecDepth 100000 in
theorem kX9_passes (l : Launch) (Γ : my_G) (q_s : Nat) (vs : Nat → Int32)  (rr : Int32) (vs_z : Nat → Int32) (hm : mX9_passes vs = (some (rr, vs_z))) : Mn l yX9_passes wsX9_passes ({ frames := 1, cells := 0, slots := 0, locals := 23 } : Room) Γ [.ref q_s] (wArr117 Γ q_s vs) (some (.int rr)) (wArr117 Γ q_s vs_z) := by
  intro sz
  refine Met.ofW (cc := cX9_passes) (maxL := 4) (ret := (some .int)) (by decide) rfl ?_
  intro p e s m args below meth c s₁ B hml hv
  obtain ⟨rfl, hsz, hP, hK, hD0⟩ := hv
  have hx := B.exec
  have hb := B.bytes
  have hr := B.returns
  have hts := atoms_spec (ws := wsX9_passes) B.pre
  have hown : s.vm.findClass RX9 = some m.cls := findClass_of_methodNamed B.named
  have hlocks := B.notSynchronized
  subst hsz
  have hD := hD0.self (sz := s.heap.size)
  have hA : ∀ q : Nat, s.heap.size ≤ q → va_A (wArr117 Γ q_s vs) s.heap.size q := fun q h => Or.inr h
  generalize va_A (wArr117 Γ q_s vs) s.heap.size = A at hD hA ⊢
  have hS : va_S A s.heap s.heap [] := va_S.rf
  have hl := lv_entry ([.ref q_s]) (n := 4) (Nat.le_of_ble_eq_true rfl)
  rw [lg_entry_eq]
  generalize (lg_sl ([.ref q_s]) ++ List.replicate (4 - (lg_sl ([.ref q_s])).length) Slot.unset).toArray = ls at hl ⊢
  replace hl : lv_has ls 4 [(0, .ref q_s)] := hl
  have J_49 : ∀ (k4 : (Nat → Int32) → Int32 → Int32 → Option (Int32 × (Nat → Int32))), (∀ (vs : Nat → Int32) (l1 : Int32) (l2 : Int32) (H : Heap) (locs : List Loc) (ls : Array Slot), va_P (my_D Γ) vwCl (wArr117 Γ q_s vs) H → va_D A (wArr117 Γ q_s vs) → va_S A s.heap H locs → lv_has ls 4 [(0, .ref q_s), (1, .int l1), (2, .int l2)] → k4 vs l1 l2 = (some (rr, vs_z)) → W p l e (headSpec wsX9_passes ({ frames := 1, cells := 0, slots := 0, locals := 23 } : Room)).room s m ([.ref q_s] : List Value).toArray below meth c H locs 0 0 (MQ below (my_Q Γ A (some (.int rr)) (wArr117 Γ q_s vs_z)) ([.ref q_s] : List Value).toArray s 0 0 A) (F0 m 4 ls [])) → ∀ (vs : Nat → Int32) (l1 : Int32) (l2 : Int32) (H : Heap) (locs : List Loc) (ls : Array Slot), va_P (my_D Γ) vwCl (wArr117 Γ q_s vs) H → va_D A (wArr117 Γ q_s vs) → va_S A s.heap H locs → lv_has ls 4 [(0, .ref q_s), (1, .int l1), (2, .int l2)] → mX9_passes_J49 k4 vs l1 l2 = (some (rr, vs_z)) → W p l e (headSpec wsX9_passes ({ frames := 1, cells := 0, slots := 0, locals := 23 } : Room)).room s m ([.ref q_s] : List Value).toArray below meth c H locs 0 0 (MQ below (my_Q Γ A (some (.int rr)) (wArr117 Γ q_s vs_z)) ([.ref q_s] : List Value).toArray s 0 0 A) (F0 m 49 ls []) := by
    intro k4 hk4 vs l1 l2 H locs ls hP hD hS hl hm
    unfold mX9_passes_J49 at hm
    refine lv_iinc (v := (l2 + (1 : Int32))) (lv' := [(2, .int (l2 + (1 : Int32))), (0, .ref q_s), (1, .int l1)]) hx hb dX9_passes_49 hl (k := 2) rfl rfl (by decide) rfl (fun ls hl => ?_)
    refine lv_goto (tgt := 4) hx hb dX9_passes_52 (by decide) ?_
    exact hk4 vs l1 (l2 + (1 : Int32)) _ _ _ hP hD hS (lv_sub hl [1, 2, 0] rfl) hm
  have J_4 : ∀ n : Nat, ∀ (vs : Nat → Int32) (l1 : Int32) (l2 : Int32) (H : Heap) (locs : List Loc) (ls : Array Slot), va_P (my_D Γ) vwCl (wArr117 Γ q_s vs) H → va_D A (wArr117 Γ q_s vs) → va_S A s.heap H locs → lv_has ls 4 [(0, .ref q_s), (1, .int l1), (2, .int l2)] → mX9_passes_L4 n vs l1 l2 = (some (rr, vs_z)) → W p l e (headSpec wsX9_passes ({ frames := 1, cells := 0, slots := 0, locals := 23 } : Room)).room s m ([.ref q_s] : List Value).toArray below meth c H locs 0 0 (MQ below (my_Q Γ A (some (.int rr)) (wArr117 Γ q_s vs_z)) ([.ref q_s] : List Value).toArray s 0 0 A) (F0 m 4 ls []) := by
    intro  n
    induction n with
    | zero => intro vs l1 l2 H locs ls hP hD hS hl hm; cases hm
    | succ n ih =>
      intro vs l1 l2 H locs ls hP hD hS hl hm
      unfold mX9_passes_L4 at hm
      refine lv_iload_n hx hb dX9_passes_4 rfl (lv_at hl 2 rfl) ?_
      refine lv_iconst (v := (2 : Int32)) hx hb dX9_passes_5 (by decide) ?_
      refine lv_icmp_ge (tgt := 55) hx hb dX9_passes_6 (by decide) (fun c_1 => ?_) (fun c_1 => ?_)
      · replace hm := if_s hm c_1
        refine lv_iload_n hx hb dX9_passes_55 rfl (lv_at hl 1 rfl) ?_
        obtain ⟨hf0, hf1⟩ := si2 hm
        subst hf0
        subst hf1
        exact W.iret (v := l1) hx hb hr (fun t ht hW => ⟨⟨rfl, by rw [ht]; exact hP⟩, hS.F ht⟩) hS.2.2 dX9_passes_56
      · replace hm := if_f hm c_1
        refine lv_aload_n hx hb dX9_passes_9 rfl (lv_at hl 0 rfl) ?_
        refine lv_iload_n hx hb dX9_passes_10 rfl (lv_at hl 2 rfl) ?_
        refine lv_iconst (v := (2 : Int32)) hx hb dX9_passes_11 (by decide) ?_
        obtain ⟨r_2, hc_3, hm⟩ := bo1_s hm
        refine my_callP1 (wc := (wArr117 Γ q_s vs)) (w1 := (wArr117 Γ q_s vs)) (ws1 := (wArr117 Γ q_s vs)) hP hD hS hA [0] rfl rfl rfl (va_runS (As := [.ref q_s, .int l2, .int (2 : Int32)]) (rest := []) ⟨hx, hb, hml, hown, hts⟩ (kX9_of l Γ q_s vs l2 (2 : Int32) r_2 hc_3 _) (va_cwS 3 hts gX9_passes_X9_of rfl rfl rfl (by decide +kernel) ⟨Nat.le_of_ble_eq_true rfl, Nat.le_of_ble_eq_true rfl⟩) (my_preS (wc := (wArr117 Γ q_s vs)) [0] hK hP hD rfl rfl) rfl rfl hl.1 rfl (lv_room (Nat.le_of_ble_eq_true rfl)) dX9_passes_12 ⟨Nat.le_of_ble_eq_true rfl, Nat.le_of_ble_eq_true rfl⟩) (fun H locs hP hD hS => ?_)
        refine lv_istore_n (lv' := [(3, .int r_2), (0, .ref q_s), (1, .int l1), (2, .int l2)]) hx hb dX9_passes_15 rfl hl (by decide) rfl (fun ls hl => ?_)
        refine lv_iload_n hx hb dX9_passes_16 rfl (lv_at hl 0 rfl) ?_
        refine lv_aload_n hx hb dX9_passes_17 rfl (lv_at hl 1 rfl) ?_
        refine lv_bipush (v := (110 : Int32)) hx hb dX9_passes_18 (by decide) ?_
        refine va_iald hx hb hK hP 0 0 rfl rfl (show vp_in (110 : Int32) 117 from (by decide : ¬ ((110 : Int32) < 0 ∨ 117 ≤ (110 : Int32).toNatClampNeg))) dX9_passes_20 ?_
        refine lv_icmp_gt (tgt := 49) hx hb dX9_passes_21 (by decide) (fun c_4 => ?_) (fun c_4 => ?_)
        · replace hm := if_s hm c_4
          exact J_49 (fun vs l1 l2 => mX9_passes_L4 n vs l1 l2) ih vs l1 l2 _ _ _ hP hD hS (lv_sub hl [1, 2, 3] rfl) hm
        · replace hm := if_f hm c_4
          refine lv_aload_n hx hb dX9_passes_24 rfl (lv_at hl 1 rfl) ?_
          refine lv_bipush (v := (110 : Int32)) hx hb dX9_passes_25 (by decide) ?_
          refine lv_iload_n hx hb dX9_passes_27 rfl (lv_at hl 0 rfl) ?_
          refine lv_iadd hx hb dX9_passes_28 ?_
          obtain ⟨hi_5, hm⟩ := if_in hm
          refine va_iald hx hb hK hP 0 0 rfl rfl hi_5 dX9_passes_29 ?_
          refine lv_aload_n hx hb dX9_passes_30 rfl (lv_at hl 1 rfl) ?_
          refine lv_iload_n hx hb dX9_passes_31 rfl (lv_at hl 3 rfl) ?_
          refine lv_iconst (v := (0 : Int32)) hx hb dX9_passes_32 (by decide) ?_
          obtain ⟨r_6, hc_7, hm⟩ := bo1_s hm
          refine my_callP1 (wc := (wArr117 Γ q_s vs)) (w1 := (wArr117 Γ q_s vs)) (ws1 := (wArr117 Γ q_s vs)) hP hD hS hA [0] rfl rfl rfl (va_runS (As := [.ref q_s, .int l2, .int (0 : Int32)]) (rest := [.int (vs ((110 : Int32) + r_2).toNatClampNeg)]) ⟨hx, hb, hml, hown, hts⟩ (kX9_of l Γ q_s vs l2 (0 : Int32) r_6 hc_7 _) (va_cwS 3 hts gX9_passes_X9_of rfl rfl rfl (by decide +kernel) ⟨Nat.le_of_ble_eq_true rfl, Nat.le_of_ble_eq_true rfl⟩) (my_preS (wc := (wArr117 Γ q_s vs)) [0] hK hP hD rfl rfl) rfl rfl hl.1 rfl (lv_room (Nat.le_of_ble_eq_true rfl)) dX9_passes_33 ⟨Nat.le_of_ble_eq_true rfl, Nat.le_of_ble_eq_true rfl⟩) (fun H locs hP hD hS => ?_)
          refine lv_icmp_ne (tgt := 49) hx hb dX9_passes_36 (by decide) (fun c_8 => ?_) (fun c_8 => ?_)
          · replace hm := if_f hm c_8
            exact J_49 (fun vs l1 l2 => mX9_passes_L4 n vs l1 l2) ih vs l1 l2 _ _ _ hP hD hS (lv_sub hl [1, 2, 3] rfl) hm
          · replace hm := if_s hm c_8
            refine lv_aload_n hx hb dX9_passes_39 rfl (lv_at hl 1 rfl) ?_
            refine lv_iload_n hx hb dX9_passes_40 rfl (lv_at hl 3 rfl) ?_
            refine lv_iconst (v := (2 : Int32)) hx hb dX9_passes_41 (by decide) ?_
            refine lv_iconst (v := (1 : Int32)) hx hb dX9_passes_42 (by decide) ?_
            obtain ⟨vs_9, hc_10, hm⟩ := bo1_s hm
            refine my_callP0 (wc := (wArr117 Γ q_s vs)) (w1 := (wArr117 Γ q_s vs_9)) (ws1 := (wArr117 Γ q_s vs_9)) hP hD hS hA [0] rfl rfl rfl (va_runS (As := [.ref q_s, .int l2, .int (2 : Int32), .int (1 : Int32)]) (rest := []) ⟨hx, hb, hml, hown, hts⟩ (kX9_adds l Γ q_s vs l2 (2 : Int32) (1 : Int32) vs_9 hc_10 _) (va_cwS 4 hts gX9_passes_X9_adds rfl rfl rfl (by decide +kernel) ⟨Nat.le_of_ble_eq_true rfl, Nat.le_of_ble_eq_true rfl⟩) (my_preS (wc := (wArr117 Γ q_s vs)) [0] hK hP hD rfl rfl) rfl rfl hl.1 rfl (lv_room (Nat.le_of_ble_eq_true rfl)) dX9_passes_43 ⟨Nat.le_of_ble_eq_true rfl, Nat.le_of_ble_eq_true rfl⟩) (fun H locs hP hD hS => ?_)
            refine lv_iinc (v := (l1 + (1 : Int32))) (lv' := [(1, .int (l1 + (1 : Int32))), (3, .int r_2), (0, .ref q_s), (2, .int l2)]) hx hb dX9_passes_46 hl (k := 2) rfl rfl (by decide) rfl (fun ls hl => ?_)
            exact J_49 (fun vs l1 l2 => mX9_passes_L4 n vs l1 l2) ih vs_9 (l1 + (1 : Int32)) l2 _ _ _ hP hD hS (lv_sub hl [2, 0, 3] rfl) hm
  unfold mX9_passes at hm
  refine lv_iconst (v := (0 : Int32)) hx hb dX9_passes_0 (by decide) ?_
  refine lv_istore_n (lv' := [(1, .int (0 : Int32)), (0, .ref q_s)]) hx hb dX9_passes_1 rfl hl (by decide) rfl (fun ls hl => ?_)
  refine lv_iconst (v := (0 : Int32)) hx hb dX9_passes_2 (by decide) ?_
  refine lv_istore_n (lv' := [(2, .int (0 : Int32)), (1, .int (0 : Int32)), (0, .ref q_s)]) hx hb dX9_passes_3 rfl hl (by decide) rfl (fun ls hl => ?_)
  exact J_4 4096 vs (0 : Int32) (0 : Int32) _ _ _ hP hD hS (lv_sub hl [2, 1, 0] rfl) hm
def mX9_cratesOn_L4  : Nat → (Nat → Int32) → Int32 → Int32 → Option (Int32)
  | 0, _, _, _ => none
  | n + 1, vs, l1, l2 => (if (36 : Int32) ≤ l2 then (some l1) else (if ¬ (((36 : Int32) + l2) < 0 ∨ 117 ≤ ((36 : Int32) + l2).toNatClampNeg) then (mX9_cratesOn_L4 n vs (l1 + (vs ((36 : Int32) + l2).toNatClampNeg)) (l2 + (1 : Int32))) else none))
def mX9_cratesOn (vs : Nat → Int32) : Option (Int32) := (mX9_cratesOn_L4 4096 vs (0 : Int32) (0 : Int32))
set_option maxHeartbeats 4000000 in
set_option maxRecDepth 100000 in
theorem kX9_cratesOn (l : Launch) (Γ : my_G) (q_s : Nat) (vs : Nat → Int32)  (rr : Int32) (hm : mX9_cratesOn vs = (some rr)) : Mn l yX9_cratesOn wsX9_cratesOn ({ frames := 0, cells := 0, slots := 0, locals := 0 } : Room) Γ [.ref q_s] (wArr117 Γ q_s vs) (some (.int rr)) (wArr117 Γ q_s vs) := by
  intro sz
  refine Met.ofW (cc := cX9_cratesOn) (maxL := 3) (ret := (some .int)) (by decide) rfl ?_
  intro p e s m args below meth c s₁ B hml hv
  obtain ⟨rfl, hsz, hP, hK, hD0⟩ := hv
  have hx := B.exec
  have hb := B.bytes
  have hr := B.returns
  have hts := atoms_spec (ws := wsX9_cratesOn) B.pre
  have hown : s.vm.findClass RX9 = some m.cls := findClass_of_methodNamed B.named
  have hlocks := B.notSynchronized
  subst hsz
  have hD := hD0.self (sz := s.heap.size)
  have hA : ∀ q : Nat, s.heap.size ≤ q → va_A (wArr117 Γ q_s vs) s.heap.size q := fun q h => Or.inr h
  generalize va_A (wArr117 Γ q_s vs) s.heap.size = A at hD hA ⊢
  have hS : va_S A s.heap s.heap [] := va_S.rf
  have hl := lv_entry ([.ref q_s]) (n := 3) (Nat.le_of_ble_eq_true rfl)
  rw [lg_entry_eq]
  generalize (lg_sl ([.ref q_s]) ++ List.replicate (3 - (lg_sl ([.ref q_s])).length) Slot.unset).toArray = ls at hl ⊢
  replace hl : lv_has ls 3 [(0, .ref q_s)] := hl
  have J_4 : ∀ n : Nat, ∀ (vs : Nat → Int32) (l1 : Int32) (l2 : Int32) (H : Heap) (locs : List Loc) (ls : Array Slot), va_P (my_D Γ) vwCl (wArr117 Γ q_s vs) H → va_D A (wArr117 Γ q_s vs) → va_S A s.heap H locs → lv_has ls 3 [(0, .ref q_s), (1, .int l1), (2, .int l2)] → mX9_cratesOn_L4 n vs l1 l2 = (some rr) → W p l e (headSpec wsX9_cratesOn ({ frames := 0, cells := 0, slots := 0, locals := 0 } : Room)).room s m ([.ref q_s] : List Value).toArray below meth c H locs 0 0 (MQ below (my_Q Γ A (some (.int rr)) (wArr117 Γ q_s vs)) ([.ref q_s] : List Value).toArray s 0 0 A) (F0 m 4 ls []) := by
    intro  n
    induction n with
    | zero => intro vs l1 l2 H locs ls hP hD hS hl hm; cases hm
    | succ n ih =>
      intro vs l1 l2 H locs ls hP hD hS hl hm
      unfold mX9_cratesOn_L4 at hm
      refine lv_iload_n hx hb dX9_cratesOn_4 rfl (lv_at hl 2 rfl) ?_
      refine lv_bipush (v := (36 : Int32)) hx hb dX9_cratesOn_5 (by decide) ?_
      refine lv_icmp_ge (tgt := 25) hx hb dX9_cratesOn_7 (by decide) (fun c_1 => ?_) (fun c_1 => ?_)
      · replace hm := if_s hm c_1
        refine lv_iload_n hx hb dX9_cratesOn_25 rfl (lv_at hl 1 rfl) ?_
        obtain hf0 := Option.some.inj hm
        subst hf0
        exact W.iret (v := l1) hx hb hr (fun t ht hW => ⟨⟨rfl, by rw [ht]; exact hP⟩, hS.F ht⟩) hS.2.2 dX9_cratesOn_26
      · replace hm := if_f hm c_1
        refine lv_iload_n hx hb dX9_cratesOn_10 rfl (lv_at hl 1 rfl) ?_
        refine lv_aload_n hx hb dX9_cratesOn_11 rfl (lv_at hl 0 rfl) ?_
        refine lv_bipush (v := (36 : Int32)) hx hb dX9_cratesOn_12 (by decide) ?_
        refine lv_iload_n hx hb dX9_cratesOn_14 rfl (lv_at hl 2 rfl) ?_
        refine lv_iadd hx hb dX9_cratesOn_15 ?_
        obtain ⟨hi_2, hm⟩ := if_in hm
        refine va_iald hx hb hK hP 0 0 rfl rfl hi_2 dX9_cratesOn_16 ?_
        refine lv_iadd hx hb dX9_cratesOn_17 ?_
        refine lv_istore_n (lv' := [(1, .int (l1 + (vs ((36 : Int32) + l2).toNatClampNeg))), (0, .ref q_s), (2, .int l2)]) hx hb dX9_cratesOn_18 rfl hl (by decide) rfl (fun ls hl => ?_)
        refine lv_iinc (v := (l2 + (1 : Int32))) (lv' := [(2, .int (l2 + (1 : Int32))), (1, .int (l1 + (vs ((36 : Int32) + l2).toNatClampNeg))), (0, .ref q_s)]) hx hb dX9_cratesOn_19 hl (k := 2) rfl rfl (by decide) rfl (fun ls hl => ?_)
        refine lv_goto (tgt := 4) hx hb dX9_cratesOn_22 (by decide) ?_
        exact ih vs (l1 + (vs ((36 : Int32) + l2).toNatClampNeg)) (l2 + (1 : Int32)) _ _ _ hP hD hS (lv_sub hl [2, 1, 0] rfl) hm
  unfold mX9_cratesOn at hm
  refine lv_iconst (v := (0 : Int32)) hx hb dX9_cratesOn_0 (by decide) ?_
  refine lv_istore_n (lv' := [(1, .int (0 : Int32)), (0, .ref q_s)]) hx hb dX9_cratesOn_1 rfl hl (by decide) rfl (fun ls hl => ?_)
  refine lv_iconst (v := (0 : Int32)) hx hb dX9_cratesOn_2 (by decide) ?_
  refine lv_istore_n (lv' := [(2, .int (0 : Int32)), (1, .int (0 : Int32)), (0, .ref q_s)]) hx hb dX9_cratesOn_3 rfl hl (by decide) rfl (fun ls hl => ?_)
  exact J_4 4096 vs (0 : Int32) (0 : Int32) _ _ _ hP hD hS (lv_sub hl [2, 1, 0] rfl) hm
def mX9_hasPoint_J31 (k4 : (Nat → Int32) → Int32 → Int32 → Int32 → Option (Int32)) (vs : Nat → Int32) (l1 : Int32) (l3 : Int32) (s0 : Int32) : Option (Int32) := (k4 vs l1 s0 (l3 + (1 : Int32)))
def mX9_hasPoint_J26 (k4 : (Nat → Int32) → Int32 → Int32 → Int32 → Option (Int32)) (vs : Nat → Int32) (l1 : Int32) (l3 : Int32) : Option (Int32) := (mX9_hasPoint_J31 k4 vs l1 l3 (1 : Int32))
def mX9_hasPoint_L4  : Nat → (Nat → Int32) → Int32 → Int32 → Int32 → Option (Int32)
  | 0, _, _, _, _ => none
  | n + 1, vs, l1, l2, l3 => (if (vs (110 : Int32).toNatClampNeg) < l3 then (if l2 = 0 ∨ l2 = 1 then (some l2) else none) else (if l2 = 0 then (if ¬ (((110 : Int32) + l3) < 0 ∨ 117 ≤ ((110 : Int32) + l3).toNatClampNeg) then (if (vs ((110 : Int32) + l3).toNatClampNeg) = l1 then (mX9_hasPoint_J26 (fun vs l1 l2 l3 => mX9_hasPoint_L4 n vs l1 l2 l3) vs l1 l3) else (mX9_hasPoint_J31 (fun vs l1 l2 l3 => mX9_hasPoint_L4 n vs l1 l2 l3) vs l1 l3 (0 : Int32))) else none) else (mX9_hasPoint_J26 (fun vs l1 l2 l3 => mX9_hasPoint_L4 n vs l1 l2 l3) vs l1 l3)))
def mX9_hasPoint (vs : Nat → Int32) (x1 : Int32) : Option (Int32) := (mX9_hasPoint_L4 4096 vs x1 (0 : Int32) (1 : Int32))
set_option maxHeartbeats 4000000 in
set_option maxRecDepth 100000 in
theorem kX9_hasPoint (l : Launch) (Γ : my_G) (q_s : Nat) (vs : Nat → Int32) (x1 : Int32) (rr : Int32) (hm : mX9_hasPoint vs x1 = (some rr)) : Mn l yX9_hasPoint wsX9_hasPoint ({ frames := 0, cells := 0, slots := 0, locals := 0 } : Room) Γ [.ref q_s, .int x1] (wArr117 Γ q_s vs) (some (.int rr)) (wArr117 Γ q_s vs) := by
  intro sz
  refine Met.ofW (cc := cX9_hasPoint) (maxL := 4) (ret := (some .boolean)) (by decide) rfl ?_
  intro p e s m args below meth c s₁ B hml hv
  obtain ⟨rfl, hsz, hP, hK, hD0⟩ := hv
  have hx := B.exec
  have hb := B.bytes
  have hr := B.returns
  have hts := atoms_spec (ws := wsX9_hasPoint) B.pre
  have hown : s.vm.findClass RX9 = some m.cls := findClass_of_methodNamed B.named
  have hlocks := B.notSynchronized
  subst hsz
  have hD := hD0.self (sz := s.heap.size)
  have hA : ∀ q : Nat, s.heap.size ≤ q → va_A (wArr117 Γ q_s vs) s.heap.size q := fun q h => Or.inr h
  generalize va_A (wArr117 Γ q_s vs) s.heap.size = A at hD hA ⊢
  have hS : va_S A s.heap s.heap [] := va_S.rf
  have hl := lv_entry ([.ref q_s, .int x1]) (n := 4) (Nat.le_of_ble_eq_true rfl)
  rw [lg_entry_eq]
  generalize (lg_sl ([.ref q_s, .int x1]) ++ List.replicate (4 - (lg_sl ([.ref q_s, .int x1])).length) Slot.unset).toArray = ls at hl ⊢
  replace hl : lv_has ls 4 [(0, .ref q_s), (1, .int x1)] := hl
  have J_31 : ∀ (k4 : (Nat → Int32) → Int32 → Int32 → Int32 → Option (Int32)), (∀ (vs : Nat → Int32) (l1 : Int32) (l2 : Int32) (l3 : Int32) (H : Heap) (locs : List Loc) (ls : Array Slot), va_P (my_D Γ) vwCl (wArr117 Γ q_s vs) H → va_D A (wArr117 Γ q_s vs) → va_S A s.heap H locs → lv_has ls 4 [(0, .ref q_s), (1, .int l1), (2, .int l2), (3, .int l3)] → k4 vs l1 l2 l3 = (some rr) → W p l e (headSpec wsX9_hasPoint ({ frames := 0, cells := 0, slots := 0, locals := 0 } : Room)).room s m ([.ref q_s, .int x1] : List Value).toArray below meth c H locs 0 0 (MQ below (my_Q Γ A (some (.int rr)) (wArr117 Γ q_s vs)) ([.ref q_s, .int x1] : List Value).toArray s 0 0 A) (F0 m 4 ls [])) → ∀ (vs : Nat → Int32) (l1 : Int32) (l3 : Int32) (s0 : Int32) (H : Heap) (locs : List Loc) (ls : Array Slot), va_P (my_D Γ) vwCl (wArr117 Γ q_s vs) H → va_D A (wArr117 Γ q_s vs) → va_S A s.heap H locs → lv_has ls 4 [(0, .ref q_s), (1, .int l1), (3, .int l3)] → mX9_hasPoint_J31 k4 vs l1 l3 s0 = (some rr) → W p l e (headSpec wsX9_hasPoint ({ frames := 0, cells := 0, slots := 0, locals := 0 } : Room)).room s m ([.ref q_s, .int x1] : List Value).toArray below meth c H locs 0 0 (MQ below (my_Q Γ A (some (.int rr)) (wArr117 Γ q_s vs)) ([.ref q_s, .int x1] : List Value).toArray s 0 0 A) (F0 m 31 ls [.int s0]) := by
    intro k4 hk4 vs l1 l3 s0 H locs ls hP hD hS hl hm
    unfold mX9_hasPoint_J31 at hm
    refine lv_istore_n (lv' := [(2, .int s0), (0, .ref q_s), (1, .int l1), (3, .int l3)]) hx hb dX9_hasPoint_31 rfl hl (by decide) rfl (fun ls hl => ?_)
    refine lv_iinc (v := (l3 + (1 : Int32))) (lv' := [(3, .int (l3 + (1 : Int32))), (2, .int s0), (0, .ref q_s), (1, .int l1)]) hx hb dX9_hasPoint_32 hl (k := 3) rfl rfl (by decide) rfl (fun ls hl => ?_)
    refine lv_goto (tgt := 4) hx hb dX9_hasPoint_35 (by decide) ?_
    exact hk4 vs l1 s0 (l3 + (1 : Int32)) _ _ _ hP hD hS (lv_sub hl [2, 3, 1, 0] rfl) hm
  have J_26 : ∀ (k4 : (Nat → Int32) → Int32 → Int32 → Int32 → Option (Int32)), (∀ (vs : Nat → Int32) (l1 : Int32) (l2 : Int32) (l3 : Int32) (H : Heap) (locs : List Loc) (ls : Array Slot), va_P (my_D Γ) vwCl (wArr117 Γ q_s vs) H → va_D A (wArr117 Γ q_s vs) → va_S A s.heap H locs → lv_has ls 4 [(0, .ref q_s), (1, .int l1), (2, .int l2), (3, .int l3)] → k4 vs l1 l2 l3 = (some rr) → W p l e (headSpec wsX9_hasPoint ({ frames := 0, cells := 0, slots := 0, locals := 0 } : Room)).room s m ([.ref q_s, .int x1] : List Value).toArray below meth c H locs 0 0 (MQ below (my_Q Γ A (some (.int rr)) (wArr117 Γ q_s vs)) ([.ref q_s, .int x1] : List Value).toArray s 0 0 A) (F0 m 4 ls [])) → ∀ (vs : Nat → Int32) (l1 : Int32) (l3 : Int32) (H : Heap) (locs : List Loc) (ls : Array Slot), va_P (my_D Γ) vwCl (wArr117 Γ q_s vs) H → va_D A (wArr117 Γ q_s vs) → va_S A s.heap H locs → lv_has ls 4 [(0, .ref q_s), (1, .int l1), (3, .int l3)] → mX9_hasPoint_J26 k4 vs l1 l3 = (some rr) → W p l e (headSpec wsX9_hasPoint ({ frames := 0, cells := 0, slots := 0, locals := 0 } : Room)).room s m ([.ref q_s, .int x1] : List Value).toArray below meth c H locs 0 0 (MQ below (my_Q Γ A (some (.int rr)) (wArr117 Γ q_s vs)) ([.ref q_s, .int x1] : List Value).toArray s 0 0 A) (F0 m 26 ls []) := by
    intro k4 hk4 vs l1 l3 H locs ls hP hD hS hl hm
    unfold mX9_hasPoint_J26 at hm
    refine lv_iconst (v := (1 : Int32)) hx hb dX9_hasPoint_26 (by decide) ?_
    refine lv_goto (tgt := 31) hx hb dX9_hasPoint_27 (by decide) ?_
    exact J_31 k4 hk4 vs l1 l3 (1 : Int32) _ _ _ hP hD hS (lv_sub hl [0, 1, 2] rfl) hm
  have J_4 : ∀ n : Nat, ∀ (vs : Nat → Int32) (l1 : Int32) (l2 : Int32) (l3 : Int32) (H : Heap) (locs : List Loc) (ls : Array Slot), va_P (my_D Γ) vwCl (wArr117 Γ q_s vs) H → va_D A (wArr117 Γ q_s vs) → va_S A s.heap H locs → lv_has ls 4 [(0, .ref q_s), (1, .int l1), (2, .int l2), (3, .int l3)] → mX9_hasPoint_L4 n vs l1 l2 l3 = (some rr) → W p l e (headSpec wsX9_hasPoint ({ frames := 0, cells := 0, slots := 0, locals := 0 } : Room)).room s m ([.ref q_s, .int x1] : List Value).toArray below meth c H locs 0 0 (MQ below (my_Q Γ A (some (.int rr)) (wArr117 Γ q_s vs)) ([.ref q_s, .int x1] : List Value).toArray s 0 0 A) (F0 m 4 ls []) := by
    intro  n
    induction n with
    | zero => intro vs l1 l2 l3 H locs ls hP hD hS hl hm; cases hm
    | succ n ih =>
      intro vs l1 l2 l3 H locs ls hP hD hS hl hm
      unfold mX9_hasPoint_L4 at hm
      refine lv_iload_n hx hb dX9_hasPoint_4 rfl (lv_at hl 3 rfl) ?_
      refine lv_aload_n hx hb dX9_hasPoint_5 rfl (lv_at hl 0 rfl) ?_
      refine lv_bipush (v := (110 : Int32)) hx hb dX9_hasPoint_6 (by decide) ?_
      refine va_iald hx hb hK hP 0 0 rfl rfl (show vp_in (110 : Int32) 117 from (by decide : ¬ ((110 : Int32) < 0 ∨ 117 ≤ (110 : Int32).toNatClampNeg))) dX9_hasPoint_8 ?_
      refine lv_icmp_gt (tgt := 38) hx hb dX9_hasPoint_9 (by decide) (fun c_1 => ?_) (fun c_1 => ?_)
      · replace hm := if_s hm c_1
        refine lv_iload_n hx hb dX9_hasPoint_38 rfl (lv_at hl 2 rfl) ?_
        obtain ⟨hz_2, hm⟩ := if_bz hm
        obtain hf0 := Option.some.inj hm
        subst hf0
        exact W.zret (v := l2) hx hb hr hz_2 (fun t ht hW => ⟨⟨rfl, by rw [ht]; exact hP⟩, hS.F ht⟩) hS.2.2 dX9_hasPoint_39
      · replace hm := if_f hm c_1
        refine lv_iload_n hx hb dX9_hasPoint_12 rfl (lv_at hl 2 rfl) ?_
        refine lv_if_ne (tgt := 26) hx hb dX9_hasPoint_13 (by decide) (fun c_3 => ?_) (fun c_3 => ?_)
        · replace hm := if_f hm c_3
          exact J_26 (fun vs l1 l2 l3 => mX9_hasPoint_L4 n vs l1 l2 l3) ih vs l1 l3 _ _ _ hP hD hS (lv_sub hl [0, 1, 3] rfl) hm
        · replace hm := if_s hm c_3
          refine lv_aload_n hx hb dX9_hasPoint_16 rfl (lv_at hl 0 rfl) ?_
          refine lv_bipush (v := (110 : Int32)) hx hb dX9_hasPoint_17 (by decide) ?_
          refine lv_iload_n hx hb dX9_hasPoint_19 rfl (lv_at hl 3 rfl) ?_
          refine lv_iadd hx hb dX9_hasPoint_20 ?_
          obtain ⟨hi_4, hm⟩ := if_in hm
          refine va_iald hx hb hK hP 0 0 rfl rfl hi_4 dX9_hasPoint_21 ?_
          refine lv_iload_n hx hb dX9_hasPoint_22 rfl (lv_at hl 1 rfl) ?_
          refine lv_icmp_ne (tgt := 30) hx hb dX9_hasPoint_23 (by decide) (fun c_5 => ?_) (fun c_5 => ?_)
          · replace hm := if_f hm c_5
            refine lv_iconst (v := (0 : Int32)) hx hb dX9_hasPoint_30 (by decide) ?_
            exact J_31 (fun vs l1 l2 l3 => mX9_hasPoint_L4 n vs l1 l2 l3) ih vs l1 l3 (0 : Int32) _ _ _ hP hD hS (lv_sub hl [0, 1, 3] rfl) hm
          · replace hm := if_s hm c_5
            exact J_26 (fun vs l1 l2 l3 => mX9_hasPoint_L4 n vs l1 l2 l3) ih vs l1 l3 _ _ _ hP hD hS (lv_sub hl [0, 1, 3] rfl) hm
  unfold mX9_hasPoint at hm
  refine lv_iconst (v := (0 : Int32)) hx hb dX9_hasPoint_0 (by decide) ?_
  refine lv_istore_n (lv' := [(2, .int (0 : Int32)), (0, .ref q_s), (1, .int x1)]) hx hb dX9_hasPoint_1 rfl hl (by decide) rfl (fun ls hl => ?_)
  refine lv_iconst (v := (1 : Int32)) hx hb dX9_hasPoint_2 (by decide) ?_
  refine lv_istore_n (lv' := [(3, .int (1 : Int32)), (2, .int (0 : Int32)), (0, .ref q_s), (1, .int x1)]) hx hb dX9_hasPoint_3 rfl hl (by decide) rfl (fun ls hl => ?_)
  exact J_4 4096 vs x1 (0 : Int32) (1 : Int32) _ _ _ hP hD hS (lv_sub hl [2, 3, 1, 0] rfl) hm
def mX9_canKind_J10  (vs : Nat → Int32) (l1 : Int32) : Option (Int32) := (bo1 (mX9_hasThing vs l1) (fun r_2 => (if r_2 = 0 then (bo1 (mX9_hasPoint vs l1) (fun r_5 => (if r_5 = 0 then (some (1 : Int32)) else (some (0 : Int32))))) else (some (0 : Int32)))))
def mX9_canKind (vs : Nat → Int32) (x1 : Int32) (x2 : Int32) : Option (Int32) := (if x2 = (1 : Int32) then (mX9_canKind_J10 vs x1) else (if x2 = (2 : Int32) then (mX9_canKind_J10 vs x1) else (some (1 : Int32))))
set_option maxHeartbeats 4000000 in
set_option maxRecDepth 100000 in
theorem kX9_canKind (l : Launch) (Γ : my_G) (q_s : Nat) (vs : Nat → Int32) (x1 : Int32) (x2 : Int32) (rr : Int32) (hm : mX9_canKind vs x1 x2 = (some rr)) : Mn l yX9_canKind wsX9_canKind ({ frames := 3, cells := 0, slots := 0, locals := 64 } : Room) Γ [.ref q_s, .int x1, .int x2] (wArr117 Γ q_s vs) (some (.int rr)) (wArr117 Γ q_s vs) := by
  intro sz
  refine Met.ofW (cc := cX9_canKind) (maxL := 3) (ret := (some .boolean)) (by decide) rfl ?_
  intro p e s m args below meth c s₁ B hml hv
  obtain ⟨rfl, hsz, hP, hK, hD0⟩ := hv
  have hx := B.exec
  have hb := B.bytes
  have hr := B.returns
  have hts := atoms_spec (ws := wsX9_canKind) B.pre
  have hown : s.vm.findClass RX9 = some m.cls := findClass_of_methodNamed B.named
  have hlocks := B.notSynchronized
  subst hsz
  have hD := hD0.self (sz := s.heap.size)
  have hA : ∀ q : Nat, s.heap.size ≤ q → va_A (wArr117 Γ q_s vs) s.heap.size q := fun q h => Or.inr h
  generalize va_A (wArr117 Γ q_s vs) s.heap.size = A at hD hA ⊢
  have hS : va_S A s.heap s.heap [] := va_S.rf
  have hl := lv_entry ([.ref q_s, .int x1, .int x2]) (n := 3) (Nat.le_of_ble_eq_true rfl)
  rw [lg_entry_eq]
  generalize (lg_sl ([.ref q_s, .int x1, .int x2]) ++ List.replicate (3 - (lg_sl ([.ref q_s, .int x1, .int x2])).length) Slot.unset).toArray = ls at hl ⊢
  replace hl : lv_has ls 3 [(0, .ref q_s), (1, .int x1), (2, .int x2)] := hl
  have J_10 : ∀ (vs : Nat → Int32) (l1 : Int32) (H : Heap) (locs : List Loc) (ls : Array Slot), va_P (my_D Γ) vwCl (wArr117 Γ q_s vs) H → va_D A (wArr117 Γ q_s vs) → va_S A s.heap H locs → lv_has ls 3 [(0, .ref q_s), (1, .int l1)] → mX9_canKind_J10 vs l1 = (some rr) → W p l e (headSpec wsX9_canKind ({ frames := 3, cells := 0, slots := 0, locals := 64 } : Room)).room s m ([.ref q_s, .int x1, .int x2] : List Value).toArray below meth c H locs 0 0 (MQ below (my_Q Γ A (some (.int rr)) (wArr117 Γ q_s vs)) ([.ref q_s, .int x1, .int x2] : List Value).toArray s 0 0 A) (F0 m 10 ls []) := by
    intro  vs l1 H locs ls hP hD hS hl hm
    unfold mX9_canKind_J10 at hm
    refine lv_aload_n hx hb dX9_canKind_10 rfl (lv_at hl 0 rfl) ?_
    refine lv_iload_n hx hb dX9_canKind_11 rfl (lv_at hl 1 rfl) ?_
    obtain ⟨r_2, hc_3, hm⟩ := bo1_s hm
    refine my_callP1 (wc := (wArr117 Γ q_s vs)) (w1 := (wArr117 Γ q_s vs)) (ws1 := (wArr117 Γ q_s vs)) hP hD hS hA [0] rfl rfl rfl (va_runS (As := [.ref q_s, .int l1]) (rest := []) ⟨hx, hb, hml, hown, hts⟩ (kX9_hasThing l Γ q_s vs l1 r_2 hc_3 _) (va_cwS 2 hts gX9_canKind_X9_hasThing rfl rfl rfl (by decide +kernel) ⟨Nat.le_of_ble_eq_true rfl, Nat.le_of_ble_eq_true rfl⟩) (my_preS (wc := (wArr117 Γ q_s vs)) [0] hK hP hD rfl rfl) rfl rfl hl.1 rfl (lv_room (Nat.le_of_ble_eq_true rfl)) dX9_canKind_12 ⟨Nat.le_of_ble_eq_true rfl, Nat.le_of_ble_eq_true rfl⟩) (fun H locs hP hD hS => ?_)
    refine lv_if_ne (tgt := 30) hx hb dX9_canKind_15 (by decide) (fun c_4 => ?_) (fun c_4 => ?_)
    · replace hm := if_f hm c_4
      refine lv_iconst (v := (0 : Int32)) hx hb dX9_canKind_30 (by decide) ?_
      obtain hf0 := Option.some.inj hm
      subst hf0
      exact W.zret (v := (0 : Int32)) hx hb hr rfl (fun t ht hW => ⟨⟨rfl, by rw [ht]; exact hP⟩, hS.F ht⟩) hS.2.2 dX9_canKind_31
    · replace hm := if_s hm c_4
      refine lv_aload_n hx hb dX9_canKind_18 rfl (lv_at hl 0 rfl) ?_
      refine lv_iload_n hx hb dX9_canKind_19 rfl (lv_at hl 1 rfl) ?_
      obtain ⟨r_5, hc_6, hm⟩ := bo1_s hm
      refine my_callP1 (wc := (wArr117 Γ q_s vs)) (w1 := (wArr117 Γ q_s vs)) (ws1 := (wArr117 Γ q_s vs)) hP hD hS hA [0] rfl rfl rfl (va_runS (As := [.ref q_s, .int l1]) (rest := []) ⟨hx, hb, hml, hown, hts⟩ (kX9_hasPoint l Γ q_s vs l1 r_5 hc_6 _) (va_cwS 2 hts gX9_canKind_X9_hasPoint rfl rfl rfl (by decide +kernel) ⟨Nat.le_of_ble_eq_true rfl, Nat.le_of_ble_eq_true rfl⟩) (my_preS (wc := (wArr117 Γ q_s vs)) [0] hK hP hD rfl rfl) rfl rfl hl.1 rfl (lv_room (Nat.le_of_ble_eq_true rfl)) dX9_canKind_20 ⟨Nat.le_of_ble_eq_true rfl, Nat.le_of_ble_eq_true rfl⟩) (fun H locs hP hD hS => ?_)
      refine lv_if_ne (tgt := 30) hx hb dX9_canKind_23 (by decide) (fun c_7 => ?_) (fun c_7 => ?_)
      · replace hm := if_f hm c_7
        refine lv_iconst (v := (0 : Int32)) hx hb dX9_canKind_30 (by decide) ?_
        obtain hf0 := Option.some.inj hm
        subst hf0
        exact W.zret (v := (0 : Int32)) hx hb hr rfl (fun t ht hW => ⟨⟨rfl, by rw [ht]; exact hP⟩, hS.F ht⟩) hS.2.2 dX9_canKind_31
      · replace hm := if_s hm c_7
        refine lv_iconst (v := (1 : Int32)) hx hb dX9_canKind_26 (by decide) ?_
        refine lv_goto (tgt := 31) hx hb dX9_canKind_27 (by decide) ?_
        obtain hf0 := Option.some.inj hm
        subst hf0
        exact W.zret (v := (1 : Int32)) hx hb hr rfl (fun t ht hW => ⟨⟨rfl, by rw [ht]; exact hP⟩, hS.F ht⟩) hS.2.2 dX9_canKind_31
  unfold mX9_canKind at hm
  refine lv_iload_n hx hb dX9_canKind_0 rfl (lv_at hl 2 rfl) ?_
  refine lv_iconst (v := (1 : Int32)) hx hb dX9_canKind_1 (by decide) ?_
  refine lv_icmp_eq (tgt := 10) hx hb dX9_canKind_2 (by decide) (fun c_1 => ?_) (fun c_1 => ?_)
  · replace hm := if_s hm c_1
    exact J_10 vs x1 _ _ _ hP hD hS (lv_sub hl [0, 1] rfl) hm
  · replace hm := if_f hm c_1
    refine lv_iload_n hx hb dX9_canKind_5 rfl (lv_at hl 2 rfl) ?_
    refine lv_iconst (v := (2 : Int32)) hx hb dX9_canKind_6 (by decide) ?_
    refine lv_icmp_ne (tgt := 26) hx hb dX9_canKind_7 (by decide) (fun c_8 => ?_) (fun c_8 => ?_)
    · replace hm := if_f hm c_8
      refine lv_iconst (v := (1 : Int32)) hx hb dX9_canKind_26 (by decide) ?_
      refine lv_goto (tgt := 31) hx hb dX9_canKind_27 (by decide) ?_
      obtain hf0 := Option.some.inj hm
      subst hf0
      exact W.zret (v := (1 : Int32)) hx hb hr rfl (fun t ht hW => ⟨⟨rfl, by rw [ht]; exact hP⟩, hS.F ht⟩) hS.2.2 dX9_canKind_31
    · replace hm := if_s hm c_8
      exact J_10 vs x1 _ _ _ hP hD hS (lv_sub hl [0, 1] rfl) hm
def mX9_canCrate (vs : Nat → Int32) (x1 : Int32) : Option (Int32) := (bo1 (mX9_isHard vs x1) (fun r_1 => (if r_1 = 0 then (bo1 (mX9_hasThing vs x1) (fun r_4 => (if r_4 = 0 then (bo1 (mX9_cratesOn vs) (fun r_7 => (if (8 : Int32) ≤ r_7 then (some (0 : Int32)) else (some (1 : Int32))))) else (some (0 : Int32))))) else (some (0 : Int32)))))
set_option maxHeartbeats 4000000 in
set_option maxRecDepth 100000 in
theorem kX9_canCrate (l : Launch) (Γ : my_G) (q_s : Nat) (vs : Nat → Int32) (x1 : Int32) (rr : Int32) (hm : mX9_canCrate vs x1 = (some rr)) : Mn l yX9_canCrate wsX9_canCrate ({ frames := 3, cells := 0, slots := 0, locals := 64 } : Room) Γ [.ref q_s, .int x1] (wArr117 Γ q_s vs) (some (.int rr)) (wArr117 Γ q_s vs) := by
  intro sz
  refine Met.ofW (cc := cX9_canCrate) (maxL := 2) (ret := (some .boolean)) (by decide) rfl ?_
  intro p e s m args below meth c s₁ B hml hv
  obtain ⟨rfl, hsz, hP, hK, hD0⟩ := hv
  have hx := B.exec
  have hb := B.bytes
  have hr := B.returns
  have hts := atoms_spec (ws := wsX9_canCrate) B.pre
  have hown : s.vm.findClass RX9 = some m.cls := findClass_of_methodNamed B.named
  have hlocks := B.notSynchronized
  subst hsz
  have hD := hD0.self (sz := s.heap.size)
  have hA : ∀ q : Nat, s.heap.size ≤ q → va_A (wArr117 Γ q_s vs) s.heap.size q := fun q h => Or.inr h
  generalize va_A (wArr117 Γ q_s vs) s.heap.size = A at hD hA ⊢
  have hS : va_S A s.heap s.heap [] := va_S.rf
  have hl := lv_entry ([.ref q_s, .int x1]) (n := 2) (Nat.le_of_ble_eq_true rfl)
  rw [lg_entry_eq]
  generalize (lg_sl ([.ref q_s, .int x1]) ++ List.replicate (2 - (lg_sl ([.ref q_s, .int x1])).length) Slot.unset).toArray = ls at hl ⊢
  replace hl : lv_has ls 2 [(0, .ref q_s), (1, .int x1)] := hl
  unfold mX9_canCrate at hm
  refine lv_aload_n hx hb dX9_canCrate_0 rfl (lv_at hl 0 rfl) ?_
  refine lv_iload_n hx hb dX9_canCrate_1 rfl (lv_at hl 1 rfl) ?_
  obtain ⟨r_1, hc_2, hm⟩ := bo1_s hm
  refine my_callP1 (wc := (wArr117 Γ q_s vs)) (w1 := (wArr117 Γ q_s vs)) (ws1 := (wArr117 Γ q_s vs)) hP hD hS hA [0] rfl rfl rfl (va_runS (As := [.ref q_s, .int x1]) (rest := []) ⟨hx, hb, hml, hown, hts⟩ (kX9_isHard l Γ q_s vs x1 r_1 hc_2 _) (va_cwS 2 hts gX9_canCrate_X9_isHard rfl rfl rfl (by decide +kernel) ⟨Nat.le_of_ble_eq_true rfl, Nat.le_of_ble_eq_true rfl⟩) (my_preS (wc := (wArr117 Γ q_s vs)) [0] hK hP hD rfl rfl) rfl rfl hl.1 rfl (lv_room (Nat.le_of_ble_eq_true rfl)) dX9_canCrate_2 ⟨Nat.le_of_ble_eq_true rfl, Nat.le_of_ble_eq_true rfl⟩) (fun H locs hP hD hS => ?_)
  refine lv_if_ne (tgt := 29) hx hb dX9_canCrate_5 (by decide) (fun c_3 => ?_) (fun c_3 => ?_)
  · replace hm := if_f hm c_3
    refine lv_iconst (v := (0 : Int32)) hx hb dX9_canCrate_29 (by decide) ?_
    obtain hf0 := Option.some.inj hm
    subst hf0
    exact W.zret (v := (0 : Int32)) hx hb hr rfl (fun t ht hW => ⟨⟨rfl, by rw [ht]; exact hP⟩, hS.F ht⟩) hS.2.2 dX9_canCrate_30
  · replace hm := if_s hm c_3
    refine lv_aload_n hx hb dX9_canCrate_8 rfl (lv_at hl 0 rfl) ?_
    refine lv_iload_n hx hb dX9_canCrate_9 rfl (lv_at hl 1 rfl) ?_
    obtain ⟨r_4, hc_5, hm⟩ := bo1_s hm
    refine my_callP1 (wc := (wArr117 Γ q_s vs)) (w1 := (wArr117 Γ q_s vs)) (ws1 := (wArr117 Γ q_s vs)) hP hD hS hA [0] rfl rfl rfl (va_runS (As := [.ref q_s, .int x1]) (rest := []) ⟨hx, hb, hml, hown, hts⟩ (kX9_hasThing l Γ q_s vs x1 r_4 hc_5 _) (va_cwS 2 hts gX9_canCrate_X9_hasThing rfl rfl rfl (by decide +kernel) ⟨Nat.le_of_ble_eq_true rfl, Nat.le_of_ble_eq_true rfl⟩) (my_preS (wc := (wArr117 Γ q_s vs)) [0] hK hP hD rfl rfl) rfl rfl hl.1 rfl (lv_room (Nat.le_of_ble_eq_true rfl)) dX9_canCrate_10 ⟨Nat.le_of_ble_eq_true rfl, Nat.le_of_ble_eq_true rfl⟩) (fun H locs hP hD hS => ?_)
    refine lv_if_ne (tgt := 29) hx hb dX9_canCrate_13 (by decide) (fun c_6 => ?_) (fun c_6 => ?_)
    · replace hm := if_f hm c_6
      refine lv_iconst (v := (0 : Int32)) hx hb dX9_canCrate_29 (by decide) ?_
      obtain hf0 := Option.some.inj hm
      subst hf0
      exact W.zret (v := (0 : Int32)) hx hb hr rfl (fun t ht hW => ⟨⟨rfl, by rw [ht]; exact hP⟩, hS.F ht⟩) hS.2.2 dX9_canCrate_30
    · replace hm := if_s hm c_6
      refine lv_aload_n hx hb dX9_canCrate_16 rfl (lv_at hl 0 rfl) ?_
      obtain ⟨r_7, hc_8, hm⟩ := bo1_s hm
      refine my_callP1 (wc := (wArr117 Γ q_s vs)) (w1 := (wArr117 Γ q_s vs)) (ws1 := (wArr117 Γ q_s vs)) hP hD hS hA [0] rfl rfl rfl (va_runS (As := [.ref q_s]) (rest := []) ⟨hx, hb, hml, hown, hts⟩ (kX9_cratesOn l Γ q_s vs r_7 hc_8 _) (va_cwS 1 hts gX9_canCrate_X9_cratesOn rfl rfl rfl (by decide +kernel) ⟨Nat.le_of_ble_eq_true rfl, Nat.le_of_ble_eq_true rfl⟩) (my_preS (wc := (wArr117 Γ q_s vs)) [0] hK hP hD rfl rfl) rfl rfl hl.1 rfl (lv_room (Nat.le_of_ble_eq_true rfl)) dX9_canCrate_17 ⟨Nat.le_of_ble_eq_true rfl, Nat.le_of_ble_eq_true rfl⟩) (fun H locs hP hD hS => ?_)
      refine lv_bipush (v := (8 : Int32)) hx hb dX9_canCrate_20 (by decide) ?_
      refine lv_icmp_ge (tgt := 29) hx hb dX9_canCrate_22 (by decide) (fun c_9 => ?_) (fun c_9 => ?_)
      · replace hm := if_s hm c_9
        refine lv_iconst (v := (0 : Int32)) hx hb dX9_canCrate_29 (by decide) ?_
        obtain hf0 := Option.some.inj hm
        subst hf0
        exact W.zret (v := (0 : Int32)) hx hb hr rfl (fun t ht hW => ⟨⟨rfl, by rw [ht]; exact hP⟩, hS.F ht⟩) hS.2.2 dX9_canCrate_30
      · replace hm := if_f hm c_9
        refine lv_iconst (v := (1 : Int32)) hx hb dX9_canCrate_25 (by decide) ?_
        refine lv_goto (tgt := 30) hx hb dX9_canCrate_26 (by decide) ?_
        obtain hf0 := Option.some.inj hm
        subst hf0
        exact W.zret (v := (1 : Int32)) hx hb hr rfl (fun t ht hW => ⟨⟨rfl, by rw [ht]; exact hP⟩, hS.F ht⟩) hS.2.2 dX9_canCrate_30
def mX9_canPoint (vs : Nat → Int32) (x1 : Int32) : Option (Int32) := (bo1 (mX9_isHard vs x1) (fun r_1 => (if r_1 = 0 then (bo1 (mX9_hasPoint vs x1) (fun r_4 => (if r_4 = 0 then (if (4 : Int32) ≤ (vs (110 : Int32).toNatClampNeg) then (some (0 : Int32)) else (some (1 : Int32))) else (some (0 : Int32))))) else (some (0 : Int32)))))
set_option maxHeartbeats 4000000 in
set_option maxRecDepth 100000 in
theorem kX9_canPoint (l : Launch) (Γ : my_G) (q_s : Nat) (vs : Nat → Int32) (x1 : Int32) (rr : Int32) (hm : mX9_canPoint vs x1 = (some rr)) : Mn l yX9_canPoint wsX9_canPoint ({ frames := 1, cells := 0, slots := 0, locals := 23 } : Room) Γ [.ref q_s, .int x1] (wArr117 Γ q_s vs) (some (.int rr)) (wArr117 Γ q_s vs) := by
  intro sz
  refine Met.ofW (cc := cX9_canPoint) (maxL := 2) (ret := (some .boolean)) (by decide) rfl ?_
  intro p e s m args below meth c s₁ B hml hv
  obtain ⟨rfl, hsz, hP, hK, hD0⟩ := hv
  have hx := B.exec
  have hb := B.bytes
  have hr := B.returns
  have hts := atoms_spec (ws := wsX9_canPoint) B.pre
  have hown : s.vm.findClass RX9 = some m.cls := findClass_of_methodNamed B.named
  have hlocks := B.notSynchronized
  subst hsz
  have hD := hD0.self (sz := s.heap.size)
  have hA : ∀ q : Nat, s.heap.size ≤ q → va_A (wArr117 Γ q_s vs) s.heap.size q := fun q h => Or.inr h
  generalize va_A (wArr117 Γ q_s vs) s.heap.size = A at hD hA ⊢
  have hS : va_S A s.heap s.heap [] := va_S.rf
  have hl := lv_entry ([.ref q_s, .int x1]) (n := 2) (Nat.le_of_ble_eq_true rfl)
  rw [lg_entry_eq]
  generalize (lg_sl ([.ref q_s, .int x1]) ++ List.replicate (2 - (lg_sl ([.ref q_s, .int x1])).length) Slot.unset).toArray = ls at hl ⊢
  replace hl : lv_has ls 2 [(0, .ref q_s), (1, .int x1)] := hl
  unfold mX9_canPoint at hm
  refine lv_aload_n hx hb dX9_canPoint_0 rfl (lv_at hl 0 rfl) ?_
  refine lv_iload_n hx hb dX9_canPoint_1 rfl (lv_at hl 1 rfl) ?_
  obtain ⟨r_1, hc_2, hm⟩ := bo1_s hm
  refine my_callP1 (wc := (wArr117 Γ q_s vs)) (w1 := (wArr117 Γ q_s vs)) (ws1 := (wArr117 Γ q_s vs)) hP hD hS hA [0] rfl rfl rfl (va_runS (As := [.ref q_s, .int x1]) (rest := []) ⟨hx, hb, hml, hown, hts⟩ (kX9_isHard l Γ q_s vs x1 r_1 hc_2 _) (va_cwS 2 hts gX9_canPoint_X9_isHard rfl rfl rfl (by decide +kernel) ⟨Nat.le_of_ble_eq_true rfl, Nat.le_of_ble_eq_true rfl⟩) (my_preS (wc := (wArr117 Γ q_s vs)) [0] hK hP hD rfl rfl) rfl rfl hl.1 rfl (lv_room (Nat.le_of_ble_eq_true rfl)) dX9_canPoint_2 ⟨Nat.le_of_ble_eq_true rfl, Nat.le_of_ble_eq_true rfl⟩) (fun H locs hP hD hS => ?_)
  refine lv_if_ne (tgt := 28) hx hb dX9_canPoint_5 (by decide) (fun c_3 => ?_) (fun c_3 => ?_)
  · replace hm := if_f hm c_3
    refine lv_iconst (v := (0 : Int32)) hx hb dX9_canPoint_28 (by decide) ?_
    obtain hf0 := Option.some.inj hm
    subst hf0
    exact W.zret (v := (0 : Int32)) hx hb hr rfl (fun t ht hW => ⟨⟨rfl, by rw [ht]; exact hP⟩, hS.F ht⟩) hS.2.2 dX9_canPoint_29
  · replace hm := if_s hm c_3
    refine lv_aload_n hx hb dX9_canPoint_8 rfl (lv_at hl 0 rfl) ?_
    refine lv_iload_n hx hb dX9_canPoint_9 rfl (lv_at hl 1 rfl) ?_
    obtain ⟨r_4, hc_5, hm⟩ := bo1_s hm
    refine my_callP1 (wc := (wArr117 Γ q_s vs)) (w1 := (wArr117 Γ q_s vs)) (ws1 := (wArr117 Γ q_s vs)) hP hD hS hA [0] rfl rfl rfl (va_runS (As := [.ref q_s, .int x1]) (rest := []) ⟨hx, hb, hml, hown, hts⟩ (kX9_hasPoint l Γ q_s vs x1 r_4 hc_5 _) (va_cwS 2 hts gX9_canPoint_X9_hasPoint rfl rfl rfl (by decide +kernel) ⟨Nat.le_of_ble_eq_true rfl, Nat.le_of_ble_eq_true rfl⟩) (my_preS (wc := (wArr117 Γ q_s vs)) [0] hK hP hD rfl rfl) rfl rfl hl.1 rfl (lv_room (Nat.le_of_ble_eq_true rfl)) dX9_canPoint_10 ⟨Nat.le_of_ble_eq_true rfl, Nat.le_of_ble_eq_true rfl⟩) (fun H locs hP hD hS => ?_)
    refine lv_if_ne (tgt := 28) hx hb dX9_canPoint_13 (by decide) (fun c_6 => ?_) (fun c_6 => ?_)
    · replace hm := if_f hm c_6
      refine lv_iconst (v := (0 : Int32)) hx hb dX9_canPoint_28 (by decide) ?_
      obtain hf0 := Option.some.inj hm
      subst hf0
      exact W.zret (v := (0 : Int32)) hx hb hr rfl (fun t ht hW => ⟨⟨rfl, by rw [ht]; exact hP⟩, hS.F ht⟩) hS.2.2 dX9_canPoint_29
    · replace hm := if_s hm c_6
      refine lv_aload_n hx hb dX9_canPoint_16 rfl (lv_at hl 0 rfl) ?_
      refine lv_bipush (v := (110 : Int32)) hx hb dX9_canPoint_17 (by decide) ?_
      refine va_iald hx hb hK hP 0 0 rfl rfl (show vp_in (110 : Int32) 117 from (by decide : ¬ ((110 : Int32) < 0 ∨ 117 ≤ (110 : Int32).toNatClampNeg))) dX9_canPoint_19 ?_
      refine lv_iconst (v := (4 : Int32)) hx hb dX9_canPoint_20 (by decide) ?_
      refine lv_icmp_ge (tgt := 28) hx hb dX9_canPoint_21 (by decide) (fun c_7 => ?_) (fun c_7 => ?_)
      · replace hm := if_s hm c_7
        refine lv_iconst (v := (0 : Int32)) hx hb dX9_canPoint_28 (by decide) ?_
        obtain hf0 := Option.some.inj hm
        subst hf0
        exact W.zret (v := (0 : Int32)) hx hb hr rfl (fun t ht hW => ⟨⟨rfl, by rw [ht]; exact hP⟩, hS.F ht⟩) hS.2.2 dX9_canPoint_29
      · replace hm := if_f hm c_7
        refine lv_iconst (v := (1 : Int32)) hx hb dX9_canPoint_24 (by decide) ?_
        refine lv_goto (tgt := 29) hx hb dX9_canPoint_25 (by decide) ?_
        obtain hf0 := Option.some.inj hm
        subst hf0
        exact W.zret (v := (1 : Int32)) hx hb hr rfl (fun t ht hW => ⟨⟨rfl, by rw [ht]; exact hP⟩, hS.F ht⟩) hS.2.2 dX9_canPoint_29
def mX9_canPut (vs : Nat → Int32) (x1 : Int32) (x2 : Int32) : Option (Int32) := (bo1 (mX9_isHard vs x2) (fun r_1 => (if r_1 = 0 then (bo1 (mX9_of vs x1 (0 : Int32)) (fun r_4 => (if r_4 = x2 then (some (1 : Int32)) else (bo1 (mX9_hasThing vs x2) (fun r_7 => (if r_7 = 0 then (some (1 : Int32)) else (some (0 : Int32)))))))) else (some (0 : Int32)))))
set_option maxHeartbeats 4000000 in
set_option maxRecDepth 100000 in
theorem kX9_canPut (l : Launch) (Γ : my_G) (q_s : Nat) (vs : Nat → Int32) (x1 : Int32) (x2 : Int32) (rr : Int32) (hm : mX9_canPut vs x1 x2 = (some rr)) : Mn l yX9_canPut wsX9_canPut ({ frames := 3, cells := 0, slots := 0, locals := 64 } : Room) Γ [.ref q_s, .int x1, .int x2] (wArr117 Γ q_s vs) (some (.int rr)) (wArr117 Γ q_s vs) := by
  intro sz
  refine Met.ofW (cc := cX9_canPut) (maxL := 3) (ret := (some .boolean)) (by decide) rfl ?_
  intro p e s m args below meth c s₁ B hml hv
  obtain ⟨rfl, hsz, hP, hK, hD0⟩ := hv
  have hx := B.exec
  have hb := B.bytes
  have hr := B.returns
  have hts := atoms_spec (ws := wsX9_canPut) B.pre
  have hown : s.vm.findClass RX9 = some m.cls := findClass_of_methodNamed B.named
  have hlocks := B.notSynchronized
  subst hsz
  have hD := hD0.self (sz := s.heap.size)
  have hA : ∀ q : Nat, s.heap.size ≤ q → va_A (wArr117 Γ q_s vs) s.heap.size q := fun q h => Or.inr h
  generalize va_A (wArr117 Γ q_s vs) s.heap.size = A at hD hA ⊢
  have hS : va_S A s.heap s.heap [] := va_S.rf
  have hl := lv_entry ([.ref q_s, .int x1, .int x2]) (n := 3) (Nat.le_of_ble_eq_true rfl)
  rw [lg_entry_eq]
  generalize (lg_sl ([.ref q_s, .int x1, .int x2]) ++ List.replicate (3 - (lg_sl ([.ref q_s, .int x1, .int x2])).length) Slot.unset).toArray = ls at hl ⊢
  replace hl : lv_has ls 3 [(0, .ref q_s), (1, .int x1), (2, .int x2)] := hl
  unfold mX9_canPut at hm
  refine lv_aload_n hx hb dX9_canPut_0 rfl (lv_at hl 0 rfl) ?_
  refine lv_iload_n hx hb dX9_canPut_1 rfl (lv_at hl 2 rfl) ?_
  obtain ⟨r_1, hc_2, hm⟩ := bo1_s hm
  refine my_callP1 (wc := (wArr117 Γ q_s vs)) (w1 := (wArr117 Γ q_s vs)) (ws1 := (wArr117 Γ q_s vs)) hP hD hS hA [0] rfl rfl rfl (va_runS (As := [.ref q_s, .int x2]) (rest := []) ⟨hx, hb, hml, hown, hts⟩ (kX9_isHard l Γ q_s vs x2 r_1 hc_2 _) (va_cwS 2 hts gX9_canPut_X9_isHard rfl rfl rfl (by decide +kernel) ⟨Nat.le_of_ble_eq_true rfl, Nat.le_of_ble_eq_true rfl⟩) (my_preS (wc := (wArr117 Γ q_s vs)) [0] hK hP hD rfl rfl) rfl rfl hl.1 rfl (lv_room (Nat.le_of_ble_eq_true rfl)) dX9_canPut_2 ⟨Nat.le_of_ble_eq_true rfl, Nat.le_of_ble_eq_true rfl⟩) (fun H locs hP hD hS => ?_)
  refine lv_if_ne (tgt := 30) hx hb dX9_canPut_5 (by decide) (fun c_3 => ?_) (fun c_3 => ?_)
  · replace hm := if_f hm c_3
    refine lv_iconst (v := (0 : Int32)) hx hb dX9_canPut_30 (by decide) ?_
    obtain hf0 := Option.some.inj hm
    subst hf0
    exact W.zret (v := (0 : Int32)) hx hb hr rfl (fun t ht hW => ⟨⟨rfl, by rw [ht]; exact hP⟩, hS.F ht⟩) hS.2.2 dX9_canPut_31
  · replace hm := if_s hm c_3
    refine lv_aload_n hx hb dX9_canPut_8 rfl (lv_at hl 0 rfl) ?_
    refine lv_iload_n hx hb dX9_canPut_9 rfl (lv_at hl 1 rfl) ?_
    refine lv_iconst (v := (0 : Int32)) hx hb dX9_canPut_10 (by decide) ?_
    obtain ⟨r_4, hc_5, hm⟩ := bo1_s hm
    refine my_callP1 (wc := (wArr117 Γ q_s vs)) (w1 := (wArr117 Γ q_s vs)) (ws1 := (wArr117 Γ q_s vs)) hP hD hS hA [0] rfl rfl rfl (va_runS (As := [.ref q_s, .int x1, .int (0 : Int32)]) (rest := []) ⟨hx, hb, hml, hown, hts⟩ (kX9_of l Γ q_s vs x1 (0 : Int32) r_4 hc_5 _) (va_cwS 3 hts gX9_canPut_X9_of rfl rfl rfl (by decide +kernel) ⟨Nat.le_of_ble_eq_true rfl, Nat.le_of_ble_eq_true rfl⟩) (my_preS (wc := (wArr117 Γ q_s vs)) [0] hK hP hD rfl rfl) rfl rfl hl.1 rfl (lv_room (Nat.le_of_ble_eq_true rfl)) dX9_canPut_11 ⟨Nat.le_of_ble_eq_true rfl, Nat.le_of_ble_eq_true rfl⟩) (fun H locs hP hD hS => ?_)
    refine lv_iload_n hx hb dX9_canPut_14 rfl (lv_at hl 2 rfl) ?_
    refine lv_icmp_eq (tgt := 26) hx hb dX9_canPut_15 (by decide) (fun c_6 => ?_) (fun c_6 => ?_)
    · replace hm := if_s hm c_6
      refine lv_iconst (v := (1 : Int32)) hx hb dX9_canPut_26 (by decide) ?_
      refine lv_goto (tgt := 31) hx hb dX9_canPut_27 (by decide) ?_
      obtain hf0 := Option.some.inj hm
      subst hf0
      exact W.zret (v := (1 : Int32)) hx hb hr rfl (fun t ht hW => ⟨⟨rfl, by rw [ht]; exact hP⟩, hS.F ht⟩) hS.2.2 dX9_canPut_31
    · replace hm := if_f hm c_6
      refine lv_aload_n hx hb dX9_canPut_18 rfl (lv_at hl 0 rfl) ?_
      refine lv_iload_n hx hb dX9_canPut_19 rfl (lv_at hl 2 rfl) ?_
      obtain ⟨r_7, hc_8, hm⟩ := bo1_s hm
      refine my_callP1 (wc := (wArr117 Γ q_s vs)) (w1 := (wArr117 Γ q_s vs)) (ws1 := (wArr117 Γ q_s vs)) hP hD hS hA [0] rfl rfl rfl (va_runS (As := [.ref q_s, .int x2]) (rest := []) ⟨hx, hb, hml, hown, hts⟩ (kX9_hasThing l Γ q_s vs x2 r_7 hc_8 _) (va_cwS 2 hts gX9_canPut_X9_hasThing rfl rfl rfl (by decide +kernel) ⟨Nat.le_of_ble_eq_true rfl, Nat.le_of_ble_eq_true rfl⟩) (my_preS (wc := (wArr117 Γ q_s vs)) [0] hK hP hD rfl rfl) rfl rfl hl.1 rfl (lv_room (Nat.le_of_ble_eq_true rfl)) dX9_canPut_20 ⟨Nat.le_of_ble_eq_true rfl, Nat.le_of_ble_eq_true rfl⟩) (fun H locs hP hD hS => ?_)
      refine lv_if_ne (tgt := 30) hx hb dX9_canPut_23 (by decide) (fun c_9 => ?_) (fun c_9 => ?_)
      · replace hm := if_f hm c_9
        refine lv_iconst (v := (0 : Int32)) hx hb dX9_canPut_30 (by decide) ?_
        obtain hf0 := Option.some.inj hm
        subst hf0
        exact W.zret (v := (0 : Int32)) hx hb hr rfl (fun t ht hW => ⟨⟨rfl, by rw [ht]; exact hP⟩, hS.F ht⟩) hS.2.2 dX9_canPut_31
      · replace hm := if_s hm c_9
        refine lv_iconst (v := (1 : Int32)) hx hb dX9_canPut_26 (by decide) ?_
        refine lv_goto (tgt := 31) hx hb dX9_canPut_27 (by decide) ?_
        obtain hf0 := Option.some.inj hm
        subst hf0
        exact W.zret (v := (1 : Int32)) hx hb hr rfl (fun t ht hW => ⟨⟨rfl, by rw [ht]; exact hP⟩, hS.F ht⟩) hS.2.2 dX9_canPut_31
def mX9_kindOn (vs : Nat → Int32) (x1 : Int32) (x2 : Int32) : Option (Int32 × (Nat → Int32)) := (if ¬ (x1 < 0 ∨ 117 ≤ x1.toNatClampNeg) then (some ((vs x1.toNatClampNeg), (upd vs x1.toNatClampNeg x2))) else none)
set_option maxHeartbeats 4000000 in
set_option maxRecDepth 100000 in
theorem kX9_kindOn (l : Launch) (Γ : my_G) (q_s : Nat) (vs : Nat → Int32) (x1 : Int32) (x2 : Int32) (rr : Int32) (vs_z : Nat → Int32) (hm : mX9_kindOn vs x1 x2 = (some (rr, vs_z))) : Mn l yX9_kindOn wsX9_kindOn ({ frames := 0, cells := 0, slots := 0, locals := 0 } : Room) Γ [.ref q_s, .int x1, .int x2] (wArr117 Γ q_s vs) (some (.int rr)) (wArr117 Γ q_s vs_z) := by
  intro sz
  refine Met.ofW (cc := cX9_kindOn) (maxL := 4) (ret := (some .int)) (by decide) rfl ?_
  intro p e s m args below meth c s₁ B hml hv
  obtain ⟨rfl, hsz, hP, hK, hD0⟩ := hv
  have hx := B.exec
  have hb := B.bytes
  have hr := B.returns
  have hts := atoms_spec (ws := wsX9_kindOn) B.pre
  have hown : s.vm.findClass RX9 = some m.cls := findClass_of_methodNamed B.named
  have hlocks := B.notSynchronized
  subst hsz
  have hD := hD0.self (sz := s.heap.size)
  have hA : ∀ q : Nat, s.heap.size ≤ q → va_A (wArr117 Γ q_s vs) s.heap.size q := fun q h => Or.inr h
  generalize va_A (wArr117 Γ q_s vs) s.heap.size = A at hD hA ⊢
  have hS : va_S A s.heap s.heap [] := va_S.rf
  have hl := lv_entry ([.ref q_s, .int x1, .int x2]) (n := 4) (Nat.le_of_ble_eq_true rfl)
  rw [lg_entry_eq]
  generalize (lg_sl ([.ref q_s, .int x1, .int x2]) ++ List.replicate (4 - (lg_sl ([.ref q_s, .int x1, .int x2])).length) Slot.unset).toArray = ls at hl ⊢
  replace hl : lv_has ls 4 [(0, .ref q_s), (1, .int x1), (2, .int x2)] := hl
  unfold mX9_kindOn at hm
  refine lv_aload_n hx hb dX9_kindOn_0 rfl (lv_at hl 0 rfl) ?_
  refine lv_iload_n hx hb dX9_kindOn_1 rfl (lv_at hl 1 rfl) ?_
  obtain ⟨hi_1, hm⟩ := if_in hm
  refine va_iald hx hb hK hP 0 0 rfl rfl hi_1 dX9_kindOn_2 ?_
  refine lv_istore_n (lv' := [(3, .int (vs x1.toNatClampNeg)), (0, .ref q_s), (1, .int x1), (2, .int x2)]) hx hb dX9_kindOn_3 rfl hl (by decide) rfl (fun ls hl => ?_)
  refine lv_aload_n hx hb dX9_kindOn_4 rfl (lv_at hl 1 rfl) ?_
  refine lv_iload_n hx hb dX9_kindOn_5 rfl (lv_at hl 2 rfl) ?_
  refine lv_iload_n hx hb dX9_kindOn_6 rfl (lv_at hl 3 rfl) ?_
  refine va_iast hx hb hK hP hD hS 0 0 rfl rfl hi_1 dX9_kindOn_7 (fun H locs hP hD hS => ?_)
  replace hP : va_P (my_D Γ) vwCl (wArr117 Γ q_s (upd vs x1.toNatClampNeg x2)) H := hP
  replace hD : va_D A (wArr117 Γ q_s (upd vs x1.toNatClampNeg x2)) := hD
  refine lv_iload_n hx hb dX9_kindOn_8 rfl (lv_at hl 0 rfl) ?_
  obtain ⟨hf0, hf1⟩ := si2 hm
  subst hf0
  subst hf1
  exact W.iret (v := (vs x1.toNatClampNeg)) hx hb hr (fun t ht hW => ⟨⟨rfl, by rw [ht]; exact hP⟩, hS.F ht⟩) hS.2.2 dX9_kindOn_9
def mX9_crateOn (vs : Nat → Int32) (x1 : Int32) : Option (Int32 × (Nat → Int32)) := (if ¬ (((36 : Int32) + x1) < 0 ∨ 117 ≤ ((36 : Int32) + x1).toNatClampNeg) then (bo1 (mX9_cratesOn (upd vs ((36 : Int32) + x1).toNatClampNeg (1 : Int32))) (fun r_2 => (some (r_2, (upd vs ((36 : Int32) + x1).toNatClampNeg (1 : Int32)))))) else none)
set_option maxHeartbeats 4000000 in
set_option maxRecDepth 100000 in
theorem kX9_crateOn (l : Launch) (Γ : my_G) (q_s : Nat) (vs : Nat → Int32) (x1 : Int32) (rr : Int32) (vs_z : Nat → Int32) (hm : mX9_crateOn vs x1 = (some (rr, vs_z))) : Mn l yX9_crateOn wsX9_crateOn ({ frames := 1, cells := 0, slots := 0, locals := 22 } : Room) Γ [.ref q_s, .int x1] (wArr117 Γ q_s vs) (some (.int rr)) (wArr117 Γ q_s vs_z) := by
  intro sz
  refine Met.ofW (cc := cX9_crateOn) (maxL := 2) (ret := (some .int)) (by decide) rfl ?_
  intro p e s m args below meth c s₁ B hml hv
  obtain ⟨rfl, hsz, hP, hK, hD0⟩ := hv
  have hx := B.exec
  have hb := B.bytes
  have hr := B.returns
  have hts := atoms_spec (ws := wsX9_crateOn) B.pre
  have hown : s.vm.findClass RX9 = some m.cls := findClass_of_methodNamed B.named
  have hlocks := B.notSynchronized
  subst hsz
  have hD := hD0.self (sz := s.heap.size)
  have hA : ∀ q : Nat, s.heap.size ≤ q → va_A (wArr117 Γ q_s vs) s.heap.size q := fun q h => Or.inr h
  generalize va_A (wArr117 Γ q_s vs) s.heap.size = A at hD hA ⊢
  have hS : va_S A s.heap s.heap [] := va_S.rf
  have hl := lv_entry ([.ref q_s, .int x1]) (n := 2) (Nat.le_of_ble_eq_true rfl)
  rw [lg_entry_eq]
  generalize (lg_sl ([.ref q_s, .int x1]) ++ List.replicate (2 - (lg_sl ([.ref q_s, .int x1])).length) Slot.unset).toArray = ls at hl ⊢
  replace hl : lv_has ls 2 [(0, .ref q_s), (1, .int x1)] := hl
  unfold mX9_crateOn at hm
  refine lv_aload_n hx hb dX9_crateOn_0 rfl (lv_at hl 0 rfl) ?_
  refine lv_bipush (v := (36 : Int32)) hx hb dX9_crateOn_1 (by decide) ?_
  refine lv_iload_n hx hb dX9_crateOn_3 rfl (lv_at hl 1 rfl) ?_
  refine lv_iadd hx hb dX9_crateOn_4 ?_
  refine lv_iconst (v := (1 : Int32)) hx hb dX9_crateOn_5 (by decide) ?_
  obtain ⟨hi_1, hm⟩ := if_in hm
  refine va_iast hx hb hK hP hD hS 0 0 rfl rfl hi_1 dX9_crateOn_6 (fun H locs hP hD hS => ?_)
  replace hP : va_P (my_D Γ) vwCl (wArr117 Γ q_s (upd vs ((36 : Int32) + x1).toNatClampNeg (1 : Int32))) H := hP
  replace hD : va_D A (wArr117 Γ q_s (upd vs ((36 : Int32) + x1).toNatClampNeg (1 : Int32))) := hD
  refine lv_aload_n hx hb dX9_crateOn_7 rfl (lv_at hl 0 rfl) ?_
  obtain ⟨r_2, hc_3, hm⟩ := bo1_s hm
  refine my_callP1 (wc := (wArr117 Γ q_s (upd vs ((36 : Int32) + x1).toNatClampNeg (1 : Int32)))) (w1 := (wArr117 Γ q_s (upd vs ((36 : Int32) + x1).toNatClampNeg (1 : Int32)))) (ws1 := (wArr117 Γ q_s (upd vs ((36 : Int32) + x1).toNatClampNeg (1 : Int32)))) hP hD hS hA [0] rfl rfl rfl (va_runS (As := [.ref q_s]) (rest := []) ⟨hx, hb, hml, hown, hts⟩ (kX9_cratesOn l Γ q_s (upd vs ((36 : Int32) + x1).toNatClampNeg (1 : Int32)) r_2 hc_3 _) (va_cwS 1 hts gX9_crateOn_X9_cratesOn rfl rfl rfl (by decide +kernel) ⟨Nat.le_of_ble_eq_true rfl, Nat.le_of_ble_eq_true rfl⟩) (my_preS (wc := (wArr117 Γ q_s (upd vs ((36 : Int32) + x1).toNatClampNeg (1 : Int32)))) [0] hK hP hD rfl rfl) rfl rfl hl.1 rfl (lv_room (Nat.le_of_ble_eq_true rfl)) dX9_crateOn_8 ⟨Nat.le_of_ble_eq_true rfl, Nat.le_of_ble_eq_true rfl⟩) (fun H locs hP hD hS => ?_)
  obtain ⟨hf0, hf1⟩ := si2 hm
  subst hf0
  subst hf1
  exact W.iret (v := r_2) hx hb hr (fun t ht hW => ⟨⟨rfl, by rw [ht]; exact hP⟩, hS.F ht⟩) hS.2.2 dX9_crateOn_11
def mX9_pointOn (vs : Nat → Int32) (x1 : Int32) : Option (Int32 × (Nat → Int32)) := (if ¬ (((110 : Int32) + ((upd vs (110 : Int32).toNatClampNeg ((vs (110 : Int32).toNatClampNeg) + (1 : Int32))) (110 : Int32).toNatClampNeg)) < 0 ∨ 117 ≤ ((110 : Int32) + ((upd vs (110 : Int32).toNatClampNeg ((vs (110 : Int32).toNatClampNeg) + (1 : Int32))) (110 : Int32).toNatClampNeg)).toNatClampNeg) then (some (((upd (upd vs (110 : Int32).toNatClampNeg ((vs (110 : Int32).toNatClampNeg) + (1 : Int32))) ((110 : Int32) + ((upd vs (110 : Int32).toNatClampNeg ((vs (110 : Int32).toNatClampNeg) + (1 : Int32))) (110 : Int32).toNatClampNeg)).toNatClampNeg x1) (110 : Int32).toNatClampNeg), (upd (upd vs (110 : Int32).toNatClampNeg ((vs (110 : Int32).toNatClampNeg) + (1 : Int32))) ((110 : Int32) + ((upd vs (110 : Int32).toNatClampNeg ((vs (110 : Int32).toNatClampNeg) + (1 : Int32))) (110 : Int32).toNatClampNeg)).toNatClampNeg x1))) else none)
set_option maxHeartbeats 4000000 in
set_option maxRecDepth 100000 in
theorem kX9_pointOn (l : Launch) (Γ : my_G) (q_s : Nat) (vs : Nat → Int32) (x1 : Int32) (rr : Int32) (vs_z : Nat → Int32) (hm : mX9_pointOn vs x1 = (some (rr, vs_z))) : Mn l yX9_pointOn wsX9_pointOn ({ frames := 0, cells := 0, slots := 0, locals := 0 } : Room) Γ [.ref q_s, .int x1] (wArr117 Γ q_s vs) (some (.int rr)) (wArr117 Γ q_s vs_z) := by
  intro sz
  refine Met.ofW (cc := cX9_pointOn) (maxL := 2) (ret := (some .int)) (by decide) rfl ?_
  intro p e s m args below meth c s₁ B hml hv
  obtain ⟨rfl, hsz, hP, hK, hD0⟩ := hv
  have hx := B.exec
  have hb := B.bytes
  have hr := B.returns
  have hts := atoms_spec (ws := wsX9_pointOn) B.pre
  have hown : s.vm.findClass RX9 = some m.cls := findClass_of_methodNamed B.named
  have hlocks := B.notSynchronized
  subst hsz
  have hD := hD0.self (sz := s.heap.size)
  have hA : ∀ q : Nat, s.heap.size ≤ q → va_A (wArr117 Γ q_s vs) s.heap.size q := fun q h => Or.inr h
  generalize va_A (wArr117 Γ q_s vs) s.heap.size = A at hD hA ⊢
  have hS : va_S A s.heap s.heap [] := va_S.rf
  have hl := lv_entry ([.ref q_s, .int x1]) (n := 2) (Nat.le_of_ble_eq_true rfl)
  rw [lg_entry_eq]
  generalize (lg_sl ([.ref q_s, .int x1]) ++ List.replicate (2 - (lg_sl ([.ref q_s, .int x1])).length) Slot.unset).toArray = ls at hl ⊢
  replace hl : lv_has ls 2 [(0, .ref q_s), (1, .int x1)] := hl
  unfold mX9_pointOn at hm
  refine lv_aload_n hx hb dX9_pointOn_0 rfl (lv_at hl 0 rfl) ?_
  refine lv_bipush (v := (110 : Int32)) hx hb dX9_pointOn_1 (by decide) ?_
  refine lv_dup2_11 hx hb dX9_pointOn_3 rfl rfl ?_
  refine va_iald hx hb hK hP 0 0 rfl rfl (show vp_in (110 : Int32) 117 from (by decide : ¬ ((110 : Int32) < 0 ∨ 117 ≤ (110 : Int32).toNatClampNeg))) dX9_pointOn_4 ?_
  refine lv_iconst (v := (1 : Int32)) hx hb dX9_pointOn_5 (by decide) ?_
  refine lv_iadd hx hb dX9_pointOn_6 ?_
  refine lv_topi (fun y_1 ey_1 => ?_)
  refine va_iast hx hb hK hP hD hS 0 0 rfl rfl (show vp_in (110 : Int32) 117 from (by decide : ¬ ((110 : Int32) < 0 ∨ 117 ≤ (110 : Int32).toNatClampNeg))) dX9_pointOn_7 (fun H locs hP hD hS => ?_)
  replace hP : va_P (my_D Γ) vwCl (wArr117 Γ q_s (upd vs (110 : Int32).toNatClampNeg y_1)) H := hP
  replace hD : va_D A (wArr117 Γ q_s (upd vs (110 : Int32).toNatClampNeg y_1)) := hD
  subst ey_1
  refine lv_aload_n hx hb dX9_pointOn_8 rfl (lv_at hl 0 rfl) ?_
  refine lv_bipush (v := (110 : Int32)) hx hb dX9_pointOn_9 (by decide) ?_
  refine lv_aload_n hx hb dX9_pointOn_11 rfl (lv_at hl 0 rfl) ?_
  refine lv_bipush (v := (110 : Int32)) hx hb dX9_pointOn_12 (by decide) ?_
  refine va_iald hx hb hK hP 0 0 rfl rfl (show vp_in (110 : Int32) 117 from (by decide : ¬ ((110 : Int32) < 0 ∨ 117 ≤ (110 : Int32).toNatClampNeg))) dX9_pointOn_14 ?_
  refine lv_iadd hx hb dX9_pointOn_15 ?_
  refine lv_iload_n hx hb dX9_pointOn_16 rfl (lv_at hl 1 rfl) ?_
  obtain ⟨hi_2, hm⟩ := if_in hm
  refine va_iast hx hb hK hP hD hS 0 0 rfl rfl hi_2 dX9_pointOn_17 (fun H locs hP hD hS => ?_)
  replace hP : va_P (my_D Γ) vwCl (wArr117 Γ q_s (upd (upd vs (110 : Int32).toNatClampNeg ((vs (110 : Int32).toNatClampNeg) + (1 : Int32))) ((110 : Int32) + ((upd vs (110 : Int32).toNatClampNeg ((vs (110 : Int32).toNatClampNeg) + (1 : Int32))) (110 : Int32).toNatClampNeg)).toNatClampNeg x1)) H := hP
  replace hD : va_D A (wArr117 Γ q_s (upd (upd vs (110 : Int32).toNatClampNeg ((vs (110 : Int32).toNatClampNeg) + (1 : Int32))) ((110 : Int32) + ((upd vs (110 : Int32).toNatClampNeg ((vs (110 : Int32).toNatClampNeg) + (1 : Int32))) (110 : Int32).toNatClampNeg)).toNatClampNeg x1)) := hD
  refine lv_aload_n hx hb dX9_pointOn_18 rfl (lv_at hl 0 rfl) ?_
  refine lv_bipush (v := (110 : Int32)) hx hb dX9_pointOn_19 (by decide) ?_
  refine va_iald hx hb hK hP 0 0 rfl rfl (show vp_in (110 : Int32) 117 from (by decide : ¬ ((110 : Int32) < 0 ∨ 117 ≤ (110 : Int32).toNatClampNeg))) dX9_pointOn_21 ?_
  obtain ⟨hf0, hf1⟩ := si2 hm
  subst hf0
  subst hf1
  exact W.iret (v := ((upd (upd vs (110 : Int32).toNatClampNeg ((vs (110 : Int32).toNatClampNeg) + (1 : Int32))) ((110 : Int32) + ((upd vs (110 : Int32).toNatClampNeg ((vs (110 : Int32).toNatClampNeg) + (1 : Int32))) (110 : Int32).toNatClampNeg)).toNatClampNeg x1) (110 : Int32).toNatClampNeg)) hx hb hr (fun t ht hW => ⟨⟨rfl, by rw [ht]; exact hP⟩, hS.F ht⟩) hS.2.2 dX9_pointOn_22
def mX9_putOn (vs : Nat → Int32) (x1 : Int32) (x2 : Int32) (x3 : Int32) : Option (Int32 × (Nat → Int32)) := (bo1 (mX9_of vs x1 (0 : Int32)) (fun r_1 => (bo1 (mX9_puts vs x1 (0 : Int32) x2) (fun vs_3 => (bo1 (mX9_puts vs_3 x1 (1 : Int32) x3) (fun vs_5 => (some (r_1, vs_5))))))))
set_option maxHeartbeats 4000000 in
set_option maxRecDepth 100000 in
theorem kX9_putOn (l : Launch) (Γ : my_G) (q_s : Nat) (vs : Nat → Int32) (x1 : Int32) (x2 : Int32) (x3 : Int32) (rr : Int32) (vs_z : Nat → Int32) (hm : mX9_putOn vs x1 x2 x3 = (some (rr, vs_z))) : Mn l yX9_putOn wsX9_putOn ({ frames := 1, cells := 0, slots := 0, locals := 23 } : Room) Γ [.ref q_s, .int x1, .int x2, .int x3] (wArr117 Γ q_s vs) (some (.int rr)) (wArr117 Γ q_s vs_z) := by
  intro sz
  refine Met.ofW (cc := cX9_putOn) (maxL := 5) (ret := (some .int)) (by decide) rfl ?_
  intro p e s m args below meth c s₁ B hml hv
  obtain ⟨rfl, hsz, hP, hK, hD0⟩ := hv
  have hx := B.exec
  have hb := B.bytes
  have hr := B.returns
  have hts := atoms_spec (ws := wsX9_putOn) B.pre
  have hown : s.vm.findClass RX9 = some m.cls := findClass_of_methodNamed B.named
  have hlocks := B.notSynchronized
  subst hsz
  have hD := hD0.self (sz := s.heap.size)
  have hA : ∀ q : Nat, s.heap.size ≤ q → va_A (wArr117 Γ q_s vs) s.heap.size q := fun q h => Or.inr h
  generalize va_A (wArr117 Γ q_s vs) s.heap.size = A at hD hA ⊢
  have hS : va_S A s.heap s.heap [] := va_S.rf
  have hl := lv_entry ([.ref q_s, .int x1, .int x2, .int x3]) (n := 5) (Nat.le_of_ble_eq_true rfl)
  rw [lg_entry_eq]
  generalize (lg_sl ([.ref q_s, .int x1, .int x2, .int x3]) ++ List.replicate (5 - (lg_sl ([.ref q_s, .int x1, .int x2, .int x3])).length) Slot.unset).toArray = ls at hl ⊢
  replace hl : lv_has ls 5 [(0, .ref q_s), (1, .int x1), (2, .int x2), (3, .int x3)] := hl
  unfold mX9_putOn at hm
  refine lv_aload_n hx hb dX9_putOn_0 rfl (lv_at hl 0 rfl) ?_
  refine lv_iload_n hx hb dX9_putOn_1 rfl (lv_at hl 1 rfl) ?_
  refine lv_iconst (v := (0 : Int32)) hx hb dX9_putOn_2 (by decide) ?_
  obtain ⟨r_1, hc_2, hm⟩ := bo1_s hm
  refine my_callP1 (wc := (wArr117 Γ q_s vs)) (w1 := (wArr117 Γ q_s vs)) (ws1 := (wArr117 Γ q_s vs)) hP hD hS hA [0] rfl rfl rfl (va_runS (As := [.ref q_s, .int x1, .int (0 : Int32)]) (rest := []) ⟨hx, hb, hml, hown, hts⟩ (kX9_of l Γ q_s vs x1 (0 : Int32) r_1 hc_2 _) (va_cwS 3 hts gX9_putOn_X9_of rfl rfl rfl (by decide +kernel) ⟨Nat.le_of_ble_eq_true rfl, Nat.le_of_ble_eq_true rfl⟩) (my_preS (wc := (wArr117 Γ q_s vs)) [0] hK hP hD rfl rfl) rfl rfl hl.1 rfl (lv_room (Nat.le_of_ble_eq_true rfl)) dX9_putOn_3 ⟨Nat.le_of_ble_eq_true rfl, Nat.le_of_ble_eq_true rfl⟩) (fun H locs hP hD hS => ?_)
  refine lv_istore (lv' := [(4, .int r_1), (0, .ref q_s), (1, .int x1), (2, .int x2), (3, .int x3)]) hx hb dX9_putOn_6 hl (by decide) rfl (fun ls hl => ?_)
  refine lv_aload_n hx hb dX9_putOn_8 rfl (lv_at hl 1 rfl) ?_
  refine lv_iload_n hx hb dX9_putOn_9 rfl (lv_at hl 2 rfl) ?_
  refine lv_iconst (v := (0 : Int32)) hx hb dX9_putOn_10 (by decide) ?_
  refine lv_iload_n hx hb dX9_putOn_11 rfl (lv_at hl 3 rfl) ?_
  obtain ⟨vs_3, hc_4, hm⟩ := bo1_s hm
  refine my_callP0 (wc := (wArr117 Γ q_s vs)) (w1 := (wArr117 Γ q_s vs_3)) (ws1 := (wArr117 Γ q_s vs_3)) hP hD hS hA [0] rfl rfl rfl (va_runS (As := [.ref q_s, .int x1, .int (0 : Int32), .int x2]) (rest := []) ⟨hx, hb, hml, hown, hts⟩ (kX9_puts l Γ q_s vs x1 (0 : Int32) x2 vs_3 hc_4 _) (va_cwS 4 hts gX9_putOn_X9_puts rfl rfl rfl (by decide +kernel) ⟨Nat.le_of_ble_eq_true rfl, Nat.le_of_ble_eq_true rfl⟩) (my_preS (wc := (wArr117 Γ q_s vs)) [0] hK hP hD rfl rfl) rfl rfl hl.1 rfl (lv_room (Nat.le_of_ble_eq_true rfl)) dX9_putOn_12 ⟨Nat.le_of_ble_eq_true rfl, Nat.le_of_ble_eq_true rfl⟩) (fun H locs hP hD hS => ?_)
  refine lv_aload_n hx hb dX9_putOn_15 rfl (lv_at hl 1 rfl) ?_
  refine lv_iload_n hx hb dX9_putOn_16 rfl (lv_at hl 2 rfl) ?_
  refine lv_iconst (v := (1 : Int32)) hx hb dX9_putOn_17 (by decide) ?_
  refine lv_iload_n hx hb dX9_putOn_18 rfl (lv_at hl 4 rfl) ?_
  obtain ⟨vs_5, hc_6, hm⟩ := bo1_s hm
  refine my_callP0 (wc := (wArr117 Γ q_s vs_3)) (w1 := (wArr117 Γ q_s vs_5)) (ws1 := (wArr117 Γ q_s vs_5)) hP hD hS hA [0] rfl rfl rfl (va_runS (As := [.ref q_s, .int x1, .int (1 : Int32), .int x3]) (rest := []) ⟨hx, hb, hml, hown, hts⟩ (kX9_puts l Γ q_s vs_3 x1 (1 : Int32) x3 vs_5 hc_6 _) (va_cwS 4 hts gX9_putOn_X9_puts rfl rfl rfl (by decide +kernel) ⟨Nat.le_of_ble_eq_true rfl, Nat.le_of_ble_eq_true rfl⟩) (my_preS (wc := (wArr117 Γ q_s vs_3)) [0] hK hP hD rfl rfl) rfl rfl hl.1 rfl (lv_room (Nat.le_of_ble_eq_true rfl)) dX9_putOn_19 ⟨Nat.le_of_ble_eq_true rfl, Nat.le_of_ble_eq_true rfl⟩) (fun H locs hP hD hS => ?_)
  refine lv_iload hx hb dX9_putOn_22 (lv_at hl 0 rfl) ?_
  obtain ⟨hf0, hf1⟩ := si2 hm
  subst hf0
  subst hf1
  exact W.iret (v := r_1) hx hb hr (fun t ht hW => ⟨⟨rfl, by rw [ht]; exact hP⟩, hS.F ht⟩) hS.2.2 dX9_putOn_24
def mX9_writeOn (vs : Nat → Int32) (x1 : Int32) (x2 : Int32) : Option (Int32 × (Nat → Int32)) := (bo1 (mX9_of vs x1 (8 : Int32)) (fun r_1 => (if ¬ ((((90 : Int32) + ((10 : Int32) * x1)) + r_1) < 0 ∨ 117 ≤ (((90 : Int32) + ((10 : Int32) * x1)) + r_1).toNatClampNeg) then (bo1 (mX9_adds (upd vs (((90 : Int32) + ((10 : Int32) * x1)) + r_1).toNatClampNeg x2) x1 (8 : Int32) (1 : Int32)) (fun vs_4 => (bo1 (mX9_of vs_4 x1 (8 : Int32)) (fun r_6 => (some (r_6, vs_4)))))) else none)))
set_option maxHeartbeats 4000000 in
set_option maxRecDepth 100000 in
theorem kX9_writeOn (l : Launch) (Γ : my_G) (q_s : Nat) (vs : Nat → Int32) (x1 : Int32) (x2 : Int32) (rr : Int32) (vs_z : Nat → Int32) (hm : mX9_writeOn vs x1 x2 = (some (rr, vs_z))) : Mn l yX9_writeOn wsX9_writeOn ({ frames := 1, cells := 0, slots := 0, locals := 23 } : Room) Γ [.ref q_s, .int x1, .int x2] (wArr117 Γ q_s vs) (some (.int rr)) (wArr117 Γ q_s vs_z) := by
  intro sz
  refine Met.ofW (cc := cX9_writeOn) (maxL := 3) (ret := (some .int)) (by decide) rfl ?_
  intro p e s m args below meth c s₁ B hml hv
  obtain ⟨rfl, hsz, hP, hK, hD0⟩ := hv
  have hx := B.exec
  have hb := B.bytes
  have hr := B.returns
  have hts := atoms_spec (ws := wsX9_writeOn) B.pre
  have hown : s.vm.findClass RX9 = some m.cls := findClass_of_methodNamed B.named
  have hlocks := B.notSynchronized
  subst hsz
  have hD := hD0.self (sz := s.heap.size)
  have hA : ∀ q : Nat, s.heap.size ≤ q → va_A (wArr117 Γ q_s vs) s.heap.size q := fun q h => Or.inr h
  generalize va_A (wArr117 Γ q_s vs) s.heap.size = A at hD hA ⊢
  have hS : va_S A s.heap s.heap [] := va_S.rf
  have hl := lv_entry ([.ref q_s, .int x1, .int x2]) (n := 3) (Nat.le_of_ble_eq_true rfl)
  rw [lg_entry_eq]
  generalize (lg_sl ([.ref q_s, .int x1, .int x2]) ++ List.replicate (3 - (lg_sl ([.ref q_s, .int x1, .int x2])).length) Slot.unset).toArray = ls at hl ⊢
  replace hl : lv_has ls 3 [(0, .ref q_s), (1, .int x1), (2, .int x2)] := hl
  unfold mX9_writeOn at hm
  refine lv_aload_n hx hb dX9_writeOn_0 rfl (lv_at hl 0 rfl) ?_
  refine lv_bipush (v := (90 : Int32)) hx hb dX9_writeOn_1 (by decide) ?_
  refine lv_bipush (v := (10 : Int32)) hx hb dX9_writeOn_3 (by decide) ?_
  refine lv_iload_n hx hb dX9_writeOn_5 rfl (lv_at hl 1 rfl) ?_
  refine lv_imul hx hb dX9_writeOn_6 ?_
  refine lv_iadd hx hb dX9_writeOn_7 ?_
  refine lv_aload_n hx hb dX9_writeOn_8 rfl (lv_at hl 0 rfl) ?_
  refine lv_iload_n hx hb dX9_writeOn_9 rfl (lv_at hl 1 rfl) ?_
  refine lv_bipush (v := (8 : Int32)) hx hb dX9_writeOn_10 (by decide) ?_
  obtain ⟨r_1, hc_2, hm⟩ := bo1_s hm
  refine my_callP1 (wc := (wArr117 Γ q_s vs)) (w1 := (wArr117 Γ q_s vs)) (ws1 := (wArr117 Γ q_s vs)) hP hD hS hA [0] rfl rfl rfl (va_runS (As := [.ref q_s, .int x1, .int (8 : Int32)]) (rest := [.int ((90 : Int32) + ((10 : Int32) * x1)), .ref q_s]) ⟨hx, hb, hml, hown, hts⟩ (kX9_of l Γ q_s vs x1 (8 : Int32) r_1 hc_2 _) (va_cwS 3 hts gX9_writeOn_X9_of rfl rfl rfl (by decide +kernel) ⟨Nat.le_of_ble_eq_true rfl, Nat.le_of_ble_eq_true rfl⟩) (my_preS (wc := (wArr117 Γ q_s vs)) [0] hK hP hD rfl rfl) rfl rfl hl.1 rfl (lv_room (Nat.le_of_ble_eq_true rfl)) dX9_writeOn_12 ⟨Nat.le_of_ble_eq_true rfl, Nat.le_of_ble_eq_true rfl⟩) (fun H locs hP hD hS => ?_)
  refine lv_iadd hx hb dX9_writeOn_15 ?_
  refine lv_iload_n hx hb dX9_writeOn_16 rfl (lv_at hl 2 rfl) ?_
  obtain ⟨hi_3, hm⟩ := if_in hm
  refine va_iast hx hb hK hP hD hS 0 0 rfl rfl hi_3 dX9_writeOn_17 (fun H locs hP hD hS => ?_)
  replace hP : va_P (my_D Γ) vwCl (wArr117 Γ q_s (upd vs (((90 : Int32) + ((10 : Int32) * x1)) + r_1).toNatClampNeg x2)) H := hP
  replace hD : va_D A (wArr117 Γ q_s (upd vs (((90 : Int32) + ((10 : Int32) * x1)) + r_1).toNatClampNeg x2)) := hD
  refine lv_aload_n hx hb dX9_writeOn_18 rfl (lv_at hl 0 rfl) ?_
  refine lv_iload_n hx hb dX9_writeOn_19 rfl (lv_at hl 1 rfl) ?_
  refine lv_bipush (v := (8 : Int32)) hx hb dX9_writeOn_20 (by decide) ?_
  refine lv_iconst (v := (1 : Int32)) hx hb dX9_writeOn_22 (by decide) ?_
  obtain ⟨vs_4, hc_5, hm⟩ := bo1_s hm
  refine my_callP0 (wc := (wArr117 Γ q_s (upd vs (((90 : Int32) + ((10 : Int32) * x1)) + r_1).toNatClampNeg x2))) (w1 := (wArr117 Γ q_s vs_4)) (ws1 := (wArr117 Γ q_s vs_4)) hP hD hS hA [0] rfl rfl rfl (va_runS (As := [.ref q_s, .int x1, .int (8 : Int32), .int (1 : Int32)]) (rest := []) ⟨hx, hb, hml, hown, hts⟩ (kX9_adds l Γ q_s (upd vs (((90 : Int32) + ((10 : Int32) * x1)) + r_1).toNatClampNeg x2) x1 (8 : Int32) (1 : Int32) vs_4 hc_5 _) (va_cwS 4 hts gX9_writeOn_X9_adds rfl rfl rfl (by decide +kernel) ⟨Nat.le_of_ble_eq_true rfl, Nat.le_of_ble_eq_true rfl⟩) (my_preS (wc := (wArr117 Γ q_s (upd vs (((90 : Int32) + ((10 : Int32) * x1)) + r_1).toNatClampNeg x2))) [0] hK hP hD rfl rfl) rfl rfl hl.1 rfl (lv_room (Nat.le_of_ble_eq_true rfl)) dX9_writeOn_23 ⟨Nat.le_of_ble_eq_true rfl, Nat.le_of_ble_eq_true rfl⟩) (fun H locs hP hD hS => ?_)
  refine lv_aload_n hx hb dX9_writeOn_26 rfl (lv_at hl 0 rfl) ?_
  refine lv_iload_n hx hb dX9_writeOn_27 rfl (lv_at hl 1 rfl) ?_
  refine lv_bipush (v := (8 : Int32)) hx hb dX9_writeOn_28 (by decide) ?_
  obtain ⟨r_6, hc_7, hm⟩ := bo1_s hm
  refine my_callP1 (wc := (wArr117 Γ q_s vs_4)) (w1 := (wArr117 Γ q_s vs_4)) (ws1 := (wArr117 Γ q_s vs_4)) hP hD hS hA [0] rfl rfl rfl (va_runS (As := [.ref q_s, .int x1, .int (8 : Int32)]) (rest := []) ⟨hx, hb, hml, hown, hts⟩ (kX9_of l Γ q_s vs_4 x1 (8 : Int32) r_6 hc_7 _) (va_cwS 3 hts gX9_writeOn_X9_of rfl rfl rfl (by decide +kernel) ⟨Nat.le_of_ble_eq_true rfl, Nat.le_of_ble_eq_true rfl⟩) (my_preS (wc := (wArr117 Γ q_s vs_4)) [0] hK hP hD rfl rfl) rfl rfl hl.1 rfl (lv_room (Nat.le_of_ble_eq_true rfl)) dX9_writeOn_30 ⟨Nat.le_of_ble_eq_true rfl, Nat.le_of_ble_eq_true rfl⟩) (fun H locs hP hD hS => ?_)
  obtain ⟨hf0, hf1⟩ := si2 hm
  subst hf0
  subst hf1
  exact W.iret (v := r_6) hx hb hr (fun t ht hW => ⟨⟨rfl, by rw [ht]; exact hP⟩, hS.F ht⟩) hS.2.2 dX9_writeOn_33
def mX9_wipeOn (vs : Nat → Int32) (x1 : Int32) : Option (Int32 × (Nat → Int32)) := (bo1 (mX9_of vs x1 (8 : Int32)) (fun r_1 => (bo1 (mX9_puts vs x1 (8 : Int32) (0 : Int32)) (fun vs_3 => (bo1 (mX9_puts vs_3 x1 (7 : Int32) (0 : Int32)) (fun vs_5 => (some (r_1, vs_5))))))))
set_option maxHeartbeats 4000000 in
set_option maxRecDepth 100000 in
theorem kX9_wipeOn (l : Launch) (Γ : my_G) (q_s : Nat) (vs : Nat → Int32) (x1 : Int32) (rr : Int32) (vs_z : Nat → Int32) (hm : mX9_wipeOn vs x1 = (some (rr, vs_z))) : Mn l yX9_wipeOn wsX9_wipeOn ({ frames := 1, cells := 0, slots := 0, locals := 23 } : Room) Γ [.ref q_s, .int x1] (wArr117 Γ q_s vs) (some (.int rr)) (wArr117 Γ q_s vs_z) := by
  intro sz
  refine Met.ofW (cc := cX9_wipeOn) (maxL := 3) (ret := (some .int)) (by decide) rfl ?_
  intro p e s m args below meth c s₁ B hml hv
  obtain ⟨rfl, hsz, hP, hK, hD0⟩ := hv
  have hx := B.exec
  have hb := B.bytes
  have hr := B.returns
  have hts := atoms_spec (ws := wsX9_wipeOn) B.pre
  have hown : s.vm.findClass RX9 = some m.cls := findClass_of_methodNamed B.named
  have hlocks := B.notSynchronized
  subst hsz
  have hD := hD0.self (sz := s.heap.size)
  have hA : ∀ q : Nat, s.heap.size ≤ q → va_A (wArr117 Γ q_s vs) s.heap.size q := fun q h => Or.inr h
  generalize va_A (wArr117 Γ q_s vs) s.heap.size = A at hD hA ⊢
  have hS : va_S A s.heap s.heap [] := va_S.rf
  have hl := lv_entry ([.ref q_s, .int x1]) (n := 3) (Nat.le_of_ble_eq_true rfl)
  rw [lg_entry_eq]
  generalize (lg_sl ([.ref q_s, .int x1]) ++ List.replicate (3 - (lg_sl ([.ref q_s, .int x1])).length) Slot.unset).toArray = ls at hl ⊢
  replace hl : lv_has ls 3 [(0, .ref q_s), (1, .int x1)] := hl
  unfold mX9_wipeOn at hm
  refine lv_aload_n hx hb dX9_wipeOn_0 rfl (lv_at hl 0 rfl) ?_
  refine lv_iload_n hx hb dX9_wipeOn_1 rfl (lv_at hl 1 rfl) ?_
  refine lv_bipush (v := (8 : Int32)) hx hb dX9_wipeOn_2 (by decide) ?_
  obtain ⟨r_1, hc_2, hm⟩ := bo1_s hm
  refine my_callP1 (wc := (wArr117 Γ q_s vs)) (w1 := (wArr117 Γ q_s vs)) (ws1 := (wArr117 Γ q_s vs)) hP hD hS hA [0] rfl rfl rfl (va_runS (As := [.ref q_s, .int x1, .int (8 : Int32)]) (rest := []) ⟨hx, hb, hml, hown, hts⟩ (kX9_of l Γ q_s vs x1 (8 : Int32) r_1 hc_2 _) (va_cwS 3 hts gX9_wipeOn_X9_of rfl rfl rfl (by decide +kernel) ⟨Nat.le_of_ble_eq_true rfl, Nat.le_of_ble_eq_true rfl⟩) (my_preS (wc := (wArr117 Γ q_s vs)) [0] hK hP hD rfl rfl) rfl rfl hl.1 rfl (lv_room (Nat.le_of_ble_eq_true rfl)) dX9_wipeOn_4 ⟨Nat.le_of_ble_eq_true rfl, Nat.le_of_ble_eq_true rfl⟩) (fun H locs hP hD hS => ?_)
  refine lv_istore_n (lv' := [(2, .int r_1), (0, .ref q_s), (1, .int x1)]) hx hb dX9_wipeOn_7 rfl hl (by decide) rfl (fun ls hl => ?_)
  refine lv_aload_n hx hb dX9_wipeOn_8 rfl (lv_at hl 1 rfl) ?_
  refine lv_iload_n hx hb dX9_wipeOn_9 rfl (lv_at hl 2 rfl) ?_
  refine lv_bipush (v := (8 : Int32)) hx hb dX9_wipeOn_10 (by decide) ?_
  refine lv_iconst (v := (0 : Int32)) hx hb dX9_wipeOn_12 (by decide) ?_
  obtain ⟨vs_3, hc_4, hm⟩ := bo1_s hm
  refine my_callP0 (wc := (wArr117 Γ q_s vs)) (w1 := (wArr117 Γ q_s vs_3)) (ws1 := (wArr117 Γ q_s vs_3)) hP hD hS hA [0] rfl rfl rfl (va_runS (As := [.ref q_s, .int x1, .int (8 : Int32), .int (0 : Int32)]) (rest := []) ⟨hx, hb, hml, hown, hts⟩ (kX9_puts l Γ q_s vs x1 (8 : Int32) (0 : Int32) vs_3 hc_4 _) (va_cwS 4 hts gX9_wipeOn_X9_puts rfl rfl rfl (by decide +kernel) ⟨Nat.le_of_ble_eq_true rfl, Nat.le_of_ble_eq_true rfl⟩) (my_preS (wc := (wArr117 Γ q_s vs)) [0] hK hP hD rfl rfl) rfl rfl hl.1 rfl (lv_room (Nat.le_of_ble_eq_true rfl)) dX9_wipeOn_13 ⟨Nat.le_of_ble_eq_true rfl, Nat.le_of_ble_eq_true rfl⟩) (fun H locs hP hD hS => ?_)
  refine lv_aload_n hx hb dX9_wipeOn_16 rfl (lv_at hl 1 rfl) ?_
  refine lv_iload_n hx hb dX9_wipeOn_17 rfl (lv_at hl 2 rfl) ?_
  refine lv_bipush (v := (7 : Int32)) hx hb dX9_wipeOn_18 (by decide) ?_
  refine lv_iconst (v := (0 : Int32)) hx hb dX9_wipeOn_20 (by decide) ?_
  obtain ⟨vs_5, hc_6, hm⟩ := bo1_s hm
  refine my_callP0 (wc := (wArr117 Γ q_s vs_3)) (w1 := (wArr117 Γ q_s vs_5)) (ws1 := (wArr117 Γ q_s vs_5)) hP hD hS hA [0] rfl rfl rfl (va_runS (As := [.ref q_s, .int x1, .int (7 : Int32), .int (0 : Int32)]) (rest := []) ⟨hx, hb, hml, hown, hts⟩ (kX9_puts l Γ q_s vs_3 x1 (7 : Int32) (0 : Int32) vs_5 hc_6 _) (va_cwS 4 hts gX9_wipeOn_X9_puts rfl rfl rfl (by decide +kernel) ⟨Nat.le_of_ble_eq_true rfl, Nat.le_of_ble_eq_true rfl⟩) (my_preS (wc := (wArr117 Γ q_s vs_3)) [0] hK hP hD rfl rfl) rfl rfl hl.1 rfl (lv_room (Nat.le_of_ble_eq_true rfl)) dX9_wipeOn_21 ⟨Nat.le_of_ble_eq_true rfl, Nat.le_of_ble_eq_true rfl⟩) (fun H locs hP hD hS => ?_)
  refine lv_iload_n hx hb dX9_wipeOn_24 rfl (lv_at hl 0 rfl) ?_
  obtain ⟨hf0, hf1⟩ := si2 hm
  subst hf0
  subst hf1
  exact W.iret (v := r_1) hx hb hr (fun t ht hW => ⟨⟨rfl, by rw [ht]; exact hP⟩, hS.F ht⟩) hS.2.2 dX9_wipeOn_25
