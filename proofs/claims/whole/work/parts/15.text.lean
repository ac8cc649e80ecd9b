def mX7_kindOfSign (x0 : Int32) : Int32 := (if x0 = (35 : Int32) then (1 : Int32) else (if x0 = (46 : Int32) then (0 : Int32) else (if x0 = (101 : Int32) then (4 : Int32) else (if x0 = (110 : Int32) then (3 : Int32) else (if x0 = (111 : Int32) then (2 : Int32) else (if x0 = (115 : Int32) then (5 : Int32) else (if x0 = (119 : Int32) then (6 : Int32) else (-1 : Int32))))))))
set_option maxHeartbeats 4000000 in
set_option maxRecDepth 100000 in
theorem kX7_kindOfSign (l : Launch) (Γ : my_G)   (x0 : Int32) (rr : Int32) (hm : mX7_kindOfSign x0 = rr) : Mn l yX7_kindOfSign wsX7_kindOfSign ({ frames := 0, cells := 0, slots := 0, locals := 0 } : Room) Γ [.int x0] ([] : va_W) (some (.int rr)) ([] : va_W) := by
  intro sz
  refine Met.ofW (cc := cX7_kindOfSign) (maxL := 1) (ret := (some .int)) (by decide) rfl ?_
  intro p e s m args below meth c s₁ B hml hv
  obtain ⟨rfl, hsz, hP, hK, hD0⟩ := hv
  have hx := B.exec
  have hb := B.bytes
  have hr := B.returns
  have hts := atoms_spec (ws := wsX7_kindOfSign) B.pre
  have hown : s.vm.findClass RX7 = some m.cls := findClass_of_methodNamed B.named
  have hlocks := B.notSynchronized
  subst hsz
  have hD := hD0.self (sz := s.heap.size)
  have hA : ∀ q : Nat, s.heap.size ≤ q → va_A ([] : va_W) s.heap.size q := fun q h => Or.inr h
  generalize va_A ([] : va_W) s.heap.size = A at hD hA ⊢
  have hS : va_S A s.heap s.heap [] := va_S.rf
  have hl := lv_entry ([.int x0]) (n := 1) (Nat.le_of_ble_eq_true rfl)
  rw [lg_entry_eq]
  generalize (lg_sl ([.int x0]) ++ List.replicate (1 - (lg_sl ([.int x0])).length) Slot.unset).toArray = ls at hl ⊢
  replace hl : lv_has ls 1 [(0, .int x0)] := hl
  unfold mX7_kindOfSign at hm
  refine lv_iload_n hx hb dX7_kindOfSign_0 rfl (lv_at hl 0 rfl) ?_
  by_cases c_1 : x0 = (35 : Int32)
  · replace hm := if_s hm c_1
    refine lv_lookup (off := 69) (tgt := 70) hx hb dX7_kindOfSign_1 (by decide) (by rw [c_1]; rfl) (by decide) ?_
    refine lv_iconst (v := (1 : Int32)) hx hb dX7_kindOfSign_70 (by decide) ?_
    have hf0 := hm
    subst hf0
    exact W.iret (v := (1 : Int32)) hx hb hr (fun t ht hW => ⟨⟨rfl, by rw [ht]; exact hP⟩, hS.F ht⟩) hS.2.2 dX7_kindOfSign_71
  · replace hm := if_f hm c_1
    by_cases c_2 : x0 = (46 : Int32)
    · replace hm := if_s hm c_2
      refine lv_lookup (off := 67) (tgt := 68) hx hb dX7_kindOfSign_1 (by decide) (by rw [c_2]; rfl) (by decide) ?_
      refine lv_iconst (v := (0 : Int32)) hx hb dX7_kindOfSign_68 (by decide) ?_
      have hf0 := hm
      subst hf0
      exact W.iret (v := (0 : Int32)) hx hb hr (fun t ht hW => ⟨⟨rfl, by rw [ht]; exact hP⟩, hS.F ht⟩) hS.2.2 dX7_kindOfSign_69
    · replace hm := if_f hm c_2
      by_cases c_3 : x0 = (101 : Int32)
      · replace hm := if_s hm c_3
        refine lv_lookup (off := 75) (tgt := 76) hx hb dX7_kindOfSign_1 (by decide) (by rw [c_3]; rfl) (by decide) ?_
        refine lv_iconst (v := (4 : Int32)) hx hb dX7_kindOfSign_76 (by decide) ?_
        have hf0 := hm
        subst hf0
        exact W.iret (v := (4 : Int32)) hx hb hr (fun t ht hW => ⟨⟨rfl, by rw [ht]; exact hP⟩, hS.F ht⟩) hS.2.2 dX7_kindOfSign_77
      · replace hm := if_f hm c_3
        by_cases c_4 : x0 = (110 : Int32)
        · replace hm := if_s hm c_4
          refine lv_lookup (off := 73) (tgt := 74) hx hb dX7_kindOfSign_1 (by decide) (by rw [c_4]; rfl) (by decide) ?_
          refine lv_iconst (v := (3 : Int32)) hx hb dX7_kindOfSign_74 (by decide) ?_
          have hf0 := hm
          subst hf0
          exact W.iret (v := (3 : Int32)) hx hb hr (fun t ht hW => ⟨⟨rfl, by rw [ht]; exact hP⟩, hS.F ht⟩) hS.2.2 dX7_kindOfSign_75
        · replace hm := if_f hm c_4
          by_cases c_5 : x0 = (111 : Int32)
          · replace hm := if_s hm c_5
            refine lv_lookup (off := 71) (tgt := 72) hx hb dX7_kindOfSign_1 (by decide) (by rw [c_5]; rfl) (by decide) ?_
            refine lv_iconst (v := (2 : Int32)) hx hb dX7_kindOfSign_72 (by decide) ?_
            have hf0 := hm
            subst hf0
            exact W.iret (v := (2 : Int32)) hx hb hr (fun t ht hW => ⟨⟨rfl, by rw [ht]; exact hP⟩, hS.F ht⟩) hS.2.2 dX7_kindOfSign_73
          · replace hm := if_f hm c_5
            by_cases c_6 : x0 = (115 : Int32)
            · replace hm := if_s hm c_6
              refine lv_lookup (off := 77) (tgt := 78) hx hb dX7_kindOfSign_1 (by decide) (by rw [c_6]; rfl) (by decide) ?_
              refine lv_iconst (v := (5 : Int32)) hx hb dX7_kindOfSign_78 (by decide) ?_
              have hf0 := hm
              subst hf0
              exact W.iret (v := (5 : Int32)) hx hb hr (fun t ht hW => ⟨⟨rfl, by rw [ht]; exact hP⟩, hS.F ht⟩) hS.2.2 dX7_kindOfSign_79
            · replace hm := if_f hm c_6
              by_cases c_7 : x0 = (119 : Int32)
              · replace hm := if_s hm c_7
                refine lv_lookup (off := 79) (tgt := 80) hx hb dX7_kindOfSign_1 (by decide) (by rw [c_7]; rfl) (by decide) ?_
                refine lv_bipush (v := (6 : Int32)) hx hb dX7_kindOfSign_80 (by decide) ?_
                have hf0 := hm
                subst hf0
                exact W.iret (v := (6 : Int32)) hx hb hr (fun t ht hW => ⟨⟨rfl, by rw [ht]; exact hP⟩, hS.F ht⟩) hS.2.2 dX7_kindOfSign_82
              · replace hm := if_f hm c_7
                refine lv_lookup (off := 82) (tgt := 83) hx hb dX7_kindOfSign_1 (by decide) ((lv_osw c_1 rfl).trans ((lv_osw c_2 rfl).trans ((lv_osw c_3 rfl).trans ((lv_osw c_4 rfl).trans ((lv_osw c_5 rfl).trans ((lv_osw c_6 rfl).trans ((lv_osw c_7 rfl).trans rfl))))))) (by decide) ?_
                refine lv_iconst (v := (-1 : Int32)) hx hb dX7_kindOfSign_83 (by decide) ?_
                have hf0 := hm
                subst hf0
                exact W.iret (v := (-1 : Int32)) hx hb hr (fun t ht hW => ⟨⟨rfl, by rw [ht]; exact hP⟩, hS.F ht⟩) hS.2.2 dX7_kindOfSign_84
def mX7_add (ti : Nat → Int32) (sg : Nat → Int32) (x0 : Int32) : (Nat → Int32) × (Nat → Int32) := (if (ti 1) < 0 then (ti, sg) else (if (120 : Int32) ≤ (ti 1) then (ti, sg) else ((upd ti 1 ((ti 1) + (1 : Int32))), (upd sg (ti 1).toNatClampNeg ((jchar x0).toUInt32.toUInt16.toUInt32.toInt32)))))
set_option maxHeartbeats 4000000 in
set_option maxRecDepth 100000 in
theorem kX7_add (l : Launch) (Γ : my_G) (q_tx q_sg : Nat) (ti : Nat → Int32) (sg : Nat → Int32) (x0 : Int32) (ti_z : Nat → Int32) (sg_z : Nat → Int32) (hm : mX7_add ti sg x0 = (ti_z, sg_z)) : Mn l yX7_add wsX7_add ({ frames := 0, cells := 0, slots := 0, locals := 0 } : Room) Γ [.ref q_tx, .int x0] (wText Γ q_tx q_sg ti sg) none (wText Γ q_tx q_sg ti_z sg_z) := by
  intro sz
  refine Met.ofW (cc := cX7_add) (maxL := 2) (ret := none) (by decide) rfl ?_
  intro p e s m args below meth c s₁ B hml hv
  obtain ⟨rfl, hsz, hP, hK, hD0⟩ := hv
  have hx := B.exec
  have hb := B.bytes
  have hr := B.returns
  have hts := atoms_spec (ws := wsX7_add) B.pre
  have hown : s.vm.findClass RX7 = some m.cls := findClass_of_methodNamed B.named
  have hlocks := B.notSynchronized
  have hinX7 : ∀ w ∈ u_ws RX7 TX7 2, w ∈ wsX7_add := fun w h => List.mem_cons_of_mem _ (List.mem_append_right _ h)
  subst hsz
  have hD := hD0.self (sz := s.heap.size)
  have hA : ∀ q : Nat, s.heap.size ≤ q → va_A (wText Γ q_tx q_sg ti sg) s.heap.size q := fun q h => Or.inr h
  generalize va_A (wText Γ q_tx q_sg ti sg) s.heap.size = A at hD hA ⊢
  have hS : va_S A s.heap s.heap [] := va_S.rf
  have hl := lv_entry ([.ref q_tx, .int x0]) (n := 2) (Nat.le_of_ble_eq_true rfl)
  rw [lg_entry_eq]
  generalize (lg_sl ([.ref q_tx, .int x0]) ++ List.replicate (2 - (lg_sl ([.ref q_tx, .int x0])).length) Slot.unset).toArray = ls at hl ⊢
  replace hl : lv_has ls 2 [(0, .ref q_tx), (1, .int x0)] := hl
  unfold mX7_add at hm
  refine lv_aload_n hx hb dX7_add_0 rfl (lv_at hl 0 rfl) ?_
  refine va_get (D := my_D Γ) (ci := 5) (v := .int (ti 1)) (C := RX7) (T := TX7) (N := 2) hx hb hts hinX7 hown hK hP 0 rfl rfl 1 (by decide) (hts (.fieldLink RX7 15 "BeltFloor$Text" "length" "I") (List.mem_of_getElem? (i := 1) rfl)) (fun _ h9 => h9) rfl dX7_add_1 ?_
  refine lv_if_lt (tgt := 40) hx hb dX7_add_4 (by decide) (fun c_1 => ?_) (fun c_1 => ?_)
  · replace hm := if_s hm c_1
    obtain ⟨hf0, hf1⟩ := ti2 hm
    subst hf0
    subst hf1
    exact W.vret hx hb hr (fun t ht hW => ⟨⟨rfl, by rw [ht]; exact hP⟩, hS.F ht⟩) hS.2.2 dX7_add_40
  · replace hm := if_f hm c_1
    refine lv_aload_n hx hb dX7_add_7 rfl (lv_at hl 0 rfl) ?_
    refine va_get (D := my_D Γ) (ci := 5) (v := .int (ti 1)) (C := RX7) (T := TX7) (N := 2) hx hb hts hinX7 hown hK hP 0 rfl rfl 1 (by decide) (hts (.fieldLink RX7 15 "BeltFloor$Text" "length" "I") (List.mem_of_getElem? (i := 1) rfl)) (fun _ h9 => h9) rfl dX7_add_8 ?_
    refine lv_aload_n hx hb dX7_add_11 rfl (lv_at hl 0 rfl) ?_
    refine va_get (D := my_D Γ) (ci := 5) (v := .ref q_sg) (C := RX7) (T := TX7) (N := 2) hx hb hts hinX7 hown hK hP 0 rfl rfl 0 (by decide) (hts (.fieldLink RX7 9 "BeltFloor$Text" "signs" "[C") (List.mem_of_getElem? (i := 2) rfl)) (fun _ h9 => h9) rfl dX7_add_12 ?_
    refine va_alen hx hb hK hP 1 3 rfl rfl (v := (120 : Int32)) rfl dX7_add_15 ?_
    refine lv_icmp_ge (tgt := 40) hx hb dX7_add_16 (by decide) (fun c_2 => ?_) (fun c_2 => ?_)
    · replace hm := if_s hm c_2
      obtain ⟨hf0, hf1⟩ := ti2 hm
      subst hf0
      subst hf1
      exact W.vret hx hb hr (fun t ht hW => ⟨⟨rfl, by rw [ht]; exact hP⟩, hS.F ht⟩) hS.2.2 dX7_add_40
    · replace hm := if_f hm c_2
      refine lv_aload_n hx hb dX7_add_19 rfl (lv_at hl 0 rfl) ?_
      refine va_get (D := my_D Γ) (ci := 5) (v := .ref q_sg) (C := RX7) (T := TX7) (N := 2) hx hb hts hinX7 hown hK hP 0 rfl rfl 0 (by decide) (hts (.fieldLink RX7 9 "BeltFloor$Text" "signs" "[C") (List.mem_of_getElem? (i := 2) rfl)) (fun _ h9 => h9) rfl dX7_add_20 ?_
      refine lv_aload_n hx hb dX7_add_23 rfl (lv_at hl 0 rfl) ?_
      refine va_get (D := my_D Γ) (ci := 5) (v := .int (ti 1)) (C := RX7) (T := TX7) (N := 2) hx hb hts hinX7 hown hK hP 0 rfl rfl 1 (by decide) (hts (.fieldLink RX7 15 "BeltFloor$Text" "length" "I") (List.mem_of_getElem? (i := 1) rfl)) (fun _ h9 => h9) rfl dX7_add_24 ?_
      refine lv_iload_n hx hb dX7_add_27 rfl (lv_at hl 1 rfl) ?_
      refine lv_i2c (v := jchar x0) hx hb dX7_add_28 rfl ?_
      refine va_cast hx hb hK hP hD hS 1 3 rfl rfl (my_inN c_1 c_2 rfl) dX7_add_29 (fun H locs hP hD hS => ?_)
      replace hP : va_P (my_D Γ) vwCl (wText Γ q_tx q_sg ti (upd sg (ti 1).toNatClampNeg ((jchar x0).toUInt32.toUInt16.toUInt32.toInt32))) H := hP
      replace hD : va_D A (wText Γ q_tx q_sg ti (upd sg (ti 1).toNatClampNeg ((jchar x0).toUInt32.toUInt16.toUInt32.toInt32))) := hD
      refine lv_aload_n hx hb dX7_add_30 rfl (lv_at hl 0 rfl) ?_
      refine lv_dup hx hb dX7_add_31 rfl ?_
      refine va_get (D := my_D Γ) (ci := 5) (v := .int (ti 1)) (C := RX7) (T := TX7) (N := 2) hx hb hts hinX7 hown hK hP 0 rfl rfl 1 (by decide) (hts (.fieldLink RX7 15 "BeltFloor$Text" "length" "I") (List.mem_of_getElem? (i := 1) rfl)) (fun _ h9 => h9) rfl dX7_add_32 ?_
      refine lv_iconst (v := (1 : Int32)) hx hb dX7_add_35 (by decide) ?_
      refine lv_iadd hx hb dX7_add_36 ?_
      refine lv_topi (fun y_3 ey_3 => ?_)
      refine va_put (D := my_D Γ) (ci := 5) (v := .int y_3) (ty := .int) (C := RX7) (T := TX7) (N := 2) hx hb hts hinX7 tyX7 tyX7_ok nmX7 hown hK hP hD hS 0 rfl rfl 1 (by decide) (hts (.fieldLink RX7 15 "BeltFloor$Text" "length" "I") (List.mem_of_getElem? (i := 1) rfl)) (fun _ h9 => h9) rfl (by decide +kernel) rfl rfl (Nat.le_of_ble_eq_true rfl) dX7_add_37 (fun H locs hP hD hS => ?_)
      replace hP : va_P (my_D Γ) vwCl (wText Γ q_tx q_sg (upd ti 1 y_3) (upd sg (ti 1).toNatClampNeg ((jchar x0).toUInt32.toUInt16.toUInt32.toInt32))) H := hP
      replace hD : va_D A (wText Γ q_tx q_sg (upd ti 1 y_3) (upd sg (ti 1).toNatClampNeg ((jchar x0).toUInt32.toUInt16.toUInt32.toInt32))) := hD
      subst ey_3
      obtain ⟨hf0, hf1⟩ := ti2 hm
      subst hf0
      subst hf1
      exact W.vret hx hb hr (fun t ht hW => ⟨⟨rfl, by rw [ht]; exact hP⟩, hS.F ht⟩) hS.2.2 dX7_add_40
def mX7_signAt (ti : Nat → Int32) (sg : Nat → Int32) (x0 : Int32) : Int32 := (if x0 < 0 then (-1 : Int32) else (if (ti 1) ≤ x0 then (-1 : Int32) else (if (120 : Int32) ≤ x0 then (-1 : Int32) else (sg x0.toNatClampNeg))))
set_option maxHeartbeats 4000000 in
set_option maxRecDepth 100000 in
theorem kX7_signAt (l : Launch) (Γ : my_G) (q_tx q_sg : Nat) (ti : Nat → Int32) (sg : Nat → Int32) (x0 : Int32) (rr : Int32) (hm : mX7_signAt ti sg x0 = rr) : Mn l yX7_signAt wsX7_signAt ({ frames := 0, cells := 0, slots := 0, locals := 0 } : Room) Γ [.ref q_tx, .int x0] (wText Γ q_tx q_sg ti sg) (some (.int rr)) (wText Γ q_tx q_sg ti sg) := by
  intro sz
  refine Met.ofW (cc := cX7_signAt) (maxL := 2) (ret := (some .int)) (by decide) rfl ?_
  intro p e s m args below meth c s₁ B hml hv
  obtain ⟨rfl, hsz, hP, hK, hD0⟩ := hv
  have hx := B.exec
  have hb := B.bytes
  have hr := B.returns
  have hts := atoms_spec (ws := wsX7_signAt) B.pre
  have hown : s.vm.findClass RX7 = some m.cls := findClass_of_methodNamed B.named
  have hlocks := B.notSynchronized
  have hinX7 : ∀ w ∈ u_ws RX7 TX7 2, w ∈ wsX7_signAt := fun w h => List.mem_cons_of_mem _ (List.mem_append_right _ h)
  subst hsz
  have hD := hD0.self (sz := s.heap.size)
  have hA : ∀ q : Nat, s.heap.size ≤ q → va_A (wText Γ q_tx q_sg ti sg) s.heap.size q := fun q h => Or.inr h
  generalize va_A (wText Γ q_tx q_sg ti sg) s.heap.size = A at hD hA ⊢
  have hS : va_S A s.heap s.heap [] := va_S.rf
  have hl := lv_entry ([.ref q_tx, .int x0]) (n := 2) (Nat.le_of_ble_eq_true rfl)
  rw [lg_entry_eq]
  generalize (lg_sl ([.ref q_tx, .int x0]) ++ List.replicate (2 - (lg_sl ([.ref q_tx, .int x0])).length) Slot.unset).toArray = ls at hl ⊢
  replace hl : lv_has ls 2 [(0, .ref q_tx), (1, .int x0)] := hl
  unfold mX7_signAt at hm
  refine lv_iload_n hx hb dX7_signAt_0 rfl (lv_at hl 1 rfl) ?_
  refine lv_if_lt (tgt := 30) hx hb dX7_signAt_1 (by decide) (fun c_1 => ?_) (fun c_1 => ?_)
  · replace hm := if_s hm c_1
    refine lv_iconst (v := (-1 : Int32)) hx hb dX7_signAt_30 (by decide) ?_
    have hf0 := hm
    subst hf0
    exact W.iret (v := (-1 : Int32)) hx hb hr (fun t ht hW => ⟨⟨rfl, by rw [ht]; exact hP⟩, hS.F ht⟩) hS.2.2 dX7_signAt_31
  · replace hm := if_f hm c_1
    refine lv_iload_n hx hb dX7_signAt_4 rfl (lv_at hl 1 rfl) ?_
    refine lv_aload_n hx hb dX7_signAt_5 rfl (lv_at hl 0 rfl) ?_
    refine va_get (D := my_D Γ) (ci := 5) (v := .int (ti 1)) (C := RX7) (T := TX7) (N := 2) hx hb hts hinX7 hown hK hP 0 rfl rfl 1 (by decide) (hts (.fieldLink RX7 15 "BeltFloor$Text" "length" "I") (List.mem_of_getElem? (i := 1) rfl)) (fun _ h9 => h9) rfl dX7_signAt_6 ?_
    refine lv_icmp_ge (tgt := 30) hx hb dX7_signAt_9 (by decide) (fun c_2 => ?_) (fun c_2 => ?_)
    · replace hm := if_s hm c_2
      refine lv_iconst (v := (-1 : Int32)) hx hb dX7_signAt_30 (by decide) ?_
      have hf0 := hm
      subst hf0
      exact W.iret (v := (-1 : Int32)) hx hb hr (fun t ht hW => ⟨⟨rfl, by rw [ht]; exact hP⟩, hS.F ht⟩) hS.2.2 dX7_signAt_31
    · replace hm := if_f hm c_2
      refine lv_iload_n hx hb dX7_signAt_12 rfl (lv_at hl 1 rfl) ?_
      refine lv_aload_n hx hb dX7_signAt_13 rfl (lv_at hl 0 rfl) ?_
      refine va_get (D := my_D Γ) (ci := 5) (v := .ref q_sg) (C := RX7) (T := TX7) (N := 2) hx hb hts hinX7 hown hK hP 0 rfl rfl 0 (by decide) (hts (.fieldLink RX7 9 "BeltFloor$Text" "signs" "[C") (List.mem_of_getElem? (i := 2) rfl)) (fun _ h9 => h9) rfl dX7_signAt_14 ?_
      refine va_alen hx hb hK hP 1 3 rfl rfl (v := (120 : Int32)) rfl dX7_signAt_17 ?_
      refine lv_icmp_ge (tgt := 30) hx hb dX7_signAt_18 (by decide) (fun c_3 => ?_) (fun c_3 => ?_)
      · replace hm := if_s hm c_3
        refine lv_iconst (v := (-1 : Int32)) hx hb dX7_signAt_30 (by decide) ?_
        have hf0 := hm
        subst hf0
        exact W.iret (v := (-1 : Int32)) hx hb hr (fun t ht hW => ⟨⟨rfl, by rw [ht]; exact hP⟩, hS.F ht⟩) hS.2.2 dX7_signAt_31
      · replace hm := if_f hm c_3
        refine lv_aload_n hx hb dX7_signAt_21 rfl (lv_at hl 0 rfl) ?_
        refine va_get (D := my_D Γ) (ci := 5) (v := .ref q_sg) (C := RX7) (T := TX7) (N := 2) hx hb hts hinX7 hown hK hP 0 rfl rfl 0 (by decide) (hts (.fieldLink RX7 9 "BeltFloor$Text" "signs" "[C") (List.mem_of_getElem? (i := 2) rfl)) (fun _ h9 => h9) rfl dX7_signAt_22 ?_
        refine lv_iload_n hx hb dX7_signAt_25 rfl (lv_at hl 1 rfl) ?_
        refine va_cald hx hb hK hP 1 3 rfl rfl (my_inN c_1 c_3 rfl) dX7_signAt_26 ?_
        refine lv_goto (tgt := 31) hx hb dX7_signAt_27 (by decide) ?_
        have hf0 := hm
        subst hf0
        exact W.iret (v := (sg x0.toNatClampNeg)) hx hb hr (fun t ht hW => ⟨⟨rfl, by rw [ht]; exact hP⟩, hS.F ht⟩) hS.2.2 dX7_signAt_31
def mX7_isDigit (ti : Nat → Int32) (sg : Nat → Int32) (x0 : Int32) (x1 : Int32) : Int32 := (if (mX7_signAt ti sg x0) < (48 : Int32) then (0 : Int32) else (if ((48 : Int32) + x1) < (mX7_signAt ti sg x0) then (0 : Int32) else (1 : Int32)))
theorem nbX7_isDigit (ti : Nat → Int32) (sg : Nat → Int32) (x0 : Int32) (x1 : Int32) : narrow .boolean (.int (mX7_isDigit ti sg x0 x1)) = .int (mX7_isDigit ti sg x0 x1) := by
  unfold mX7_isDigit
  repeat' split
  all_goals rfl
set_option maxHeartbeats 4000000 in
set_option maxRecDepth 100000 in
theorem kX7_isDigit (l : Launch) (Γ : my_G) (q_tx q_sg : Nat) (ti : Nat → Int32) (sg : Nat → Int32) (x0 : Int32) (x1 : Int32) (rr : Int32) (hm : mX7_isDigit ti sg x0 x1 = rr) : Mn l yX7_isDigit wsX7_isDigit ({ frames := 1, cells := 0, slots := 0, locals := 21 } : Room) Γ [.ref q_tx, .int x0, .int x1] (wText Γ q_tx q_sg ti sg) (some (.int rr)) (wText Γ q_tx q_sg ti sg) := by
  intro sz
  refine Met.ofW (cc := cX7_isDigit) (maxL := 4) (ret := (some .boolean)) (by decide) rfl ?_
  intro p e s m args below meth c s₁ B hml hv
  obtain ⟨rfl, hsz, hP, hK, hD0⟩ := hv
  have hx := B.exec
  have hb := B.bytes
  have hr := B.returns
  have hts := atoms_spec (ws := wsX7_isDigit) B.pre
  have hown : s.vm.findClass RX7 = some m.cls := findClass_of_methodNamed B.named
  have hlocks := B.notSynchronized
  have hinX7 : ∀ w ∈ u_ws RX7 TX7 2, w ∈ wsX7_isDigit := fun w h => List.mem_cons_of_mem _ (List.mem_append_right _ h)
  subst hsz
  have hD := hD0.self (sz := s.heap.size)
  have hA : ∀ q : Nat, s.heap.size ≤ q → va_A (wText Γ q_tx q_sg ti sg) s.heap.size q := fun q h => Or.inr h
  generalize va_A (wText Γ q_tx q_sg ti sg) s.heap.size = A at hD hA ⊢
  have hS : va_S A s.heap s.heap [] := va_S.rf
  have hl := lv_entry ([.ref q_tx, .int x0, .int x1]) (n := 4) (Nat.le_of_ble_eq_true rfl)
  rw [lg_entry_eq]
  generalize (lg_sl ([.ref q_tx, .int x0, .int x1]) ++ List.replicate (4 - (lg_sl ([.ref q_tx, .int x0, .int x1])).length) Slot.unset).toArray = ls at hl ⊢
  replace hl : lv_has ls 4 [(0, .ref q_tx), (1, .int x0), (2, .int x1)] := hl
  unfold mX7_isDigit at hm
  refine lv_aload_n hx hb dX7_isDigit_0 rfl (lv_at hl 0 rfl) ?_
  refine lv_iload_n hx hb dX7_isDigit_1 rfl (lv_at hl 1 rfl) ?_
  refine my_call1 (wc := (wText Γ q_tx q_sg ti sg)) (w1 := (wText Γ q_tx q_sg ti sg)) (ws1 := (wText Γ q_tx q_sg ti sg)) hP hD hS hA [0, 1] rfl rfl rfl (va_runV (As := [.int x0]) (rest := []) ⟨hx, hb, hml, hown, hts⟩ (kX7_signAt l Γ q_tx q_sg ti sg x0 (mX7_signAt ti sg x0) rfl _) (cwV 1 hts gX7_isDigit_X7_signAt rfl rfl rfl (by decide +kernel) ⟨Nat.le_of_ble_eq_true rfl, Nat.le_of_ble_eq_true rfl⟩) (my_preV (wc := (wText Γ q_tx q_sg ti sg)) (ci := 5) (q0 := 0) [0, 1] hK hP hD rfl rfl rfl rfl) rfl rfl hl.1 rfl (lv_room (Nat.le_of_ble_eq_true rfl)) dX7_isDigit_2 ⟨Nat.le_of_ble_eq_true rfl, Nat.le_of_ble_eq_true rfl⟩) (fun H locs hP hD hS => ?_)
  refine lv_istore_n (lv' := [(3, .int (mX7_signAt ti sg x0)), (0, .ref q_tx), (1, .int x0), (2, .int x1)]) hx hb dX7_isDigit_5 rfl hl (by decide) rfl (fun ls hl => ?_)
  refine lv_iload_n hx hb dX7_isDigit_6 rfl (lv_at hl 0 rfl) ?_
  refine lv_bipush (v := (48 : Int32)) hx hb dX7_isDigit_7 (by decide) ?_
  refine lv_icmp_lt (tgt := 24) hx hb dX7_isDigit_9 (by decide) (fun c_1 => ?_) (fun c_1 => ?_)
  · replace hm := if_s hm c_1
    refine lv_iconst (v := (0 : Int32)) hx hb dX7_isDigit_24 (by decide) ?_
    have hf0 := hm
    subst hf0
    exact W.zret (v := (0 : Int32)) hx hb hr rfl (fun t ht hW => ⟨⟨rfl, by rw [ht]; exact hP⟩, hS.F ht⟩) hS.2.2 dX7_isDigit_25
  · replace hm := if_f hm c_1
    refine lv_iload_n hx hb dX7_isDigit_12 rfl (lv_at hl 0 rfl) ?_
    refine lv_bipush (v := (48 : Int32)) hx hb dX7_isDigit_13 (by decide) ?_
    refine lv_iload_n hx hb dX7_isDigit_15 rfl (lv_at hl 3 rfl) ?_
    refine lv_iadd hx hb dX7_isDigit_16 ?_
    refine lv_icmp_gt (tgt := 24) hx hb dX7_isDigit_17 (by decide) (fun c_2 => ?_) (fun c_2 => ?_)
    · replace hm := if_s hm c_2
      refine lv_iconst (v := (0 : Int32)) hx hb dX7_isDigit_24 (by decide) ?_
      have hf0 := hm
      subst hf0
      exact W.zret (v := (0 : Int32)) hx hb hr rfl (fun t ht hW => ⟨⟨rfl, by rw [ht]; exact hP⟩, hS.F ht⟩) hS.2.2 dX7_isDigit_25
    · replace hm := if_f hm c_2
      refine lv_iconst (v := (1 : Int32)) hx hb dX7_isDigit_20 (by decide) ?_
      refine lv_goto (tgt := 25) hx hb dX7_isDigit_21 (by decide) ?_
      have hf0 := hm
      subst hf0
      exact W.zret (v := (1 : Int32)) hx hb hr rfl (fun t ht hW => ⟨⟨rfl, by rw [ht]; exact hP⟩, hS.F ht⟩) hS.2.2 dX7_isDigit_25
def mX7_digitAt (ti : Nat → Int32) (sg : Nat → Int32) (x0 : Int32) : Int32 := ((mX7_signAt ti sg x0) - (48 : Int32))
set_option maxHeartbeats 4000000 in
set_option maxRecDepth 100000 in
theorem kX7_digitAt (l : Launch) (Γ : my_G) (q_tx q_sg : Nat) (ti : Nat → Int32) (sg : Nat → Int32) (x0 : Int32) (rr : Int32) (hm : mX7_digitAt ti sg x0 = rr) : Mn l yX7_digitAt wsX7_digitAt ({ frames := 1, cells := 0, slots := 0, locals := 21 } : Room) Γ [.ref q_tx, .int x0] (wText Γ q_tx q_sg ti sg) (some (.int rr)) (wText Γ q_tx q_sg ti sg) := by
  intro sz
  refine Met.ofW (cc := cX7_digitAt) (maxL := 2) (ret := (some .int)) (by decide) rfl ?_
  intro p e s m args below meth c s₁ B hml hv
  obtain ⟨rfl, hsz, hP, hK, hD0⟩ := hv
  have hx := B.exec
  have hb := B.bytes
  have hr := B.returns
  have hts := atoms_spec (ws := wsX7_digitAt) B.pre
  have hown : s.vm.findClass RX7 = some m.cls := findClass_of_methodNamed B.named
  have hlocks := B.notSynchronized
  have hinX7 : ∀ w ∈ u_ws RX7 TX7 2, w ∈ wsX7_digitAt := fun w h => List.mem_cons_of_mem _ (List.mem_append_right _ h)
  subst hsz
  have hD := hD0.self (sz := s.heap.size)
  have hA : ∀ q : Nat, s.heap.size ≤ q → va_A (wText Γ q_tx q_sg ti sg) s.heap.size q := fun q h => Or.inr h
  generalize va_A (wText Γ q_tx q_sg ti sg) s.heap.size = A at hD hA ⊢
  have hS : va_S A s.heap s.heap [] := va_S.rf
  have hl := lv_entry ([.ref q_tx, .int x0]) (n := 2) (Nat.le_of_ble_eq_true rfl)
  rw [lg_entry_eq]
  generalize (lg_sl ([.ref q_tx, .int x0]) ++ List.replicate (2 - (lg_sl ([.ref q_tx, .int x0])).length) Slot.unset).toArray = ls at hl ⊢
  replace hl : lv_has ls 2 [(0, .ref q_tx), (1, .int x0)] := hl
  unfold mX7_digitAt at hm
  refine lv_aload_n hx hb dX7_digitAt_0 rfl (lv_at hl 0 rfl) ?_
  refine lv_iload_n hx hb dX7_digitAt_1 rfl (lv_at hl 1 rfl) ?_
  refine my_call1 (wc := (wText Γ q_tx q_sg ti sg)) (w1 := (wText Γ q_tx q_sg ti sg)) (ws1 := (wText Γ q_tx q_sg ti sg)) hP hD hS hA [0, 1] rfl rfl rfl (va_runV (As := [.int x0]) (rest := []) ⟨hx, hb, hml, hown, hts⟩ (kX7_signAt l Γ q_tx q_sg ti sg x0 (mX7_signAt ti sg x0) rfl _) (cwV 1 hts gX7_digitAt_X7_signAt rfl rfl rfl (by decide +kernel) ⟨Nat.le_of_ble_eq_true rfl, Nat.le_of_ble_eq_true rfl⟩) (my_preV (wc := (wText Γ q_tx q_sg ti sg)) (ci := 5) (q0 := 0) [0, 1] hK hP hD rfl rfl rfl rfl) rfl rfl hl.1 rfl (lv_room (Nat.le_of_ble_eq_true rfl)) dX7_digitAt_2 ⟨Nat.le_of_ble_eq_true rfl, Nat.le_of_ble_eq_true rfl⟩) (fun H locs hP hD hS => ?_)
  refine lv_bipush (v := (48 : Int32)) hx hb dX7_digitAt_5 (by decide) ?_
  refine lv_isub hx hb dX7_digitAt_7 ?_
  have hf0 := hm
  subst hf0
  exact W.iret (v := ((mX7_signAt ti sg x0) - (48 : Int32))) hx hb hr (fun t ht hW => ⟨⟨rfl, by rw [ht]; exact hP⟩, hS.F ht⟩) hS.2.2 dX7_digitAt_8
def mX7_cellAt (ti : Nat → Int32) (sg : Nat → Int32) (x0 : Int32) : Int32 := (((10 : Int32) * (mX7_digitAt ti sg x0)) + (mX7_digitAt ti sg (x0 + (1 : Int32))))
set_option maxHeartbeats 4000000 in
set_option maxRecDepth 100000 in
theorem kX7_cellAt (l : Launch) (Γ : my_G) (q_tx q_sg : Nat) (ti : Nat → Int32) (sg : Nat → Int32) (x0 : Int32) (rr : Int32) (hm : mX7_cellAt ti sg x0 = rr) : Mn l yX7_cellAt wsX7_cellAt ({ frames := 2, cells := 0, slots := 0, locals := 42 } : Room) Γ [.ref q_tx, .int x0] (wText Γ q_tx q_sg ti sg) (some (.int rr)) (wText Γ q_tx q_sg ti sg) := by
  intro sz
  refine Met.ofW (cc := cX7_cellAt) (maxL := 2) (ret := (some .int)) (by decide) rfl ?_
  intro p e s m args below meth c s₁ B hml hv
  obtain ⟨rfl, hsz, hP, hK, hD0⟩ := hv
  have hx := B.exec
  have hb := B.bytes
  have hr := B.returns
  have hts := atoms_spec (ws := wsX7_cellAt) B.pre
  have hown : s.vm.findClass RX7 = some m.cls := findClass_of_methodNamed B.named
  have hlocks := B.notSynchronized
  have hinX7 : ∀ w ∈ u_ws RX7 TX7 2, w ∈ wsX7_cellAt := fun w h => List.mem_cons_of_mem _ (List.mem_append_right _ h)
  subst hsz
  have hD := hD0.self (sz := s.heap.size)
  have hA : ∀ q : Nat, s.heap.size ≤ q → va_A (wText Γ q_tx q_sg ti sg) s.heap.size q := fun q h => Or.inr h
  generalize va_A (wText Γ q_tx q_sg ti sg) s.heap.size = A at hD hA ⊢
  have hS : va_S A s.heap s.heap [] := va_S.rf
  have hl := lv_entry ([.ref q_tx, .int x0]) (n := 2) (Nat.le_of_ble_eq_true rfl)
  rw [lg_entry_eq]
  generalize (lg_sl ([.ref q_tx, .int x0]) ++ List.replicate (2 - (lg_sl ([.ref q_tx, .int x0])).length) Slot.unset).toArray = ls at hl ⊢
  replace hl : lv_has ls 2 [(0, .ref q_tx), (1, .int x0)] := hl
  unfold mX7_cellAt at hm
  refine lv_bipush (v := (10 : Int32)) hx hb dX7_cellAt_0 (by decide) ?_
  refine lv_aload_n hx hb dX7_cellAt_2 rfl (lv_at hl 0 rfl) ?_
  refine lv_iload_n hx hb dX7_cellAt_3 rfl (lv_at hl 1 rfl) ?_
  refine my_call1 (wc := (wText Γ q_tx q_sg ti sg)) (w1 := (wText Γ q_tx q_sg ti sg)) (ws1 := (wText Γ q_tx q_sg ti sg)) hP hD hS hA [0, 1] rfl rfl rfl (va_runV (As := [.int x0]) (rest := [.int (10 : Int32)]) ⟨hx, hb, hml, hown, hts⟩ (kX7_digitAt l Γ q_tx q_sg ti sg x0 (mX7_digitAt ti sg x0) rfl _) (cwV 1 hts gX7_cellAt_X7_digitAt rfl rfl rfl (by decide +kernel) ⟨Nat.le_of_ble_eq_true rfl, Nat.le_of_ble_eq_true rfl⟩) (my_preV (wc := (wText Γ q_tx q_sg ti sg)) (ci := 5) (q0 := 0) [0, 1] hK hP hD rfl rfl rfl rfl) rfl rfl hl.1 rfl (lv_room (Nat.le_of_ble_eq_true rfl)) dX7_cellAt_4 ⟨Nat.le_of_ble_eq_true rfl, Nat.le_of_ble_eq_true rfl⟩) (fun H locs hP hD hS => ?_)
  refine lv_imul hx hb dX7_cellAt_7 ?_
  refine lv_aload_n hx hb dX7_cellAt_8 rfl (lv_at hl 0 rfl) ?_
  refine lv_iload_n hx hb dX7_cellAt_9 rfl (lv_at hl 1 rfl) ?_
  refine lv_iconst (v := (1 : Int32)) hx hb dX7_cellAt_10 (by decide) ?_
  refine lv_iadd hx hb dX7_cellAt_11 ?_
  refine my_call1 (wc := (wText Γ q_tx q_sg ti sg)) (w1 := (wText Γ q_tx q_sg ti sg)) (ws1 := (wText Γ q_tx q_sg ti sg)) hP hD hS hA [0, 1] rfl rfl rfl (va_runV (As := [.int (x0 + (1 : Int32))]) (rest := [.int ((10 : Int32) * (mX7_digitAt ti sg x0))]) ⟨hx, hb, hml, hown, hts⟩ (kX7_digitAt l Γ q_tx q_sg ti sg (x0 + (1 : Int32)) (mX7_digitAt ti sg (x0 + (1 : Int32))) rfl _) (cwV 1 hts gX7_cellAt_X7_digitAt rfl rfl rfl (by decide +kernel) ⟨Nat.le_of_ble_eq_true rfl, Nat.le_of_ble_eq_true rfl⟩) (my_preV (wc := (wText Γ q_tx q_sg ti sg)) (ci := 5) (q0 := 0) [0, 1] hK hP hD rfl rfl rfl rfl) rfl rfl hl.1 rfl (lv_room (Nat.le_of_ble_eq_true rfl)) dX7_cellAt_12 ⟨Nat.le_of_ble_eq_true rfl, Nat.le_of_ble_eq_true rfl⟩) (fun H locs hP hD hS => ?_)
  refine lv_iadd hx hb dX7_cellAt_15 ?_
  have hf0 := hm
  subst hf0
  exact W.iret (v := (((10 : Int32) * (mX7_digitAt ti sg x0)) + (mX7_digitAt ti sg (x0 + (1 : Int32))))) hx hb hr (fun t ht hW => ⟨⟨rfl, by rw [ht]; exact hP⟩, hS.F ht⟩) hS.2.2 dX7_cellAt_16
def mX7_instructionsFrom_L2  : Nat → (Nat → Int32) → (Nat → Int32) → Int32 → Int32 → Option (Int32)
  | 0, _, _, _, _ => none
  | n + 1, ti, sg, l1, l2 => (if (10 : Int32) ≤ l2 then (some l2) else (if (mX7_isDigit ti sg (l1 + l2) (5 : Int32)) = 0 then (some l2) else (mX7_instructionsFrom_L2 n ti sg l1 (l2 + (1 : Int32)))))
def mX7_instructionsFrom (ti : Nat → Int32) (sg : Nat → Int32) (x0 : Int32) : Option (Int32) := (mX7_instructionsFrom_L2 4096 ti sg x0 (0 : Int32))
set_option maxHeartbeats 4000000 in
set_option maxRecDepth 100000 in
theorem kX7_instructionsFrom (l : Launch) (Γ : my_G) (q_tx q_sg : Nat) (ti : Nat → Int32) (sg : Nat → Int32) (x0 : Int32) (rr : Int32) (hm : mX7_instructionsFrom ti sg x0 = (some rr)) : Mn l yX7_instructionsFrom wsX7_instructionsFrom ({ frames := 2, cells := 0, slots := 0, locals := 44 } : Room) Γ [.ref q_tx, .int x0] (wText Γ q_tx q_sg ti sg) (some (.int rr)) (wText Γ q_tx q_sg ti sg) := by
  intro sz
  refine Met.ofW (cc := cX7_instructionsFrom) (maxL := 3) (ret := (some .int)) (by decide) rfl ?_
  intro p e s m args below meth c s₁ B hml hv
  obtain ⟨rfl, hsz, hP, hK, hD0⟩ := hv
  have hx := B.exec
  have hb := B.bytes
  have hr := B.returns
  have hts := atoms_spec (ws := wsX7_instructionsFrom) B.pre
  have hown : s.vm.findClass RX7 = some m.cls := findClass_of_methodNamed B.named
  have hlocks := B.notSynchronized
  have hinX7 : ∀ w ∈ u_ws RX7 TX7 2, w ∈ wsX7_instructionsFrom := fun w h => List.mem_cons_of_mem _ (List.mem_append_right _ h)
  subst hsz
  have hD := hD0.self (sz := s.heap.size)
  have hA : ∀ q : Nat, s.heap.size ≤ q → va_A (wText Γ q_tx q_sg ti sg) s.heap.size q := fun q h => Or.inr h
  generalize va_A (wText Γ q_tx q_sg ti sg) s.heap.size = A at hD hA ⊢
  have hS : va_S A s.heap s.heap [] := va_S.rf
  have hl := lv_entry ([.ref q_tx, .int x0]) (n := 3) (Nat.le_of_ble_eq_true rfl)
  rw [lg_entry_eq]
  generalize (lg_sl ([.ref q_tx, .int x0]) ++ List.replicate (3 - (lg_sl ([.ref q_tx, .int x0])).length) Slot.unset).toArray = ls at hl ⊢
  replace hl : lv_has ls 3 [(0, .ref q_tx), (1, .int x0)] := hl
  have J_2 : ∀ n : Nat, ∀ (ti : Nat → Int32) (sg : Nat → Int32) (l1 : Int32) (l2 : Int32) (H : Heap) (locs : List Loc) (ls : Array Slot), va_P (my_D Γ) vwCl (wText Γ q_tx q_sg ti sg) H → va_D A (wText Γ q_tx q_sg ti sg) → va_S A s.heap H locs → lv_has ls 3 [(0, .ref q_tx), (1, .int l1), (2, .int l2)] → mX7_instructionsFrom_L2 n ti sg l1 l2 = (some rr) → W p l e (headSpec wsX7_instructionsFrom ({ frames := 2, cells := 0, slots := 0, locals := 44 } : Room)).room s m ([.ref q_tx, .int x0] : List Value).toArray below meth c H locs 0 0 (MQ below (my_Q Γ A (some (.int rr)) (wText Γ q_tx q_sg ti sg)) ([.ref q_tx, .int x0] : List Value).toArray s 0 0 A) (F0 m 2 ls []) := by
    intro  n
    induction n with
    | zero => intro ti sg l1 l2 H locs ls hP hD hS hl hm; cases hm
    | succ n ih =>
      intro ti sg l1 l2 H locs ls hP hD hS hl hm
      unfold mX7_instructionsFrom_L2 at hm
      refine lv_iload_n hx hb dX7_instructionsFrom_2 rfl (lv_at hl 2 rfl) ?_
      refine lv_bipush (v := (10 : Int32)) hx hb dX7_instructionsFrom_3 (by decide) ?_
      refine lv_icmp_ge (tgt := 25) hx hb dX7_instructionsFrom_5 (by decide) (fun c_1 => ?_) (fun c_1 => ?_)
      · replace hm := if_s hm c_1
        refine lv_iload_n hx hb dX7_instructionsFrom_25 rfl (lv_at hl 2 rfl) ?_
        obtain hf0 := Option.some.inj hm
        subst hf0
        exact W.iret (v := l2) hx hb hr (fun t ht hW => ⟨⟨rfl, by rw [ht]; exact hP⟩, hS.F ht⟩) hS.2.2 dX7_instructionsFrom_26
      · replace hm := if_f hm c_1
        refine lv_aload_n hx hb dX7_instructionsFrom_8 rfl (lv_at hl 0 rfl) ?_
        refine lv_iload_n hx hb dX7_instructionsFrom_9 rfl (lv_at hl 1 rfl) ?_
        refine lv_iload_n hx hb dX7_instructionsFrom_10 rfl (lv_at hl 2 rfl) ?_
        refine lv_iadd hx hb dX7_instructionsFrom_11 ?_
        refine lv_iconst (v := (5 : Int32)) hx hb dX7_instructionsFrom_12 (by decide) ?_
        refine my_call1 (wc := (wText Γ q_tx q_sg ti sg)) (w1 := (wText Γ q_tx q_sg ti sg)) (ws1 := (wText Γ q_tx q_sg ti sg)) hP hD hS hA [0, 1] rfl rfl rfl (va_runV (As := [.int (l1 + l2), .int (5 : Int32)]) (rest := []) ⟨hx, hb, hml, hown, hts⟩ (kX7_isDigit l Γ q_tx q_sg ti sg (l1 + l2) (5 : Int32) (mX7_isDigit ti sg (l1 + l2) (5 : Int32)) rfl _) (cwV 2 hts gX7_instructionsFrom_X7_isDigit rfl rfl rfl (by decide +kernel) ⟨Nat.le_of_ble_eq_true rfl, Nat.le_of_ble_eq_true rfl⟩) (my_preV (wc := (wText Γ q_tx q_sg ti sg)) (ci := 5) (q0 := 0) [0, 1] hK hP hD rfl rfl rfl rfl) rfl rfl hl.1 rfl (lv_room (Nat.le_of_ble_eq_true rfl)) dX7_instructionsFrom_13 ⟨Nat.le_of_ble_eq_true rfl, Nat.le_of_ble_eq_true rfl⟩) (fun H locs hP hD hS => ?_)
        refine lv_if_eq (tgt := 25) hx hb dX7_instructionsFrom_16 (by decide) (fun c_2 => ?_) (fun c_2 => ?_)
        · replace hm := if_s hm c_2
          refine lv_iload_n hx hb dX7_instructionsFrom_25 rfl (lv_at hl 2 rfl) ?_
          obtain hf0 := Option.some.inj hm
          subst hf0
          exact W.iret (v := l2) hx hb hr (fun t ht hW => ⟨⟨rfl, by rw [ht]; exact hP⟩, hS.F ht⟩) hS.2.2 dX7_instructionsFrom_26
        · replace hm := if_f hm c_2
          refine lv_iinc (v := (l2 + (1 : Int32))) (lv' := [(2, .int (l2 + (1 : Int32))), (0, .ref q_tx), (1, .int l1)]) hx hb dX7_instructionsFrom_19 hl (k := 2) rfl rfl (by decide) rfl (fun ls hl => ?_)
          refine lv_goto (tgt := 2) hx hb dX7_instructionsFrom_22 (by decide) ?_
          exact ih ti sg l1 (l2 + (1 : Int32)) _ _ _ hP hD hS (lv_sub hl [1, 2, 0] rfl) hm
  unfold mX7_instructionsFrom at hm
  refine lv_iconst (v := (0 : Int32)) hx hb dX7_instructionsFrom_0 (by decide) ?_
  refine lv_istore_n (lv' := [(2, .int (0 : Int32)), (0, .ref q_tx), (1, .int x0)]) hx hb dX7_instructionsFrom_1 rfl hl (by decide) rfl (fun ls hl => ?_)
  exact J_2 4096 ti sg x0 (0 : Int32) _ _ _ hP hD hS (lv_sub hl [1, 2, 0] rfl) hm
def mX7_errorInCell_J26  (ti : Nat → Int32) (sg : Nat → Int32) (l1 : Int32) (s0 : Int32) : Int32 := (if (mX7_isDigit ti sg (l1 + (1 : Int32)) s0) = 0 then (l1 + (1 : Int32)) else (-1 : Int32))
def mX7_errorInCell (ti : Nat → Int32) (sg : Nat → Int32) (x0 : Int32) : Int32 := (if (mX7_isDigit ti sg x0 (3 : Int32)) = 0 then x0 else (if (mX7_digitAt ti sg x0) = (3 : Int32) then (mX7_errorInCell_J26 ti sg x0 (5 : Int32)) else (mX7_errorInCell_J26 ti sg x0 (9 : Int32))))
set_option maxHeartbeats 4000000 in
set_option maxRecDepth 100000 in
theorem kX7_errorInCell (l : Launch) (Γ : my_G) (q_tx q_sg : Nat) (ti : Nat → Int32) (sg : Nat → Int32) (x0 : Int32) (rr : Int32) (hm : mX7_errorInCell ti sg x0 = rr) : Mn l yX7_errorInCell wsX7_errorInCell ({ frames := 2, cells := 0, slots := 0, locals := 44 } : Room) Γ [.ref q_tx, .int x0] (wText Γ q_tx q_sg ti sg) (some (.int rr)) (wText Γ q_tx q_sg ti sg) := by
  intro sz
  refine Met.ofW (cc := cX7_errorInCell) (maxL := 3) (ret := (some .int)) (by decide) rfl ?_
  intro p e s m args below meth c s₁ B hml hv
  obtain ⟨rfl, hsz, hP, hK, hD0⟩ := hv
  have hx := B.exec
  have hb := B.bytes
  have hr := B.returns
  have hts := atoms_spec (ws := wsX7_errorInCell) B.pre
  have hown : s.vm.findClass RX7 = some m.cls := findClass_of_methodNamed B.named
  have hlocks := B.notSynchronized
  have hinX7 : ∀ w ∈ u_ws RX7 TX7 2, w ∈ wsX7_errorInCell := fun w h => List.mem_cons_of_mem _ (List.mem_append_right _ h)
  subst hsz
  have hD := hD0.self (sz := s.heap.size)
  have hA : ∀ q : Nat, s.heap.size ≤ q → va_A (wText Γ q_tx q_sg ti sg) s.heap.size q := fun q h => Or.inr h
  generalize va_A (wText Γ q_tx q_sg ti sg) s.heap.size = A at hD hA ⊢
  have hS : va_S A s.heap s.heap [] := va_S.rf
  have hl := lv_entry ([.ref q_tx, .int x0]) (n := 3) (Nat.le_of_ble_eq_true rfl)
  rw [lg_entry_eq]
  generalize (lg_sl ([.ref q_tx, .int x0]) ++ List.replicate (3 - (lg_sl ([.ref q_tx, .int x0])).length) Slot.unset).toArray = ls at hl ⊢
  replace hl : lv_has ls 3 [(0, .ref q_tx), (1, .int x0)] := hl
  have J_26 : ∀ (ti : Nat → Int32) (sg : Nat → Int32) (l1 : Int32) (s0 : Int32) (H : Heap) (locs : List Loc) (ls : Array Slot), va_P (my_D Γ) vwCl (wText Γ q_tx q_sg ti sg) H → va_D A (wText Γ q_tx q_sg ti sg) → va_S A s.heap H locs → lv_has ls 3 [(0, .ref q_tx), (1, .int l1)] → mX7_errorInCell_J26 ti sg l1 s0 = rr → W p l e (headSpec wsX7_errorInCell ({ frames := 2, cells := 0, slots := 0, locals := 44 } : Room)).room s m ([.ref q_tx, .int x0] : List Value).toArray below meth c H locs 0 0 (MQ below (my_Q Γ A (some (.int rr)) (wText Γ q_tx q_sg ti sg)) ([.ref q_tx, .int x0] : List Value).toArray s 0 0 A) (F0 m 26 ls [.int s0]) := by
    intro  ti sg l1 s0 H locs ls hP hD hS hl hm
    unfold mX7_errorInCell_J26 at hm
    refine lv_istore_n (lv' := [(2, .int s0), (0, .ref q_tx), (1, .int l1)]) hx hb dX7_errorInCell_26 rfl hl (by decide) rfl (fun ls hl => ?_)
    refine lv_aload_n hx hb dX7_errorInCell_27 rfl (lv_at hl 1 rfl) ?_
    refine lv_iload_n hx hb dX7_errorInCell_28 rfl (lv_at hl 2 rfl) ?_
    refine lv_iconst (v := (1 : Int32)) hx hb dX7_errorInCell_29 (by decide) ?_
    refine lv_iadd hx hb dX7_errorInCell_30 ?_
    refine lv_iload_n hx hb dX7_errorInCell_31 rfl (lv_at hl 0 rfl) ?_
    refine my_call1 (wc := (wText Γ q_tx q_sg ti sg)) (w1 := (wText Γ q_tx q_sg ti sg)) (ws1 := (wText Γ q_tx q_sg ti sg)) hP hD hS hA [0, 1] rfl rfl rfl (va_runV (As := [.int (l1 + (1 : Int32)), .int s0]) (rest := []) ⟨hx, hb, hml, hown, hts⟩ (kX7_isDigit l Γ q_tx q_sg ti sg (l1 + (1 : Int32)) s0 (mX7_isDigit ti sg (l1 + (1 : Int32)) s0) rfl _) (cwV 2 hts gX7_errorInCell_X7_isDigit rfl rfl rfl (by decide +kernel) ⟨Nat.le_of_ble_eq_true rfl, Nat.le_of_ble_eq_true rfl⟩) (my_preV (wc := (wText Γ q_tx q_sg ti sg)) (ci := 5) (q0 := 0) [0, 1] hK hP hD rfl rfl rfl rfl) rfl rfl hl.1 rfl (lv_room (Nat.le_of_ble_eq_true rfl)) dX7_errorInCell_32 ⟨Nat.le_of_ble_eq_true rfl, Nat.le_of_ble_eq_true rfl⟩) (fun H locs hP hD hS => ?_)
    refine lv_if_eq (tgt := 42) hx hb dX7_errorInCell_35 (by decide) (fun c_3 => ?_) (fun c_3 => ?_)
    · replace hm := if_s hm c_3
      refine lv_iload_n hx hb dX7_errorInCell_42 rfl (lv_at hl 2 rfl) ?_
      refine lv_iconst (v := (1 : Int32)) hx hb dX7_errorInCell_43 (by decide) ?_
      refine lv_iadd hx hb dX7_errorInCell_44 ?_
      have hf0 := hm
      subst hf0
      exact W.iret (v := (l1 + (1 : Int32))) hx hb hr (fun t ht hW => ⟨⟨rfl, by rw [ht]; exact hP⟩, hS.F ht⟩) hS.2.2 dX7_errorInCell_45
    · replace hm := if_f hm c_3
      refine lv_iconst (v := (-1 : Int32)) hx hb dX7_errorInCell_38 (by decide) ?_
      refine lv_goto (tgt := 45) hx hb dX7_errorInCell_39 (by decide) ?_
      have hf0 := hm
      subst hf0
      exact W.iret (v := (-1 : Int32)) hx hb hr (fun t ht hW => ⟨⟨rfl, by rw [ht]; exact hP⟩, hS.F ht⟩) hS.2.2 dX7_errorInCell_45
  unfold mX7_errorInCell at hm
  refine lv_aload_n hx hb dX7_errorInCell_0 rfl (lv_at hl 0 rfl) ?_
  refine lv_iload_n hx hb dX7_errorInCell_1 rfl (lv_at hl 1 rfl) ?_
  refine lv_iconst (v := (3 : Int32)) hx hb dX7_errorInCell_2 (by decide) ?_
  refine my_call1 (wc := (wText Γ q_tx q_sg ti sg)) (w1 := (wText Γ q_tx q_sg ti sg)) (ws1 := (wText Γ q_tx q_sg ti sg)) hP hD hS hA [0, 1] rfl rfl rfl (va_runV (As := [.int x0, .int (3 : Int32)]) (rest := []) ⟨hx, hb, hml, hown, hts⟩ (kX7_isDigit l Γ q_tx q_sg ti sg x0 (3 : Int32) (mX7_isDigit ti sg x0 (3 : Int32)) rfl _) (cwV 2 hts gX7_errorInCell_X7_isDigit rfl rfl rfl (by decide +kernel) ⟨Nat.le_of_ble_eq_true rfl, Nat.le_of_ble_eq_true rfl⟩) (my_preV (wc := (wText Γ q_tx q_sg ti sg)) (ci := 5) (q0 := 0) [0, 1] hK hP hD rfl rfl rfl rfl) rfl rfl hl.1 rfl (lv_room (Nat.le_of_ble_eq_true rfl)) dX7_errorInCell_3 ⟨Nat.le_of_ble_eq_true rfl, Nat.le_of_ble_eq_true rfl⟩) (fun H locs hP hD hS => ?_)
  refine lv_if_ne (tgt := 11) hx hb dX7_errorInCell_6 (by decide) (fun c_1 => ?_) (fun c_1 => ?_)
  · replace hm := if_f hm c_1
    refine lv_aload_n hx hb dX7_errorInCell_11 rfl (lv_at hl 0 rfl) ?_
    refine lv_iload_n hx hb dX7_errorInCell_12 rfl (lv_at hl 1 rfl) ?_
    refine my_call1 (wc := (wText Γ q_tx q_sg ti sg)) (w1 := (wText Γ q_tx q_sg ti sg)) (ws1 := (wText Γ q_tx q_sg ti sg)) hP hD hS hA [0, 1] rfl rfl rfl (va_runV (As := [.int x0]) (rest := []) ⟨hx, hb, hml, hown, hts⟩ (kX7_digitAt l Γ q_tx q_sg ti sg x0 (mX7_digitAt ti sg x0) rfl _) (cwV 1 hts gX7_errorInCell_X7_digitAt rfl rfl rfl (by decide +kernel) ⟨Nat.le_of_ble_eq_true rfl, Nat.le_of_ble_eq_true rfl⟩) (my_preV (wc := (wText Γ q_tx q_sg ti sg)) (ci := 5) (q0 := 0) [0, 1] hK hP hD rfl rfl rfl rfl) rfl rfl hl.1 rfl (lv_room (Nat.le_of_ble_eq_true rfl)) dX7_errorInCell_13 ⟨Nat.le_of_ble_eq_true rfl, Nat.le_of_ble_eq_true rfl⟩) (fun H locs hP hD hS => ?_)
    refine lv_iconst (v := (3 : Int32)) hx hb dX7_errorInCell_16 (by decide) ?_
    refine lv_icmp_ne (tgt := 24) hx hb dX7_errorInCell_17 (by decide) (fun c_2 => ?_) (fun c_2 => ?_)
    · replace hm := if_f hm c_2
      refine lv_bipush (v := (9 : Int32)) hx hb dX7_errorInCell_24 (by decide) ?_
      exact J_26 ti sg x0 (9 : Int32) _ _ _ hP hD hS (lv_sub hl [0, 1] rfl) hm
    · replace hm := if_s hm c_2
      refine lv_iconst (v := (5 : Int32)) hx hb dX7_errorInCell_20 (by decide) ?_
      refine lv_goto (tgt := 26) hx hb dX7_errorInCell_21 (by decide) ?_
      exact J_26 ti sg x0 (5 : Int32) _ _ _ hP hD hS (lv_sub hl [0, 1] rfl) hm
  · replace hm := if_s hm c_1
    refine lv_iload_n hx hb dX7_errorInCell_9 rfl (lv_at hl 1 rfl) ?_
    have hf0 := hm
    subst hf0
    exact W.iret (v := x0) hx hb hr (fun t ht hW => ⟨⟨rfl, by rw [ht]; exact hP⟩, hS.F ht⟩) hS.2.2 dX7_errorInCell_10
def mX7_errorInRobot (ti : Nat → Int32) (sg : Nat → Int32) (x0 : Int32) : Int32 := (if (mX7_isDigit ti sg (x0 + (1 : Int32)) (1 : Int32)) = 0 then (x0 + (1 : Int32)) else (if (mX7_errorInCell ti sg (x0 + (2 : Int32))) = (-1 : Int32) then (if (mX7_isDigit ti sg (x0 + (4 : Int32)) (3 : Int32)) = 0 then (x0 + (4 : Int32)) else (-1 : Int32)) else (mX7_errorInCell ti sg (x0 + (2 : Int32)))))
set_option maxHeartbeats 4000000 in
set_option maxRecDepth 100000 in
theorem kX7_errorInRobot (l : Launch) (Γ : my_G) (q_tx q_sg : Nat) (ti : Nat → Int32) (sg : Nat → Int32) (x0 : Int32) (rr : Int32) (hm : mX7_errorInRobot ti sg x0 = rr) : Mn l yX7_errorInRobot wsX7_errorInRobot ({ frames := 3, cells := 0, slots := 0, locals := 66 } : Room) Γ [.ref q_tx, .int x0] (wText Γ q_tx q_sg ti sg) (some (.int rr)) (wText Γ q_tx q_sg ti sg) := by
  intro sz
  refine Met.ofW (cc := cX7_errorInRobot) (maxL := 3) (ret := (some .int)) (by decide) rfl ?_
  intro p e s m args below meth c s₁ B hml hv
  obtain ⟨rfl, hsz, hP, hK, hD0⟩ := hv
  have hx := B.exec
  have hb := B.bytes
  have hr := B.returns
  have hts := atoms_spec (ws := wsX7_errorInRobot) B.pre
  have hown : s.vm.findClass RX7 = some m.cls := findClass_of_methodNamed B.named
  have hlocks := B.notSynchronized
  have hinX7 : ∀ w ∈ u_ws RX7 TX7 2, w ∈ wsX7_errorInRobot := fun w h => List.mem_cons_of_mem _ (List.mem_append_right _ h)
  subst hsz
  have hD := hD0.self (sz := s.heap.size)
  have hA : ∀ q : Nat, s.heap.size ≤ q → va_A (wText Γ q_tx q_sg ti sg) s.heap.size q := fun q h => Or.inr h
  generalize va_A (wText Γ q_tx q_sg ti sg) s.heap.size = A at hD hA ⊢
  have hS : va_S A s.heap s.heap [] := va_S.rf
  have hl := lv_entry ([.ref q_tx, .int x0]) (n := 3) (Nat.le_of_ble_eq_true rfl)
  rw [lg_entry_eq]
  generalize (lg_sl ([.ref q_tx, .int x0]) ++ List.replicate (3 - (lg_sl ([.ref q_tx, .int x0])).length) Slot.unset).toArray = ls at hl ⊢
  replace hl : lv_has ls 3 [(0, .ref q_tx), (1, .int x0)] := hl
  unfold mX7_errorInRobot at hm
  refine lv_aload_n hx hb dX7_errorInRobot_0 rfl (lv_at hl 0 rfl) ?_
  refine lv_iload_n hx hb dX7_errorInRobot_1 rfl (lv_at hl 1 rfl) ?_
  refine lv_iconst (v := (1 : Int32)) hx hb dX7_errorInRobot_2 (by decide) ?_
  refine lv_iadd hx hb dX7_errorInRobot_3 ?_
  refine lv_iconst (v := (1 : Int32)) hx hb dX7_errorInRobot_4 (by decide) ?_
  refine my_call1 (wc := (wText Γ q_tx q_sg ti sg)) (w1 := (wText Γ q_tx q_sg ti sg)) (ws1 := (wText Γ q_tx q_sg ti sg)) hP hD hS hA [0, 1] rfl rfl rfl (va_runV (As := [.int (x0 + (1 : Int32)), .int (1 : Int32)]) (rest := []) ⟨hx, hb, hml, hown, hts⟩ (kX7_isDigit l Γ q_tx q_sg ti sg (x0 + (1 : Int32)) (1 : Int32) (mX7_isDigit ti sg (x0 + (1 : Int32)) (1 : Int32)) rfl _) (cwV 2 hts gX7_errorInRobot_X7_isDigit rfl rfl rfl (by decide +kernel) ⟨Nat.le_of_ble_eq_true rfl, Nat.le_of_ble_eq_true rfl⟩) (my_preV (wc := (wText Γ q_tx q_sg ti sg)) (ci := 5) (q0 := 0) [0, 1] hK hP hD rfl rfl rfl rfl) rfl rfl hl.1 rfl (lv_room (Nat.le_of_ble_eq_true rfl)) dX7_errorInRobot_5 ⟨Nat.le_of_ble_eq_true rfl, Nat.le_of_ble_eq_true rfl⟩) (fun H locs hP hD hS => ?_)
  refine lv_if_ne (tgt := 15) hx hb dX7_errorInRobot_8 (by decide) (fun c_1 => ?_) (fun c_1 => ?_)
  · replace hm := if_f hm c_1
    refine lv_aload_n hx hb dX7_errorInRobot_15 rfl (lv_at hl 0 rfl) ?_
    refine lv_iload_n hx hb dX7_errorInRobot_16 rfl (lv_at hl 1 rfl) ?_
    refine lv_iconst (v := (2 : Int32)) hx hb dX7_errorInRobot_17 (by decide) ?_
    refine lv_iadd hx hb dX7_errorInRobot_18 ?_
    refine my_call1 (wc := (wText Γ q_tx q_sg ti sg)) (w1 := (wText Γ q_tx q_sg ti sg)) (ws1 := (wText Γ q_tx q_sg ti sg)) hP hD hS hA [0, 1] rfl rfl rfl (va_runV (As := [.int (x0 + (2 : Int32))]) (rest := []) ⟨hx, hb, hml, hown, hts⟩ (kX7_errorInCell l Γ q_tx q_sg ti sg (x0 + (2 : Int32)) (mX7_errorInCell ti sg (x0 + (2 : Int32))) rfl _) (cwV 1 hts gX7_errorInRobot_X7_errorInCell rfl rfl rfl (by decide +kernel) ⟨Nat.le_of_ble_eq_true rfl, Nat.le_of_ble_eq_true rfl⟩) (my_preV (wc := (wText Γ q_tx q_sg ti sg)) (ci := 5) (q0 := 0) [0, 1] hK hP hD rfl rfl rfl rfl) rfl rfl hl.1 rfl (lv_room (Nat.le_of_ble_eq_true rfl)) dX7_errorInRobot_19 ⟨Nat.le_of_ble_eq_true rfl, Nat.le_of_ble_eq_true rfl⟩) (fun H locs hP hD hS => ?_)
    refine lv_istore_n (lv' := [(2, .int (mX7_errorInCell ti sg (x0 + (2 : Int32)))), (0, .ref q_tx), (1, .int x0)]) hx hb dX7_errorInRobot_22 rfl hl (by decide) rfl (fun ls hl => ?_)
    refine lv_iload_n hx hb dX7_errorInRobot_23 rfl (lv_at hl 0 rfl) ?_
    refine lv_iconst (v := (-1 : Int32)) hx hb dX7_errorInRobot_24 (by decide) ?_
    refine lv_icmp_eq (tgt := 30) hx hb dX7_errorInRobot_25 (by decide) (fun c_2 => ?_) (fun c_2 => ?_)
    · replace hm := if_s hm c_2
      refine lv_aload_n hx hb dX7_errorInRobot_30 rfl (lv_at hl 1 rfl) ?_
      refine lv_iload_n hx hb dX7_errorInRobot_31 rfl (lv_at hl 2 rfl) ?_
      refine lv_iconst (v := (4 : Int32)) hx hb dX7_errorInRobot_32 (by decide) ?_
      refine lv_iadd hx hb dX7_errorInRobot_33 ?_
      refine lv_iconst (v := (3 : Int32)) hx hb dX7_errorInRobot_34 (by decide) ?_
      refine my_call1 (wc := (wText Γ q_tx q_sg ti sg)) (w1 := (wText Γ q_tx q_sg ti sg)) (ws1 := (wText Γ q_tx q_sg ti sg)) hP hD hS hA [0, 1] rfl rfl rfl (va_runV (As := [.int (x0 + (4 : Int32)), .int (3 : Int32)]) (rest := []) ⟨hx, hb, hml, hown, hts⟩ (kX7_isDigit l Γ q_tx q_sg ti sg (x0 + (4 : Int32)) (3 : Int32) (mX7_isDigit ti sg (x0 + (4 : Int32)) (3 : Int32)) rfl _) (cwV 2 hts gX7_errorInRobot_X7_isDigit rfl rfl rfl (by decide +kernel) ⟨Nat.le_of_ble_eq_true rfl, Nat.le_of_ble_eq_true rfl⟩) (my_preV (wc := (wText Γ q_tx q_sg ti sg)) (ci := 5) (q0 := 0) [0, 1] hK hP hD rfl rfl rfl rfl) rfl rfl hl.1 rfl (lv_room (Nat.le_of_ble_eq_true rfl)) dX7_errorInRobot_35 ⟨Nat.le_of_ble_eq_true rfl, Nat.le_of_ble_eq_true rfl⟩) (fun H locs hP hD hS => ?_)
      refine lv_if_eq (tgt := 45) hx hb dX7_errorInRobot_38 (by decide) (fun c_3 => ?_) (fun c_3 => ?_)
      · replace hm := if_s hm c_3
        refine lv_iload_n hx hb dX7_errorInRobot_45 rfl (lv_at hl 2 rfl) ?_
        refine lv_iconst (v := (4 : Int32)) hx hb dX7_errorInRobot_46 (by decide) ?_
        refine lv_iadd hx hb dX7_errorInRobot_47 ?_
        have hf0 := hm
        subst hf0
        exact W.iret (v := (x0 + (4 : Int32))) hx hb hr (fun t ht hW => ⟨⟨rfl, by rw [ht]; exact hP⟩, hS.F ht⟩) hS.2.2 dX7_errorInRobot_48
      · replace hm := if_f hm c_3
        refine lv_iconst (v := (-1 : Int32)) hx hb dX7_errorInRobot_41 (by decide) ?_
        refine lv_goto (tgt := 48) hx hb dX7_errorInRobot_42 (by decide) ?_
        have hf0 := hm
        subst hf0
        exact W.iret (v := (-1 : Int32)) hx hb hr (fun t ht hW => ⟨⟨rfl, by rw [ht]; exact hP⟩, hS.F ht⟩) hS.2.2 dX7_errorInRobot_48
    · replace hm := if_f hm c_2
      refine lv_iload_n hx hb dX7_errorInRobot_28 rfl (lv_at hl 0 rfl) ?_
      have hf0 := hm
      subst hf0
      exact W.iret (v := (mX7_errorInCell ti sg (x0 + (2 : Int32)))) hx hb hr (fun t ht hW => ⟨⟨rfl, by rw [ht]; exact hP⟩, hS.F ht⟩) hS.2.2 dX7_errorInRobot_29
  · replace hm := if_s hm c_1
    refine lv_iload_n hx hb dX7_errorInRobot_11 rfl (lv_at hl 1 rfl) ?_
    refine lv_iconst (v := (1 : Int32)) hx hb dX7_errorInRobot_12 (by decide) ?_
    refine lv_iadd hx hb dX7_errorInRobot_13 ?_
    have hf0 := hm
    subst hf0
    exact W.iret (v := (x0 + (1 : Int32))) hx hb hr (fun t ht hW => ⟨⟨rfl, by rw [ht]; exact hP⟩, hS.F ht⟩) hS.2.2 dX7_errorInRobot_14
def mX7_errorInProgram (ti : Nat → Int32) (sg : Nat → Int32) (x0 : Int32) : Option (Int32) := (if (mX7_isDigit ti sg (x0 + (1 : Int32)) (1 : Int32)) = 0 then (some (x0 + (1 : Int32))) else (bo1 (mX7_instructionsFrom ti sg (x0 + (2 : Int32))) (fun r_2 => (if r_2 ≤ 0 then (some ((x0 + (2 : Int32)) + r_2)) else (if (mX7_signAt ti sg ((x0 + (2 : Int32)) + r_2)) = (46 : Int32) then (some (-1 : Int32)) else (some ((x0 + (2 : Int32)) + r_2)))))))
set_option maxHeartbeats 4000000 in
set_option maxRecDepth 100000 in
theorem kX7_errorInProgram (l : Launch) (Γ : my_G) (q_tx q_sg : Nat) (ti : Nat → Int32) (sg : Nat → Int32) (x0 : Int32) (rr : Int32) (hm : mX7_errorInProgram ti sg x0 = (some rr)) : Mn l yX7_errorInProgram wsX7_errorInProgram ({ frames := 3, cells := 0, slots := 0, locals := 66 } : Room) Γ [.ref q_tx, .int x0] (wText Γ q_tx q_sg ti sg) (some (.int rr)) (wText Γ q_tx q_sg ti sg) := by
  intro sz
  refine Met.ofW (cc := cX7_errorInProgram) (maxL := 4) (ret := (some .int)) (by decide) rfl ?_
  intro p e s m args below meth c s₁ B hml hv
  obtain ⟨rfl, hsz, hP, hK, hD0⟩ := hv
  have hx := B.exec
  have hb := B.bytes
  have hr := B.returns
  have hts := atoms_spec (ws := wsX7_errorInProgram) B.pre
  have hown : s.vm.findClass RX7 = some m.cls := findClass_of_methodNamed B.named
  have hlocks := B.notSynchronized
  have hinX7 : ∀ w ∈ u_ws RX7 TX7 2, w ∈ wsX7_errorInProgram := fun w h => List.mem_cons_of_mem _ (List.mem_append_right _ h)
  subst hsz
  have hD := hD0.self (sz := s.heap.size)
  have hA : ∀ q : Nat, s.heap.size ≤ q → va_A (wText Γ q_tx q_sg ti sg) s.heap.size q := fun q h => Or.inr h
  generalize va_A (wText Γ q_tx q_sg ti sg) s.heap.size = A at hD hA ⊢
  have hS : va_S A s.heap s.heap [] := va_S.rf
  have hl := lv_entry ([.ref q_tx, .int x0]) (n := 4) (Nat.le_of_ble_eq_true rfl)
  rw [lg_entry_eq]
  generalize (lg_sl ([.ref q_tx, .int x0]) ++ List.replicate (4 - (lg_sl ([.ref q_tx, .int x0])).length) Slot.unset).toArray = ls at hl ⊢
  replace hl : lv_has ls 4 [(0, .ref q_tx), (1, .int x0)] := hl
  unfold mX7_errorInProgram at hm
  refine lv_aload_n hx hb dX7_errorInProgram_0 rfl (lv_at hl 0 rfl) ?_
  refine lv_iload_n hx hb dX7_errorInProgram_1 rfl (lv_at hl 1 rfl) ?_
  refine lv_iconst (v := (1 : Int32)) hx hb dX7_errorInProgram_2 (by decide) ?_
  refine lv_iadd hx hb dX7_errorInProgram_3 ?_
  refine lv_iconst (v := (1 : Int32)) hx hb dX7_errorInProgram_4 (by decide) ?_
  refine my_call1 (wc := (wText Γ q_tx q_sg ti sg)) (w1 := (wText Γ q_tx q_sg ti sg)) (ws1 := (wText Γ q_tx q_sg ti sg)) hP hD hS hA [0, 1] rfl rfl rfl (va_runV (As := [.int (x0 + (1 : Int32)), .int (1 : Int32)]) (rest := []) ⟨hx, hb, hml, hown, hts⟩ (kX7_isDigit l Γ q_tx q_sg ti sg (x0 + (1 : Int32)) (1 : Int32) (mX7_isDigit ti sg (x0 + (1 : Int32)) (1 : Int32)) rfl _) (cwV 2 hts gX7_errorInProgram_X7_isDigit rfl rfl rfl (by decide +kernel) ⟨Nat.le_of_ble_eq_true rfl, Nat.le_of_ble_eq_true rfl⟩) (my_preV (wc := (wText Γ q_tx q_sg ti sg)) (ci := 5) (q0 := 0) [0, 1] hK hP hD rfl rfl rfl rfl) rfl rfl hl.1 rfl (lv_room (Nat.le_of_ble_eq_true rfl)) dX7_errorInProgram_5 ⟨Nat.le_of_ble_eq_true rfl, Nat.le_of_ble_eq_true rfl⟩) (fun H locs hP hD hS => ?_)
  refine lv_if_ne (tgt := 15) hx hb dX7_errorInProgram_8 (by decide) (fun c_1 => ?_) (fun c_1 => ?_)
  · replace hm := if_f hm c_1
    refine lv_aload_n hx hb dX7_errorInProgram_15 rfl (lv_at hl 0 rfl) ?_
    refine lv_iload_n hx hb dX7_errorInProgram_16 rfl (lv_at hl 1 rfl) ?_
    refine lv_iconst (v := (2 : Int32)) hx hb dX7_errorInProgram_17 (by decide) ?_
    refine lv_iadd hx hb dX7_errorInProgram_18 ?_
    obtain ⟨r_2, hc_3, hm⟩ := bo1_s hm
    refine my_call1 (wc := (wText Γ q_tx q_sg ti sg)) (w1 := (wText Γ q_tx q_sg ti sg)) (ws1 := (wText Γ q_tx q_sg ti sg)) hP hD hS hA [0, 1] rfl rfl rfl (va_runV (As := [.int (x0 + (2 : Int32))]) (rest := []) ⟨hx, hb, hml, hown, hts⟩ (kX7_instructionsFrom l Γ q_tx q_sg ti sg (x0 + (2 : Int32)) r_2 hc_3 _) (cwV 1 hts gX7_errorInProgram_X7_instructionsFrom rfl rfl rfl (by decide +kernel) ⟨Nat.le_of_ble_eq_true rfl, Nat.le_of_ble_eq_true rfl⟩) (my_preV (wc := (wText Γ q_tx q_sg ti sg)) (ci := 5) (q0 := 0) [0, 1] hK hP hD rfl rfl rfl rfl) rfl rfl hl.1 rfl (lv_room (Nat.le_of_ble_eq_true rfl)) dX7_errorInProgram_19 ⟨Nat.le_of_ble_eq_true rfl, Nat.le_of_ble_eq_true rfl⟩) (fun H locs hP hD hS => ?_)
    refine lv_istore_n (lv' := [(2, .int r_2), (0, .ref q_tx), (1, .int x0)]) hx hb dX7_errorInProgram_22 rfl hl (by decide) rfl (fun ls hl => ?_)
    refine lv_iload_n hx hb dX7_errorInProgram_23 rfl (lv_at hl 2 rfl) ?_
    refine lv_iconst (v := (2 : Int32)) hx hb dX7_errorInProgram_24 (by decide) ?_
    refine lv_iadd hx hb dX7_errorInProgram_25 ?_
    refine lv_iload_n hx hb dX7_errorInProgram_26 rfl (lv_at hl 0 rfl) ?_
    refine lv_iadd hx hb dX7_errorInProgram_27 ?_
    refine lv_istore_n (lv' := [(3, .int ((x0 + (2 : Int32)) + r_2)), (2, .int r_2), (0, .ref q_tx), (1, .int x0)]) hx hb dX7_errorInProgram_28 rfl hl (by decide) rfl (fun ls hl => ?_)
    refine lv_iload_n hx hb dX7_errorInProgram_29 rfl (lv_at hl 1 rfl) ?_
    refine lv_if_le (tgt := 47) hx hb dX7_errorInProgram_30 (by decide) (fun c_4 => ?_) (fun c_4 => ?_)
    · replace hm := if_s hm c_4
      refine lv_iload_n hx hb dX7_errorInProgram_47 rfl (lv_at hl 0 rfl) ?_
      obtain hf0 := Option.some.inj hm
      subst hf0
      exact W.iret (v := ((x0 + (2 : Int32)) + r_2)) hx hb hr (fun t ht hW => ⟨⟨rfl, by rw [ht]; exact hP⟩, hS.F ht⟩) hS.2.2 dX7_errorInProgram_48
    · replace hm := if_f hm c_4
      refine lv_aload_n hx hb dX7_errorInProgram_33 rfl (lv_at hl 2 rfl) ?_
      refine lv_iload_n hx hb dX7_errorInProgram_34 rfl (lv_at hl 0 rfl) ?_
      refine my_call1 (wc := (wText Γ q_tx q_sg ti sg)) (w1 := (wText Γ q_tx q_sg ti sg)) (ws1 := (wText Γ q_tx q_sg ti sg)) hP hD hS hA [0, 1] rfl rfl rfl (va_runV (As := [.int ((x0 + (2 : Int32)) + r_2)]) (rest := []) ⟨hx, hb, hml, hown, hts⟩ (kX7_signAt l Γ q_tx q_sg ti sg ((x0 + (2 : Int32)) + r_2) (mX7_signAt ti sg ((x0 + (2 : Int32)) + r_2)) rfl _) (cwV 1 hts gX7_errorInProgram_X7_signAt rfl rfl rfl (by decide +kernel) ⟨Nat.le_of_ble_eq_true rfl, Nat.le_of_ble_eq_true rfl⟩) (my_preV (wc := (wText Γ q_tx q_sg ti sg)) (ci := 5) (q0 := 0) [0, 1] hK hP hD rfl rfl rfl rfl) rfl rfl hl.1 rfl (lv_room (Nat.le_of_ble_eq_true rfl)) dX7_errorInProgram_35 ⟨Nat.le_of_ble_eq_true rfl, Nat.le_of_ble_eq_true rfl⟩) (fun H locs hP hD hS => ?_)
      refine lv_bipush (v := (46 : Int32)) hx hb dX7_errorInProgram_38 (by decide) ?_
      refine lv_icmp_ne (tgt := 47) hx hb dX7_errorInProgram_40 (by decide) (fun c_5 => ?_) (fun c_5 => ?_)
      · replace hm := if_f hm c_5
        refine lv_iload_n hx hb dX7_errorInProgram_47 rfl (lv_at hl 0 rfl) ?_
        obtain hf0 := Option.some.inj hm
        subst hf0
        exact W.iret (v := ((x0 + (2 : Int32)) + r_2)) hx hb hr (fun t ht hW => ⟨⟨rfl, by rw [ht]; exact hP⟩, hS.F ht⟩) hS.2.2 dX7_errorInProgram_48
      · replace hm := if_s hm c_5
        refine lv_iconst (v := (-1 : Int32)) hx hb dX7_errorInProgram_43 (by decide) ?_
        refine lv_goto (tgt := 48) hx hb dX7_errorInProgram_44 (by decide) ?_
        obtain hf0 := Option.some.inj hm
        subst hf0
        exact W.iret (v := (-1 : Int32)) hx hb hr (fun t ht hW => ⟨⟨rfl, by rw [ht]; exact hP⟩, hS.F ht⟩) hS.2.2 dX7_errorInProgram_48
  · replace hm := if_s hm c_1
    refine lv_iload_n hx hb dX7_errorInProgram_11 rfl (lv_at hl 1 rfl) ?_
    refine lv_iconst (v := (1 : Int32)) hx hb dX7_errorInProgram_12 (by decide) ?_
    refine lv_iadd hx hb dX7_errorInProgram_13 ?_
    obtain hf0 := Option.some.inj hm
    subst hf0
    exact W.iret (v := (x0 + (1 : Int32))) hx hb hr (fun t ht hW => ⟨⟨rfl, by rw [ht]; exact hP⟩, hS.F ht⟩) hS.2.2 dX7_errorInProgram_14
def mX7_errorInItem (ti : Nat → Int32) (sg : Nat → Int32) (x0 : Int32) : Option (Int32) := (if (mX7_signAt ti sg x0) = (99 : Int32) then (some (mX7_errorInCell ti sg (x0 + (1 : Int32)))) else (if (mX7_signAt ti sg x0) = (105 : Int32) then (bo1 (mX7_errorInProgram ti sg x0) (fun r_3 => (some r_3))) else (if (mX7_signAt ti sg x0) = (112 : Int32) then (some (mX7_errorInCell ti sg (x0 + (1 : Int32)))) else (if (mX7_signAt ti sg x0) = (114 : Int32) then (some (mX7_errorInRobot ti sg x0)) else (some x0)))))
set_option maxHeartbeats 4000000 in
set_option maxRecDepth 100000 in
theorem kX7_errorInItem (l : Launch) (Γ : my_G) (q_tx q_sg : Nat) (ti : Nat → Int32) (sg : Nat → Int32) (x0 : Int32) (rr : Int32) (hm : mX7_errorInItem ti sg x0 = (some rr)) : Mn l yX7_errorInItem wsX7_errorInItem ({ frames := 4, cells := 0, slots := 0, locals := 89 } : Room) Γ [.ref q_tx, .int x0] (wText Γ q_tx q_sg ti sg) (some (.int rr)) (wText Γ q_tx q_sg ti sg) := by
  intro sz
  refine Met.ofW (cc := cX7_errorInItem) (maxL := 2) (ret := (some .int)) (by decide) rfl ?_
  intro p e s m args below meth c s₁ B hml hv
  obtain ⟨rfl, hsz, hP, hK, hD0⟩ := hv
  have hx := B.exec
  have hb := B.bytes
  have hr := B.returns
  have hts := atoms_spec (ws := wsX7_errorInItem) B.pre
  have hown : s.vm.findClass RX7 = some m.cls := findClass_of_methodNamed B.named
  have hlocks := B.notSynchronized
  have hinX7 : ∀ w ∈ u_ws RX7 TX7 2, w ∈ wsX7_errorInItem := fun w h => List.mem_cons_of_mem _ (List.mem_append_right _ h)
  subst hsz
  have hD := hD0.self (sz := s.heap.size)
  have hA : ∀ q : Nat, s.heap.size ≤ q → va_A (wText Γ q_tx q_sg ti sg) s.heap.size q := fun q h => Or.inr h
  generalize va_A (wText Γ q_tx q_sg ti sg) s.heap.size = A at hD hA ⊢
  have hS : va_S A s.heap s.heap [] := va_S.rf
  have hl := lv_entry ([.ref q_tx, .int x0]) (n := 2) (Nat.le_of_ble_eq_true rfl)
  rw [lg_entry_eq]
  generalize (lg_sl ([.ref q_tx, .int x0]) ++ List.replicate (2 - (lg_sl ([.ref q_tx, .int x0])).length) Slot.unset).toArray = ls at hl ⊢
  replace hl : lv_has ls 2 [(0, .ref q_tx), (1, .int x0)] := hl
  unfold mX7_errorInItem at hm
  refine lv_aload_n hx hb dX7_errorInItem_0 rfl (lv_at hl 0 rfl) ?_
  refine lv_iload_n hx hb dX7_errorInItem_1 rfl (lv_at hl 1 rfl) ?_
  refine my_call1 (wc := (wText Γ q_tx q_sg ti sg)) (w1 := (wText Γ q_tx q_sg ti sg)) (ws1 := (wText Γ q_tx q_sg ti sg)) hP hD hS hA [0, 1] rfl rfl rfl (va_runV (As := [.int x0]) (rest := []) ⟨hx, hb, hml, hown, hts⟩ (kX7_signAt l Γ q_tx q_sg ti sg x0 (mX7_signAt ti sg x0) rfl _) (cwV 1 hts gX7_errorInItem_X7_signAt rfl rfl rfl (by decide +kernel) ⟨Nat.le_of_ble_eq_true rfl, Nat.le_of_ble_eq_true rfl⟩) (my_preV (wc := (wText Γ q_tx q_sg ti sg)) (ci := 5) (q0 := 0) [0, 1] hK hP hD rfl rfl rfl rfl) rfl rfl hl.1 rfl (lv_room (Nat.le_of_ble_eq_true rfl)) dX7_errorInItem_2 ⟨Nat.le_of_ble_eq_true rfl, Nat.le_of_ble_eq_true rfl⟩) (fun H locs hP hD hS => ?_)
  by_cases c_1 : (mX7_signAt ti sg x0) = (99 : Int32)
  · replace hm := if_s hm c_1
    refine lv_lookup (off := 43) (tgt := 48) hx hb dX7_errorInItem_5 (by decide) (by rw [c_1]; rfl) (by decide) ?_
    refine lv_aload_n hx hb dX7_errorInItem_48 rfl (lv_at hl 0 rfl) ?_
    refine lv_iload_n hx hb dX7_errorInItem_49 rfl (lv_at hl 1 rfl) ?_
    refine lv_iconst (v := (1 : Int32)) hx hb dX7_errorInItem_50 (by decide) ?_
    refine lv_iadd hx hb dX7_errorInItem_51 ?_
    refine my_call1 (wc := (wText Γ q_tx q_sg ti sg)) (w1 := (wText Γ q_tx q_sg ti sg)) (ws1 := (wText Γ q_tx q_sg ti sg)) hP hD hS hA [0, 1] rfl rfl rfl (va_runV (As := [.int (x0 + (1 : Int32))]) (rest := []) ⟨hx, hb, hml, hown, hts⟩ (kX7_errorInCell l Γ q_tx q_sg ti sg (x0 + (1 : Int32)) (mX7_errorInCell ti sg (x0 + (1 : Int32))) rfl _) (cwV 1 hts gX7_errorInItem_X7_errorInCell rfl rfl rfl (by decide +kernel) ⟨Nat.le_of_ble_eq_true rfl, Nat.le_of_ble_eq_true rfl⟩) (my_preV (wc := (wText Γ q_tx q_sg ti sg)) (ci := 5) (q0 := 0) [0, 1] hK hP hD rfl rfl rfl rfl) rfl rfl hl.1 rfl (lv_room (Nat.le_of_ble_eq_true rfl)) dX7_errorInItem_52 ⟨Nat.le_of_ble_eq_true rfl, Nat.le_of_ble_eq_true rfl⟩) (fun H locs hP hD hS => ?_)
    obtain hf0 := Option.some.inj hm
    subst hf0
    exact W.iret (v := (mX7_errorInCell ti sg (x0 + (1 : Int32)))) hx hb hr (fun t ht hW => ⟨⟨rfl, by rw [ht]; exact hP⟩, hS.F ht⟩) hS.2.2 dX7_errorInItem_55
  · replace hm := if_f hm c_1
    by_cases c_2 : (mX7_signAt ti sg x0) = (105 : Int32)
    · replace hm := if_s hm c_2
      refine lv_lookup (off := 57) (tgt := 62) hx hb dX7_errorInItem_5 (by decide) (by rw [c_2]; rfl) (by decide) ?_
      refine lv_aload_n hx hb dX7_errorInItem_62 rfl (lv_at hl 0 rfl) ?_
      refine lv_iload_n hx hb dX7_errorInItem_63 rfl (lv_at hl 1 rfl) ?_
      obtain ⟨r_3, hc_4, hm⟩ := bo1_s hm
      refine my_call1 (wc := (wText Γ q_tx q_sg ti sg)) (w1 := (wText Γ q_tx q_sg ti sg)) (ws1 := (wText Γ q_tx q_sg ti sg)) hP hD hS hA [0, 1] rfl rfl rfl (va_runV (As := [.int x0]) (rest := []) ⟨hx, hb, hml, hown, hts⟩ (kX7_errorInProgram l Γ q_tx q_sg ti sg x0 r_3 hc_4 _) (cwV 1 hts gX7_errorInItem_X7_errorInProgram rfl rfl rfl (by decide +kernel) ⟨Nat.le_of_ble_eq_true rfl, Nat.le_of_ble_eq_true rfl⟩) (my_preV (wc := (wText Γ q_tx q_sg ti sg)) (ci := 5) (q0 := 0) [0, 1] hK hP hD rfl rfl rfl rfl) rfl rfl hl.1 rfl (lv_room (Nat.le_of_ble_eq_true rfl)) dX7_errorInItem_64 ⟨Nat.le_of_ble_eq_true rfl, Nat.le_of_ble_eq_true rfl⟩) (fun H locs hP hD hS => ?_)
      obtain hf0 := Option.some.inj hm
      subst hf0
      exact W.iret (v := r_3) hx hb hr (fun t ht hW => ⟨⟨rfl, by rw [ht]; exact hP⟩, hS.F ht⟩) hS.2.2 dX7_errorInItem_67
    · replace hm := if_f hm c_2
      by_cases c_5 : (mX7_signAt ti sg x0) = (112 : Int32)
      · replace hm := if_s hm c_5
        refine lv_lookup (off := 43) (tgt := 48) hx hb dX7_errorInItem_5 (by decide) (by rw [c_5]; rfl) (by decide) ?_
        refine lv_aload_n hx hb dX7_errorInItem_48 rfl (lv_at hl 0 rfl) ?_
        refine lv_iload_n hx hb dX7_errorInItem_49 rfl (lv_at hl 1 rfl) ?_
        refine lv_iconst (v := (1 : Int32)) hx hb dX7_errorInItem_50 (by decide) ?_
        refine lv_iadd hx hb dX7_errorInItem_51 ?_
        refine my_call1 (wc := (wText Γ q_tx q_sg ti sg)) (w1 := (wText Γ q_tx q_sg ti sg)) (ws1 := (wText Γ q_tx q_sg ti sg)) hP hD hS hA [0, 1] rfl rfl rfl (va_runV (As := [.int (x0 + (1 : Int32))]) (rest := []) ⟨hx, hb, hml, hown, hts⟩ (kX7_errorInCell l Γ q_tx q_sg ti sg (x0 + (1 : Int32)) (mX7_errorInCell ti sg (x0 + (1 : Int32))) rfl _) (cwV 1 hts gX7_errorInItem_X7_errorInCell rfl rfl rfl (by decide +kernel) ⟨Nat.le_of_ble_eq_true rfl, Nat.le_of_ble_eq_true rfl⟩) (my_preV (wc := (wText Γ q_tx q_sg ti sg)) (ci := 5) (q0 := 0) [0, 1] hK hP hD rfl rfl rfl rfl) rfl rfl hl.1 rfl (lv_room (Nat.le_of_ble_eq_true rfl)) dX7_errorInItem_52 ⟨Nat.le_of_ble_eq_true rfl, Nat.le_of_ble_eq_true rfl⟩) (fun H locs hP hD hS => ?_)
        obtain hf0 := Option.some.inj hm
        subst hf0
        exact W.iret (v := (mX7_errorInCell ti sg (x0 + (1 : Int32)))) hx hb hr (fun t ht hW => ⟨⟨rfl, by rw [ht]; exact hP⟩, hS.F ht⟩) hS.2.2 dX7_errorInItem_55
      · replace hm := if_f hm c_5
        by_cases c_6 : (mX7_signAt ti sg x0) = (114 : Int32)
        · replace hm := if_s hm c_6
          refine lv_lookup (off := 51) (tgt := 56) hx hb dX7_errorInItem_5 (by decide) (by rw [c_6]; rfl) (by decide) ?_
          refine lv_aload_n hx hb dX7_errorInItem_56 rfl (lv_at hl 0 rfl) ?_
          refine lv_iload_n hx hb dX7_errorInItem_57 rfl (lv_at hl 1 rfl) ?_
          refine my_call1 (wc := (wText Γ q_tx q_sg ti sg)) (w1 := (wText Γ q_tx q_sg ti sg)) (ws1 := (wText Γ q_tx q_sg ti sg)) hP hD hS hA [0, 1] rfl rfl rfl (va_runV (As := [.int x0]) (rest := []) ⟨hx, hb, hml, hown, hts⟩ (kX7_errorInRobot l Γ q_tx q_sg ti sg x0 (mX7_errorInRobot ti sg x0) rfl _) (cwV 1 hts gX7_errorInItem_X7_errorInRobot rfl rfl rfl (by decide +kernel) ⟨Nat.le_of_ble_eq_true rfl, Nat.le_of_ble_eq_true rfl⟩) (my_preV (wc := (wText Γ q_tx q_sg ti sg)) (ci := 5) (q0 := 0) [0, 1] hK hP hD rfl rfl rfl rfl) rfl rfl hl.1 rfl (lv_room (Nat.le_of_ble_eq_true rfl)) dX7_errorInItem_58 ⟨Nat.le_of_ble_eq_true rfl, Nat.le_of_ble_eq_true rfl⟩) (fun H locs hP hD hS => ?_)
          obtain hf0 := Option.some.inj hm
          subst hf0
          exact W.iret (v := (mX7_errorInRobot ti sg x0)) hx hb hr (fun t ht hW => ⟨⟨rfl, by rw [ht]; exact hP⟩, hS.F ht⟩) hS.2.2 dX7_errorInItem_61
        · replace hm := if_f hm c_6
          refine lv_lookup (off := 63) (tgt := 68) hx hb dX7_errorInItem_5 (by decide) ((lv_osw c_1 rfl).trans ((lv_osw c_2 rfl).trans ((lv_osw c_5 rfl).trans ((lv_osw c_6 rfl).trans rfl)))) (by decide) ?_
          refine lv_iload_n hx hb dX7_errorInItem_68 rfl (lv_at hl 1 rfl) ?_
          obtain hf0 := Option.some.inj hm
          subst hf0
          exact W.iret (v := x0) hx hb hr (fun t ht hW => ⟨⟨rfl, by rw [ht]; exact hP⟩, hS.F ht⟩) hS.2.2 dX7_errorInItem_69
def mX7_lengthOfItem (ti : Nat → Int32) (sg : Nat → Int32) (x0 : Int32) : Option (Int32) := (if (mX7_signAt ti sg x0) = (105 : Int32) then (bo1 (mX7_instructionsFrom ti sg (x0 + (2 : Int32))) (fun r_2 => (some ((3 : Int32) + r_2)))) else (if (mX7_signAt ti sg x0) = (114 : Int32) then (some (5 : Int32)) else (some (3 : Int32))))
set_option maxHeartbeats 4000000 in
set_option maxRecDepth 100000 in
theorem kX7_lengthOfItem (l : Launch) (Γ : my_G) (q_tx q_sg : Nat) (ti : Nat → Int32) (sg : Nat → Int32) (x0 : Int32) (rr : Int32) (hm : mX7_lengthOfItem ti sg x0 = (some rr)) : Mn l yX7_lengthOfItem wsX7_lengthOfItem ({ frames := 3, cells := 0, slots := 0, locals := 66 } : Room) Γ [.ref q_tx, .int x0] (wText Γ q_tx q_sg ti sg) (some (.int rr)) (wText Γ q_tx q_sg ti sg) := by
  intro sz
  refine Met.ofW (cc := cX7_lengthOfItem) (maxL := 2) (ret := (some .int)) (by decide) rfl ?_
  intro p e s m args below meth c s₁ B hml hv
  obtain ⟨rfl, hsz, hP, hK, hD0⟩ := hv
  have hx := B.exec
  have hb := B.bytes
  have hr := B.returns
  have hts := atoms_spec (ws := wsX7_lengthOfItem) B.pre
  have hown : s.vm.findClass RX7 = some m.cls := findClass_of_methodNamed B.named
  have hlocks := B.notSynchronized
  have hinX7 : ∀ w ∈ u_ws RX7 TX7 2, w ∈ wsX7_lengthOfItem := fun w h => List.mem_cons_of_mem _ (List.mem_append_right _ h)
  subst hsz
  have hD := hD0.self (sz := s.heap.size)
  have hA : ∀ q : Nat, s.heap.size ≤ q → va_A (wText Γ q_tx q_sg ti sg) s.heap.size q := fun q h => Or.inr h
  generalize va_A (wText Γ q_tx q_sg ti sg) s.heap.size = A at hD hA ⊢
  have hS : va_S A s.heap s.heap [] := va_S.rf
  have hl := lv_entry ([.ref q_tx, .int x0]) (n := 2) (Nat.le_of_ble_eq_true rfl)
  rw [lg_entry_eq]
  generalize (lg_sl ([.ref q_tx, .int x0]) ++ List.replicate (2 - (lg_sl ([.ref q_tx, .int x0])).length) Slot.unset).toArray = ls at hl ⊢
  replace hl : lv_has ls 2 [(0, .ref q_tx), (1, .int x0)] := hl
  unfold mX7_lengthOfItem at hm
  refine lv_aload_n hx hb dX7_lengthOfItem_0 rfl (lv_at hl 0 rfl) ?_
  refine lv_iload_n hx hb dX7_lengthOfItem_1 rfl (lv_at hl 1 rfl) ?_
  refine my_call1 (wc := (wText Γ q_tx q_sg ti sg)) (w1 := (wText Γ q_tx q_sg ti sg)) (ws1 := (wText Γ q_tx q_sg ti sg)) hP hD hS hA [0, 1] rfl rfl rfl (va_runV (As := [.int x0]) (rest := []) ⟨hx, hb, hml, hown, hts⟩ (kX7_signAt l Γ q_tx q_sg ti sg x0 (mX7_signAt ti sg x0) rfl _) (cwV 1 hts gX7_lengthOfItem_X7_signAt rfl rfl rfl (by decide +kernel) ⟨Nat.le_of_ble_eq_true rfl, Nat.le_of_ble_eq_true rfl⟩) (my_preV (wc := (wText Γ q_tx q_sg ti sg)) (ci := 5) (q0 := 0) [0, 1] hK hP hD rfl rfl rfl rfl) rfl rfl hl.1 rfl (lv_room (Nat.le_of_ble_eq_true rfl)) dX7_lengthOfItem_2 ⟨Nat.le_of_ble_eq_true rfl, Nat.le_of_ble_eq_true rfl⟩) (fun H locs hP hD hS => ?_)
  by_cases c_1 : (mX7_signAt ti sg x0) = (105 : Int32)
  · replace hm := if_s hm c_1
    refine lv_lookup (off := 29) (tgt := 34) hx hb dX7_lengthOfItem_5 (by decide) (by rw [c_1]; rfl) (by decide) ?_
    refine lv_iconst (v := (3 : Int32)) hx hb dX7_lengthOfItem_34 (by decide) ?_
    refine lv_aload_n hx hb dX7_lengthOfItem_35 rfl (lv_at hl 0 rfl) ?_
    refine lv_iload_n hx hb dX7_lengthOfItem_36 rfl (lv_at hl 1 rfl) ?_
    refine lv_iconst (v := (2 : Int32)) hx hb dX7_lengthOfItem_37 (by decide) ?_
    refine lv_iadd hx hb dX7_lengthOfItem_38 ?_
    obtain ⟨r_2, hc_3, hm⟩ := bo1_s hm
    refine my_call1 (wc := (wText Γ q_tx q_sg ti sg)) (w1 := (wText Γ q_tx q_sg ti sg)) (ws1 := (wText Γ q_tx q_sg ti sg)) hP hD hS hA [0, 1] rfl rfl rfl (va_runV (As := [.int (x0 + (2 : Int32))]) (rest := [.int (3 : Int32)]) ⟨hx, hb, hml, hown, hts⟩ (kX7_instructionsFrom l Γ q_tx q_sg ti sg (x0 + (2 : Int32)) r_2 hc_3 _) (cwV 1 hts gX7_lengthOfItem_X7_instructionsFrom rfl rfl rfl (by decide +kernel) ⟨Nat.le_of_ble_eq_true rfl, Nat.le_of_ble_eq_true rfl⟩) (my_preV (wc := (wText Γ q_tx q_sg ti sg)) (ci := 5) (q0 := 0) [0, 1] hK hP hD rfl rfl rfl rfl) rfl rfl hl.1 rfl (lv_room (Nat.le_of_ble_eq_true rfl)) dX7_lengthOfItem_39 ⟨Nat.le_of_ble_eq_true rfl, Nat.le_of_ble_eq_true rfl⟩) (fun H locs hP hD hS => ?_)
    refine lv_iadd hx hb dX7_lengthOfItem_42 ?_
    obtain hf0 := Option.some.inj hm
    subst hf0
    exact W.iret (v := ((3 : Int32) + r_2)) hx hb hr (fun t ht hW => ⟨⟨rfl, by rw [ht]; exact hP⟩, hS.F ht⟩) hS.2.2 dX7_lengthOfItem_43
  · replace hm := if_f hm c_1
    by_cases c_4 : (mX7_signAt ti sg x0) = (114 : Int32)
    · replace hm := if_s hm c_4
      refine lv_lookup (off := 27) (tgt := 32) hx hb dX7_lengthOfItem_5 (by decide) (by rw [c_4]; rfl) (by decide) ?_
      refine lv_iconst (v := (5 : Int32)) hx hb dX7_lengthOfItem_32 (by decide) ?_
      obtain hf0 := Option.some.inj hm
      subst hf0
      exact W.iret (v := (5 : Int32)) hx hb hr (fun t ht hW => ⟨⟨rfl, by rw [ht]; exact hP⟩, hS.F ht⟩) hS.2.2 dX7_lengthOfItem_33
    · replace hm := if_f hm c_4
      refine lv_lookup (off := 39) (tgt := 44) hx hb dX7_lengthOfItem_5 (by decide) ((lv_osw c_1 rfl).trans ((lv_osw c_4 rfl).trans rfl)) (by decide) ?_
      refine lv_iconst (v := (3 : Int32)) hx hb dX7_lengthOfItem_44 (by decide) ?_
      obtain hf0 := Option.some.inj hm
      subst hf0
      exact W.iret (v := (3 : Int32)) hx hb hr (fun t ht hW => ⟨⟨rfl, by rw [ht]; exact hP⟩, hS.F ht⟩) hS.2.2 dX7_lengthOfItem_45
def mX7_firstError_L45  : Nat → (Nat → Int32) → (Nat → Int32) → Int32 → Int32 → Option (Int32)
  | 0, _, _, _, _ => none
  | n + 1, ti, sg, l1, l2 => (if (120 : Int32) ≤ l2 then (some (-1 : Int32)) else (if (ti 1) ≤ l1 then (some (-1 : Int32)) else (bo1 (mX7_errorInItem ti sg l1) (fun r_5 => (if r_5 = (-1 : Int32) then (bo1 (mX7_lengthOfItem ti sg l1) (fun r_8 => (mX7_firstError_L45 n ti sg (l1 + r_8) (l2 + (1 : Int32))))) else (some r_5))))))
def mX7_firstError_L14  : Nat → (Nat → Int32) → (Nat → Int32) → Int32 → Option (Int32)
  | 0, _, _, _ => none
  | n + 1, ti, sg, l1 => (if (37 : Int32) ≤ l1 then (mX7_firstError_L45 4096 ti sg (37 : Int32) (0 : Int32)) else (if (mX7_kindOfSign (mX7_signAt ti sg l1)) = (-1 : Int32) then (some l1) else (mX7_firstError_L14 n ti sg (l1 + (1 : Int32)))))
def mX7_firstError (ti : Nat → Int32) (sg : Nat → Int32) : Option (Int32) := (if (mX7_signAt ti sg (0 : Int32)) = (70 : Int32) then (mX7_firstError_L14 4096 ti sg (1 : Int32)) else (some (0 : Int32)))
set_option maxHeartbeats 4000000 in
set_option maxRecDepth 100000 in
theorem kX7_firstError (l : Launch) (Γ : my_G) (q_tx q_sg : Nat) (ti : Nat → Int32) (sg : Nat → Int32)  (rr : Int32) (hm : mX7_firstError ti sg = (some rr)) : Mn l yX7_firstError wsX7_firstError ({ frames := 5, cells := 0, slots := 0, locals := 110 } : Room) Γ [.ref q_tx] (wText Γ q_tx q_sg ti sg) (some (.int rr)) (wText Γ q_tx q_sg ti sg) := by
  intro sz
  refine Met.ofW (cc := cX7_firstError) (maxL := 4) (ret := (some .int)) (by decide) rfl ?_
  intro p e s m args below meth c s₁ B hml hv
  obtain ⟨rfl, hsz, hP, hK, hD0⟩ := hv
  have hx := B.exec
  have hb := B.bytes
  have hr := B.returns
  have hts := atoms_spec (ws := wsX7_firstError) B.pre
  have hown : s.vm.findClass RX7 = some m.cls := findClass_of_methodNamed B.named
  have hlocks := B.notSynchronized
  have hinX7 : ∀ w ∈ u_ws RX7 TX7 2, w ∈ wsX7_firstError := fun w h => List.mem_cons_of_mem _ (List.mem_append_right _ h)
  subst hsz
  have hD := hD0.self (sz := s.heap.size)
  have hA : ∀ q : Nat, s.heap.size ≤ q → va_A (wText Γ q_tx q_sg ti sg) s.heap.size q := fun q h => Or.inr h
  generalize va_A (wText Γ q_tx q_sg ti sg) s.heap.size = A at hD hA ⊢
  have hS : va_S A s.heap s.heap [] := va_S.rf
  have hl := lv_entry ([.ref q_tx]) (n := 4) (Nat.le_of_ble_eq_true rfl)
  rw [lg_entry_eq]
  generalize (lg_sl ([.ref q_tx]) ++ List.replicate (4 - (lg_sl ([.ref q_tx])).length) Slot.unset).toArray = ls at hl ⊢
  replace hl : lv_has ls 4 [(0, .ref q_tx)] := hl
  have J_45 : ∀ n : Nat, ∀ (ti : Nat → Int32) (sg : Nat → Int32) (l1 : Int32) (l2 : Int32) (H : Heap) (locs : List Loc) (ls : Array Slot), va_P (my_D Γ) vwCl (wText Γ q_tx q_sg ti sg) H → va_D A (wText Γ q_tx q_sg ti sg) → va_S A s.heap H locs → lv_has ls 4 [(0, .ref q_tx), (1, .int l1), (2, .int l2)] → mX7_firstError_L45 n ti sg l1 l2 = (some rr) → W p l e (headSpec wsX7_firstError ({ frames := 5, cells := 0, slots := 0, locals := 110 } : Room)).room s m ([.ref q_tx] : List Value).toArray below meth c H locs 0 0 (MQ below (my_Q Γ A (some (.int rr)) (wText Γ q_tx q_sg ti sg)) ([.ref q_tx] : List Value).toArray s 0 0 A) (F0 m 45 ls []) := by
    intro  n
    induction n with
    | zero => intro ti sg l1 l2 H locs ls hP hD hS hl hm; cases hm
    | succ n ih =>
      intro ti sg l1 l2 H locs ls hP hD hS hl hm
      unfold mX7_firstError_L45 at hm
      refine lv_iload_n hx hb dX7_firstError_45 rfl (lv_at hl 2 rfl) ?_
      refine lv_bipush (v := (120 : Int32)) hx hb dX7_firstError_46 (by decide) ?_
      refine lv_icmp_ge (tgt := 86) hx hb dX7_firstError_48 (by decide) (fun c_3 => ?_) (fun c_3 => ?_)
      · replace hm := if_s hm c_3
        refine lv_iconst (v := (-1 : Int32)) hx hb dX7_firstError_86 (by decide) ?_
        obtain hf0 := Option.some.inj hm
        subst hf0
        exact W.iret (v := (-1 : Int32)) hx hb hr (fun t ht hW => ⟨⟨rfl, by rw [ht]; exact hP⟩, hS.F ht⟩) hS.2.2 dX7_firstError_87
      · replace hm := if_f hm c_3
        refine lv_iload_n hx hb dX7_firstError_51 rfl (lv_at hl 1 rfl) ?_
        refine lv_aload_n hx hb dX7_firstError_52 rfl (lv_at hl 0 rfl) ?_
        refine va_get (D := my_D Γ) (ci := 5) (v := .int (ti 1)) (C := RX7) (T := TX7) (N := 2) hx hb hts hinX7 hown hK hP 0 rfl rfl 1 (by decide) (hts (.fieldLink RX7 15 "BeltFloor$Text" "length" "I") (List.mem_of_getElem? (i := 1) rfl)) (fun _ h9 => h9) rfl dX7_firstError_53 ?_
        refine lv_icmp_ge (tgt := 86) hx hb dX7_firstError_56 (by decide) (fun c_4 => ?_) (fun c_4 => ?_)
        · replace hm := if_s hm c_4
          refine lv_iconst (v := (-1 : Int32)) hx hb dX7_firstError_86 (by decide) ?_
          obtain hf0 := Option.some.inj hm
          subst hf0
          exact W.iret (v := (-1 : Int32)) hx hb hr (fun t ht hW => ⟨⟨rfl, by rw [ht]; exact hP⟩, hS.F ht⟩) hS.2.2 dX7_firstError_87
        · replace hm := if_f hm c_4
          refine lv_aload_n hx hb dX7_firstError_59 rfl (lv_at hl 0 rfl) ?_
          refine lv_iload_n hx hb dX7_firstError_60 rfl (lv_at hl 1 rfl) ?_
          obtain ⟨r_5, hc_6, hm⟩ := bo1_s hm
          refine my_call1 (wc := (wText Γ q_tx q_sg ti sg)) (w1 := (wText Γ q_tx q_sg ti sg)) (ws1 := (wText Γ q_tx q_sg ti sg)) hP hD hS hA [0, 1] rfl rfl rfl (va_runV (As := [.int l1]) (rest := []) ⟨hx, hb, hml, hown, hts⟩ (kX7_errorInItem l Γ q_tx q_sg ti sg l1 r_5 hc_6 _) (cwV 1 hts gX7_firstError_X7_errorInItem rfl rfl rfl (by decide +kernel) ⟨Nat.le_of_ble_eq_true rfl, Nat.le_of_ble_eq_true rfl⟩) (my_preV (wc := (wText Γ q_tx q_sg ti sg)) (ci := 5) (q0 := 0) [0, 1] hK hP hD rfl rfl rfl rfl) rfl rfl hl.1 rfl (lv_room (Nat.le_of_ble_eq_true rfl)) dX7_firstError_61 ⟨Nat.le_of_ble_eq_true rfl, Nat.le_of_ble_eq_true rfl⟩) (fun H locs hP hD hS => ?_)
          refine lv_istore_n (lv' := [(3, .int r_5), (0, .ref q_tx), (1, .int l1), (2, .int l2)]) hx hb dX7_firstError_64 rfl hl (by decide) rfl (fun ls hl => ?_)
          refine lv_iload_n hx hb dX7_firstError_65 rfl (lv_at hl 0 rfl) ?_
          refine lv_iconst (v := (-1 : Int32)) hx hb dX7_firstError_66 (by decide) ?_
          refine lv_icmp_eq (tgt := 72) hx hb dX7_firstError_67 (by decide) (fun c_7 => ?_) (fun c_7 => ?_)
          · replace hm := if_s hm c_7
            refine lv_iload_n hx hb dX7_firstError_72 rfl (lv_at hl 2 rfl) ?_
            refine lv_aload_n hx hb dX7_firstError_73 rfl (lv_at hl 1 rfl) ?_
            refine lv_iload_n hx hb dX7_firstError_74 rfl (lv_at hl 2 rfl) ?_
            obtain ⟨r_8, hc_9, hm⟩ := bo1_s hm
            refine my_call1 (wc := (wText Γ q_tx q_sg ti sg)) (w1 := (wText Γ q_tx q_sg ti sg)) (ws1 := (wText Γ q_tx q_sg ti sg)) hP hD hS hA [0, 1] rfl rfl rfl (va_runV (As := [.int l1]) (rest := [.int l1]) ⟨hx, hb, hml, hown, hts⟩ (kX7_lengthOfItem l Γ q_tx q_sg ti sg l1 r_8 hc_9 _) (cwV 1 hts gX7_firstError_X7_lengthOfItem rfl rfl rfl (by decide +kernel) ⟨Nat.le_of_ble_eq_true rfl, Nat.le_of_ble_eq_true rfl⟩) (my_preV (wc := (wText Γ q_tx q_sg ti sg)) (ci := 5) (q0 := 0) [0, 1] hK hP hD rfl rfl rfl rfl) rfl rfl hl.1 rfl (lv_room (Nat.le_of_ble_eq_true rfl)) dX7_firstError_75 ⟨Nat.le_of_ble_eq_true rfl, Nat.le_of_ble_eq_true rfl⟩) (fun H locs hP hD hS => ?_)
            refine lv_iadd hx hb dX7_firstError_78 ?_
            refine lv_istore_n (lv' := [(1, .int (l1 + r_8)), (3, .int r_5), (0, .ref q_tx), (2, .int l2)]) hx hb dX7_firstError_79 rfl hl (by decide) rfl (fun ls hl => ?_)
            refine lv_iinc (v := (l2 + (1 : Int32))) (lv' := [(2, .int (l2 + (1 : Int32))), (1, .int (l1 + r_8)), (3, .int r_5), (0, .ref q_tx)]) hx hb dX7_firstError_80 hl (k := 3) rfl rfl (by decide) rfl (fun ls hl => ?_)
            refine lv_goto (tgt := 45) hx hb dX7_firstError_83 (by decide) ?_
            exact ih ti sg (l1 + r_8) (l2 + (1 : Int32)) _ _ _ hP hD hS (lv_sub hl [3, 1, 0] rfl) hm
          · replace hm := if_f hm c_7
            refine lv_iload_n hx hb dX7_firstError_70 rfl (lv_at hl 0 rfl) ?_
            obtain hf0 := Option.some.inj hm
            subst hf0
            exact W.iret (v := r_5) hx hb hr (fun t ht hW => ⟨⟨rfl, by rw [ht]; exact hP⟩, hS.F ht⟩) hS.2.2 dX7_firstError_71
  have J_14 : ∀ n : Nat, ∀ (ti : Nat → Int32) (sg : Nat → Int32) (l1 : Int32) (H : Heap) (locs : List Loc) (ls : Array Slot), va_P (my_D Γ) vwCl (wText Γ q_tx q_sg ti sg) H → va_D A (wText Γ q_tx q_sg ti sg) → va_S A s.heap H locs → lv_has ls 4 [(0, .ref q_tx), (1, .int l1)] → mX7_firstError_L14 n ti sg l1 = (some rr) → W p l e (headSpec wsX7_firstError ({ frames := 5, cells := 0, slots := 0, locals := 110 } : Room)).room s m ([.ref q_tx] : List Value).toArray below meth c H locs 0 0 (MQ below (my_Q Γ A (some (.int rr)) (wText Γ q_tx q_sg ti sg)) ([.ref q_tx] : List Value).toArray s 0 0 A) (F0 m 14 ls []) := by
    intro  n
    induction n with
    | zero => intro ti sg l1 H locs ls hP hD hS hl hm; cases hm
    | succ n ih =>
      intro ti sg l1 H locs ls hP hD hS hl hm
      unfold mX7_firstError_L14 at hm
      refine lv_iload_n hx hb dX7_firstError_14 rfl (lv_at hl 1 rfl) ?_
      refine lv_bipush (v := (37 : Int32)) hx hb dX7_firstError_15 (by decide) ?_
      refine lv_icmp_ge (tgt := 40) hx hb dX7_firstError_17 (by decide) (fun c_2 => ?_) (fun c_2 => ?_)
      · replace hm := if_s hm c_2
        refine lv_bipush (v := (37 : Int32)) hx hb dX7_firstError_40 (by decide) ?_
        refine lv_istore_n (lv' := [(1, .int (37 : Int32)), (0, .ref q_tx)]) hx hb dX7_firstError_42 rfl hl (by decide) rfl (fun ls hl => ?_)
        refine lv_iconst (v := (0 : Int32)) hx hb dX7_firstError_43 (by decide) ?_
        refine lv_istore_n (lv' := [(2, .int (0 : Int32)), (1, .int (37 : Int32)), (0, .ref q_tx)]) hx hb dX7_firstError_44 rfl hl (by decide) rfl (fun ls hl => ?_)
        exact J_45 4096 ti sg (37 : Int32) (0 : Int32) _ _ _ hP hD hS (lv_sub hl [2, 1, 0] rfl) hm
      · replace hm := if_f hm c_2
        refine lv_aload_n hx hb dX7_firstError_20 rfl (lv_at hl 0 rfl) ?_
        refine lv_iload_n hx hb dX7_firstError_21 rfl (lv_at hl 1 rfl) ?_
        refine my_call1 (wc := (wText Γ q_tx q_sg ti sg)) (w1 := (wText Γ q_tx q_sg ti sg)) (ws1 := (wText Γ q_tx q_sg ti sg)) hP hD hS hA [0, 1] rfl rfl rfl (va_runV (As := [.int l1]) (rest := []) ⟨hx, hb, hml, hown, hts⟩ (kX7_signAt l Γ q_tx q_sg ti sg l1 (mX7_signAt ti sg l1) rfl _) (cwV 1 hts gX7_firstError_X7_signAt rfl rfl rfl (by decide +kernel) ⟨Nat.le_of_ble_eq_true rfl, Nat.le_of_ble_eq_true rfl⟩) (my_preV (wc := (wText Γ q_tx q_sg ti sg)) (ci := 5) (q0 := 0) [0, 1] hK hP hD rfl rfl rfl rfl) rfl rfl hl.1 rfl (lv_room (Nat.le_of_ble_eq_true rfl)) dX7_firstError_22 ⟨Nat.le_of_ble_eq_true rfl, Nat.le_of_ble_eq_true rfl⟩) (fun H locs hP hD hS => ?_)
        refine my_call1 (wc := ([] : va_W)) (w1 := ([] : va_W)) (ws1 := (wText Γ q_tx q_sg ti sg)) hP hD hS hA [] rfl rfl rfl (va_runS (As := [.int (mX7_signAt ti sg l1)]) (rest := []) ⟨hx, hb, hml, hown, hts⟩ (kX7_kindOfSign l Γ (mX7_signAt ti sg l1) (mX7_kindOfSign (mX7_signAt ti sg l1)) rfl _) (va_cwS 1 hts gX7_firstError_X7_kindOfSign rfl rfl rfl (by decide +kernel) ⟨Nat.le_of_ble_eq_true rfl, Nat.le_of_ble_eq_true rfl⟩) (my_preS (wc := ([] : va_W)) [] hK hP hD rfl rfl) rfl rfl hl.1 rfl (lv_room (Nat.le_of_ble_eq_true rfl)) dX7_firstError_25 ⟨Nat.le_of_ble_eq_true rfl, Nat.le_of_ble_eq_true rfl⟩) (fun H locs hP hD hS => ?_)
        refine lv_iconst (v := (-1 : Int32)) hx hb dX7_firstError_28 (by decide) ?_
        refine lv_icmp_ne (tgt := 34) hx hb dX7_firstError_29 (by decide) (fun c_10 => ?_) (fun c_10 => ?_)
        · replace hm := if_f hm c_10
          refine lv_iinc (v := (l1 + (1 : Int32))) (lv' := [(1, .int (l1 + (1 : Int32))), (0, .ref q_tx)]) hx hb dX7_firstError_34 hl (k := 1) rfl rfl (by decide) rfl (fun ls hl => ?_)
          refine lv_goto (tgt := 14) hx hb dX7_firstError_37 (by decide) ?_
          exact ih ti sg (l1 + (1 : Int32)) _ _ _ hP hD hS (lv_sub hl [1, 0] rfl) hm
        · replace hm := if_s hm c_10
          refine lv_iload_n hx hb dX7_firstError_32 rfl (lv_at hl 1 rfl) ?_
          obtain hf0 := Option.some.inj hm
          subst hf0
          exact W.iret (v := l1) hx hb hr (fun t ht hW => ⟨⟨rfl, by rw [ht]; exact hP⟩, hS.F ht⟩) hS.2.2 dX7_firstError_33
  unfold mX7_firstError at hm
  refine lv_aload_n hx hb dX7_firstError_0 rfl (lv_at hl 0 rfl) ?_
  refine lv_iconst (v := (0 : Int32)) hx hb dX7_firstError_1 (by decide) ?_
  refine my_call1 (wc := (wText Γ q_tx q_sg ti sg)) (w1 := (wText Γ q_tx q_sg ti sg)) (ws1 := (wText Γ q_tx q_sg ti sg)) hP hD hS hA [0, 1] rfl rfl rfl (va_runV (As := [.int (0 : Int32)]) (rest := []) ⟨hx, hb, hml, hown, hts⟩ (kX7_signAt l Γ q_tx q_sg ti sg (0 : Int32) (mX7_signAt ti sg (0 : Int32)) rfl _) (cwV 1 hts gX7_firstError_X7_signAt rfl rfl rfl (by decide +kernel) ⟨Nat.le_of_ble_eq_true rfl, Nat.le_of_ble_eq_true rfl⟩) (my_preV (wc := (wText Γ q_tx q_sg ti sg)) (ci := 5) (q0 := 0) [0, 1] hK hP hD rfl rfl rfl rfl) rfl rfl hl.1 rfl (lv_room (Nat.le_of_ble_eq_true rfl)) dX7_firstError_2 ⟨Nat.le_of_ble_eq_true rfl, Nat.le_of_ble_eq_true rfl⟩) (fun H locs hP hD hS => ?_)
  refine lv_bipush (v := (70 : Int32)) hx hb dX7_firstError_5 (by decide) ?_
  refine lv_icmp_eq (tgt := 12) hx hb dX7_firstError_7 (by decide) (fun c_1 => ?_) (fun c_1 => ?_)
  · replace hm := if_s hm c_1
    refine lv_iconst (v := (1 : Int32)) hx hb dX7_firstError_12 (by decide) ?_
    refine lv_istore_n (lv' := [(1, .int (1 : Int32)), (0, .ref q_tx)]) hx hb dX7_firstError_13 rfl hl (by decide) rfl (fun ls hl => ?_)
    exact J_14 4096 ti sg (1 : Int32) _ _ _ hP hD hS (lv_sub hl [1, 0] rfl) hm
  · replace hm := if_f hm c_1
    refine lv_iconst (v := (0 : Int32)) hx hb dX7_firstError_10 (by decide) ?_
    obtain hf0 := Option.some.inj hm
    subst hf0
    exact W.iret (v := (0 : Int32)) hx hb hr (fun t ht hW => ⟨⟨rfl, by rw [ht]; exact hP⟩, hS.F ht⟩) hS.2.2 dX7_firstError_11
def mX7_teach_J40 (k12 : (Nat → Int32) → (Nat → Int32) → (Nat → Int32) → (Nat → Int32) → Int32 → Int32 → Int32 → Int32 → Option (Int32 × (Nat → Int32) × (Nat → Int32))) (ti : Nat → Int32) (sg : Nat → Int32) (vf : Nat → Int32) (vp : Nat → Int32) (l2 : Int32) (l3 : Int32) (l5 : Int32) (s0 : Int32) (s1 : Int32) : Option (Int32 × (Nat → Int32) × (Nat → Int32)) := (k12 ti sg vf vp l2 l3 (s0 + s1) (l5 + (1 : Int32)))
def mX7_teach_L12  : Nat → (Nat → Int32) → (Nat → Int32) → (Nat → Int32) → (Nat → Int32) → Int32 → Int32 → Int32 → Int32 → Option (Int32 × (Nat → Int32) × (Nat → Int32))
  | 0, _, _, _, _, _, _, _, _ => none
  | n + 1, ti, sg, vf, vp, l2, l3, l4, l5 => (if l3 ≤ l5 then (some (l4, vf, vp)) else (bt3 (mX4_learn vf vp (mX7_digitAt ti sg (l2 + l5))) (fun r_4 vf_5 vp_6 => (if r_4 = 0 then (mX7_teach_J40 (fun ti sg vf vp l2 l3 l4 l5 => mX7_teach_L12 n ti sg vf vp l2 l3 l4 l5) ti sg vf_5 vp_6 l2 l3 l5 l4 (1 : Int32)) else (mX7_teach_J40 (fun ti sg vf vp l2 l3 l4 l5 => mX7_teach_L12 n ti sg vf vp l2 l3 l4 l5) ti sg vf_5 vp_6 l2 l3 l5 l4 (0 : Int32))))))
def mX7_teach (ti : Nat → Int32) (sg : Nat → Int32) (vf : Nat → Int32) (vp : Nat → Int32) (x1 : Int32) : Option (Int32 × (Nat → Int32) × (Nat → Int32)) := (bo1 (mX7_instructionsFrom ti sg x1) (fun r_1 => (mX7_teach_L12 4096 ti sg vf vp x1 r_1 (0 : Int32) (0 : Int32))))
set_option maxHeartbeats 4000000 in
set_option maxRecDepth 100000 in
theorem kX7_teach (l : Launch) (Γ : my_G) (q_tx q_sg q_r q_rp : Nat) (ti : Nat → Int32) (sg : Nat → Int32) (vf : Nat → Int32) (vp : Nat → Int32) (x1 : Int32) (rr : Int32) (vf_z : Nat → Int32) (vp_z : Nat → Int32) (hm : mX7_teach ti sg vf vp x1 = (some (rr, vf_z, vp_z))) : Mn l yX7_teach wsX7_teach ({ frames := 3, cells := 0, slots := 0, locals := 66 } : Room) Γ [.ref q_tx, .ref q_r, .int x1] (wText Γ q_tx q_sg ti sg ++ wRobot Γ q_r q_rp vf vp) (some (.int rr)) (wText Γ q_tx q_sg ti sg ++ wRobot Γ q_r q_rp vf_z vp_z) := by
  intro sz
  refine Met.ofW (cc := cX7_teach) (maxL := 6) (ret := (some .int)) (by decide) rfl ?_
  intro p e s m args below meth c s₁ B hml hv
  obtain ⟨rfl, hsz, hP, hK, hD0⟩ := hv
  have hx := B.exec
  have hb := B.bytes
  have hr := B.returns
  have hts := atoms_spec (ws := wsX7_teach) B.pre
  have hown : s.vm.findClass RX7 = some m.cls := findClass_of_methodNamed B.named
  have hlocks := B.notSynchronized
  have hinX4 : ∀ w ∈ u_ws RX4 TX4 10, w ∈ wsX7_teach := fun w h => List.mem_cons_of_mem _ (List.mem_append_right _ h)
  have hinX7 : ∀ w ∈ u_ws RX7 TX7 2, w ∈ wsX7_teach := fun w h => List.mem_cons_of_mem _ (List.mem_append_left _ (List.mem_append_right _ h))
  subst hsz
  have hD := hD0.self (sz := s.heap.size)
  have hA : ∀ q : Nat, s.heap.size ≤ q → va_A (wText Γ q_tx q_sg ti sg ++ wRobot Γ q_r q_rp vf vp) s.heap.size q := fun q h => Or.inr h
  generalize va_A (wText Γ q_tx q_sg ti sg ++ wRobot Γ q_r q_rp vf vp) s.heap.size = A at hD hA ⊢
  have hS : va_S A s.heap s.heap [] := va_S.rf
  have hl := lv_entry ([.ref q_tx, .ref q_r, .int x1]) (n := 6) (Nat.le_of_ble_eq_true rfl)
  rw [lg_entry_eq]
  generalize (lg_sl ([.ref q_tx, .ref q_r, .int x1]) ++ List.replicate (6 - (lg_sl ([.ref q_tx, .ref q_r, .int x1])).length) Slot.unset).toArray = ls at hl ⊢
  replace hl : lv_has ls 6 [(0, .ref q_tx), (1, .ref q_r), (2, .int x1)] := hl
  have J_40 : ∀ (k12 : (Nat → Int32) → (Nat → Int32) → (Nat → Int32) → (Nat → Int32) → Int32 → Int32 → Int32 → Int32 → Option (Int32 × (Nat → Int32) × (Nat → Int32))), (∀ (ti : Nat → Int32) (sg : Nat → Int32) (vf : Nat → Int32) (vp : Nat → Int32) (l2 : Int32) (l3 : Int32) (l4 : Int32) (l5 : Int32) (H : Heap) (locs : List Loc) (ls : Array Slot), va_P (my_D Γ) vwCl (wText Γ q_tx q_sg ti sg ++ wRobot Γ q_r q_rp vf vp) H → va_D A (wText Γ q_tx q_sg ti sg ++ wRobot Γ q_r q_rp vf vp) → va_S A s.heap H locs → lv_has ls 6 [(0, .ref q_tx), (1, .ref q_r), (2, .int l2), (3, .int l3), (4, .int l4), (5, .int l5)] → k12 ti sg vf vp l2 l3 l4 l5 = (some (rr, vf_z, vp_z)) → W p l e (headSpec wsX7_teach ({ frames := 3, cells := 0, slots := 0, locals := 66 } : Room)).room s m ([.ref q_tx, .ref q_r, .int x1] : List Value).toArray below meth c H locs 0 0 (MQ below (my_Q Γ A (some (.int rr)) (wText Γ q_tx q_sg ti sg ++ wRobot Γ q_r q_rp vf_z vp_z)) ([.ref q_tx, .ref q_r, .int x1] : List Value).toArray s 0 0 A) (F0 m 12 ls [])) → ∀ (ti : Nat → Int32) (sg : Nat → Int32) (vf : Nat → Int32) (vp : Nat → Int32) (l2 : Int32) (l3 : Int32) (l5 : Int32) (s0 : Int32) (s1 : Int32) (H : Heap) (locs : List Loc) (ls : Array Slot), va_P (my_D Γ) vwCl (wText Γ q_tx q_sg ti sg ++ wRobot Γ q_r q_rp vf vp) H → va_D A (wText Γ q_tx q_sg ti sg ++ wRobot Γ q_r q_rp vf vp) → va_S A s.heap H locs → lv_has ls 6 [(0, .ref q_tx), (1, .ref q_r), (2, .int l2), (3, .int l3), (5, .int l5)] → mX7_teach_J40 k12 ti sg vf vp l2 l3 l5 s0 s1 = (some (rr, vf_z, vp_z)) → W p l e (headSpec wsX7_teach ({ frames := 3, cells := 0, slots := 0, locals := 66 } : Room)).room s m ([.ref q_tx, .ref q_r, .int x1] : List Value).toArray below meth c H locs 0 0 (MQ below (my_Q Γ A (some (.int rr)) (wText Γ q_tx q_sg ti sg ++ wRobot Γ q_r q_rp vf_z vp_z)) ([.ref q_tx, .ref q_r, .int x1] : List Value).toArray s 0 0 A) (F0 m 40 ls [.int s1, .int s0]) := by
    intro k12 hk12 ti sg vf vp l2 l3 l5 s0 s1 H locs ls hP hD hS hl hm
    unfold mX7_teach_J40 at hm
    refine lv_iadd hx hb dX7_teach_40 ?_
    refine lv_istore (lv' := [(4, .int (s0 + s1)), (0, .ref q_tx), (1, .ref q_r), (2, .int l2), (3, .int l3), (5, .int l5)]) hx hb dX7_teach_41 hl (by decide) rfl (fun ls hl => ?_)
    refine lv_iinc (v := (l5 + (1 : Int32))) (lv' := [(5, .int (l5 + (1 : Int32))), (4, .int (s0 + s1)), (0, .ref q_tx), (1, .ref q_r), (2, .int l2), (3, .int l3)]) hx hb dX7_teach_43 hl (k := 5) rfl rfl (by decide) rfl (fun ls hl => ?_)
    refine lv_goto (tgt := 12) hx hb dX7_teach_46 (by decide) ?_
    exact hk12 ti sg vf vp l2 l3 (s0 + s1) (l5 + (1 : Int32)) _ _ _ hP hD hS (lv_sub hl [2, 3, 4, 5, 1, 0] rfl) hm
  have J_12 : ∀ n : Nat, ∀ (ti : Nat → Int32) (sg : Nat → Int32) (vf : Nat → Int32) (vp : Nat → Int32) (l2 : Int32) (l3 : Int32) (l4 : Int32) (l5 : Int32) (H : Heap) (locs : List Loc) (ls : Array Slot), va_P (my_D Γ) vwCl (wText Γ q_tx q_sg ti sg ++ wRobot Γ q_r q_rp vf vp) H → va_D A (wText Γ q_tx q_sg ti sg ++ wRobot Γ q_r q_rp vf vp) → va_S A s.heap H locs → lv_has ls 6 [(0, .ref q_tx), (1, .ref q_r), (2, .int l2), (3, .int l3), (4, .int l4), (5, .int l5)] → mX7_teach_L12 n ti sg vf vp l2 l3 l4 l5 = (some (rr, vf_z, vp_z)) → W p l e (headSpec wsX7_teach ({ frames := 3, cells := 0, slots := 0, locals := 66 } : Room)).room s m ([.ref q_tx, .ref q_r, .int x1] : List Value).toArray below meth c H locs 0 0 (MQ below (my_Q Γ A (some (.int rr)) (wText Γ q_tx q_sg ti sg ++ wRobot Γ q_r q_rp vf_z vp_z)) ([.ref q_tx, .ref q_r, .int x1] : List Value).toArray s 0 0 A) (F0 m 12 ls []) := by
    intro  n
    induction n with
    | zero => intro ti sg vf vp l2 l3 l4 l5 H locs ls hP hD hS hl hm; cases hm
    | succ n ih =>
      intro ti sg vf vp l2 l3 l4 l5 H locs ls hP hD hS hl hm
      unfold mX7_teach_L12 at hm
      refine lv_iload hx hb dX7_teach_12 (lv_at hl 5 rfl) ?_
      refine lv_iload_n hx hb dX7_teach_14 rfl (lv_at hl 3 rfl) ?_
      refine lv_icmp_ge (tgt := 49) hx hb dX7_teach_15 (by decide) (fun c_3 => ?_) (fun c_3 => ?_)
      · replace hm := if_s hm c_3
        refine lv_iload hx hb dX7_teach_49 (lv_at hl 4 rfl) ?_
        obtain ⟨hf0, hf1, hf2⟩ := si3 hm
        subst hf0
        subst hf1
        subst hf2
        exact W.iret (v := l4) hx hb hr (fun t ht hW => ⟨⟨rfl, by rw [ht]; exact hP⟩, hS.F ht⟩) hS.2.2 dX7_teach_51
      · replace hm := if_f hm c_3
        refine lv_iload hx hb dX7_teach_18 (lv_at hl 4 rfl) ?_
        refine lv_aload_n hx hb dX7_teach_20 rfl (lv_at hl 1 rfl) ?_
        refine lv_aload_n hx hb dX7_teach_21 rfl (lv_at hl 0 rfl) ?_
        refine lv_iload_n hx hb dX7_teach_22 rfl (lv_at hl 2 rfl) ?_
        refine lv_iload hx hb dX7_teach_23 (lv_at hl 5 rfl) ?_
        refine lv_iadd hx hb dX7_teach_25 ?_
        refine my_call1 (wc := (wText Γ q_tx q_sg ti sg)) (w1 := (wText Γ q_tx q_sg ti sg)) (ws1 := (wText Γ q_tx q_sg ti sg ++ wRobot Γ q_r q_rp vf vp)) hP hD hS hA [0, 1] rfl rfl rfl (va_runV (As := [.int (l2 + l5)]) (rest := [.ref q_r, .int l4]) ⟨hx, hb, hml, hown, hts⟩ (kX7_digitAt l Γ q_tx q_sg ti sg (l2 + l5) (mX7_digitAt ti sg (l2 + l5)) rfl _) (cwV 1 hts gX7_teach_X7_digitAt rfl rfl rfl (by decide +kernel) ⟨Nat.le_of_ble_eq_true rfl, Nat.le_of_ble_eq_true rfl⟩) (my_preV (wc := (wText Γ q_tx q_sg ti sg)) (ci := 5) (q0 := 0) [0, 1] hK hP hD rfl rfl rfl rfl) rfl rfl hl.1 rfl (lv_room (Nat.le_of_ble_eq_true rfl)) dX7_teach_26 ⟨Nat.le_of_ble_eq_true rfl, Nat.le_of_ble_eq_true rfl⟩) (fun H locs hP hD hS => ?_)
        obtain ⟨r_4, vf_5, vp_6, hc_7, hm⟩ := bt3_s hm
        refine my_call1 (wc := (wRobot Γ q_r q_rp vf vp)) (w1 := (wRobot Γ q_r q_rp vf_5 vp_6)) (ws1 := (wText Γ q_tx q_sg ti sg ++ wRobot Γ q_r q_rp vf_5 vp_6)) hP hD hS hA [2, 3] rfl rfl rfl (va_runV (As := [.int (mX7_digitAt ti sg (l2 + l5))]) (rest := [.int l4]) ⟨hx, hb, hml, hown, hts⟩ (kX4_learn l Γ q_r q_rp vf vp (mX7_digitAt ti sg (l2 + l5)) r_4 vf_5 vp_6 hc_7 _) (cwV 1 hts gX7_teach_X4_learn rfl rfl rfl (by decide +kernel) ⟨Nat.le_of_ble_eq_true rfl, Nat.le_of_ble_eq_true rfl⟩) (my_preV (wc := (wRobot Γ q_r q_rp vf vp)) (ci := 3) (q0 := 2) [2, 3] hK hP hD rfl rfl rfl rfl) rfl rfl hl.1 rfl (lv_room (Nat.le_of_ble_eq_true rfl)) dX7_teach_29 ⟨Nat.le_of_ble_eq_true rfl, Nat.le_of_ble_eq_true rfl⟩) (fun H locs hP hD hS => ?_)
        refine lv_if_eq (tgt := 39) hx hb dX7_teach_32 (by decide) (fun c_8 => ?_) (fun c_8 => ?_)
        · replace hm := if_s hm c_8
          refine lv_iconst (v := (1 : Int32)) hx hb dX7_teach_39 (by decide) ?_
          exact J_40 (fun ti sg vf vp l2 l3 l4 l5 => mX7_teach_L12 n ti sg vf vp l2 l3 l4 l5) ih ti sg vf_5 vp_6 l2 l3 l5 l4 (1 : Int32) _ _ _ hP hD hS (lv_sub hl [0, 1, 2, 3, 5] rfl) hm
        · replace hm := if_f hm c_8
          refine lv_iconst (v := (0 : Int32)) hx hb dX7_teach_35 (by decide) ?_
          refine lv_goto (tgt := 40) hx hb dX7_teach_36 (by decide) ?_
          exact J_40 (fun ti sg vf vp l2 l3 l4 l5 => mX7_teach_L12 n ti sg vf vp l2 l3 l4 l5) ih ti sg vf_5 vp_6 l2 l3 l5 l4 (0 : Int32) _ _ _ hP hD hS (lv_sub hl [0, 1, 2, 3, 5] rfl) hm
  unfold mX7_teach at hm
  refine lv_aload_n hx hb dX7_teach_0 rfl (lv_at hl 0 rfl) ?_
  refine lv_iload_n hx hb dX7_teach_1 rfl (lv_at hl 2 rfl) ?_
  obtain ⟨r_1, hc_2, hm⟩ := bo1_s hm
  refine my_call1 (wc := (wText Γ q_tx q_sg ti sg)) (w1 := (wText Γ q_tx q_sg ti sg)) (ws1 := (wText Γ q_tx q_sg ti sg ++ wRobot Γ q_r q_rp vf vp)) hP hD hS hA [0, 1] rfl rfl rfl (va_runV (As := [.int x1]) (rest := []) ⟨hx, hb, hml, hown, hts⟩ (kX7_instructionsFrom l Γ q_tx q_sg ti sg x1 r_1 hc_2 _) (cwV 1 hts gX7_teach_X7_instructionsFrom rfl rfl rfl (by decide +kernel) ⟨Nat.le_of_ble_eq_true rfl, Nat.le_of_ble_eq_true rfl⟩) (my_preV (wc := (wText Γ q_tx q_sg ti sg)) (ci := 5) (q0 := 0) [0, 1] hK hP hD rfl rfl rfl rfl) rfl rfl hl.1 rfl (lv_room (Nat.le_of_ble_eq_true rfl)) dX7_teach_2 ⟨Nat.le_of_ble_eq_true rfl, Nat.le_of_ble_eq_true rfl⟩) (fun H locs hP hD hS => ?_)
  refine lv_istore_n (lv' := [(3, .int r_1), (0, .ref q_tx), (1, .ref q_r), (2, .int x1)]) hx hb dX7_teach_5 rfl hl (by decide) rfl (fun ls hl => ?_)
  refine lv_iconst (v := (0 : Int32)) hx hb dX7_teach_6 (by decide) ?_
  refine lv_istore (lv' := [(4, .int (0 : Int32)), (3, .int r_1), (0, .ref q_tx), (1, .ref q_r), (2, .int x1)]) hx hb dX7_teach_7 hl (by decide) rfl (fun ls hl => ?_)
  refine lv_iconst (v := (0 : Int32)) hx hb dX7_teach_9 (by decide) ?_
  refine lv_istore (lv' := [(5, .int (0 : Int32)), (4, .int (0 : Int32)), (3, .int r_1), (0, .ref q_tx), (1, .ref q_r), (2, .int x1)]) hx hb dX7_teach_10 hl (by decide) rfl (fun ls hl => ?_)
  exact J_12 4096 ti sg vf vp x1 r_1 (0 : Int32) (0 : Int32) _ _ _ hP hD hS (lv_sub hl [3, 4, 5, 2, 1, 0] rfl) hm
def mX7_giveItem (ti : Nat → Int32) (sg : Nat → Int32) (vi : Nat → Int32) (vj : Nat → Int64) (vk : Nat → Int32) (vc : Nat → Int32) (va : Nat → Int32) (vpa : Nat → Int32) (vb : Nat → Int32) (vpb : Nat → Int32) (x1 : Int32) : Option (Int32 × (Nat → Int32) × (Nat → Int64) × (Nat → Int32) × (Nat → Int32) × (Nat → Int32) × (Nat → Int32) × (Nat → Int32)) := (if (mX7_signAt ti sg x1) = (99 : Int32) then (bt3 (mX1_layCrate vi vj vk va vb (mX7_cellAt ti sg (x1 + (1 : Int32)))) (fun r_2 vi_3 vj_4 => (if r_2 = 0 then (some ((1 : Int32), vi_3, vj_4, vc, va, vpa, vb, vpb)) else (some ((0 : Int32), vi_3, vj_4, vc, va, vpa, vb, vpb))))) else (if (mX7_signAt ti sg x1) = (112 : Int32) then (bo3 (mX1_markCheckpoint vi vk vc (mX7_cellAt ti sg (x1 + (1 : Int32)))) (fun r_8 vi_9 vc_10 => (if r_8 = 0 then (some ((1 : Int32), vi_9, vj, vc_10, va, vpa, vb, vpb)) else (some ((0 : Int32), vi_9, vj, vc_10, va, vpa, vb, vpb))))) else (if (mX7_signAt ti sg x1) = (114 : Int32) then (bt3 (mX1_placeRobot vj vk va vb (mX7_digitAt ti sg (x1 + (1 : Int32))) (mX7_cellAt ti sg (x1 + (2 : Int32))) (mX7_digitAt ti sg (x1 + (4 : Int32)))) (fun r_14 va_15 vb_16 => (if r_14 = 0 then (some ((1 : Int32), vi, vj, vc, va_15, vpa, vb_16, vpb)) else (some ((0 : Int32), vi, vj, vc, va_15, vpa, vb_16, vpb))))) else (if (mX7_digitAt ti sg (x1 + (1 : Int32))) = 0 then (bo3 (mX7_teach ti sg va vpa (x1 + (2 : Int32))) (fun r_20 va_21 vpa_22 => (some (r_20, vi, vj, vc, va_21, vpa_22, vb, vpb)))) else (bo3 (mX7_teach ti sg vb vpb (x1 + (2 : Int32))) (fun r_24 vb_25 vpb_26 => (some (r_24, vi, vj, vc, va, vpa, vb_25, vpb_26))))))))
set_option maxHeartbeats 4000000 in
set_option maxRecDepth 100000 in
theorem kX7_giveItem (l : Launch) (Γ : my_G) (q_tx q_sg q_fl q_k q_c q_a q_pa q_b q_pb : Nat) (ti : Nat → Int32) (sg : Nat → Int32) (vi : Nat → Int32) (vj : Nat → Int64) (vk : Nat → Int32) (vc : Nat → Int32) (va : Nat → Int32) (vpa : Nat → Int32) (vb : Nat → Int32) (vpb : Nat → Int32) (x1 : Int32) (rr : Int32) (vi_z : Nat → Int32) (vj_z : Nat → Int64) (vc_z : Nat → Int32) (va_z : Nat → Int32) (vpa_z : Nat → Int32) (vb_z : Nat → Int32) (vpb_z : Nat → Int32) (hm : mX7_giveItem ti sg vi vj vk vc va vpa vb vpb x1 = (some (rr, vi_z, vj_z, vc_z, va_z, vpa_z, vb_z, vpb_z))) : Mn l yX7_giveItem wsX7_giveItem ({ frames := 4, cells := 0, slots := 0, locals := 91 } : Room) Γ [.ref q_tx, .ref q_fl, .int x1] (wText Γ q_tx q_sg ti sg ++ wFloor Γ q_fl q_k q_c q_a q_pa q_b q_pb vi vj vk vc va vpa vb vpb) (some (.int rr)) (wText Γ q_tx q_sg ti sg ++ wFloor Γ q_fl q_k q_c q_a q_pa q_b q_pb vi_z vj_z vk vc_z va_z vpa_z vb_z vpb_z) := by
  intro sz
  refine Met.ofW (cc := cX7_giveItem) (maxL := 3) (ret := (some .int)) (by decide) rfl ?_
  intro p e s m args below meth c s₁ B hml hv
  obtain ⟨rfl, hsz, hP, hK, hD0⟩ := hv
  have hx := B.exec
  have hb := B.bytes
  have hr := B.returns
  have hts := atoms_spec (ws := wsX7_giveItem) B.pre
  have hown : s.vm.findClass RX7 = some m.cls := findClass_of_methodNamed B.named
  have hlocks := B.notSynchronized
  have hinX1 : ∀ w ∈ u_ws RX1 TX1 12, w ∈ wsX7_giveItem := fun w h => List.mem_cons_of_mem _ (List.mem_append_left _ (List.mem_append_right _ h))
  have hinX4 : ∀ w ∈ u_ws RX4 TX4 10, w ∈ wsX7_giveItem := fun w h => List.mem_cons_of_mem _ (List.mem_append_right _ h)
  have hinX7 : ∀ w ∈ u_ws RX7 TX7 2, w ∈ wsX7_giveItem := fun w h => List.mem_cons_of_mem _ (List.mem_append_left _ (List.mem_append_left _ (List.mem_append_right _ h)))
  subst hsz
  have hD := hD0.self (sz := s.heap.size)
  have hA : ∀ q : Nat, s.heap.size ≤ q → va_A (wText Γ q_tx q_sg ti sg ++ wFloor Γ q_fl q_k q_c q_a q_pa q_b q_pb vi vj vk vc va vpa vb vpb) s.heap.size q := fun q h => Or.inr h
  generalize va_A (wText Γ q_tx q_sg ti sg ++ wFloor Γ q_fl q_k q_c q_a q_pa q_b q_pb vi vj vk vc va vpa vb vpb) s.heap.size = A at hD hA ⊢
  have hS : va_S A s.heap s.heap [] := va_S.rf
  have hl := lv_entry ([.ref q_tx, .ref q_fl, .int x1]) (n := 3) (Nat.le_of_ble_eq_true rfl)
  rw [lg_entry_eq]
  generalize (lg_sl ([.ref q_tx, .ref q_fl, .int x1]) ++ List.replicate (3 - (lg_sl ([.ref q_tx, .ref q_fl, .int x1])).length) Slot.unset).toArray = ls at hl ⊢
  replace hl : lv_has ls 3 [(0, .ref q_tx), (1, .ref q_fl), (2, .int x1)] := hl
  unfold mX7_giveItem at hm
  refine lv_aload_n hx hb dX7_giveItem_0 rfl (lv_at hl 0 rfl) ?_
  refine lv_iload_n hx hb dX7_giveItem_1 rfl (lv_at hl 2 rfl) ?_
  refine my_call1 (wc := (wText Γ q_tx q_sg ti sg)) (w1 := (wText Γ q_tx q_sg ti sg)) (ws1 := (wText Γ q_tx q_sg ti sg ++ wFloor Γ q_fl q_k q_c q_a q_pa q_b q_pb vi vj vk vc va vpa vb vpb)) hP hD hS hA [0, 1] rfl rfl rfl (va_runV (As := [.int x1]) (rest := []) ⟨hx, hb, hml, hown, hts⟩ (kX7_signAt l Γ q_tx q_sg ti sg x1 (mX7_signAt ti sg x1) rfl _) (cwV 1 hts gX7_giveItem_X7_signAt rfl rfl rfl (by decide +kernel) ⟨Nat.le_of_ble_eq_true rfl, Nat.le_of_ble_eq_true rfl⟩) (my_preV (wc := (wText Γ q_tx q_sg ti sg)) (ci := 5) (q0 := 0) [0, 1] hK hP hD rfl rfl rfl rfl) rfl rfl hl.1 rfl (lv_room (Nat.le_of_ble_eq_true rfl)) dX7_giveItem_2 ⟨Nat.le_of_ble_eq_true rfl, Nat.le_of_ble_eq_true rfl⟩) (fun H locs hP hD hS => ?_)
  by_cases c_1 : (mX7_signAt ti sg x1) = (99 : Int32)
  · replace hm := if_s hm c_1
    refine lv_lookup (off := 35) (tgt := 40) hx hb dX7_giveItem_5 (by decide) (by rw [c_1]; rfl) (by decide) ?_
    refine lv_aload_n hx hb dX7_giveItem_40 rfl (lv_at hl 1 rfl) ?_
    refine lv_aload_n hx hb dX7_giveItem_41 rfl (lv_at hl 0 rfl) ?_
    refine lv_iload_n hx hb dX7_giveItem_42 rfl (lv_at hl 2 rfl) ?_
    refine lv_iconst (v := (1 : Int32)) hx hb dX7_giveItem_43 (by decide) ?_
    refine lv_iadd hx hb dX7_giveItem_44 ?_
    refine my_call1 (wc := (wText Γ q_tx q_sg ti sg)) (w1 := (wText Γ q_tx q_sg ti sg)) (ws1 := (wText Γ q_tx q_sg ti sg ++ wFloor Γ q_fl q_k q_c q_a q_pa q_b q_pb vi vj vk vc va vpa vb vpb)) hP hD hS hA [0, 1] rfl rfl rfl (va_runV (As := [.int (x1 + (1 : Int32))]) (rest := [.ref q_fl]) ⟨hx, hb, hml, hown, hts⟩ (kX7_cellAt l Γ q_tx q_sg ti sg (x1 + (1 : Int32)) (mX7_cellAt ti sg (x1 + (1 : Int32))) rfl _) (cwV 1 hts gX7_giveItem_X7_cellAt rfl rfl rfl (by decide +kernel) ⟨Nat.le_of_ble_eq_true rfl, Nat.le_of_ble_eq_true rfl⟩) (my_preV (wc := (wText Γ q_tx q_sg ti sg)) (ci := 5) (q0 := 0) [0, 1] hK hP hD rfl rfl rfl rfl) rfl rfl hl.1 rfl (lv_room (Nat.le_of_ble_eq_true rfl)) dX7_giveItem_45 ⟨Nat.le_of_ble_eq_true rfl, Nat.le_of_ble_eq_true rfl⟩) (fun H locs hP hD hS => ?_)
    obtain ⟨r_2, vi_3, vj_4, hc_5, hm⟩ := bt3_s hm
    refine my_call1 (wc := (wFloor Γ q_fl q_k q_c q_a q_pa q_b q_pb vi vj vk vc va vpa vb vpb)) (w1 := (wFloor Γ q_fl q_k q_c q_a q_pa q_b q_pb vi_3 vj_4 vk vc va vpa vb vpb)) (ws1 := (wText Γ q_tx q_sg ti sg ++ wFloor Γ q_fl q_k q_c q_a q_pa q_b q_pb vi_3 vj_4 vk vc va vpa vb vpb)) hP hD hS hA [2, 3, 4, 5, 6, 7, 8] rfl rfl rfl (va_runV (As := [.int (mX7_cellAt ti sg (x1 + (1 : Int32)))]) (rest := []) ⟨hx, hb, hml, hown, hts⟩ (kX1_layCrate l Γ q_fl q_k q_c q_a q_pa q_b q_pb vi vj vk vc va vpa vb vpb (mX7_cellAt ti sg (x1 + (1 : Int32))) r_2 vi_3 vj_4 hc_5 _) (cwV 1 hts gX7_giveItem_X1_layCrate rfl rfl rfl (by decide +kernel) ⟨Nat.le_of_ble_eq_true rfl, Nat.le_of_ble_eq_true rfl⟩) (my_preV (wc := (wFloor Γ q_fl q_k q_c q_a q_pa q_b q_pb vi vj vk vc va vpa vb vpb)) (ci := 1) (q0 := 2) [2, 3, 4, 5, 6, 7, 8] hK hP hD rfl rfl rfl rfl) rfl rfl hl.1 rfl (lv_room (Nat.le_of_ble_eq_true rfl)) dX7_giveItem_48 ⟨Nat.le_of_ble_eq_true rfl, Nat.le_of_ble_eq_true rfl⟩) (fun H locs hP hD hS => ?_)
    refine lv_if_eq (tgt := 58) hx hb dX7_giveItem_51 (by decide) (fun c_6 => ?_) (fun c_6 => ?_)
    · replace hm := if_s hm c_6
      refine lv_iconst (v := (1 : Int32)) hx hb dX7_giveItem_58 (by decide) ?_
      obtain ⟨hf0, hf1, hf2, hf3, hf4, hf5, hf6, hf7⟩ := si8 hm
      subst hf0
      subst hf1
      subst hf2
      subst hf3
      subst hf4
      subst hf5
      subst hf6
      subst hf7
      exact W.iret (v := (1 : Int32)) hx hb hr (fun t ht hW => ⟨⟨rfl, by rw [ht]; exact hP⟩, hS.F ht⟩) hS.2.2 dX7_giveItem_59
    · replace hm := if_f hm c_6
      refine lv_iconst (v := (0 : Int32)) hx hb dX7_giveItem_54 (by decide) ?_
      refine lv_goto (tgt := 59) hx hb dX7_giveItem_55 (by decide) ?_
      obtain ⟨hf0, hf1, hf2, hf3, hf4, hf5, hf6, hf7⟩ := si8 hm
      subst hf0
      subst hf1
      subst hf2
      subst hf3
      subst hf4
      subst hf5
      subst hf6
      subst hf7
      exact W.iret (v := (0 : Int32)) hx hb hr (fun t ht hW => ⟨⟨rfl, by rw [ht]; exact hP⟩, hS.F ht⟩) hS.2.2 dX7_giveItem_59
  · replace hm := if_f hm c_1
    by_cases c_7 : (mX7_signAt ti sg x1) = (112 : Int32)
    · replace hm := if_s hm c_7
      refine lv_lookup (off := 55) (tgt := 60) hx hb dX7_giveItem_5 (by decide) (by rw [c_7]; rfl) (by decide) ?_
      refine lv_aload_n hx hb dX7_giveItem_60 rfl (lv_at hl 1 rfl) ?_
      refine lv_aload_n hx hb dX7_giveItem_61 rfl (lv_at hl 0 rfl) ?_
      refine lv_iload_n hx hb dX7_giveItem_62 rfl (lv_at hl 2 rfl) ?_
      refine lv_iconst (v := (1 : Int32)) hx hb dX7_giveItem_63 (by decide) ?_
      refine lv_iadd hx hb dX7_giveItem_64 ?_
      refine my_call1 (wc := (wText Γ q_tx q_sg ti sg)) (w1 := (wText Γ q_tx q_sg ti sg)) (ws1 := (wText Γ q_tx q_sg ti sg ++ wFloor Γ q_fl q_k q_c q_a q_pa q_b q_pb vi vj vk vc va vpa vb vpb)) hP hD hS hA [0, 1] rfl rfl rfl (va_runV (As := [.int (x1 + (1 : Int32))]) (rest := [.ref q_fl]) ⟨hx, hb, hml, hown, hts⟩ (kX7_cellAt l Γ q_tx q_sg ti sg (x1 + (1 : Int32)) (mX7_cellAt ti sg (x1 + (1 : Int32))) rfl _) (cwV 1 hts gX7_giveItem_X7_cellAt rfl rfl rfl (by decide +kernel) ⟨Nat.le_of_ble_eq_true rfl, Nat.le_of_ble_eq_true rfl⟩) (my_preV (wc := (wText Γ q_tx q_sg ti sg)) (ci := 5) (q0 := 0) [0, 1] hK hP hD rfl rfl rfl rfl) rfl rfl hl.1 rfl (lv_room (Nat.le_of_ble_eq_true rfl)) dX7_giveItem_65 ⟨Nat.le_of_ble_eq_true rfl, Nat.le_of_ble_eq_true rfl⟩) (fun H locs hP hD hS => ?_)
      obtain ⟨r_8, vi_9, vc_10, hc_11, hm⟩ := bo3_s hm
      refine my_call1 (wc := (wFloor Γ q_fl q_k q_c q_a q_pa q_b q_pb vi vj vk vc va vpa vb vpb)) (w1 := (wFloor Γ q_fl q_k q_c q_a q_pa q_b q_pb vi_9 vj vk vc_10 va vpa vb vpb)) (ws1 := (wText Γ q_tx q_sg ti sg ++ wFloor Γ q_fl q_k q_c q_a q_pa q_b q_pb vi_9 vj vk vc_10 va vpa vb vpb)) hP hD hS hA [2, 3, 4, 5, 6, 7, 8] rfl rfl rfl (va_runV (As := [.int (mX7_cellAt ti sg (x1 + (1 : Int32)))]) (rest := []) ⟨hx, hb, hml, hown, hts⟩ (kX1_markCheckpoint l Γ q_fl q_k q_c q_a q_pa q_b q_pb vi vj vk vc va vpa vb vpb (mX7_cellAt ti sg (x1 + (1 : Int32))) r_8 vi_9 vc_10 hc_11 _) (cwV 1 hts gX7_giveItem_X1_markCheckpoint rfl rfl rfl (by decide +kernel) ⟨Nat.le_of_ble_eq_true rfl, Nat.le_of_ble_eq_true rfl⟩) (my_preV (wc := (wFloor Γ q_fl q_k q_c q_a q_pa q_b q_pb vi vj vk vc va vpa vb vpb)) (ci := 1) (q0 := 2) [2, 3, 4, 5, 6, 7, 8] hK hP hD rfl rfl rfl rfl) rfl rfl hl.1 rfl (lv_room (Nat.le_of_ble_eq_true rfl)) dX7_giveItem_68 ⟨Nat.le_of_ble_eq_true rfl, Nat.le_of_ble_eq_true rfl⟩) (fun H locs hP hD hS => ?_)
      refine lv_if_eq (tgt := 78) hx hb dX7_giveItem_71 (by decide) (fun c_12 => ?_) (fun c_12 => ?_)
      · replace hm := if_s hm c_12
        refine lv_iconst (v := (1 : Int32)) hx hb dX7_giveItem_78 (by decide) ?_
        obtain ⟨hf0, hf1, hf2, hf3, hf4, hf5, hf6, hf7⟩ := si8 hm
        subst hf0
        subst hf1
        subst hf2
        subst hf3
        subst hf4
        subst hf5
        subst hf6
        subst hf7
        exact W.iret (v := (1 : Int32)) hx hb hr (fun t ht hW => ⟨⟨rfl, by rw [ht]; exact hP⟩, hS.F ht⟩) hS.2.2 dX7_giveItem_79
      · replace hm := if_f hm c_12
        refine lv_iconst (v := (0 : Int32)) hx hb dX7_giveItem_74 (by decide) ?_
        refine lv_goto (tgt := 79) hx hb dX7_giveItem_75 (by decide) ?_
        obtain ⟨hf0, hf1, hf2, hf3, hf4, hf5, hf6, hf7⟩ := si8 hm
        subst hf0
        subst hf1
        subst hf2
        subst hf3
        subst hf4
        subst hf5
        subst hf6
        subst hf7
        exact W.iret (v := (0 : Int32)) hx hb hr (fun t ht hW => ⟨⟨rfl, by rw [ht]; exact hP⟩, hS.F ht⟩) hS.2.2 dX7_giveItem_79
    · replace hm := if_f hm c_7
      by_cases c_13 : (mX7_signAt ti sg x1) = (114 : Int32)
      · replace hm := if_s hm c_13
        refine lv_lookup (off := 75) (tgt := 80) hx hb dX7_giveItem_5 (by decide) (by rw [c_13]; rfl) (by decide) ?_
        refine lv_aload_n hx hb dX7_giveItem_80 rfl (lv_at hl 1 rfl) ?_
        refine lv_aload_n hx hb dX7_giveItem_81 rfl (lv_at hl 0 rfl) ?_
        refine lv_iload_n hx hb dX7_giveItem_82 rfl (lv_at hl 2 rfl) ?_
        refine lv_iconst (v := (1 : Int32)) hx hb dX7_giveItem_83 (by decide) ?_
        refine lv_iadd hx hb dX7_giveItem_84 ?_
        refine my_call1 (wc := (wText Γ q_tx q_sg ti sg)) (w1 := (wText Γ q_tx q_sg ti sg)) (ws1 := (wText Γ q_tx q_sg ti sg ++ wFloor Γ q_fl q_k q_c q_a q_pa q_b q_pb vi vj vk vc va vpa vb vpb)) hP hD hS hA [0, 1] rfl rfl rfl (va_runV (As := [.int (x1 + (1 : Int32))]) (rest := [.ref q_fl]) ⟨hx, hb, hml, hown, hts⟩ (kX7_digitAt l Γ q_tx q_sg ti sg (x1 + (1 : Int32)) (mX7_digitAt ti sg (x1 + (1 : Int32))) rfl _) (cwV 1 hts gX7_giveItem_X7_digitAt rfl rfl rfl (by decide +kernel) ⟨Nat.le_of_ble_eq_true rfl, Nat.le_of_ble_eq_true rfl⟩) (my_preV (wc := (wText Γ q_tx q_sg ti sg)) (ci := 5) (q0 := 0) [0, 1] hK hP hD rfl rfl rfl rfl) rfl rfl hl.1 rfl (lv_room (Nat.le_of_ble_eq_true rfl)) dX7_giveItem_85 ⟨Nat.le_of_ble_eq_true rfl, Nat.le_of_ble_eq_true rfl⟩) (fun H locs hP hD hS => ?_)
        refine lv_aload_n hx hb dX7_giveItem_88 rfl (lv_at hl 0 rfl) ?_
        refine lv_iload_n hx hb dX7_giveItem_89 rfl (lv_at hl 2 rfl) ?_
        refine lv_iconst (v := (2 : Int32)) hx hb dX7_giveItem_90 (by decide) ?_
        refine lv_iadd hx hb dX7_giveItem_91 ?_
        refine my_call1 (wc := (wText Γ q_tx q_sg ti sg)) (w1 := (wText Γ q_tx q_sg ti sg)) (ws1 := (wText Γ q_tx q_sg ti sg ++ wFloor Γ q_fl q_k q_c q_a q_pa q_b q_pb vi vj vk vc va vpa vb vpb)) hP hD hS hA [0, 1] rfl rfl rfl (va_runV (As := [.int (x1 + (2 : Int32))]) (rest := [.int (mX7_digitAt ti sg (x1 + (1 : Int32))), .ref q_fl]) ⟨hx, hb, hml, hown, hts⟩ (kX7_cellAt l Γ q_tx q_sg ti sg (x1 + (2 : Int32)) (mX7_cellAt ti sg (x1 + (2 : Int32))) rfl _) (cwV 1 hts gX7_giveItem_X7_cellAt rfl rfl rfl (by decide +kernel) ⟨Nat.le_of_ble_eq_true rfl, Nat.le_of_ble_eq_true rfl⟩) (my_preV (wc := (wText Γ q_tx q_sg ti sg)) (ci := 5) (q0 := 0) [0, 1] hK hP hD rfl rfl rfl rfl) rfl rfl hl.1 rfl (lv_room (Nat.le_of_ble_eq_true rfl)) dX7_giveItem_92 ⟨Nat.le_of_ble_eq_true rfl, Nat.le_of_ble_eq_true rfl⟩) (fun H locs hP hD hS => ?_)
        refine lv_aload_n hx hb dX7_giveItem_95 rfl (lv_at hl 0 rfl) ?_
        refine lv_iload_n hx hb dX7_giveItem_96 rfl (lv_at hl 2 rfl) ?_
        refine lv_iconst (v := (4 : Int32)) hx hb dX7_giveItem_97 (by decide) ?_
        refine lv_iadd hx hb dX7_giveItem_98 ?_
        refine my_call1 (wc := (wText Γ q_tx q_sg ti sg)) (w1 := (wText Γ q_tx q_sg ti sg)) (ws1 := (wText Γ q_tx q_sg ti sg ++ wFloor Γ q_fl q_k q_c q_a q_pa q_b q_pb vi vj vk vc va vpa vb vpb)) hP hD hS hA [0, 1] rfl rfl rfl (va_runV (As := [.int (x1 + (4 : Int32))]) (rest := [.int (mX7_cellAt ti sg (x1 + (2 : Int32))), .int (mX7_digitAt ti sg (x1 + (1 : Int32))), .ref q_fl]) ⟨hx, hb, hml, hown, hts⟩ (kX7_digitAt l Γ q_tx q_sg ti sg (x1 + (4 : Int32)) (mX7_digitAt ti sg (x1 + (4 : Int32))) rfl _) (cwV 1 hts gX7_giveItem_X7_digitAt rfl rfl rfl (by decide +kernel) ⟨Nat.le_of_ble_eq_true rfl, Nat.le_of_ble_eq_true rfl⟩) (my_preV (wc := (wText Γ q_tx q_sg ti sg)) (ci := 5) (q0 := 0) [0, 1] hK hP hD rfl rfl rfl rfl) rfl rfl hl.1 rfl (lv_room (Nat.le_of_ble_eq_true rfl)) dX7_giveItem_99 ⟨Nat.le_of_ble_eq_true rfl, Nat.le_of_ble_eq_true rfl⟩) (fun H locs hP hD hS => ?_)
        obtain ⟨r_14, va_15, vb_16, hc_17, hm⟩ := bt3_s hm
        refine my_call1 (wc := (wFloor Γ q_fl q_k q_c q_a q_pa q_b q_pb vi vj vk vc va vpa vb vpb)) (w1 := (wFloor Γ q_fl q_k q_c q_a q_pa q_b q_pb vi vj vk vc va_15 vpa vb_16 vpb)) (ws1 := (wText Γ q_tx q_sg ti sg ++ wFloor Γ q_fl q_k q_c q_a q_pa q_b q_pb vi vj vk vc va_15 vpa vb_16 vpb)) hP hD hS hA [2, 3, 4, 5, 6, 7, 8] rfl rfl rfl (va_runV (As := [.int (mX7_digitAt ti sg (x1 + (1 : Int32))), .int (mX7_cellAt ti sg (x1 + (2 : Int32))), .int (mX7_digitAt ti sg (x1 + (4 : Int32)))]) (rest := []) ⟨hx, hb, hml, hown, hts⟩ (kX1_placeRobot l Γ q_fl q_k q_c q_a q_pa q_b q_pb vi vj vk vc va vpa vb vpb (mX7_digitAt ti sg (x1 + (1 : Int32))) (mX7_cellAt ti sg (x1 + (2 : Int32))) (mX7_digitAt ti sg (x1 + (4 : Int32))) r_14 va_15 vb_16 hc_17 _) (cwV 3 hts gX7_giveItem_X1_placeRobot rfl rfl rfl (by decide +kernel) ⟨Nat.le_of_ble_eq_true rfl, Nat.le_of_ble_eq_true rfl⟩) (my_preV (wc := (wFloor Γ q_fl q_k q_c q_a q_pa q_b q_pb vi vj vk vc va vpa vb vpb)) (ci := 1) (q0 := 2) [2, 3, 4, 5, 6, 7, 8] hK hP hD rfl rfl rfl rfl) rfl rfl hl.1 rfl (lv_room (Nat.le_of_ble_eq_true rfl)) dX7_giveItem_102 ⟨Nat.le_of_ble_eq_true rfl, Nat.le_of_ble_eq_true rfl⟩) (fun H locs hP hD hS => ?_)
        refine lv_if_eq (tgt := 112) hx hb dX7_giveItem_105 (by decide) (fun c_18 => ?_) (fun c_18 => ?_)
        · replace hm := if_s hm c_18
          refine lv_iconst (v := (1 : Int32)) hx hb dX7_giveItem_112 (by decide) ?_
          obtain ⟨hf0, hf1, hf2, hf3, hf4, hf5, hf6, hf7⟩ := si8 hm
          subst hf0
          subst hf1
          subst hf2
          subst hf3
          subst hf4
          subst hf5
          subst hf6
          subst hf7
          exact W.iret (v := (1 : Int32)) hx hb hr (fun t ht hW => ⟨⟨rfl, by rw [ht]; exact hP⟩, hS.F ht⟩) hS.2.2 dX7_giveItem_113
        · replace hm := if_f hm c_18
          refine lv_iconst (v := (0 : Int32)) hx hb dX7_giveItem_108 (by decide) ?_
          refine lv_goto (tgt := 113) hx hb dX7_giveItem_109 (by decide) ?_
          obtain ⟨hf0, hf1, hf2, hf3, hf4, hf5, hf6, hf7⟩ := si8 hm
          subst hf0
          subst hf1
          subst hf2
          subst hf3
          subst hf4
          subst hf5
          subst hf6
          subst hf7
          exact W.iret (v := (0 : Int32)) hx hb hr (fun t ht hW => ⟨⟨rfl, by rw [ht]; exact hP⟩, hS.F ht⟩) hS.2.2 dX7_giveItem_113
      · replace hm := if_f hm c_13
        refine lv_lookup (off := 109) (tgt := 114) hx hb dX7_giveItem_5 (by decide) ((lv_osw c_1 rfl).trans ((lv_osw c_7 rfl).trans ((lv_osw c_13 rfl).trans rfl))) (by decide) ?_
        refine lv_aload_n hx hb dX7_giveItem_114 rfl (lv_at hl 0 rfl) ?_
        refine lv_aload_n hx hb dX7_giveItem_115 rfl (lv_at hl 1 rfl) ?_
        refine lv_aload_n hx hb dX7_giveItem_116 rfl (lv_at hl 0 rfl) ?_
        refine lv_iload_n hx hb dX7_giveItem_117 rfl (lv_at hl 2 rfl) ?_
        refine lv_iconst (v := (1 : Int32)) hx hb dX7_giveItem_118 (by decide) ?_
        refine lv_iadd hx hb dX7_giveItem_119 ?_
        refine my_call1 (wc := (wText Γ q_tx q_sg ti sg)) (w1 := (wText Γ q_tx q_sg ti sg)) (ws1 := (wText Γ q_tx q_sg ti sg ++ wFloor Γ q_fl q_k q_c q_a q_pa q_b q_pb vi vj vk vc va vpa vb vpb)) hP hD hS hA [0, 1] rfl rfl rfl (va_runV (As := [.int (x1 + (1 : Int32))]) (rest := [.ref q_fl, .ref q_tx]) ⟨hx, hb, hml, hown, hts⟩ (kX7_digitAt l Γ q_tx q_sg ti sg (x1 + (1 : Int32)) (mX7_digitAt ti sg (x1 + (1 : Int32))) rfl _) (cwV 1 hts gX7_giveItem_X7_digitAt rfl rfl rfl (by decide +kernel) ⟨Nat.le_of_ble_eq_true rfl, Nat.le_of_ble_eq_true rfl⟩) (my_preV (wc := (wText Γ q_tx q_sg ti sg)) (ci := 5) (q0 := 0) [0, 1] hK hP hD rfl rfl rfl rfl) rfl rfl hl.1 rfl (lv_room (Nat.le_of_ble_eq_true rfl)) dX7_giveItem_120 ⟨Nat.le_of_ble_eq_true rfl, Nat.le_of_ble_eq_true rfl⟩) (fun H locs hP hD hS => ?_)
        by_cases c_19 : (mX7_digitAt ti sg (x1 + (1 : Int32))) = 0
        · replace hm := if_s hm c_19
          refine my_call1 (wc := (wFloor Γ q_fl q_k q_c q_a q_pa q_b q_pb vi vj vk vc va vpa vb vpb)) (w1 := (wFloor Γ q_fl q_k q_c q_a q_pa q_b q_pb vi vj vk vc va vpa vb vpb)) (ws1 := (wText Γ q_tx q_sg ti sg ++ wFloor Γ q_fl q_k q_c q_a q_pa q_b q_pb vi vj vk vc va vpa vb vpb)) hP hD hS hA [2, 3, 4, 5, 6, 7, 8] rfl rfl rfl (va_runV (As := [.int (mX7_digitAt ti sg (x1 + (1 : Int32)))]) (rest := [.ref q_tx]) ⟨hx, hb, hml, hown, hts⟩ (kX1_robot_0 l Γ q_fl q_k q_c q_a q_pa q_b q_pb vi vj vk vc va vpa vb vpb (mX7_digitAt ti sg (x1 + (1 : Int32))) c_19 _) (cwV 1 hts gX7_giveItem_X1_robot rfl rfl rfl (by decide +kernel) ⟨Nat.le_of_ble_eq_true rfl, Nat.le_of_ble_eq_true rfl⟩) (my_preV (wc := (wFloor Γ q_fl q_k q_c q_a q_pa q_b q_pb vi vj vk vc va vpa vb vpb)) (ci := 1) (q0 := 2) [2, 3, 4, 5, 6, 7, 8] hK hP hD rfl rfl rfl rfl) rfl rfl hl.1 rfl (lv_room (Nat.le_of_ble_eq_true rfl)) dX7_giveItem_123 ⟨Nat.le_of_ble_eq_true rfl, Nat.le_of_ble_eq_true rfl⟩) (fun H locs hP hD hS => ?_)
          refine lv_iload_n hx hb dX7_giveItem_126 rfl (lv_at hl 2 rfl) ?_
          refine lv_iconst (v := (2 : Int32)) hx hb dX7_giveItem_127 (by decide) ?_
          refine lv_iadd hx hb dX7_giveItem_128 ?_
          obtain ⟨r_20, va_21, vpa_22, hc_23, hm⟩ := bo3_s hm
          refine my_call1 (wc := (wText Γ q_tx q_sg ti sg ++ wRobot Γ q_a q_pa va vpa)) (w1 := (wText Γ q_tx q_sg ti sg ++ wRobot Γ q_a q_pa va_21 vpa_22)) (ws1 := (wText Γ q_tx q_sg ti sg ++ wFloor Γ q_fl q_k q_c q_a q_pa q_b q_pb vi vj vk vc va_21 vpa_22 vb vpb)) hP hD hS hA [0, 1, 5, 6] rfl rfl rfl (va_runV (As := [.ref q_a, .int (x1 + (2 : Int32))]) (rest := []) ⟨hx, hb, hml, hown, hts⟩ (kX7_teach l Γ q_tx q_sg q_a q_pa ti sg va vpa (x1 + (2 : Int32)) r_20 va_21 vpa_22 hc_23 _) (cwV 2 hts gX7_giveItem_X7_teach rfl rfl rfl (by decide +kernel) ⟨Nat.le_of_ble_eq_true rfl, Nat.le_of_ble_eq_true rfl⟩) (my_preV (wc := (wText Γ q_tx q_sg ti sg ++ wRobot Γ q_a q_pa va vpa)) (ci := 5) (q0 := 0) [0, 1, 5, 6] hK hP hD rfl rfl rfl rfl) rfl rfl hl.1 rfl (lv_room (Nat.le_of_ble_eq_true rfl)) dX7_giveItem_129 ⟨Nat.le_of_ble_eq_true rfl, Nat.le_of_ble_eq_true rfl⟩) (fun H locs hP hD hS => ?_)
          obtain ⟨hf0, hf1, hf2, hf3, hf4, hf5, hf6, hf7⟩ := si8 hm
          subst hf0
          subst hf1
          subst hf2
          subst hf3
          subst hf4
          subst hf5
          subst hf6
          subst hf7
          exact W.iret (v := r_20) hx hb hr (fun t ht hW => ⟨⟨rfl, by rw [ht]; exact hP⟩, hS.F ht⟩) hS.2.2 dX7_giveItem_132
        · replace hm := if_f hm c_19
          refine my_call1 (wc := (wFloor Γ q_fl q_k q_c q_a q_pa q_b q_pb vi vj vk vc va vpa vb vpb)) (w1 := (wFloor Γ q_fl q_k q_c q_a q_pa q_b q_pb vi vj vk vc va vpa vb vpb)) (ws1 := (wText Γ q_tx q_sg ti sg ++ wFloor Γ q_fl q_k q_c q_a q_pa q_b q_pb vi vj vk vc va vpa vb vpb)) hP hD hS hA [2, 3, 4, 5, 6, 7, 8] rfl rfl rfl (va_runV (As := [.int (mX7_digitAt ti sg (x1 + (1 : Int32)))]) (rest := [.ref q_tx]) ⟨hx, hb, hml, hown, hts⟩ (kX1_robot_1 l Γ q_fl q_k q_c q_a q_pa q_b q_pb vi vj vk vc va vpa vb vpb (mX7_digitAt ti sg (x1 + (1 : Int32))) c_19 _) (cwV 1 hts gX7_giveItem_X1_robot rfl rfl rfl (by decide +kernel) ⟨Nat.le_of_ble_eq_true rfl, Nat.le_of_ble_eq_true rfl⟩) (my_preV (wc := (wFloor Γ q_fl q_k q_c q_a q_pa q_b q_pb vi vj vk vc va vpa vb vpb)) (ci := 1) (q0 := 2) [2, 3, 4, 5, 6, 7, 8] hK hP hD rfl rfl rfl rfl) rfl rfl hl.1 rfl (lv_room (Nat.le_of_ble_eq_true rfl)) dX7_giveItem_123 ⟨Nat.le_of_ble_eq_true rfl, Nat.le_of_ble_eq_true rfl⟩) (fun H locs hP hD hS => ?_)
          refine lv_iload_n hx hb dX7_giveItem_126 rfl (lv_at hl 2 rfl) ?_
          refine lv_iconst (v := (2 : Int32)) hx hb dX7_giveItem_127 (by decide) ?_
          refine lv_iadd hx hb dX7_giveItem_128 ?_
          obtain ⟨r_24, vb_25, vpb_26, hc_27, hm⟩ := bo3_s hm
          refine my_call1 (wc := (wText Γ q_tx q_sg ti sg ++ wRobot Γ q_b q_pb vb vpb)) (w1 := (wText Γ q_tx q_sg ti sg ++ wRobot Γ q_b q_pb vb_25 vpb_26)) (ws1 := (wText Γ q_tx q_sg ti sg ++ wFloor Γ q_fl q_k q_c q_a q_pa q_b q_pb vi vj vk vc va vpa vb_25 vpb_26)) hP hD hS hA [0, 1, 7, 8] rfl rfl rfl (va_runV (As := [.ref q_b, .int (x1 + (2 : Int32))]) (rest := []) ⟨hx, hb, hml, hown, hts⟩ (kX7_teach l Γ q_tx q_sg q_b q_pb ti sg vb vpb (x1 + (2 : Int32)) r_24 vb_25 vpb_26 hc_27 _) (cwV 2 hts gX7_giveItem_X7_teach rfl rfl rfl (by decide +kernel) ⟨Nat.le_of_ble_eq_true rfl, Nat.le_of_ble_eq_true rfl⟩) (my_preV (wc := (wText Γ q_tx q_sg ti sg ++ wRobot Γ q_b q_pb vb vpb)) (ci := 5) (q0 := 0) [0, 1, 7, 8] hK hP hD rfl rfl rfl rfl) rfl rfl hl.1 rfl (lv_room (Nat.le_of_ble_eq_true rfl)) dX7_giveItem_129 ⟨Nat.le_of_ble_eq_true rfl, Nat.le_of_ble_eq_true rfl⟩) (fun H locs hP hD hS => ?_)
          obtain ⟨hf0, hf1, hf2, hf3, hf4, hf5, hf6, hf7⟩ := si8 hm
          subst hf0
          subst hf1
          subst hf2
          subst hf3
          subst hf4
          subst hf5
          subst hf6
          subst hf7
          exact W.iret (v := r_24) hx hb hr (fun t ht hW => ⟨⟨rfl, by rw [ht]; exact hP⟩, hS.F ht⟩) hS.2.2 dX7_giveItem_132
def mX7_giveTo_L48  : Nat → (Nat → Int32) → (Nat → Int32) → (Nat → Int32) → (Nat → Int64) → (Nat → Int32) → (Nat → Int32) → (Nat → Int32) → (Nat → Int32) → (Nat → Int32) → (Nat → Int32) → Int32 → Int32 → Int32 → Option (Int32 × (Nat → Int32) × (Nat → Int64) × (Nat → Int32) × (Nat → Int32) × (Nat → Int32) × (Nat → Int32) × (Nat → Int32) × (Nat → Int32))
  | 0, _, _, _, _, _, _, _, _, _, _, _, _, _ => none
  | n + 1, ti, sg, vi, vj, vk, vc, va, vpa, vb, vpb, l2, l3, l4 => (if (120 : Int32) ≤ l4 then (some (l2, vi, vj, vk, vc, va, vpa, vb, vpb)) else (if (ti 1) ≤ l3 then (some (l2, vi, vj, vk, vc, va, vpa, vb, vpb)) else (bo8 (mX7_giveItem ti sg vi vj vk vc va vpa vb vpb l3) (fun r_4 vi_5 vj_6 vc_7 va_8 vpa_9 vb_10 vpb_11 => (bo1 (mX7_lengthOfItem ti sg l3) (fun r_13 => (mX7_giveTo_L48 n ti sg vi_5 vj_6 vk vc_7 va_8 vpa_9 vb_10 vpb_11 (l2 + r_4) (l3 + r_13) (l4 + (1 : Int32)))))))))
def mX7_giveTo_J34 (k4 : (Nat → Int32) → (Nat → Int32) → (Nat → Int32) → (Nat → Int64) → (Nat → Int32) → (Nat → Int32) → (Nat → Int32) → (Nat → Int32) → (Nat → Int32) → (Nat → Int32) → Int32 → Int32 → Option (Int32 × (Nat → Int32) × (Nat → Int64) × (Nat → Int32) × (Nat → Int32) × (Nat → Int32) × (Nat → Int32) × (Nat → Int32) × (Nat → Int32))) (ti : Nat → Int32) (sg : Nat → Int32) (vi : Nat → Int32) (vj : Nat → Int64) (vk : Nat → Int32) (vc : Nat → Int32) (va : Nat → Int32) (vpa : Nat → Int32) (vb : Nat → Int32) (vpb : Nat → Int32) (l3 : Int32) (s0 : Int32) (s1 : Int32) : Option (Int32 × (Nat → Int32) × (Nat → Int64) × (Nat → Int32) × (Nat → Int32) × (Nat → Int32) × (Nat → Int32) × (Nat → Int32) × (Nat → Int32)) := (k4 ti sg vi vj vk vc va vpa vb vpb (s0 + s1) (l3 + (1 : Int32)))
def mX7_giveTo_L4  : Nat → (Nat → Int32) → (Nat → Int32) → (Nat → Int32) → (Nat → Int64) → (Nat → Int32) → (Nat → Int32) → (Nat → Int32) → (Nat → Int32) → (Nat → Int32) → (Nat → Int32) → Int32 → Int32 → Option (Int32 × (Nat → Int32) × (Nat → Int64) × (Nat → Int32) × (Nat → Int32) × (Nat → Int32) × (Nat → Int32) × (Nat → Int32) × (Nat → Int32))
  | 0, _, _, _, _, _, _, _, _, _, _, _, _ => none
  | n + 1, ti, sg, vi, vj, vk, vc, va, vpa, vb, vpb, l2, l3 => (if (36 : Int32) ≤ l3 then (mX7_giveTo_L48 4096 ti sg vi vj vk vc va vpa vb vpb l2 (37 : Int32) (0 : Int32)) else (bo3 (mX1_giveKind vi vj vk vc va vb l3 (mX7_kindOfSign (mX7_signAt ti sg ((1 : Int32) + l3)))) (fun r_15 vj_16 vk_17 => (if r_15 = 0 then (mX7_giveTo_J34 (fun ti sg vi vj vk vc va vpa vb vpb l2 l3 => mX7_giveTo_L4 n ti sg vi vj vk vc va vpa vb vpb l2 l3) ti sg vi vj_16 vk_17 vc va vpa vb vpb l3 l2 (1 : Int32)) else (mX7_giveTo_J34 (fun ti sg vi vj vk vc va vpa vb vpb l2 l3 => mX7_giveTo_L4 n ti sg vi vj vk vc va vpa vb vpb l2 l3) ti sg vi vj_16 vk_17 vc va vpa vb vpb l3 l2 (0 : Int32))))))
def mX7_giveTo (ti : Nat → Int32) (sg : Nat → Int32) (vi : Nat → Int32) (vj : Nat → Int64) (vk : Nat → Int32) (vc : Nat → Int32) (va : Nat → Int32) (vpa : Nat → Int32) (vb : Nat → Int32) (vpb : Nat → Int32) : Option (Int32 × (Nat → Int32) × (Nat → Int64) × (Nat → Int32) × (Nat → Int32) × (Nat → Int32) × (Nat → Int32) × (Nat → Int32) × (Nat → Int32)) := (mX7_giveTo_L4 4096 ti sg vi vj vk vc va vpa vb vpb (0 : Int32) (0 : Int32))
set_option maxHeartbeats 4000000 in
set_option maxRecDepth 100000 in
theorem kX7_giveTo (l : Launch) (Γ : my_G) (q_tx q_sg q_fl q_k q_c q_a q_pa q_b q_pb : Nat) (ti : Nat → Int32) (sg : Nat → Int32) (vi : Nat → Int32) (vj : Nat → Int64) (vk : Nat → Int32) (vc : Nat → Int32) (va : Nat → Int32) (vpa : Nat → Int32) (vb : Nat → Int32) (vpb : Nat → Int32)  (rr : Int32) (vi_z : Nat → Int32) (vj_z : Nat → Int64) (vk_z : Nat → Int32) (vc_z : Nat → Int32) (va_z : Nat → Int32) (vpa_z : Nat → Int32) (vb_z : Nat → Int32) (vpb_z : Nat → Int32) (hm : mX7_giveTo ti sg vi vj vk vc va vpa vb vpb = (some (rr, vi_z, vj_z, vk_z, vc_z, va_z, vpa_z, vb_z, vpb_z))) : Mn l yX7_giveTo wsX7_giveTo ({ frames := 5, cells := 0, slots := 0, locals := 113 } : Room) Γ [.ref q_tx, .ref q_fl] (wText Γ q_tx q_sg ti sg ++ wFloor Γ q_fl q_k q_c q_a q_pa q_b q_pb vi vj vk vc va vpa vb vpb) (some (.int rr)) (wText Γ q_tx q_sg ti sg ++ wFloor Γ q_fl q_k q_c q_a q_pa q_b q_pb vi_z vj_z vk_z vc_z va_z vpa_z vb_z vpb_z) := by
  intro sz
  refine Met.ofW (cc := cX7_giveTo) (maxL := 5) (ret := (some .int)) (by decide) rfl ?_
  intro p e s m args below meth c s₁ B hml hv
  obtain ⟨rfl, hsz, hP, hK, hD0⟩ := hv
  have hx := B.exec
  have hb := B.bytes
  have hr := B.returns
  have hts := atoms_spec (ws := wsX7_giveTo) B.pre
  have hown : s.vm.findClass RX7 = some m.cls := findClass_of_methodNamed B.named
  have hlocks := B.notSynchronized
  have hinX1 : ∀ w ∈ u_ws RX1 TX1 12, w ∈ wsX7_giveTo := fun w h => List.mem_cons_of_mem _ (List.mem_append_left _ (List.mem_append_right _ h))
  have hinX4 : ∀ w ∈ u_ws RX4 TX4 10, w ∈ wsX7_giveTo := fun w h => List.mem_cons_of_mem _ (List.mem_append_right _ h)
  have hinX7 : ∀ w ∈ u_ws RX7 TX7 2, w ∈ wsX7_giveTo := fun w h => List.mem_cons_of_mem _ (List.mem_append_left _ (List.mem_append_left _ (List.mem_append_right _ h)))
  subst hsz
  have hD := hD0.self (sz := s.heap.size)
  have hA : ∀ q : Nat, s.heap.size ≤ q → va_A (wText Γ q_tx q_sg ti sg ++ wFloor Γ q_fl q_k q_c q_a q_pa q_b q_pb vi vj vk vc va vpa vb vpb) s.heap.size q := fun q h => Or.inr h
  generalize va_A (wText Γ q_tx q_sg ti sg ++ wFloor Γ q_fl q_k q_c q_a q_pa q_b q_pb vi vj vk vc va vpa vb vpb) s.heap.size = A at hD hA ⊢
  have hS : va_S A s.heap s.heap [] := va_S.rf
  have hl := lv_entry ([.ref q_tx, .ref q_fl]) (n := 5) (Nat.le_of_ble_eq_true rfl)
  rw [lg_entry_eq]
  generalize (lg_sl ([.ref q_tx, .ref q_fl]) ++ List.replicate (5 - (lg_sl ([.ref q_tx, .ref q_fl])).length) Slot.unset).toArray = ls at hl ⊢
  replace hl : lv_has ls 5 [(0, .ref q_tx), (1, .ref q_fl)] := hl
  have J_48 : ∀ n : Nat, ∀ (ti : Nat → Int32) (sg : Nat → Int32) (vi : Nat → Int32) (vj : Nat → Int64) (vk : Nat → Int32) (vc : Nat → Int32) (va : Nat → Int32) (vpa : Nat → Int32) (vb : Nat → Int32) (vpb : Nat → Int32) (l2 : Int32) (l3 : Int32) (l4 : Int32) (H : Heap) (locs : List Loc) (ls : Array Slot), va_P (my_D Γ) vwCl (wText Γ q_tx q_sg ti sg ++ wFloor Γ q_fl q_k q_c q_a q_pa q_b q_pb vi vj vk vc va vpa vb vpb) H → va_D A (wText Γ q_tx q_sg ti sg ++ wFloor Γ q_fl q_k q_c q_a q_pa q_b q_pb vi vj vk vc va vpa vb vpb) → va_S A s.heap H locs → lv_has ls 5 [(0, .ref q_tx), (1, .ref q_fl), (2, .int l2), (3, .int l3), (4, .int l4)] → mX7_giveTo_L48 n ti sg vi vj vk vc va vpa vb vpb l2 l3 l4 = (some (rr, vi_z, vj_z, vk_z, vc_z, va_z, vpa_z, vb_z, vpb_z)) → W p l e (headSpec wsX7_giveTo ({ frames := 5, cells := 0, slots := 0, locals := 113 } : Room)).room s m ([.ref q_tx, .ref q_fl] : List Value).toArray below meth c H locs 0 0 (MQ below (my_Q Γ A (some (.int rr)) (wText Γ q_tx q_sg ti sg ++ wFloor Γ q_fl q_k q_c q_a q_pa q_b q_pb vi_z vj_z vk_z vc_z va_z vpa_z vb_z vpb_z)) ([.ref q_tx, .ref q_fl] : List Value).toArray s 0 0 A) (F0 m 48 ls []) := by
    intro  n
    induction n with
    | zero => intro ti sg vi vj vk vc va vpa vb vpb l2 l3 l4 H locs ls hP hD hS hl hm; cases hm
    | succ n ih =>
      intro ti sg vi vj vk vc va vpa vb vpb l2 l3 l4 H locs ls hP hD hS hl hm
      unfold mX7_giveTo_L48 at hm
      refine lv_iload hx hb dX7_giveTo_48 (lv_at hl 4 rfl) ?_
      refine lv_bipush (v := (120 : Int32)) hx hb dX7_giveTo_50 (by decide) ?_
      refine lv_icmp_ge (tgt := 86) hx hb dX7_giveTo_52 (by decide) (fun c_2 => ?_) (fun c_2 => ?_)
      · replace hm := if_s hm c_2
        refine lv_iload_n hx hb dX7_giveTo_86 rfl (lv_at hl 2 rfl) ?_
        obtain ⟨hf0, hf1, hf2, hf3, hf4, hf5, hf6, hf7, hf8⟩ := si9 hm
        subst hf0
        subst hf1
        subst hf2
        subst hf3
        subst hf4
        subst hf5
        subst hf6
        subst hf7
        subst hf8
        exact W.iret (v := l2) hx hb hr (fun t ht hW => ⟨⟨rfl, by rw [ht]; exact hP⟩, hS.F ht⟩) hS.2.2 dX7_giveTo_87
      · replace hm := if_f hm c_2
        refine lv_iload_n hx hb dX7_giveTo_55 rfl (lv_at hl 3 rfl) ?_
        refine lv_aload_n hx hb dX7_giveTo_56 rfl (lv_at hl 0 rfl) ?_
        refine va_get (D := my_D Γ) (ci := 5) (v := .int (ti 1)) (C := RX7) (T := TX7) (N := 2) hx hb hts hinX7 hown hK hP 0 rfl rfl 1 (by decide) (hts (.fieldLink RX7 15 "BeltFloor$Text" "length" "I") (List.mem_of_getElem? (i := 1) rfl)) (fun _ h9 => h9) rfl dX7_giveTo_57 ?_
        refine lv_icmp_ge (tgt := 86) hx hb dX7_giveTo_60 (by decide) (fun c_3 => ?_) (fun c_3 => ?_)
        · replace hm := if_s hm c_3
          refine lv_iload_n hx hb dX7_giveTo_86 rfl (lv_at hl 2 rfl) ?_
          obtain ⟨hf0, hf1, hf2, hf3, hf4, hf5, hf6, hf7, hf8⟩ := si9 hm
          subst hf0
          subst hf1
          subst hf2
          subst hf3
          subst hf4
          subst hf5
          subst hf6
          subst hf7
          subst hf8
          exact W.iret (v := l2) hx hb hr (fun t ht hW => ⟨⟨rfl, by rw [ht]; exact hP⟩, hS.F ht⟩) hS.2.2 dX7_giveTo_87
        · replace hm := if_f hm c_3
          refine lv_iload_n hx hb dX7_giveTo_63 rfl (lv_at hl 2 rfl) ?_
          refine lv_aload_n hx hb dX7_giveTo_64 rfl (lv_at hl 0 rfl) ?_
          refine lv_aload_n hx hb dX7_giveTo_65 rfl (lv_at hl 1 rfl) ?_
          refine lv_iload_n hx hb dX7_giveTo_66 rfl (lv_at hl 3 rfl) ?_
          obtain ⟨r_4, vi_5, vj_6, vc_7, va_8, vpa_9, vb_10, vpb_11, hc_12, hm⟩ := bo8_s hm
          refine my_call1 (wc := (wText Γ q_tx q_sg ti sg ++ wFloor Γ q_fl q_k q_c q_a q_pa q_b q_pb vi vj vk vc va vpa vb vpb)) (w1 := (wText Γ q_tx q_sg ti sg ++ wFloor Γ q_fl q_k q_c q_a q_pa q_b q_pb vi_5 vj_6 vk vc_7 va_8 vpa_9 vb_10 vpb_11)) (ws1 := (wText Γ q_tx q_sg ti sg ++ wFloor Γ q_fl q_k q_c q_a q_pa q_b q_pb vi_5 vj_6 vk vc_7 va_8 vpa_9 vb_10 vpb_11)) hP hD hS hA [0, 1, 2, 3, 4, 5, 6, 7, 8] rfl rfl rfl (va_runV (As := [.ref q_fl, .int l3]) (rest := [.int l2]) ⟨hx, hb, hml, hown, hts⟩ (kX7_giveItem l Γ q_tx q_sg q_fl q_k q_c q_a q_pa q_b q_pb ti sg vi vj vk vc va vpa vb vpb l3 r_4 vi_5 vj_6 vc_7 va_8 vpa_9 vb_10 vpb_11 hc_12 _) (cwV 2 hts gX7_giveTo_X7_giveItem rfl rfl rfl (by decide +kernel) ⟨Nat.le_of_ble_eq_true rfl, Nat.le_of_ble_eq_true rfl⟩) (my_preV (wc := (wText Γ q_tx q_sg ti sg ++ wFloor Γ q_fl q_k q_c q_a q_pa q_b q_pb vi vj vk vc va vpa vb vpb)) (ci := 5) (q0 := 0) [0, 1, 2, 3, 4, 5, 6, 7, 8] hK hP hD rfl rfl rfl rfl) rfl rfl hl.1 rfl (lv_room (Nat.le_of_ble_eq_true rfl)) dX7_giveTo_67 ⟨Nat.le_of_ble_eq_true rfl, Nat.le_of_ble_eq_true rfl⟩) (fun H locs hP hD hS => ?_)
          refine lv_iadd hx hb dX7_giveTo_70 ?_
          refine lv_istore_n (lv' := [(2, .int (l2 + r_4)), (0, .ref q_tx), (1, .ref q_fl), (3, .int l3), (4, .int l4)]) hx hb dX7_giveTo_71 rfl hl (by decide) rfl (fun ls hl => ?_)
          refine lv_iload_n hx hb dX7_giveTo_72 rfl (lv_at hl 3 rfl) ?_
          refine lv_aload_n hx hb dX7_giveTo_73 rfl (lv_at hl 1 rfl) ?_
          refine lv_iload_n hx hb dX7_giveTo_74 rfl (lv_at hl 3 rfl) ?_
          obtain ⟨r_13, hc_14, hm⟩ := bo1_s hm
          refine my_call1 (wc := (wText Γ q_tx q_sg ti sg)) (w1 := (wText Γ q_tx q_sg ti sg)) (ws1 := (wText Γ q_tx q_sg ti sg ++ wFloor Γ q_fl q_k q_c q_a q_pa q_b q_pb vi_5 vj_6 vk vc_7 va_8 vpa_9 vb_10 vpb_11)) hP hD hS hA [0, 1] rfl rfl rfl (va_runV (As := [.int l3]) (rest := [.int l3]) ⟨hx, hb, hml, hown, hts⟩ (kX7_lengthOfItem l Γ q_tx q_sg ti sg l3 r_13 hc_14 _) (cwV 1 hts gX7_giveTo_X7_lengthOfItem rfl rfl rfl (by decide +kernel) ⟨Nat.le_of_ble_eq_true rfl, Nat.le_of_ble_eq_true rfl⟩) (my_preV (wc := (wText Γ q_tx q_sg ti sg)) (ci := 5) (q0 := 0) [0, 1] hK hP hD rfl rfl rfl rfl) rfl rfl hl.1 rfl (lv_room (Nat.le_of_ble_eq_true rfl)) dX7_giveTo_75 ⟨Nat.le_of_ble_eq_true rfl, Nat.le_of_ble_eq_true rfl⟩) (fun H locs hP hD hS => ?_)
          refine lv_iadd hx hb dX7_giveTo_78 ?_
          refine lv_istore_n (lv' := [(3, .int (l3 + r_13)), (2, .int (l2 + r_4)), (0, .ref q_tx), (1, .ref q_fl), (4, .int l4)]) hx hb dX7_giveTo_79 rfl hl (by decide) rfl (fun ls hl => ?_)
          refine lv_iinc (v := (l4 + (1 : Int32))) (lv' := [(4, .int (l4 + (1 : Int32))), (3, .int (l3 + r_13)), (2, .int (l2 + r_4)), (0, .ref q_tx), (1, .ref q_fl)]) hx hb dX7_giveTo_80 hl (k := 4) rfl rfl (by decide) rfl (fun ls hl => ?_)
          refine lv_goto (tgt := 48) hx hb dX7_giveTo_83 (by decide) ?_
          exact ih ti sg vi_5 vj_6 vk vc_7 va_8 vpa_9 vb_10 vpb_11 (l2 + r_4) (l3 + r_13) (l4 + (1 : Int32)) _ _ _ hP hD hS (lv_sub hl [3, 4, 2, 1, 0] rfl) hm
  have J_34 : ∀ (k4 : (Nat → Int32) → (Nat → Int32) → (Nat → Int32) → (Nat → Int64) → (Nat → Int32) → (Nat → Int32) → (Nat → Int32) → (Nat → Int32) → (Nat → Int32) → (Nat → Int32) → Int32 → Int32 → Option (Int32 × (Nat → Int32) × (Nat → Int64) × (Nat → Int32) × (Nat → Int32) × (Nat → Int32) × (Nat → Int32) × (Nat → Int32) × (Nat → Int32))), (∀ (ti : Nat → Int32) (sg : Nat → Int32) (vi : Nat → Int32) (vj : Nat → Int64) (vk : Nat → Int32) (vc : Nat → Int32) (va : Nat → Int32) (vpa : Nat → Int32) (vb : Nat → Int32) (vpb : Nat → Int32) (l2 : Int32) (l3 : Int32) (H : Heap) (locs : List Loc) (ls : Array Slot), va_P (my_D Γ) vwCl (wText Γ q_tx q_sg ti sg ++ wFloor Γ q_fl q_k q_c q_a q_pa q_b q_pb vi vj vk vc va vpa vb vpb) H → va_D A (wText Γ q_tx q_sg ti sg ++ wFloor Γ q_fl q_k q_c q_a q_pa q_b q_pb vi vj vk vc va vpa vb vpb) → va_S A s.heap H locs → lv_has ls 5 [(0, .ref q_tx), (1, .ref q_fl), (2, .int l2), (3, .int l3)] → k4 ti sg vi vj vk vc va vpa vb vpb l2 l3 = (some (rr, vi_z, vj_z, vk_z, vc_z, va_z, vpa_z, vb_z, vpb_z)) → W p l e (headSpec wsX7_giveTo ({ frames := 5, cells := 0, slots := 0, locals := 113 } : Room)).room s m ([.ref q_tx, .ref q_fl] : List Value).toArray below meth c H locs 0 0 (MQ below (my_Q Γ A (some (.int rr)) (wText Γ q_tx q_sg ti sg ++ wFloor Γ q_fl q_k q_c q_a q_pa q_b q_pb vi_z vj_z vk_z vc_z va_z vpa_z vb_z vpb_z)) ([.ref q_tx, .ref q_fl] : List Value).toArray s 0 0 A) (F0 m 4 ls [])) → ∀ (ti : Nat → Int32) (sg : Nat → Int32) (vi : Nat → Int32) (vj : Nat → Int64) (vk : Nat → Int32) (vc : Nat → Int32) (va : Nat → Int32) (vpa : Nat → Int32) (vb : Nat → Int32) (vpb : Nat → Int32) (l3 : Int32) (s0 : Int32) (s1 : Int32) (H : Heap) (locs : List Loc) (ls : Array Slot), va_P (my_D Γ) vwCl (wText Γ q_tx q_sg ti sg ++ wFloor Γ q_fl q_k q_c q_a q_pa q_b q_pb vi vj vk vc va vpa vb vpb) H → va_D A (wText Γ q_tx q_sg ti sg ++ wFloor Γ q_fl q_k q_c q_a q_pa q_b q_pb vi vj vk vc va vpa vb vpb) → va_S A s.heap H locs → lv_has ls 5 [(0, .ref q_tx), (1, .ref q_fl), (3, .int l3)] → mX7_giveTo_J34 k4 ti sg vi vj vk vc va vpa vb vpb l3 s0 s1 = (some (rr, vi_z, vj_z, vk_z, vc_z, va_z, vpa_z, vb_z, vpb_z)) → W p l e (headSpec wsX7_giveTo ({ frames := 5, cells := 0, slots := 0, locals := 113 } : Room)).room s m ([.ref q_tx, .ref q_fl] : List Value).toArray below meth c H locs 0 0 (MQ below (my_Q Γ A (some (.int rr)) (wText Γ q_tx q_sg ti sg ++ wFloor Γ q_fl q_k q_c q_a q_pa q_b q_pb vi_z vj_z vk_z vc_z va_z vpa_z vb_z vpb_z)) ([.ref q_tx, .ref q_fl] : List Value).toArray s 0 0 A) (F0 m 34 ls [.int s1, .int s0]) := by
    intro k4 hk4 ti sg vi vj vk vc va vpa vb vpb l3 s0 s1 H locs ls hP hD hS hl hm
    unfold mX7_giveTo_J34 at hm
    refine lv_iadd hx hb dX7_giveTo_34 ?_
    refine lv_istore_n (lv' := [(2, .int (s0 + s1)), (0, .ref q_tx), (1, .ref q_fl), (3, .int l3)]) hx hb dX7_giveTo_35 rfl hl (by decide) rfl (fun ls hl => ?_)
    refine lv_iinc (v := (l3 + (1 : Int32))) (lv' := [(3, .int (l3 + (1 : Int32))), (2, .int (s0 + s1)), (0, .ref q_tx), (1, .ref q_fl)]) hx hb dX7_giveTo_36 hl (k := 3) rfl rfl (by decide) rfl (fun ls hl => ?_)
    refine lv_goto (tgt := 4) hx hb dX7_giveTo_39 (by decide) ?_
    exact hk4 ti sg vi vj vk vc va vpa vb vpb (s0 + s1) (l3 + (1 : Int32)) _ _ _ hP hD hS (lv_sub hl [2, 3, 1, 0] rfl) hm
  have J_4 : ∀ n : Nat, ∀ (ti : Nat → Int32) (sg : Nat → Int32) (vi : Nat → Int32) (vj : Nat → Int64) (vk : Nat → Int32) (vc : Nat → Int32) (va : Nat → Int32) (vpa : Nat → Int32) (vb : Nat → Int32) (vpb : Nat → Int32) (l2 : Int32) (l3 : Int32) (H : Heap) (locs : List Loc) (ls : Array Slot), va_P (my_D Γ) vwCl (wText Γ q_tx q_sg ti sg ++ wFloor Γ q_fl q_k q_c q_a q_pa q_b q_pb vi vj vk vc va vpa vb vpb) H → va_D A (wText Γ q_tx q_sg ti sg ++ wFloor Γ q_fl q_k q_c q_a q_pa q_b q_pb vi vj vk vc va vpa vb vpb) → va_S A s.heap H locs → lv_has ls 5 [(0, .ref q_tx), (1, .ref q_fl), (2, .int l2), (3, .int l3)] → mX7_giveTo_L4 n ti sg vi vj vk vc va vpa vb vpb l2 l3 = (some (rr, vi_z, vj_z, vk_z, vc_z, va_z, vpa_z, vb_z, vpb_z)) → W p l e (headSpec wsX7_giveTo ({ frames := 5, cells := 0, slots := 0, locals := 113 } : Room)).room s m ([.ref q_tx, .ref q_fl] : List Value).toArray below meth c H locs 0 0 (MQ below (my_Q Γ A (some (.int rr)) (wText Γ q_tx q_sg ti sg ++ wFloor Γ q_fl q_k q_c q_a q_pa q_b q_pb vi_z vj_z vk_z vc_z va_z vpa_z vb_z vpb_z)) ([.ref q_tx, .ref q_fl] : List Value).toArray s 0 0 A) (F0 m 4 ls []) := by
    intro  n
    induction n with
    | zero => intro ti sg vi vj vk vc va vpa vb vpb l2 l3 H locs ls hP hD hS hl hm; cases hm
    | succ n ih =>
      intro ti sg vi vj vk vc va vpa vb vpb l2 l3 H locs ls hP hD hS hl hm
      unfold mX7_giveTo_L4 at hm
      refine lv_iload_n hx hb dX7_giveTo_4 rfl (lv_at hl 3 rfl) ?_
      refine lv_bipush (v := (36 : Int32)) hx hb dX7_giveTo_5 (by decide) ?_
      refine lv_icmp_ge (tgt := 42) hx hb dX7_giveTo_7 (by decide) (fun c_1 => ?_) (fun c_1 => ?_)
      · replace hm := if_s hm c_1
        refine lv_bipush (v := (37 : Int32)) hx hb dX7_giveTo_42 (by decide) ?_
        refine lv_istore_n (lv' := [(3, .int (37 : Int32)), (0, .ref q_tx), (1, .ref q_fl), (2, .int l2)]) hx hb dX7_giveTo_44 rfl hl (by decide) rfl (fun ls hl => ?_)
        refine lv_iconst (v := (0 : Int32)) hx hb dX7_giveTo_45 (by decide) ?_
        refine lv_istore (lv' := [(4, .int (0 : Int32)), (3, .int (37 : Int32)), (0, .ref q_tx), (1, .ref q_fl), (2, .int l2)]) hx hb dX7_giveTo_46 hl (by decide) rfl (fun ls hl => ?_)
        exact J_48 4096 ti sg vi vj vk vc va vpa vb vpb l2 (37 : Int32) (0 : Int32) _ _ _ hP hD hS (lv_sub hl [2, 3, 4, 1, 0] rfl) hm
      · replace hm := if_f hm c_1
        refine lv_iload_n hx hb dX7_giveTo_10 rfl (lv_at hl 2 rfl) ?_
        refine lv_aload_n hx hb dX7_giveTo_11 rfl (lv_at hl 1 rfl) ?_
        refine lv_iload_n hx hb dX7_giveTo_12 rfl (lv_at hl 3 rfl) ?_
        refine lv_aload_n hx hb dX7_giveTo_13 rfl (lv_at hl 0 rfl) ?_
        refine lv_iconst (v := (1 : Int32)) hx hb dX7_giveTo_14 (by decide) ?_
        refine lv_iload_n hx hb dX7_giveTo_15 rfl (lv_at hl 3 rfl) ?_
        refine lv_iadd hx hb dX7_giveTo_16 ?_
        refine my_call1 (wc := (wText Γ q_tx q_sg ti sg)) (w1 := (wText Γ q_tx q_sg ti sg)) (ws1 := (wText Γ q_tx q_sg ti sg ++ wFloor Γ q_fl q_k q_c q_a q_pa q_b q_pb vi vj vk vc va vpa vb vpb)) hP hD hS hA [0, 1] rfl rfl rfl (va_runV (As := [.int ((1 : Int32) + l3)]) (rest := [.int l3, .ref q_fl, .int l2]) ⟨hx, hb, hml, hown, hts⟩ (kX7_signAt l Γ q_tx q_sg ti sg ((1 : Int32) + l3) (mX7_signAt ti sg ((1 : Int32) + l3)) rfl _) (cwV 1 hts gX7_giveTo_X7_signAt rfl rfl rfl (by decide +kernel) ⟨Nat.le_of_ble_eq_true rfl, Nat.le_of_ble_eq_true rfl⟩) (my_preV (wc := (wText Γ q_tx q_sg ti sg)) (ci := 5) (q0 := 0) [0, 1] hK hP hD rfl rfl rfl rfl) rfl rfl hl.1 rfl (lv_room (Nat.le_of_ble_eq_true rfl)) dX7_giveTo_17 ⟨Nat.le_of_ble_eq_true rfl, Nat.le_of_ble_eq_true rfl⟩) (fun H locs hP hD hS => ?_)
        refine my_call1 (wc := ([] : va_W)) (w1 := ([] : va_W)) (ws1 := (wText Γ q_tx q_sg ti sg ++ wFloor Γ q_fl q_k q_c q_a q_pa q_b q_pb vi vj vk vc va vpa vb vpb)) hP hD hS hA [] rfl rfl rfl (va_runS (As := [.int (mX7_signAt ti sg ((1 : Int32) + l3))]) (rest := [.int l3, .ref q_fl, .int l2]) ⟨hx, hb, hml, hown, hts⟩ (kX7_kindOfSign l Γ (mX7_signAt ti sg ((1 : Int32) + l3)) (mX7_kindOfSign (mX7_signAt ti sg ((1 : Int32) + l3))) rfl _) (va_cwS 1 hts gX7_giveTo_X7_kindOfSign rfl rfl rfl (by decide +kernel) ⟨Nat.le_of_ble_eq_true rfl, Nat.le_of_ble_eq_true rfl⟩) (my_preS (wc := ([] : va_W)) [] hK hP hD rfl rfl) rfl rfl hl.1 rfl (lv_room (Nat.le_of_ble_eq_true rfl)) dX7_giveTo_20 ⟨Nat.le_of_ble_eq_true rfl, Nat.le_of_ble_eq_true rfl⟩) (fun H locs hP hD hS => ?_)
        obtain ⟨r_15, vj_16, vk_17, hc_18, hm⟩ := bo3_s hm
        refine my_call1 (wc := (wFloor Γ q_fl q_k q_c q_a q_pa q_b q_pb vi vj vk vc va vpa vb vpb)) (w1 := (wFloor Γ q_fl q_k q_c q_a q_pa q_b q_pb vi vj_16 vk_17 vc va vpa vb vpb)) (ws1 := (wText Γ q_tx q_sg ti sg ++ wFloor Γ q_fl q_k q_c q_a q_pa q_b q_pb vi vj_16 vk_17 vc va vpa vb vpb)) hP hD hS hA [2, 3, 4, 5, 6, 7, 8] rfl rfl rfl (va_runV (As := [.int l3, .int (mX7_kindOfSign (mX7_signAt ti sg ((1 : Int32) + l3)))]) (rest := [.int l2]) ⟨hx, hb, hml, hown, hts⟩ (kX1_giveKind l Γ q_fl q_k q_c q_a q_pa q_b q_pb vi vj vk vc va vpa vb vpb l3 (mX7_kindOfSign (mX7_signAt ti sg ((1 : Int32) + l3))) r_15 vj_16 vk_17 hc_18 _) (cwV 2 hts gX7_giveTo_X1_giveKind rfl rfl rfl (by decide +kernel) ⟨Nat.le_of_ble_eq_true rfl, Nat.le_of_ble_eq_true rfl⟩) (my_preV (wc := (wFloor Γ q_fl q_k q_c q_a q_pa q_b q_pb vi vj vk vc va vpa vb vpb)) (ci := 1) (q0 := 2) [2, 3, 4, 5, 6, 7, 8] hK hP hD rfl rfl rfl rfl) rfl rfl hl.1 rfl (lv_room (Nat.le_of_ble_eq_true rfl)) dX7_giveTo_23 ⟨Nat.le_of_ble_eq_true rfl, Nat.le_of_ble_eq_true rfl⟩) (fun H locs hP hD hS => ?_)
        refine lv_if_eq (tgt := 33) hx hb dX7_giveTo_26 (by decide) (fun c_19 => ?_) (fun c_19 => ?_)
        · replace hm := if_s hm c_19
          refine lv_iconst (v := (1 : Int32)) hx hb dX7_giveTo_33 (by decide) ?_
          exact J_34 (fun ti sg vi vj vk vc va vpa vb vpb l2 l3 => mX7_giveTo_L4 n ti sg vi vj vk vc va vpa vb vpb l2 l3) ih ti sg vi vj_16 vk_17 vc va vpa vb vpb l3 l2 (1 : Int32) _ _ _ hP hD hS (lv_sub hl [0, 1, 3] rfl) hm
        · replace hm := if_f hm c_19
          refine lv_iconst (v := (0 : Int32)) hx hb dX7_giveTo_29 (by decide) ?_
          refine lv_goto (tgt := 34) hx hb dX7_giveTo_30 (by decide) ?_
          exact J_34 (fun ti sg vi vj vk vc va vpa vb vpb l2 l3 => mX7_giveTo_L4 n ti sg vi vj vk vc va vpa vb vpb l2 l3) ih ti sg vi vj_16 vk_17 vc va vpa vb vpb l3 l2 (0 : Int32) _ _ _ hP hD hS (lv_sub hl [0, 1, 3] rfl) hm
  unfold mX7_giveTo at hm
  refine lv_iconst (v := (0 : Int32)) hx hb dX7_giveTo_0 (by decide) ?_
  refine lv_istore_n (lv' := [(2, .int (0 : Int32)), (0, .ref q_tx), (1, .ref q_fl)]) hx hb dX7_giveTo_1 rfl hl (by decide) rfl (fun ls hl => ?_)
  refine lv_iconst (v := (0 : Int32)) hx hb dX7_giveTo_2 (by decide) ?_
  refine lv_istore_n (lv' := [(3, .int (0 : Int32)), (2, .int (0 : Int32)), (0, .ref q_tx), (1, .ref q_fl)]) hx hb dX7_giveTo_3 rfl hl (by decide) rfl (fun ls hl => ?_)
  exact J_4 4096 ti sg vi vj vk vc va vpa vb vpb (0 : Int32) (0 : Int32) _ _ _ hP hD hS (lv_sub hl [2, 3, 1, 0] rfl) hm
