def mX6_wayFrom_L17  : Nat → (Nat → Int64) → (Nat → Int32) → (Nat → Int32) → (Nat → Int32) → Int32 → Int64 → Int64 → Int32 → Int32 → Option (Int64)
  | 0, _, _, _, _, _, _, _, _, _ => none
  | n + 1, vj, vk, va, vb, l2, l3, l5, l7, l8 => (if (6 : Int32) ≤ l8 then (some (0 : Int64)) else (if (mX1_kindAt vk (mX2_beside l7 l2)) = (1 : Int32) then (some (0 : Int64)) else (if (mX2_holds l3 (mX2_beside l7 l2)) = 0 then (some (l5 ||| (mX2_setOf (mX2_beside l7 l2)))) else (mX6_wayFrom_L17 n vj vk va vb l2 l3 (l5 ||| (mX2_setOf (mX2_beside l7 l2))) (mX2_beside l7 l2) (l8 + (1 : Int32))))))
def mX6_wayFrom (vj : Nat → Int64) (vk : Nat → Int32) (va : Nat → Int32) (vb : Nat → Int32) (x1 : Int32) (x2 : Int32) : Option (Int64) := (mX6_wayFrom_L17 4096 vj vk va vb x2 (mX1_things vj va vb) (mX2_setOf x1) x1 (1 : Int32))
set_option maxHeartbeats 4000000 in
set_option maxRecDepth 100000 in
theorem kX6_wayFrom (l : Launch) (Γ : my_G) (q_fl q_k q_c q_a q_pa q_b q_pb : Nat) (vi : Nat → Int32) (vj : Nat → Int64) (vk : Nat → Int32) (vc : Nat → Int32) (va : Nat → Int32) (vpa : Nat → Int32) (vb : Nat → Int32) (vpb : Nat → Int32) (x1 : Int32) (x2 : Int32) (rr : Int64) (hm : mX6_wayFrom vj vk va vb x1 x2 = (some rr)) : Mn l yX6_wayFrom wsX6_wayFrom ({ frames := 2, cells := 0, slots := 0, locals := 40 } : Room) Γ [.ref q_fl, .int x1, .int x2] (wFloor Γ q_fl q_k q_c q_a q_pa q_b q_pb vi vj vk vc va vpa vb vpb) (some (.long rr)) (wFloor Γ q_fl q_k q_c q_a q_pa q_b q_pb vi vj vk vc va vpa vb vpb) := by
  intro sz
  refine Met.ofW (cc := cX6_wayFrom) (maxL := 9) (ret := (some .long)) (by decide) rfl ?_
  intro p e s m args below meth c s₁ B hml hv
  obtain ⟨rfl, hsz, hP, hK, hD0⟩ := hv
  have hx := B.exec
  have hb := B.bytes
  have hr := B.returns
  have hts := atoms_spec (ws := wsX6_wayFrom) B.pre
  have hown : s.vm.findClass RX6 = some m.cls := findClass_of_methodNamed B.named
  have hlocks := B.notSynchronized
  have hinX1 : ∀ w ∈ u_ws RX1 TX1 12, w ∈ wsX6_wayFrom := fun w h => List.mem_cons_of_mem _ (List.mem_append_left _ (List.mem_append_right _ h))
  have hinX4 : ∀ w ∈ u_ws RX4 TX4 10, w ∈ wsX6_wayFrom := fun w h => List.mem_cons_of_mem _ (List.mem_append_right _ h)
  subst hsz
  have hD := hD0.self (sz := s.heap.size)
  have hA : ∀ q : Nat, s.heap.size ≤ q → va_A (wFloor Γ q_fl q_k q_c q_a q_pa q_b q_pb vi vj vk vc va vpa vb vpb) s.heap.size q := fun q h => Or.inr h
  generalize va_A (wFloor Γ q_fl q_k q_c q_a q_pa q_b q_pb vi vj vk vc va vpa vb vpb) s.heap.size = A at hD hA ⊢
  have hS : va_S A s.heap s.heap [] := va_S.rf
  have hl := lv_entry ([.ref q_fl, .int x1, .int x2]) (n := 9) (Nat.le_of_ble_eq_true rfl)
  rw [lg_entry_eq]
  generalize (lg_sl ([.ref q_fl, .int x1, .int x2]) ++ List.replicate (9 - (lg_sl ([.ref q_fl, .int x1, .int x2])).length) Slot.unset).toArray = ls at hl ⊢
  replace hl : lv_has ls 9 [(0, .ref q_fl), (1, .int x1), (2, .int x2)] := hl
  have J_17 : ∀ n : Nat, ∀ (vj : Nat → Int64) (vk : Nat → Int32) (va : Nat → Int32) (vb : Nat → Int32) (l2 : Int32) (l3 : Int64) (l5 : Int64) (l7 : Int32) (l8 : Int32) (H : Heap) (locs : List Loc) (ls : Array Slot), va_P (my_D Γ) vwCl (wFloor Γ q_fl q_k q_c q_a q_pa q_b q_pb vi vj vk vc va vpa vb vpb) H → va_D A (wFloor Γ q_fl q_k q_c q_a q_pa q_b q_pb vi vj vk vc va vpa vb vpb) → va_S A s.heap H locs → lv_has ls 9 [(0, .ref q_fl), (2, .int l2), (3, .long l3), (5, .long l5), (7, .int l7), (8, .int l8)] → mX6_wayFrom_L17 n vj vk va vb l2 l3 l5 l7 l8 = (some rr) → W p l e (headSpec wsX6_wayFrom ({ frames := 2, cells := 0, slots := 0, locals := 40 } : Room)).room s m ([.ref q_fl, .int x1, .int x2] : List Value).toArray below meth c H locs 0 0 (MQ below (my_Q Γ A (some (.long rr)) (wFloor Γ q_fl q_k q_c q_a q_pa q_b q_pb vi vj vk vc va vpa vb vpb)) ([.ref q_fl, .int x1, .int x2] : List Value).toArray s 0 0 A) (F0 m 17 ls []) := by
    intro  n
    induction n with
    | zero => intro vj vk va vb l2 l3 l5 l7 l8 H locs ls hP hD hS hl hm; cases hm
    | succ n ih =>
      intro vj vk va vb l2 l3 l5 l7 l8 H locs ls hP hD hS hl hm
      unfold mX6_wayFrom_L17 at hm
      refine lv_iload hx hb dX6_wayFrom_17 (lv_at hl 5 rfl) ?_
      refine lv_bipush (v := (6 : Int32)) hx hb dX6_wayFrom_19 (by decide) ?_
      refine lv_icmp_ge (tgt := 72) hx hb dX6_wayFrom_21 (by decide) (fun c_1 => ?_) (fun c_1 => ?_)
      · replace hm := if_s hm c_1
        refine lv_lconst (v := (0 : Int64)) hx hb dX6_wayFrom_72 (by decide) ?_
        obtain hf0 := Option.some.inj hm
        subst hf0
        exact W.lret (v := (0 : Int64)) hx hb hr (fun t ht hW => ⟨⟨rfl, by rw [ht]; exact hP⟩, hS.F ht⟩) hS.2.2 dX6_wayFrom_73
      · replace hm := if_f hm c_1
        refine lv_iload hx hb dX6_wayFrom_24 (lv_at hl 4 rfl) ?_
        refine lv_iload_n hx hb dX6_wayFrom_26 rfl (lv_at hl 1 rfl) ?_
        refine my_call1 (wc := ([] : va_W)) (w1 := ([] : va_W)) (ws1 := (wFloor Γ q_fl q_k q_c q_a q_pa q_b q_pb vi vj vk vc va vpa vb vpb)) hP hD hS hA [] rfl rfl rfl (va_runS (As := [.int l7, .int l2]) (rest := []) ⟨hx, hb, hml, hown, hts⟩ (kX2_beside l Γ l7 l2 (mX2_beside l7 l2) rfl _) (va_cwS 2 hts gX6_wayFrom_X2_beside rfl rfl rfl (by decide +kernel) ⟨Nat.le_of_ble_eq_true rfl, Nat.le_of_ble_eq_true rfl⟩) (my_preS (wc := ([] : va_W)) [] hK hP hD rfl rfl) rfl rfl hl.1 rfl (lv_room (Nat.le_of_ble_eq_true rfl)) dX6_wayFrom_27 ⟨Nat.le_of_ble_eq_true rfl, Nat.le_of_ble_eq_true rfl⟩) (fun H locs hP hD hS => ?_)
        refine lv_istore (lv' := [(7, .int (mX2_beside l7 l2)), (0, .ref q_fl), (2, .int l2), (3, .long l3), (5, .long l5), (8, .int l8)]) hx hb dX6_wayFrom_30 hl (by decide) rfl (fun ls hl => ?_)
        refine lv_aload_n hx hb dX6_wayFrom_32 rfl (lv_at hl 1 rfl) ?_
        refine lv_iload hx hb dX6_wayFrom_33 (lv_at hl 0 rfl) ?_
        refine my_call1 (wc := (wFloor Γ q_fl q_k q_c q_a q_pa q_b q_pb vi vj vk vc va vpa vb vpb)) (w1 := (wFloor Γ q_fl q_k q_c q_a q_pa q_b q_pb vi vj vk vc va vpa vb vpb)) (ws1 := (wFloor Γ q_fl q_k q_c q_a q_pa q_b q_pb vi vj vk vc va vpa vb vpb)) hP hD hS hA [0, 1, 2, 3, 4, 5, 6] rfl rfl rfl (va_runV (As := [.int (mX2_beside l7 l2)]) (rest := []) ⟨hx, hb, hml, hown, hts⟩ (kX1_kindAt l Γ q_fl q_k q_c q_a q_pa q_b q_pb vi vj vk vc va vpa vb vpb (mX2_beside l7 l2) (mX1_kindAt vk (mX2_beside l7 l2)) rfl _) (cwV 1 hts gX6_wayFrom_X1_kindAt rfl rfl rfl (by decide +kernel) ⟨Nat.le_of_ble_eq_true rfl, Nat.le_of_ble_eq_true rfl⟩) (my_preV (wc := (wFloor Γ q_fl q_k q_c q_a q_pa q_b q_pb vi vj vk vc va vpa vb vpb)) (ci := 1) (q0 := 0) [0, 1, 2, 3, 4, 5, 6] hK hP hD rfl rfl rfl rfl) rfl rfl hl.1 rfl (lv_room (Nat.le_of_ble_eq_true rfl)) dX6_wayFrom_35 ⟨Nat.le_of_ble_eq_true rfl, Nat.le_of_ble_eq_true rfl⟩) (fun H locs hP hD hS => ?_)
        refine lv_iconst (v := (1 : Int32)) hx hb dX6_wayFrom_38 (by decide) ?_
        refine lv_icmp_ne (tgt := 44) hx hb dX6_wayFrom_39 (by decide) (fun c_2 => ?_) (fun c_2 => ?_)
        · replace hm := if_f hm c_2
          refine lv_lload hx hb dX6_wayFrom_44 (lv_at hl 4 rfl) ?_
          refine lv_iload hx hb dX6_wayFrom_46 (lv_at hl 0 rfl) ?_
          refine my_call1 (wc := ([] : va_W)) (w1 := ([] : va_W)) (ws1 := (wFloor Γ q_fl q_k q_c q_a q_pa q_b q_pb vi vj vk vc va vpa vb vpb)) hP hD hS hA [] rfl rfl rfl (va_runS (As := [.int (mX2_beside l7 l2)]) (rest := [.long l5]) ⟨hx, hb, hml, hown, hts⟩ (kX2_setOf l Γ (mX2_beside l7 l2) (mX2_setOf (mX2_beside l7 l2)) rfl _) (va_cwS 1 hts gX6_wayFrom_X2_setOf rfl rfl rfl (by decide +kernel) ⟨Nat.le_of_ble_eq_true rfl, Nat.le_of_ble_eq_true rfl⟩) (my_preS (wc := ([] : va_W)) [] hK hP hD rfl rfl) rfl rfl hl.1 rfl (lv_room (Nat.le_of_ble_eq_true rfl)) dX6_wayFrom_48 ⟨Nat.le_of_ble_eq_true rfl, Nat.le_of_ble_eq_true rfl⟩) (fun H locs hP hD hS => ?_)
          refine lv_lor hx hb dX6_wayFrom_51 ?_
          refine lv_lstore (lv' := [(5, .long (l5 ||| (mX2_setOf (mX2_beside l7 l2)))), (7, .int (mX2_beside l7 l2)), (0, .ref q_fl), (2, .int l2), (3, .long l3), (8, .int l8)]) hx hb dX6_wayFrom_52 hl (by decide) rfl (fun ls hl => ?_)
          refine lv_lload_n hx hb dX6_wayFrom_54 rfl (lv_at hl 4 rfl) ?_
          refine lv_iload hx hb dX6_wayFrom_55 (lv_at hl 1 rfl) ?_
          refine my_call1 (wc := ([] : va_W)) (w1 := ([] : va_W)) (ws1 := (wFloor Γ q_fl q_k q_c q_a q_pa q_b q_pb vi vj vk vc va vpa vb vpb)) hP hD hS hA [] rfl rfl rfl (va_runS (As := [.long l3, .int (mX2_beside l7 l2)]) (rest := []) ⟨hx, hb, hml, hown, hts⟩ (kX2_holds l Γ l3 (mX2_beside l7 l2) (mX2_holds l3 (mX2_beside l7 l2)) rfl _) (va_cwS 2 hts gX6_wayFrom_X2_holds rfl rfl rfl (by decide +kernel) ⟨Nat.le_of_ble_eq_true rfl, Nat.le_of_ble_eq_true rfl⟩) (my_preS (wc := ([] : va_W)) [] hK hP hD rfl rfl) rfl rfl hl.1 rfl (lv_room (Nat.le_of_ble_eq_true rfl)) dX6_wayFrom_57 ⟨Nat.le_of_ble_eq_true rfl, Nat.le_of_ble_eq_true rfl⟩) (fun H locs hP hD hS => ?_)
          refine lv_if_ne (tgt := 66) hx hb dX6_wayFrom_60 (by decide) (fun c_3 => ?_) (fun c_3 => ?_)
          · replace hm := if_f hm c_3
            refine lv_iinc (v := (l8 + (1 : Int32))) (lv' := [(8, .int (l8 + (1 : Int32))), (5, .long (l5 ||| (mX2_setOf (mX2_beside l7 l2)))), (7, .int (mX2_beside l7 l2)), (0, .ref q_fl), (2, .int l2), (3, .long l3)]) hx hb dX6_wayFrom_66 hl (k := 5) rfl rfl (by decide) rfl (fun ls hl => ?_)
            refine lv_goto (tgt := 17) hx hb dX6_wayFrom_69 (by decide) ?_
            exact ih vj vk va vb l2 l3 (l5 ||| (mX2_setOf (mX2_beside l7 l2))) (mX2_beside l7 l2) (l8 + (1 : Int32)) _ _ _ hP hD hS (lv_sub hl [3, 4, 5, 1, 2, 0] rfl) hm
          · replace hm := if_s hm c_3
            refine lv_lload hx hb dX6_wayFrom_63 (lv_at hl 0 rfl) ?_
            obtain hf0 := Option.some.inj hm
            subst hf0
            exact W.lret (v := (l5 ||| (mX2_setOf (mX2_beside l7 l2)))) hx hb hr (fun t ht hW => ⟨⟨rfl, by rw [ht]; exact hP⟩, hS.F ht⟩) hS.2.2 dX6_wayFrom_65
        · replace hm := if_s hm c_2
          refine lv_lconst (v := (0 : Int64)) hx hb dX6_wayFrom_42 (by decide) ?_
          obtain hf0 := Option.some.inj hm
          subst hf0
          exact W.lret (v := (0 : Int64)) hx hb hr (fun t ht hW => ⟨⟨rfl, by rw [ht]; exact hP⟩, hS.F ht⟩) hS.2.2 dX6_wayFrom_43
  unfold mX6_wayFrom at hm
  refine lv_aload_n hx hb dX6_wayFrom_0 rfl (lv_at hl 0 rfl) ?_
  refine my_call1 (wc := (wFloor Γ q_fl q_k q_c q_a q_pa q_b q_pb vi vj vk vc va vpa vb vpb)) (w1 := (wFloor Γ q_fl q_k q_c q_a q_pa q_b q_pb vi vj vk vc va vpa vb vpb)) (ws1 := (wFloor Γ q_fl q_k q_c q_a q_pa q_b q_pb vi vj vk vc va vpa vb vpb)) hP hD hS hA [0, 1, 2, 3, 4, 5, 6] rfl rfl rfl (va_runV (As := []) (rest := []) ⟨hx, hb, hml, hown, hts⟩ (kX1_things l Γ q_fl q_k q_c q_a q_pa q_b q_pb vi vj vk vc va vpa vb vpb (mX1_things vj va vb) rfl _) (cwV 0 hts gX6_wayFrom_X1_things rfl rfl rfl (by decide +kernel) ⟨Nat.le_of_ble_eq_true rfl, Nat.le_of_ble_eq_true rfl⟩) (my_preV (wc := (wFloor Γ q_fl q_k q_c q_a q_pa q_b q_pb vi vj vk vc va vpa vb vpb)) (ci := 1) (q0 := 0) [0, 1, 2, 3, 4, 5, 6] hK hP hD rfl rfl rfl rfl) rfl rfl hl.1 rfl (lv_room (Nat.le_of_ble_eq_true rfl)) dX6_wayFrom_1 ⟨Nat.le_of_ble_eq_true rfl, Nat.le_of_ble_eq_true rfl⟩) (fun H locs hP hD hS => ?_)
  refine lv_lstore_n (lv' := [(3, .long (mX1_things vj va vb)), (0, .ref q_fl), (1, .int x1), (2, .int x2)]) hx hb dX6_wayFrom_4 rfl hl (by decide) rfl (fun ls hl => ?_)
  refine lv_iload_n hx hb dX6_wayFrom_5 rfl (lv_at hl 2 rfl) ?_
  refine my_call1 (wc := ([] : va_W)) (w1 := ([] : va_W)) (ws1 := (wFloor Γ q_fl q_k q_c q_a q_pa q_b q_pb vi vj vk vc va vpa vb vpb)) hP hD hS hA [] rfl rfl rfl (va_runS (As := [.int x1]) (rest := []) ⟨hx, hb, hml, hown, hts⟩ (kX2_setOf l Γ x1 (mX2_setOf x1) rfl _) (va_cwS 1 hts gX6_wayFrom_X2_setOf rfl rfl rfl (by decide +kernel) ⟨Nat.le_of_ble_eq_true rfl, Nat.le_of_ble_eq_true rfl⟩) (my_preS (wc := ([] : va_W)) [] hK hP hD rfl rfl) rfl rfl hl.1 rfl (lv_room (Nat.le_of_ble_eq_true rfl)) dX6_wayFrom_6 ⟨Nat.le_of_ble_eq_true rfl, Nat.le_of_ble_eq_true rfl⟩) (fun H locs hP hD hS => ?_)
  refine lv_lstore (lv' := [(5, .long (mX2_setOf x1)), (3, .long (mX1_things vj va vb)), (0, .ref q_fl), (1, .int x1), (2, .int x2)]) hx hb dX6_wayFrom_9 hl (by decide) rfl (fun ls hl => ?_)
  refine lv_iload_n hx hb dX6_wayFrom_11 rfl (lv_at hl 3 rfl) ?_
  refine lv_istore (lv' := [(7, .int x1), (5, .long (mX2_setOf x1)), (3, .long (mX1_things vj va vb)), (0, .ref q_fl), (1, .int x1), (2, .int x2)]) hx hb dX6_wayFrom_12 hl (by decide) rfl (fun ls hl => ?_)
  refine lv_iconst (v := (1 : Int32)) hx hb dX6_wayFrom_14 (by decide) ?_
  refine lv_istore (lv' := [(8, .int (1 : Int32)), (7, .int x1), (5, .long (mX2_setOf x1)), (3, .long (mX1_things vj va vb)), (0, .ref q_fl), (1, .int x1), (2, .int x2)]) hx hb dX6_wayFrom_15 hl (by decide) rfl (fun ls hl => ?_)
  exact J_17 4096 vj vk va vb x2 (mX1_things vj va vb) (mX2_setOf x1) x1 (1 : Int32) _ _ _ hP hD hS (lv_sub hl [4, 6, 3, 2, 1, 0] rfl) hm
def mX6_clash (x0 : Int64) (x1 : Int64) : Int32 := (if (lg_cmp (x0 &&& x1) (0 : Int64)) = 0 then (0 : Int32) else (1 : Int32))
theorem nbX6_clash (x0 : Int64) (x1 : Int64) : narrow .boolean (.int (mX6_clash x0 x1)) = .int (mX6_clash x0 x1) := by
  unfold mX6_clash
  repeat' split
  all_goals rfl
set_option maxHeartbeats 4000000 in
set_option maxRecDepth 100000 in
theorem kX6_clash (l : Launch) (Γ : my_G)   (x0 : Int64) (x1 : Int64) (rr : Int32) (hm : mX6_clash x0 x1 = rr) : Mn l yX6_clash wsX6_clash ({ frames := 0, cells := 0, slots := 0, locals := 0 } : Room) Γ [.long x0, .long x1] ([] : va_W) (some (.int rr)) ([] : va_W) := by
  intro sz
  refine Met.ofW (cc := cX6_clash) (maxL := 4) (ret := (some .boolean)) (by decide) rfl ?_
  intro p e s m args below meth c s₁ B hml hv
  obtain ⟨rfl, hsz, hP, hK, hD0⟩ := hv
  have hx := B.exec
  have hb := B.bytes
  have hr := B.returns
  have hts := atoms_spec (ws := wsX6_clash) B.pre
  have hown : s.vm.findClass RX6 = some m.cls := findClass_of_methodNamed B.named
  have hlocks := B.notSynchronized
  subst hsz
  have hD := hD0.self (sz := s.heap.size)
  have hA : ∀ q : Nat, s.heap.size ≤ q → va_A ([] : va_W) s.heap.size q := fun q h => Or.inr h
  generalize va_A ([] : va_W) s.heap.size = A at hD hA ⊢
  have hS : va_S A s.heap s.heap [] := va_S.rf
  have hl := lv_entry ([.long x0, .long x1]) (n := 4) (Nat.le_of_ble_eq_true rfl)
  rw [lg_entry_eq]
  generalize (lg_sl ([.long x0, .long x1]) ++ List.replicate (4 - (lg_sl ([.long x0, .long x1])).length) Slot.unset).toArray = ls at hl ⊢
  replace hl : lv_has ls 4 [(0, .long x0), (2, .long x1)] := hl
  unfold mX6_clash at hm
  refine lv_lload_n hx hb dX6_clash_0 rfl (lv_at hl 0 rfl) ?_
  refine lv_lload_n hx hb dX6_clash_1 rfl (lv_at hl 1 rfl) ?_
  refine lv_land hx hb dX6_clash_2 ?_
  refine lv_lconst (v := (0 : Int64)) hx hb dX6_clash_3 (by decide) ?_
  refine W.lcmp hx hb dX6_clash_4 ?_
  refine lv_if_eq (tgt := 12) hx hb dX6_clash_5 (by decide) (fun c_1 => ?_) (fun c_1 => ?_)
  · replace hm := if_s hm c_1
    refine lv_iconst (v := (0 : Int32)) hx hb dX6_clash_12 (by decide) ?_
    have hf0 := hm
    subst hf0
    exact W.zret (v := (0 : Int32)) hx hb hr rfl (fun t ht hW => ⟨⟨rfl, by rw [ht]; exact hP⟩, hS.F ht⟩) hS.2.2 dX6_clash_13
  · replace hm := if_f hm c_1
    refine lv_iconst (v := (1 : Int32)) hx hb dX6_clash_8 (by decide) ?_
    refine lv_goto (tgt := 13) hx hb dX6_clash_9 (by decide) ?_
    have hf0 := hm
    subst hf0
    exact W.zret (v := (1 : Int32)) hx hb hr rfl (fun t ht hW => ⟨⟨rfl, by rw [ht]; exact hP⟩, hS.F ht⟩) hS.2.2 dX6_clash_13
def mX6_rowOf_a (vj : Nat → Int64) (va : Nat → Int32) (vb : Nat → Int32) (x2 : Int64) : Int64 := ((x2 &&& (mX1_things vj va vb)) &&& ((mX2_setOf (va 0)) ^^^ (-1 : Int64)))
set_option maxHeartbeats 4000000 in
set_option maxRecDepth 100000 in
theorem kX6_rowOf_a (l : Launch) (Γ : my_G) (q_fl q_k q_c q_a q_pa q_b q_pb : Nat) (vi : Nat → Int32) (vj : Nat → Int64) (vk : Nat → Int32) (vc : Nat → Int32) (va : Nat → Int32) (vpa : Nat → Int32) (vb : Nat → Int32) (vpb : Nat → Int32) (x2 : Int64) (rr : Int64) (hm : mX6_rowOf_a vj va vb x2 = rr) : Mn l yX6_rowOf wsX6_rowOf ({ frames := 2, cells := 0, slots := 0, locals := 40 } : Room) Γ [.ref q_fl, .ref q_a, .long x2] (wFloor Γ q_fl q_k q_c q_a q_pa q_b q_pb vi vj vk vc va vpa vb vpb) (some (.long rr)) (wFloor Γ q_fl q_k q_c q_a q_pa q_b q_pb vi vj vk vc va vpa vb vpb) := by
  intro sz
  refine Met.ofW (cc := cX6_rowOf) (maxL := 4) (ret := (some .long)) (by decide) rfl ?_
  intro p e s m args below meth c s₁ B hml hv
  obtain ⟨rfl, hsz, hP, hK, hD0⟩ := hv
  have hx := B.exec
  have hb := B.bytes
  have hr := B.returns
  have hts := atoms_spec (ws := wsX6_rowOf) B.pre
  have hown : s.vm.findClass RX6 = some m.cls := findClass_of_methodNamed B.named
  have hlocks := B.notSynchronized
  have hinX1 : ∀ w ∈ u_ws RX1 TX1 12, w ∈ wsX6_rowOf := fun w h => List.mem_cons_of_mem _ (List.mem_append_right _ h)
  have hinX4 : ∀ w ∈ u_ws RX4 TX4 10, w ∈ wsX6_rowOf := fun w h => List.mem_cons_of_mem _ (List.mem_append_left _ (List.mem_append_right _ h))
  subst hsz
  have hD := hD0.self (sz := s.heap.size)
  have hA : ∀ q : Nat, s.heap.size ≤ q → va_A (wFloor Γ q_fl q_k q_c q_a q_pa q_b q_pb vi vj vk vc va vpa vb vpb) s.heap.size q := fun q h => Or.inr h
  generalize va_A (wFloor Γ q_fl q_k q_c q_a q_pa q_b q_pb vi vj vk vc va vpa vb vpb) s.heap.size = A at hD hA ⊢
  have hS : va_S A s.heap s.heap [] := va_S.rf
  have hl := lv_entry ([.ref q_fl, .ref q_a, .long x2]) (n := 4) (Nat.le_of_ble_eq_true rfl)
  rw [lg_entry_eq]
  generalize (lg_sl ([.ref q_fl, .ref q_a, .long x2]) ++ List.replicate (4 - (lg_sl ([.ref q_fl, .ref q_a, .long x2])).length) Slot.unset).toArray = ls at hl ⊢
  replace hl : lv_has ls 4 [(0, .ref q_fl), (1, .ref q_a), (2, .long x2)] := hl
  unfold mX6_rowOf_a at hm
  refine lv_lload_n hx hb dX6_rowOf_0 rfl (lv_at hl 2 rfl) ?_
  refine lv_aload_n hx hb dX6_rowOf_1 rfl (lv_at hl 0 rfl) ?_
  refine my_call1 (wc := (wFloor Γ q_fl q_k q_c q_a q_pa q_b q_pb vi vj vk vc va vpa vb vpb)) (w1 := (wFloor Γ q_fl q_k q_c q_a q_pa q_b q_pb vi vj vk vc va vpa vb vpb)) (ws1 := (wFloor Γ q_fl q_k q_c q_a q_pa q_b q_pb vi vj vk vc va vpa vb vpb)) hP hD hS hA [0, 1, 2, 3, 4, 5, 6] rfl rfl rfl (va_runV (As := []) (rest := [.long x2]) ⟨hx, hb, hml, hown, hts⟩ (kX1_things l Γ q_fl q_k q_c q_a q_pa q_b q_pb vi vj vk vc va vpa vb vpb (mX1_things vj va vb) rfl _) (cwV 0 hts gX6_rowOf_X1_things rfl rfl rfl (by decide +kernel) ⟨Nat.le_of_ble_eq_true rfl, Nat.le_of_ble_eq_true rfl⟩) (my_preV (wc := (wFloor Γ q_fl q_k q_c q_a q_pa q_b q_pb vi vj vk vc va vpa vb vpb)) (ci := 1) (q0 := 0) [0, 1, 2, 3, 4, 5, 6] hK hP hD rfl rfl rfl rfl) rfl rfl hl.1 rfl (lv_room (Nat.le_of_ble_eq_true rfl)) dX6_rowOf_2 ⟨Nat.le_of_ble_eq_true rfl, Nat.le_of_ble_eq_true rfl⟩) (fun H locs hP hD hS => ?_)
  refine lv_land hx hb dX6_rowOf_5 ?_
  refine lv_aload_n hx hb dX6_rowOf_6 rfl (lv_at hl 1 rfl) ?_
  refine va_get (D := my_D Γ) (ci := 3) (v := .int (va 0)) (C := RX4) (T := TX4) (N := 10) hx hb hts hinX4 hown hK hP 3 rfl rfl 0 (by decide) (hts (.fieldLink RX6 66 "BeltFloor$Robot" "cell" "I") (List.mem_of_getElem? (i := 1) rfl)) (fun _ h9 => h9) rfl dX6_rowOf_7 ?_
  refine my_call1 (wc := ([] : va_W)) (w1 := ([] : va_W)) (ws1 := (wFloor Γ q_fl q_k q_c q_a q_pa q_b q_pb vi vj vk vc va vpa vb vpb)) hP hD hS hA [] rfl rfl rfl (va_runS (As := [.int (va 0)]) (rest := [.long (x2 &&& (mX1_things vj va vb))]) ⟨hx, hb, hml, hown, hts⟩ (kX2_setOf l Γ (va 0) (mX2_setOf (va 0)) rfl _) (va_cwS 1 hts gX6_rowOf_X2_setOf rfl rfl rfl (by decide +kernel) ⟨Nat.le_of_ble_eq_true rfl, Nat.le_of_ble_eq_true rfl⟩) (my_preS (wc := ([] : va_W)) [] hK hP hD rfl rfl) rfl rfl hl.1 rfl (lv_room (Nat.le_of_ble_eq_true rfl)) dX6_rowOf_10 ⟨Nat.le_of_ble_eq_true rfl, Nat.le_of_ble_eq_true rfl⟩) (fun H locs hP hD hS => ?_)
  refine lv_ldc2 (v := (-1 : Int64)) hx hb hown (hts (.constantLong RX6 95 (-1)) (List.mem_of_getElem? (i := 2) rfl)) dX6_rowOf_13 ?_
  refine lv_lxor hx hb dX6_rowOf_16 ?_
  refine lv_land hx hb dX6_rowOf_17 ?_
  have hf0 := hm
  subst hf0
  exact W.lret (v := ((x2 &&& (mX1_things vj va vb)) &&& ((mX2_setOf (va 0)) ^^^ (-1 : Int64)))) hx hb hr (fun t ht hW => ⟨⟨rfl, by rw [ht]; exact hP⟩, hS.F ht⟩) hS.2.2 dX6_rowOf_18
def mX6_wayOf_a (vj : Nat → Int64) (vk : Nat → Int32) (va : Nat → Int32) (vpa : Nat → Int32) (vb : Nat → Int32) : Option (Int64) := (if (mX4_wantedDirection va vpa) = (-1 : Int32) then (some (0 : Int64)) else (bo1 (mX6_wayFrom vj vk va vb (va 0) (mX4_wantedDirection va vpa)) (fun r_2 => (some r_2))))
set_option maxHeartbeats 4000000 in
set_option maxRecDepth 100000 in
theorem kX6_wayOf_a (l : Launch) (Γ : my_G) (q_fl q_k q_c q_a q_pa q_b q_pb : Nat) (vi : Nat → Int32) (vj : Nat → Int64) (vk : Nat → Int32) (vc : Nat → Int32) (va : Nat → Int32) (vpa : Nat → Int32) (vb : Nat → Int32) (vpb : Nat → Int32)  (rr : Int64) (hm : mX6_wayOf_a vj vk va vpa vb = (some rr)) : Mn l yX6_wayOf wsX6_wayOf ({ frames := 3, cells := 0, slots := 0, locals := 68 } : Room) Γ [.ref q_fl, .ref q_a] (wFloor Γ q_fl q_k q_c q_a q_pa q_b q_pb vi vj vk vc va vpa vb vpb) (some (.long rr)) (wFloor Γ q_fl q_k q_c q_a q_pa q_b q_pb vi vj vk vc va vpa vb vpb) := by
  intro sz
  refine Met.ofW (cc := cX6_wayOf) (maxL := 3) (ret := (some .long)) (by decide) rfl ?_
  intro p e s m args below meth c s₁ B hml hv
  obtain ⟨rfl, hsz, hP, hK, hD0⟩ := hv
  have hx := B.exec
  have hb := B.bytes
  have hr := B.returns
  have hts := atoms_spec (ws := wsX6_wayOf) B.pre
  have hown : s.vm.findClass RX6 = some m.cls := findClass_of_methodNamed B.named
  have hlocks := B.notSynchronized
  have hinX1 : ∀ w ∈ u_ws RX1 TX1 12, w ∈ wsX6_wayOf := fun w h => List.mem_cons_of_mem _ (List.mem_append_right _ h)
  have hinX4 : ∀ w ∈ u_ws RX4 TX4 10, w ∈ wsX6_wayOf := fun w h => List.mem_cons_of_mem _ (List.mem_append_left _ (List.mem_append_right _ h))
  subst hsz
  have hD := hD0.self (sz := s.heap.size)
  have hA : ∀ q : Nat, s.heap.size ≤ q → va_A (wFloor Γ q_fl q_k q_c q_a q_pa q_b q_pb vi vj vk vc va vpa vb vpb) s.heap.size q := fun q h => Or.inr h
  generalize va_A (wFloor Γ q_fl q_k q_c q_a q_pa q_b q_pb vi vj vk vc va vpa vb vpb) s.heap.size = A at hD hA ⊢
  have hS : va_S A s.heap s.heap [] := va_S.rf
  have hl := lv_entry ([.ref q_fl, .ref q_a]) (n := 3) (Nat.le_of_ble_eq_true rfl)
  rw [lg_entry_eq]
  generalize (lg_sl ([.ref q_fl, .ref q_a]) ++ List.replicate (3 - (lg_sl ([.ref q_fl, .ref q_a])).length) Slot.unset).toArray = ls at hl ⊢
  replace hl : lv_has ls 3 [(0, .ref q_fl), (1, .ref q_a)] := hl
  unfold mX6_wayOf_a at hm
  refine lv_aload_n hx hb dX6_wayOf_0 rfl (lv_at hl 1 rfl) ?_
  refine my_call1 (wc := (wRobot Γ q_a q_pa va vpa)) (w1 := (wRobot Γ q_a q_pa va vpa)) (ws1 := (wFloor Γ q_fl q_k q_c q_a q_pa q_b q_pb vi vj vk vc va vpa vb vpb)) hP hD hS hA [3, 4] rfl rfl rfl (va_runV (As := []) (rest := []) ⟨hx, hb, hml, hown, hts⟩ (kX4_wantedDirection l Γ q_a q_pa va vpa (mX4_wantedDirection va vpa) rfl _) (cwV 0 hts gX6_wayOf_X4_wantedDirection rfl rfl rfl (by decide +kernel) ⟨Nat.le_of_ble_eq_true rfl, Nat.le_of_ble_eq_true rfl⟩) (my_preV (wc := (wRobot Γ q_a q_pa va vpa)) (ci := 3) (q0 := 3) [3, 4] hK hP hD rfl rfl rfl rfl) rfl rfl hl.1 rfl (lv_room (Nat.le_of_ble_eq_true rfl)) dX6_wayOf_1 ⟨Nat.le_of_ble_eq_true rfl, Nat.le_of_ble_eq_true rfl⟩) (fun H locs hP hD hS => ?_)
  refine lv_istore_n (lv' := [(2, .int (mX4_wantedDirection va vpa)), (0, .ref q_fl), (1, .ref q_a)]) hx hb dX6_wayOf_4 rfl hl (by decide) rfl (fun ls hl => ?_)
  refine lv_iload_n hx hb dX6_wayOf_5 rfl (lv_at hl 0 rfl) ?_
  refine lv_iconst (v := (-1 : Int32)) hx hb dX6_wayOf_6 (by decide) ?_
  refine lv_icmp_ne (tgt := 14) hx hb dX6_wayOf_7 (by decide) (fun c_1 => ?_) (fun c_1 => ?_)
  · replace hm := if_f hm c_1
    refine lv_aload_n hx hb dX6_wayOf_14 rfl (lv_at hl 1 rfl) ?_
    refine lv_aload_n hx hb dX6_wayOf_15 rfl (lv_at hl 2 rfl) ?_
    refine va_get (D := my_D Γ) (ci := 3) (v := .int (va 0)) (C := RX4) (T := TX4) (N := 10) hx hb hts hinX4 hown hK hP 3 rfl rfl 0 (by decide) (hts (.fieldLink RX6 66 "BeltFloor$Robot" "cell" "I") (List.mem_of_getElem? (i := 1) rfl)) (fun _ h9 => h9) rfl dX6_wayOf_16 ?_
    refine lv_iload_n hx hb dX6_wayOf_19 rfl (lv_at hl 0 rfl) ?_
    obtain ⟨r_2, hc_3, hm⟩ := bo1_s hm
    refine my_call1 (wc := (wFloor Γ q_fl q_k q_c q_a q_pa q_b q_pb vi vj vk vc va vpa vb vpb)) (w1 := (wFloor Γ q_fl q_k q_c q_a q_pa q_b q_pb vi vj vk vc va vpa vb vpb)) (ws1 := (wFloor Γ q_fl q_k q_c q_a q_pa q_b q_pb vi vj vk vc va vpa vb vpb)) hP hD hS hA [0, 1, 2, 3, 4, 5, 6] rfl rfl rfl (va_runS (As := [.ref q_fl, .int (va 0), .int (mX4_wantedDirection va vpa)]) (rest := []) ⟨hx, hb, hml, hown, hts⟩ (kX6_wayFrom l Γ q_fl q_k q_c q_a q_pa q_b q_pb vi vj vk vc va vpa vb vpb (va 0) (mX4_wantedDirection va vpa) r_2 hc_3 _) (va_cwS 3 hts gX6_wayOf_X6_wayFrom rfl rfl rfl (by decide +kernel) ⟨Nat.le_of_ble_eq_true rfl, Nat.le_of_ble_eq_true rfl⟩) (my_preS (wc := (wFloor Γ q_fl q_k q_c q_a q_pa q_b q_pb vi vj vk vc va vpa vb vpb)) [0, 1, 2, 3, 4, 5, 6] hK hP hD rfl rfl) rfl rfl hl.1 rfl (lv_room (Nat.le_of_ble_eq_true rfl)) dX6_wayOf_20 ⟨Nat.le_of_ble_eq_true rfl, Nat.le_of_ble_eq_true rfl⟩) (fun H locs hP hD hS => ?_)
    obtain hf0 := Option.some.inj hm
    subst hf0
    exact W.lret (v := r_2) hx hb hr (fun t ht hW => ⟨⟨rfl, by rw [ht]; exact hP⟩, hS.F ht⟩) hS.2.2 dX6_wayOf_23
  · replace hm := if_s hm c_1
    refine lv_lconst (v := (0 : Int64)) hx hb dX6_wayOf_10 (by decide) ?_
    refine lv_goto (tgt := 23) hx hb dX6_wayOf_11 (by decide) ?_
    obtain hf0 := Option.some.inj hm
    subst hf0
    exact W.lret (v := (0 : Int64)) hx hb hr (fun t ht hW => ⟨⟨rfl, by rw [ht]; exact hP⟩, hS.F ht⟩) hS.2.2 dX6_wayOf_23
def mX6_pushRow_a (vj : Nat → Int64) (va : Nat → Int32) (x2 : Int64) (x3 : Int32) : (Nat → Int64) × (Nat → Int32) := (if (mX2_holds x2 (va 0)) = 0 then ((vp_updL vj 4 (((vj 4) &&& (x2 ^^^ (-1 : Int64))) ||| (mX2_allBeside ((vj 4) &&& x2) x3))), va) else ((vp_updL vj 4 (((vj 4) &&& (x2 ^^^ (-1 : Int64))) ||| (mX2_allBeside ((vj 4) &&& x2) x3))), (upd va 0 (mX2_beside (va 0) x3))))
set_option maxHeartbeats 4000000 in
set_option maxRecDepth 100000 in
theorem kX6_pushRow_a (l : Launch) (Γ : my_G) (q_fl q_k q_c q_a q_pa q_b q_pb : Nat) (vi : Nat → Int32) (vj : Nat → Int64) (vk : Nat → Int32) (vc : Nat → Int32) (va : Nat → Int32) (vpa : Nat → Int32) (vb : Nat → Int32) (vpb : Nat → Int32) (x2 : Int64) (x3 : Int32) (vj_z : Nat → Int64) (va_z : Nat → Int32) (hm : mX6_pushRow_a vj va x2 x3 = (vj_z, va_z)) : Mn l yX6_pushRow wsX6_pushRow ({ frames := 1, cells := 0, slots := 0, locals := 22 } : Room) Γ [.ref q_fl, .ref q_a, .long x2, .int x3] (wFloor Γ q_fl q_k q_c q_a q_pa q_b q_pb vi vj vk vc va vpa vb vpb) none (wFloor Γ q_fl q_k q_c q_a q_pa q_b q_pb vi vj_z vk vc va_z vpa vb vpb) := by
  intro sz
  refine Met.ofW (cc := cX6_pushRow) (maxL := 5) (ret := none) (by decide) rfl ?_
  intro p e s m args below meth c s₁ B hml hv
  obtain ⟨rfl, hsz, hP, hK, hD0⟩ := hv
  have hx := B.exec
  have hb := B.bytes
  have hr := B.returns
  have hts := atoms_spec (ws := wsX6_pushRow) B.pre
  have hown : s.vm.findClass RX6 = some m.cls := findClass_of_methodNamed B.named
  have hlocks := B.notSynchronized
  have hinX1 : ∀ w ∈ u_ws RX1 TX1 12, w ∈ wsX6_pushRow := fun w h => List.mem_cons_of_mem _ (List.mem_append_left _ (List.mem_append_right _ h))
  have hinX4 : ∀ w ∈ u_ws RX4 TX4 10, w ∈ wsX6_pushRow := fun w h => List.mem_cons_of_mem _ (List.mem_append_right _ h)
  subst hsz
  have hD := hD0.self (sz := s.heap.size)
  have hA : ∀ q : Nat, s.heap.size ≤ q → va_A (wFloor Γ q_fl q_k q_c q_a q_pa q_b q_pb vi vj vk vc va vpa vb vpb) s.heap.size q := fun q h => Or.inr h
  generalize va_A (wFloor Γ q_fl q_k q_c q_a q_pa q_b q_pb vi vj vk vc va vpa vb vpb) s.heap.size = A at hD hA ⊢
  have hS : va_S A s.heap s.heap [] := va_S.rf
  have hl := lv_entry ([.ref q_fl, .ref q_a, .long x2, .int x3]) (n := 5) (Nat.le_of_ble_eq_true rfl)
  rw [lg_entry_eq]
  generalize (lg_sl ([.ref q_fl, .ref q_a, .long x2, .int x3]) ++ List.replicate (5 - (lg_sl ([.ref q_fl, .ref q_a, .long x2, .int x3])).length) Slot.unset).toArray = ls at hl ⊢
  replace hl : lv_has ls 5 [(0, .ref q_fl), (1, .ref q_a), (2, .long x2), (4, .int x3)] := hl
  unfold mX6_pushRow_a at hm
  refine lv_aload_n hx hb dX6_pushRow_0 rfl (lv_at hl 0 rfl) ?_
  refine lv_aload_n hx hb dX6_pushRow_1 rfl (lv_at hl 0 rfl) ?_
  refine va_get (D := my_D Γ) (ci := 1) (v := .long (vj 4)) (C := RX1) (T := TX1) (N := 12) hx hb hts hinX1 hown hK hP 0 rfl rfl 4 (by decide) (hts (.fieldLink RX6 126 "BeltFloor$Floor" "crates" "J") (List.mem_of_getElem? (i := 1) rfl)) (fun _ h9 => h9) rfl dX6_pushRow_2 ?_
  refine lv_lload_n hx hb dX6_pushRow_5 rfl (lv_at hl 2 rfl) ?_
  refine lv_ldc2 (v := (-1 : Int64)) hx hb hown (hts (.constantLong RX6 95 (-1)) (List.mem_of_getElem? (i := 2) rfl)) dX6_pushRow_6 ?_
  refine lv_lxor hx hb dX6_pushRow_9 ?_
  refine lv_land hx hb dX6_pushRow_10 ?_
  refine lv_aload_n hx hb dX6_pushRow_11 rfl (lv_at hl 0 rfl) ?_
  refine va_get (D := my_D Γ) (ci := 1) (v := .long (vj 4)) (C := RX1) (T := TX1) (N := 12) hx hb hts hinX1 hown hK hP 0 rfl rfl 4 (by decide) (hts (.fieldLink RX6 126 "BeltFloor$Floor" "crates" "J") (List.mem_of_getElem? (i := 1) rfl)) (fun _ h9 => h9) rfl dX6_pushRow_12 ?_
  refine lv_lload_n hx hb dX6_pushRow_15 rfl (lv_at hl 2 rfl) ?_
  refine lv_land hx hb dX6_pushRow_16 ?_
  refine lv_iload hx hb dX6_pushRow_17 (lv_at hl 3 rfl) ?_
  refine my_call1 (wc := ([] : va_W)) (w1 := ([] : va_W)) (ws1 := (wFloor Γ q_fl q_k q_c q_a q_pa q_b q_pb vi vj vk vc va vpa vb vpb)) hP hD hS hA [] rfl rfl rfl (va_runS (As := [.long ((vj 4) &&& x2), .int x3]) (rest := [.long ((vj 4) &&& (x2 ^^^ (-1 : Int64))), .ref q_fl]) ⟨hx, hb, hml, hown, hts⟩ (kX2_allBeside l Γ ((vj 4) &&& x2) x3 (mX2_allBeside ((vj 4) &&& x2) x3) rfl _) (va_cwS 2 hts gX6_pushRow_X2_allBeside rfl rfl rfl (by decide +kernel) ⟨Nat.le_of_ble_eq_true rfl, Nat.le_of_ble_eq_true rfl⟩) (my_preS (wc := ([] : va_W)) [] hK hP hD rfl rfl) rfl rfl hl.1 rfl (lv_room (Nat.le_of_ble_eq_true rfl)) dX6_pushRow_19 ⟨Nat.le_of_ble_eq_true rfl, Nat.le_of_ble_eq_true rfl⟩) (fun H locs hP hD hS => ?_)
  refine lv_lor hx hb dX6_pushRow_22 ?_
  refine lv_topl (fun y_1 ey_1 => ?_)
  refine va_put (D := my_D Γ) (ci := 1) (v := .long y_1) (ty := .long) (C := RX1) (T := TX1) (N := 12) hx hb hts hinX1 tyX1 tyX1_ok nmX1 hown hK hP hD hS 0 rfl rfl 4 (by decide) (hts (.fieldLink RX6 126 "BeltFloor$Floor" "crates" "J") (List.mem_of_getElem? (i := 1) rfl)) (fun _ h9 => h9) rfl (by decide +kernel) rfl rfl (Nat.le_of_ble_eq_true rfl) dX6_pushRow_23 (fun H locs hP hD hS => ?_)
  replace hP : va_P (my_D Γ) vwCl (wFloor Γ q_fl q_k q_c q_a q_pa q_b q_pb vi (vp_updL vj 4 y_1) vk vc va vpa vb vpb) H := hP
  replace hD : va_D A (wFloor Γ q_fl q_k q_c q_a q_pa q_b q_pb vi (vp_updL vj 4 y_1) vk vc va vpa vb vpb) := hD
  subst ey_1
  refine lv_lload_n hx hb dX6_pushRow_26 rfl (lv_at hl 2 rfl) ?_
  refine lv_aload_n hx hb dX6_pushRow_27 rfl (lv_at hl 1 rfl) ?_
  refine va_get (D := my_D Γ) (ci := 3) (v := .int (va 0)) (C := RX4) (T := TX4) (N := 10) hx hb hts hinX4 hown hK hP 3 rfl rfl 0 (by decide) (hts (.fieldLink RX6 66 "BeltFloor$Robot" "cell" "I") (List.mem_of_getElem? (i := 3) rfl)) (fun _ h9 => h9) rfl dX6_pushRow_28 ?_
  refine my_call1 (wc := ([] : va_W)) (w1 := ([] : va_W)) (ws1 := (wFloor Γ q_fl q_k q_c q_a q_pa q_b q_pb vi (vp_updL vj 4 (((vj 4) &&& (x2 ^^^ (-1 : Int64))) ||| (mX2_allBeside ((vj 4) &&& x2) x3))) vk vc va vpa vb vpb)) hP hD hS hA [] rfl rfl rfl (va_runS (As := [.long x2, .int (va 0)]) (rest := []) ⟨hx, hb, hml, hown, hts⟩ (kX2_holds l Γ x2 (va 0) (mX2_holds x2 (va 0)) rfl _) (va_cwS 2 hts gX6_pushRow_X2_holds rfl rfl rfl (by decide +kernel) ⟨Nat.le_of_ble_eq_true rfl, Nat.le_of_ble_eq_true rfl⟩) (my_preS (wc := ([] : va_W)) [] hK hP hD rfl rfl) rfl rfl hl.1 rfl (lv_room (Nat.le_of_ble_eq_true rfl)) dX6_pushRow_31 ⟨Nat.le_of_ble_eq_true rfl, Nat.le_of_ble_eq_true rfl⟩) (fun H locs hP hD hS => ?_)
  refine lv_if_eq (tgt := 50) hx hb dX6_pushRow_34 (by decide) (fun c_2 => ?_) (fun c_2 => ?_)
  · replace hm := if_s hm c_2
    obtain ⟨hf0, hf1⟩ := ti2 hm
    subst hf0
    subst hf1
    exact W.vret hx hb hr (fun t ht hW => ⟨⟨rfl, by rw [ht]; exact hP⟩, hS.F ht⟩) hS.2.2 dX6_pushRow_50
  · replace hm := if_f hm c_2
    refine lv_aload_n hx hb dX6_pushRow_37 rfl (lv_at hl 1 rfl) ?_
    refine lv_aload_n hx hb dX6_pushRow_38 rfl (lv_at hl 1 rfl) ?_
    refine va_get (D := my_D Γ) (ci := 3) (v := .int (va 0)) (C := RX4) (T := TX4) (N := 10) hx hb hts hinX4 hown hK hP 3 rfl rfl 0 (by decide) (hts (.fieldLink RX6 66 "BeltFloor$Robot" "cell" "I") (List.mem_of_getElem? (i := 3) rfl)) (fun _ h9 => h9) rfl dX6_pushRow_39 ?_
    refine lv_iload hx hb dX6_pushRow_42 (lv_at hl 3 rfl) ?_
    refine my_call1 (wc := ([] : va_W)) (w1 := ([] : va_W)) (ws1 := (wFloor Γ q_fl q_k q_c q_a q_pa q_b q_pb vi (vp_updL vj 4 (((vj 4) &&& (x2 ^^^ (-1 : Int64))) ||| (mX2_allBeside ((vj 4) &&& x2) x3))) vk vc va vpa vb vpb)) hP hD hS hA [] rfl rfl rfl (va_runS (As := [.int (va 0), .int x3]) (rest := [.ref q_a]) ⟨hx, hb, hml, hown, hts⟩ (kX2_beside l Γ (va 0) x3 (mX2_beside (va 0) x3) rfl _) (va_cwS 2 hts gX6_pushRow_X2_beside rfl rfl rfl (by decide +kernel) ⟨Nat.le_of_ble_eq_true rfl, Nat.le_of_ble_eq_true rfl⟩) (my_preS (wc := ([] : va_W)) [] hK hP hD rfl rfl) rfl rfl hl.1 rfl (lv_room (Nat.le_of_ble_eq_true rfl)) dX6_pushRow_44 ⟨Nat.le_of_ble_eq_true rfl, Nat.le_of_ble_eq_true rfl⟩) (fun H locs hP hD hS => ?_)
    refine lv_topi (fun y_3 ey_3 => ?_)
    refine va_put (D := my_D Γ) (ci := 3) (v := .int y_3) (ty := .int) (C := RX4) (T := TX4) (N := 10) hx hb hts hinX4 tyX4 tyX4_ok nmX4 hown hK hP hD hS 3 rfl rfl 0 (by decide) (hts (.fieldLink RX6 66 "BeltFloor$Robot" "cell" "I") (List.mem_of_getElem? (i := 3) rfl)) (fun _ h9 => h9) rfl (by decide +kernel) rfl rfl (Nat.le_of_ble_eq_true rfl) dX6_pushRow_47 (fun H locs hP hD hS => ?_)
    replace hP : va_P (my_D Γ) vwCl (wFloor Γ q_fl q_k q_c q_a q_pa q_b q_pb vi (vp_updL vj 4 (((vj 4) &&& (x2 ^^^ (-1 : Int64))) ||| (mX2_allBeside ((vj 4) &&& x2) x3))) vk vc (upd va 0 y_3) vpa vb vpb) H := hP
    replace hD : va_D A (wFloor Γ q_fl q_k q_c q_a q_pa q_b q_pb vi (vp_updL vj 4 (((vj 4) &&& (x2 ^^^ (-1 : Int64))) ||| (mX2_allBeside ((vj 4) &&& x2) x3))) vk vc (upd va 0 y_3) vpa vb vpb) := hD
    subst ey_3
    obtain ⟨hf0, hf1⟩ := ti2 hm
    subst hf0
    subst hf1
    exact W.vret hx hb hr (fun t ht hW => ⟨⟨rfl, by rw [ht]; exact hP⟩, hS.F ht⟩) hS.2.2 dX6_pushRow_50
def mX6_rowOf_b (vj : Nat → Int64) (va : Nat → Int32) (vb : Nat → Int32) (x2 : Int64) : Int64 := ((x2 &&& (mX1_things vj va vb)) &&& ((mX2_setOf (vb 0)) ^^^ (-1 : Int64)))
set_option maxHeartbeats 4000000 in
set_option maxRecDepth 100000 in
theorem kX6_rowOf_b (l : Launch) (Γ : my_G) (q_fl q_k q_c q_a q_pa q_b q_pb : Nat) (vi : Nat → Int32) (vj : Nat → Int64) (vk : Nat → Int32) (vc : Nat → Int32) (va : Nat → Int32) (vpa : Nat → Int32) (vb : Nat → Int32) (vpb : Nat → Int32) (x2 : Int64) (rr : Int64) (hm : mX6_rowOf_b vj va vb x2 = rr) : Mn l yX6_rowOf wsX6_rowOf ({ frames := 2, cells := 0, slots := 0, locals := 40 } : Room) Γ [.ref q_fl, .ref q_b, .long x2] (wFloor Γ q_fl q_k q_c q_a q_pa q_b q_pb vi vj vk vc va vpa vb vpb) (some (.long rr)) (wFloor Γ q_fl q_k q_c q_a q_pa q_b q_pb vi vj vk vc va vpa vb vpb) := by
  intro sz
  refine Met.ofW (cc := cX6_rowOf) (maxL := 4) (ret := (some .long)) (by decide) rfl ?_
  intro p e s m args below meth c s₁ B hml hv
  obtain ⟨rfl, hsz, hP, hK, hD0⟩ := hv
  have hx := B.exec
  have hb := B.bytes
  have hr := B.returns
  have hts := atoms_spec (ws := wsX6_rowOf) B.pre
  have hown : s.vm.findClass RX6 = some m.cls := findClass_of_methodNamed B.named
  have hlocks := B.notSynchronized
  have hinX1 : ∀ w ∈ u_ws RX1 TX1 12, w ∈ wsX6_rowOf := fun w h => List.mem_cons_of_mem _ (List.mem_append_right _ h)
  have hinX4 : ∀ w ∈ u_ws RX4 TX4 10, w ∈ wsX6_rowOf := fun w h => List.mem_cons_of_mem _ (List.mem_append_left _ (List.mem_append_right _ h))
  subst hsz
  have hD := hD0.self (sz := s.heap.size)
  have hA : ∀ q : Nat, s.heap.size ≤ q → va_A (wFloor Γ q_fl q_k q_c q_a q_pa q_b q_pb vi vj vk vc va vpa vb vpb) s.heap.size q := fun q h => Or.inr h
  generalize va_A (wFloor Γ q_fl q_k q_c q_a q_pa q_b q_pb vi vj vk vc va vpa vb vpb) s.heap.size = A at hD hA ⊢
  have hS : va_S A s.heap s.heap [] := va_S.rf
  have hl := lv_entry ([.ref q_fl, .ref q_b, .long x2]) (n := 4) (Nat.le_of_ble_eq_true rfl)
  rw [lg_entry_eq]
  generalize (lg_sl ([.ref q_fl, .ref q_b, .long x2]) ++ List.replicate (4 - (lg_sl ([.ref q_fl, .ref q_b, .long x2])).length) Slot.unset).toArray = ls at hl ⊢
  replace hl : lv_has ls 4 [(0, .ref q_fl), (1, .ref q_b), (2, .long x2)] := hl
  unfold mX6_rowOf_b at hm
  refine lv_lload_n hx hb dX6_rowOf_0 rfl (lv_at hl 2 rfl) ?_
  refine lv_aload_n hx hb dX6_rowOf_1 rfl (lv_at hl 0 rfl) ?_
  refine my_call1 (wc := (wFloor Γ q_fl q_k q_c q_a q_pa q_b q_pb vi vj vk vc va vpa vb vpb)) (w1 := (wFloor Γ q_fl q_k q_c q_a q_pa q_b q_pb vi vj vk vc va vpa vb vpb)) (ws1 := (wFloor Γ q_fl q_k q_c q_a q_pa q_b q_pb vi vj vk vc va vpa vb vpb)) hP hD hS hA [0, 1, 2, 3, 4, 5, 6] rfl rfl rfl (va_runV (As := []) (rest := [.long x2]) ⟨hx, hb, hml, hown, hts⟩ (kX1_things l Γ q_fl q_k q_c q_a q_pa q_b q_pb vi vj vk vc va vpa vb vpb (mX1_things vj va vb) rfl _) (cwV 0 hts gX6_rowOf_X1_things rfl rfl rfl (by decide +kernel) ⟨Nat.le_of_ble_eq_true rfl, Nat.le_of_ble_eq_true rfl⟩) (my_preV (wc := (wFloor Γ q_fl q_k q_c q_a q_pa q_b q_pb vi vj vk vc va vpa vb vpb)) (ci := 1) (q0 := 0) [0, 1, 2, 3, 4, 5, 6] hK hP hD rfl rfl rfl rfl) rfl rfl hl.1 rfl (lv_room (Nat.le_of_ble_eq_true rfl)) dX6_rowOf_2 ⟨Nat.le_of_ble_eq_true rfl, Nat.le_of_ble_eq_true rfl⟩) (fun H locs hP hD hS => ?_)
  refine lv_land hx hb dX6_rowOf_5 ?_
  refine lv_aload_n hx hb dX6_rowOf_6 rfl (lv_at hl 1 rfl) ?_
  refine va_get (D := my_D Γ) (ci := 3) (v := .int (vb 0)) (C := RX4) (T := TX4) (N := 10) hx hb hts hinX4 hown hK hP 5 rfl rfl 0 (by decide) (hts (.fieldLink RX6 66 "BeltFloor$Robot" "cell" "I") (List.mem_of_getElem? (i := 1) rfl)) (fun _ h9 => h9) rfl dX6_rowOf_7 ?_
  refine my_call1 (wc := ([] : va_W)) (w1 := ([] : va_W)) (ws1 := (wFloor Γ q_fl q_k q_c q_a q_pa q_b q_pb vi vj vk vc va vpa vb vpb)) hP hD hS hA [] rfl rfl rfl (va_runS (As := [.int (vb 0)]) (rest := [.long (x2 &&& (mX1_things vj va vb))]) ⟨hx, hb, hml, hown, hts⟩ (kX2_setOf l Γ (vb 0) (mX2_setOf (vb 0)) rfl _) (va_cwS 1 hts gX6_rowOf_X2_setOf rfl rfl rfl (by decide +kernel) ⟨Nat.le_of_ble_eq_true rfl, Nat.le_of_ble_eq_true rfl⟩) (my_preS (wc := ([] : va_W)) [] hK hP hD rfl rfl) rfl rfl hl.1 rfl (lv_room (Nat.le_of_ble_eq_true rfl)) dX6_rowOf_10 ⟨Nat.le_of_ble_eq_true rfl, Nat.le_of_ble_eq_true rfl⟩) (fun H locs hP hD hS => ?_)
  refine lv_ldc2 (v := (-1 : Int64)) hx hb hown (hts (.constantLong RX6 95 (-1)) (List.mem_of_getElem? (i := 2) rfl)) dX6_rowOf_13 ?_
  refine lv_lxor hx hb dX6_rowOf_16 ?_
  refine lv_land hx hb dX6_rowOf_17 ?_
  have hf0 := hm
  subst hf0
  exact W.lret (v := ((x2 &&& (mX1_things vj va vb)) &&& ((mX2_setOf (vb 0)) ^^^ (-1 : Int64)))) hx hb hr (fun t ht hW => ⟨⟨rfl, by rw [ht]; exact hP⟩, hS.F ht⟩) hS.2.2 dX6_rowOf_18
def mX6_wayOf_b (vj : Nat → Int64) (vk : Nat → Int32) (va : Nat → Int32) (vb : Nat → Int32) (vpb : Nat → Int32) : Option (Int64) := (if (mX4_wantedDirection vb vpb) = (-1 : Int32) then (some (0 : Int64)) else (bo1 (mX6_wayFrom vj vk va vb (vb 0) (mX4_wantedDirection vb vpb)) (fun r_2 => (some r_2))))
set_option maxHeartbeats 4000000 in
set_option maxRecDepth 100000 in
theorem kX6_wayOf_b (l : Launch) (Γ : my_G) (q_fl q_k q_c q_a q_pa q_b q_pb : Nat) (vi : Nat → Int32) (vj : Nat → Int64) (vk : Nat → Int32) (vc : Nat → Int32) (va : Nat → Int32) (vpa : Nat → Int32) (vb : Nat → Int32) (vpb : Nat → Int32)  (rr : Int64) (hm : mX6_wayOf_b vj vk va vb vpb = (some rr)) : Mn l yX6_wayOf wsX6_wayOf ({ frames := 3, cells := 0, slots := 0, locals := 68 } : Room) Γ [.ref q_fl, .ref q_b] (wFloor Γ q_fl q_k q_c q_a q_pa q_b q_pb vi vj vk vc va vpa vb vpb) (some (.long rr)) (wFloor Γ q_fl q_k q_c q_a q_pa q_b q_pb vi vj vk vc va vpa vb vpb) := by
  intro sz
  refine Met.ofW (cc := cX6_wayOf) (maxL := 3) (ret := (some .long)) (by decide) rfl ?_
  intro p e s m args below meth c s₁ B hml hv
  obtain ⟨rfl, hsz, hP, hK, hD0⟩ := hv
  have hx := B.exec
  have hb := B.bytes
  have hr := B.returns
  have hts := atoms_spec (ws := wsX6_wayOf) B.pre
  have hown : s.vm.findClass RX6 = some m.cls := findClass_of_methodNamed B.named
  have hlocks := B.notSynchronized
  have hinX1 : ∀ w ∈ u_ws RX1 TX1 12, w ∈ wsX6_wayOf := fun w h => List.mem_cons_of_mem _ (List.mem_append_right _ h)
  have hinX4 : ∀ w ∈ u_ws RX4 TX4 10, w ∈ wsX6_wayOf := fun w h => List.mem_cons_of_mem _ (List.mem_append_left _ (List.mem_append_right _ h))
  subst hsz
  have hD := hD0.self (sz := s.heap.size)
  have hA : ∀ q : Nat, s.heap.size ≤ q → va_A (wFloor Γ q_fl q_k q_c q_a q_pa q_b q_pb vi vj vk vc va vpa vb vpb) s.heap.size q := fun q h => Or.inr h
  generalize va_A (wFloor Γ q_fl q_k q_c q_a q_pa q_b q_pb vi vj vk vc va vpa vb vpb) s.heap.size = A at hD hA ⊢
  have hS : va_S A s.heap s.heap [] := va_S.rf
  have hl := lv_entry ([.ref q_fl, .ref q_b]) (n := 3) (Nat.le_of_ble_eq_true rfl)
  rw [lg_entry_eq]
  generalize (lg_sl ([.ref q_fl, .ref q_b]) ++ List.replicate (3 - (lg_sl ([.ref q_fl, .ref q_b])).length) Slot.unset).toArray = ls at hl ⊢
  replace hl : lv_has ls 3 [(0, .ref q_fl), (1, .ref q_b)] := hl
  unfold mX6_wayOf_b at hm
  refine lv_aload_n hx hb dX6_wayOf_0 rfl (lv_at hl 1 rfl) ?_
  refine my_call1 (wc := (wRobot Γ q_b q_pb vb vpb)) (w1 := (wRobot Γ q_b q_pb vb vpb)) (ws1 := (wFloor Γ q_fl q_k q_c q_a q_pa q_b q_pb vi vj vk vc va vpa vb vpb)) hP hD hS hA [5, 6] rfl rfl rfl (va_runV (As := []) (rest := []) ⟨hx, hb, hml, hown, hts⟩ (kX4_wantedDirection l Γ q_b q_pb vb vpb (mX4_wantedDirection vb vpb) rfl _) (cwV 0 hts gX6_wayOf_X4_wantedDirection rfl rfl rfl (by decide +kernel) ⟨Nat.le_of_ble_eq_true rfl, Nat.le_of_ble_eq_true rfl⟩) (my_preV (wc := (wRobot Γ q_b q_pb vb vpb)) (ci := 3) (q0 := 5) [5, 6] hK hP hD rfl rfl rfl rfl) rfl rfl hl.1 rfl (lv_room (Nat.le_of_ble_eq_true rfl)) dX6_wayOf_1 ⟨Nat.le_of_ble_eq_true rfl, Nat.le_of_ble_eq_true rfl⟩) (fun H locs hP hD hS => ?_)
  refine lv_istore_n (lv' := [(2, .int (mX4_wantedDirection vb vpb)), (0, .ref q_fl), (1, .ref q_b)]) hx hb dX6_wayOf_4 rfl hl (by decide) rfl (fun ls hl => ?_)
  refine lv_iload_n hx hb dX6_wayOf_5 rfl (lv_at hl 0 rfl) ?_
  refine lv_iconst (v := (-1 : Int32)) hx hb dX6_wayOf_6 (by decide) ?_
  refine lv_icmp_ne (tgt := 14) hx hb dX6_wayOf_7 (by decide) (fun c_1 => ?_) (fun c_1 => ?_)
  · replace hm := if_f hm c_1
    refine lv_aload_n hx hb dX6_wayOf_14 rfl (lv_at hl 1 rfl) ?_
    refine lv_aload_n hx hb dX6_wayOf_15 rfl (lv_at hl 2 rfl) ?_
    refine va_get (D := my_D Γ) (ci := 3) (v := .int (vb 0)) (C := RX4) (T := TX4) (N := 10) hx hb hts hinX4 hown hK hP 5 rfl rfl 0 (by decide) (hts (.fieldLink RX6 66 "BeltFloor$Robot" "cell" "I") (List.mem_of_getElem? (i := 1) rfl)) (fun _ h9 => h9) rfl dX6_wayOf_16 ?_
    refine lv_iload_n hx hb dX6_wayOf_19 rfl (lv_at hl 0 rfl) ?_
    obtain ⟨r_2, hc_3, hm⟩ := bo1_s hm
    refine my_call1 (wc := (wFloor Γ q_fl q_k q_c q_a q_pa q_b q_pb vi vj vk vc va vpa vb vpb)) (w1 := (wFloor Γ q_fl q_k q_c q_a q_pa q_b q_pb vi vj vk vc va vpa vb vpb)) (ws1 := (wFloor Γ q_fl q_k q_c q_a q_pa q_b q_pb vi vj vk vc va vpa vb vpb)) hP hD hS hA [0, 1, 2, 3, 4, 5, 6] rfl rfl rfl (va_runS (As := [.ref q_fl, .int (vb 0), .int (mX4_wantedDirection vb vpb)]) (rest := []) ⟨hx, hb, hml, hown, hts⟩ (kX6_wayFrom l Γ q_fl q_k q_c q_a q_pa q_b q_pb vi vj vk vc va vpa vb vpb (vb 0) (mX4_wantedDirection vb vpb) r_2 hc_3 _) (va_cwS 3 hts gX6_wayOf_X6_wayFrom rfl rfl rfl (by decide +kernel) ⟨Nat.le_of_ble_eq_true rfl, Nat.le_of_ble_eq_true rfl⟩) (my_preS (wc := (wFloor Γ q_fl q_k q_c q_a q_pa q_b q_pb vi vj vk vc va vpa vb vpb)) [0, 1, 2, 3, 4, 5, 6] hK hP hD rfl rfl) rfl rfl hl.1 rfl (lv_room (Nat.le_of_ble_eq_true rfl)) dX6_wayOf_20 ⟨Nat.le_of_ble_eq_true rfl, Nat.le_of_ble_eq_true rfl⟩) (fun H locs hP hD hS => ?_)
    obtain hf0 := Option.some.inj hm
    subst hf0
    exact W.lret (v := r_2) hx hb hr (fun t ht hW => ⟨⟨rfl, by rw [ht]; exact hP⟩, hS.F ht⟩) hS.2.2 dX6_wayOf_23
  · replace hm := if_s hm c_1
    refine lv_lconst (v := (0 : Int64)) hx hb dX6_wayOf_10 (by decide) ?_
    refine lv_goto (tgt := 23) hx hb dX6_wayOf_11 (by decide) ?_
    obtain hf0 := Option.some.inj hm
    subst hf0
    exact W.lret (v := (0 : Int64)) hx hb hr (fun t ht hW => ⟨⟨rfl, by rw [ht]; exact hP⟩, hS.F ht⟩) hS.2.2 dX6_wayOf_23
def mX6_pushRow_b (vj : Nat → Int64) (vb : Nat → Int32) (x2 : Int64) (x3 : Int32) : (Nat → Int64) × (Nat → Int32) := (if (mX2_holds x2 (vb 0)) = 0 then ((vp_updL vj 4 (((vj 4) &&& (x2 ^^^ (-1 : Int64))) ||| (mX2_allBeside ((vj 4) &&& x2) x3))), vb) else ((vp_updL vj 4 (((vj 4) &&& (x2 ^^^ (-1 : Int64))) ||| (mX2_allBeside ((vj 4) &&& x2) x3))), (upd vb 0 (mX2_beside (vb 0) x3))))
set_option maxHeartbeats 4000000 in
set_option maxRecDepth 100000 in
theorem kX6_pushRow_b (l : Launch) (Γ : my_G) (q_fl q_k q_c q_a q_pa q_b q_pb : Nat) (vi : Nat → Int32) (vj : Nat → Int64) (vk : Nat → Int32) (vc : Nat → Int32) (va : Nat → Int32) (vpa : Nat → Int32) (vb : Nat → Int32) (vpb : Nat → Int32) (x2 : Int64) (x3 : Int32) (vj_z : Nat → Int64) (vb_z : Nat → Int32) (hm : mX6_pushRow_b vj vb x2 x3 = (vj_z, vb_z)) : Mn l yX6_pushRow wsX6_pushRow ({ frames := 1, cells := 0, slots := 0, locals := 22 } : Room) Γ [.ref q_fl, .ref q_b, .long x2, .int x3] (wFloor Γ q_fl q_k q_c q_a q_pa q_b q_pb vi vj vk vc va vpa vb vpb) none (wFloor Γ q_fl q_k q_c q_a q_pa q_b q_pb vi vj_z vk vc va vpa vb_z vpb) := by
  intro sz
  refine Met.ofW (cc := cX6_pushRow) (maxL := 5) (ret := none) (by decide) rfl ?_
  intro p e s m args below meth c s₁ B hml hv
  obtain ⟨rfl, hsz, hP, hK, hD0⟩ := hv
  have hx := B.exec
  have hb := B.bytes
  have hr := B.returns
  have hts := atoms_spec (ws := wsX6_pushRow) B.pre
  have hown : s.vm.findClass RX6 = some m.cls := findClass_of_methodNamed B.named
  have hlocks := B.notSynchronized
  have hinX1 : ∀ w ∈ u_ws RX1 TX1 12, w ∈ wsX6_pushRow := fun w h => List.mem_cons_of_mem _ (List.mem_append_left _ (List.mem_append_right _ h))
  have hinX4 : ∀ w ∈ u_ws RX4 TX4 10, w ∈ wsX6_pushRow := fun w h => List.mem_cons_of_mem _ (List.mem_append_right _ h)
  subst hsz
  have hD := hD0.self (sz := s.heap.size)
  have hA : ∀ q : Nat, s.heap.size ≤ q → va_A (wFloor Γ q_fl q_k q_c q_a q_pa q_b q_pb vi vj vk vc va vpa vb vpb) s.heap.size q := fun q h => Or.inr h
  generalize va_A (wFloor Γ q_fl q_k q_c q_a q_pa q_b q_pb vi vj vk vc va vpa vb vpb) s.heap.size = A at hD hA ⊢
  have hS : va_S A s.heap s.heap [] := va_S.rf
  have hl := lv_entry ([.ref q_fl, .ref q_b, .long x2, .int x3]) (n := 5) (Nat.le_of_ble_eq_true rfl)
  rw [lg_entry_eq]
  generalize (lg_sl ([.ref q_fl, .ref q_b, .long x2, .int x3]) ++ List.replicate (5 - (lg_sl ([.ref q_fl, .ref q_b, .long x2, .int x3])).length) Slot.unset).toArray = ls at hl ⊢
  replace hl : lv_has ls 5 [(0, .ref q_fl), (1, .ref q_b), (2, .long x2), (4, .int x3)] := hl
  unfold mX6_pushRow_b at hm
  refine lv_aload_n hx hb dX6_pushRow_0 rfl (lv_at hl 0 rfl) ?_
  refine lv_aload_n hx hb dX6_pushRow_1 rfl (lv_at hl 0 rfl) ?_
  refine va_get (D := my_D Γ) (ci := 1) (v := .long (vj 4)) (C := RX1) (T := TX1) (N := 12) hx hb hts hinX1 hown hK hP 0 rfl rfl 4 (by decide) (hts (.fieldLink RX6 126 "BeltFloor$Floor" "crates" "J") (List.mem_of_getElem? (i := 1) rfl)) (fun _ h9 => h9) rfl dX6_pushRow_2 ?_
  refine lv_lload_n hx hb dX6_pushRow_5 rfl (lv_at hl 2 rfl) ?_
  refine lv_ldc2 (v := (-1 : Int64)) hx hb hown (hts (.constantLong RX6 95 (-1)) (List.mem_of_getElem? (i := 2) rfl)) dX6_pushRow_6 ?_
  refine lv_lxor hx hb dX6_pushRow_9 ?_
  refine lv_land hx hb dX6_pushRow_10 ?_
  refine lv_aload_n hx hb dX6_pushRow_11 rfl (lv_at hl 0 rfl) ?_
  refine va_get (D := my_D Γ) (ci := 1) (v := .long (vj 4)) (C := RX1) (T := TX1) (N := 12) hx hb hts hinX1 hown hK hP 0 rfl rfl 4 (by decide) (hts (.fieldLink RX6 126 "BeltFloor$Floor" "crates" "J") (List.mem_of_getElem? (i := 1) rfl)) (fun _ h9 => h9) rfl dX6_pushRow_12 ?_
  refine lv_lload_n hx hb dX6_pushRow_15 rfl (lv_at hl 2 rfl) ?_
  refine lv_land hx hb dX6_pushRow_16 ?_
  refine lv_iload hx hb dX6_pushRow_17 (lv_at hl 3 rfl) ?_
  refine my_call1 (wc := ([] : va_W)) (w1 := ([] : va_W)) (ws1 := (wFloor Γ q_fl q_k q_c q_a q_pa q_b q_pb vi vj vk vc va vpa vb vpb)) hP hD hS hA [] rfl rfl rfl (va_runS (As := [.long ((vj 4) &&& x2), .int x3]) (rest := [.long ((vj 4) &&& (x2 ^^^ (-1 : Int64))), .ref q_fl]) ⟨hx, hb, hml, hown, hts⟩ (kX2_allBeside l Γ ((vj 4) &&& x2) x3 (mX2_allBeside ((vj 4) &&& x2) x3) rfl _) (va_cwS 2 hts gX6_pushRow_X2_allBeside rfl rfl rfl (by decide +kernel) ⟨Nat.le_of_ble_eq_true rfl, Nat.le_of_ble_eq_true rfl⟩) (my_preS (wc := ([] : va_W)) [] hK hP hD rfl rfl) rfl rfl hl.1 rfl (lv_room (Nat.le_of_ble_eq_true rfl)) dX6_pushRow_19 ⟨Nat.le_of_ble_eq_true rfl, Nat.le_of_ble_eq_true rfl⟩) (fun H locs hP hD hS => ?_)
  refine lv_lor hx hb dX6_pushRow_22 ?_
  refine lv_topl (fun y_1 ey_1 => ?_)
  refine va_put (D := my_D Γ) (ci := 1) (v := .long y_1) (ty := .long) (C := RX1) (T := TX1) (N := 12) hx hb hts hinX1 tyX1 tyX1_ok nmX1 hown hK hP hD hS 0 rfl rfl 4 (by decide) (hts (.fieldLink RX6 126 "BeltFloor$Floor" "crates" "J") (List.mem_of_getElem? (i := 1) rfl)) (fun _ h9 => h9) rfl (by decide +kernel) rfl rfl (Nat.le_of_ble_eq_true rfl) dX6_pushRow_23 (fun H locs hP hD hS => ?_)
  replace hP : va_P (my_D Γ) vwCl (wFloor Γ q_fl q_k q_c q_a q_pa q_b q_pb vi (vp_updL vj 4 y_1) vk vc va vpa vb vpb) H := hP
  replace hD : va_D A (wFloor Γ q_fl q_k q_c q_a q_pa q_b q_pb vi (vp_updL vj 4 y_1) vk vc va vpa vb vpb) := hD
  subst ey_1
  refine lv_lload_n hx hb dX6_pushRow_26 rfl (lv_at hl 2 rfl) ?_
  refine lv_aload_n hx hb dX6_pushRow_27 rfl (lv_at hl 1 rfl) ?_
  refine va_get (D := my_D Γ) (ci := 3) (v := .int (vb 0)) (C := RX4) (T := TX4) (N := 10) hx hb hts hinX4 hown hK hP 5 rfl rfl 0 (by decide) (hts (.fieldLink RX6 66 "BeltFloor$Robot" "cell" "I") (List.mem_of_getElem? (i := 3) rfl)) (fun _ h9 => h9) rfl dX6_pushRow_28 ?_
  refine my_call1 (wc := ([] : va_W)) (w1 := ([] : va_W)) (ws1 := (wFloor Γ q_fl q_k q_c q_a q_pa q_b q_pb vi (vp_updL vj 4 (((vj 4) &&& (x2 ^^^ (-1 : Int64))) ||| (mX2_allBeside ((vj 4) &&& x2) x3))) vk vc va vpa vb vpb)) hP hD hS hA [] rfl rfl rfl (va_runS (As := [.long x2, .int (vb 0)]) (rest := []) ⟨hx, hb, hml, hown, hts⟩ (kX2_holds l Γ x2 (vb 0) (mX2_holds x2 (vb 0)) rfl _) (va_cwS 2 hts gX6_pushRow_X2_holds rfl rfl rfl (by decide +kernel) ⟨Nat.le_of_ble_eq_true rfl, Nat.le_of_ble_eq_true rfl⟩) (my_preS (wc := ([] : va_W)) [] hK hP hD rfl rfl) rfl rfl hl.1 rfl (lv_room (Nat.le_of_ble_eq_true rfl)) dX6_pushRow_31 ⟨Nat.le_of_ble_eq_true rfl, Nat.le_of_ble_eq_true rfl⟩) (fun H locs hP hD hS => ?_)
  refine lv_if_eq (tgt := 50) hx hb dX6_pushRow_34 (by decide) (fun c_2 => ?_) (fun c_2 => ?_)
  · replace hm := if_s hm c_2
    obtain ⟨hf0, hf1⟩ := ti2 hm
    subst hf0
    subst hf1
    exact W.vret hx hb hr (fun t ht hW => ⟨⟨rfl, by rw [ht]; exact hP⟩, hS.F ht⟩) hS.2.2 dX6_pushRow_50
  · replace hm := if_f hm c_2
    refine lv_aload_n hx hb dX6_pushRow_37 rfl (lv_at hl 1 rfl) ?_
    refine lv_aload_n hx hb dX6_pushRow_38 rfl (lv_at hl 1 rfl) ?_
    refine va_get (D := my_D Γ) (ci := 3) (v := .int (vb 0)) (C := RX4) (T := TX4) (N := 10) hx hb hts hinX4 hown hK hP 5 rfl rfl 0 (by decide) (hts (.fieldLink RX6 66 "BeltFloor$Robot" "cell" "I") (List.mem_of_getElem? (i := 3) rfl)) (fun _ h9 => h9) rfl dX6_pushRow_39 ?_
    refine lv_iload hx hb dX6_pushRow_42 (lv_at hl 3 rfl) ?_
    refine my_call1 (wc := ([] : va_W)) (w1 := ([] : va_W)) (ws1 := (wFloor Γ q_fl q_k q_c q_a q_pa q_b q_pb vi (vp_updL vj 4 (((vj 4) &&& (x2 ^^^ (-1 : Int64))) ||| (mX2_allBeside ((vj 4) &&& x2) x3))) vk vc va vpa vb vpb)) hP hD hS hA [] rfl rfl rfl (va_runS (As := [.int (vb 0), .int x3]) (rest := [.ref q_b]) ⟨hx, hb, hml, hown, hts⟩ (kX2_beside l Γ (vb 0) x3 (mX2_beside (vb 0) x3) rfl _) (va_cwS 2 hts gX6_pushRow_X2_beside rfl rfl rfl (by decide +kernel) ⟨Nat.le_of_ble_eq_true rfl, Nat.le_of_ble_eq_true rfl⟩) (my_preS (wc := ([] : va_W)) [] hK hP hD rfl rfl) rfl rfl hl.1 rfl (lv_room (Nat.le_of_ble_eq_true rfl)) dX6_pushRow_44 ⟨Nat.le_of_ble_eq_true rfl, Nat.le_of_ble_eq_true rfl⟩) (fun H locs hP hD hS => ?_)
    refine lv_topi (fun y_3 ey_3 => ?_)
    refine va_put (D := my_D Γ) (ci := 3) (v := .int y_3) (ty := .int) (C := RX4) (T := TX4) (N := 10) hx hb hts hinX4 tyX4 tyX4_ok nmX4 hown hK hP hD hS 5 rfl rfl 0 (by decide) (hts (.fieldLink RX6 66 "BeltFloor$Robot" "cell" "I") (List.mem_of_getElem? (i := 3) rfl)) (fun _ h9 => h9) rfl (by decide +kernel) rfl rfl (Nat.le_of_ble_eq_true rfl) dX6_pushRow_47 (fun H locs hP hD hS => ?_)
    replace hP : va_P (my_D Γ) vwCl (wFloor Γ q_fl q_k q_c q_a q_pa q_b q_pb vi (vp_updL vj 4 (((vj 4) &&& (x2 ^^^ (-1 : Int64))) ||| (mX2_allBeside ((vj 4) &&& x2) x3))) vk vc va vpa (upd vb 0 y_3) vpb) H := hP
    replace hD : va_D A (wFloor Γ q_fl q_k q_c q_a q_pa q_b q_pb vi (vp_updL vj 4 (((vj 4) &&& (x2 ^^^ (-1 : Int64))) ||| (mX2_allBeside ((vj 4) &&& x2) x3))) vk vc va vpa (upd vb 0 y_3) vpb) := hD
    subst ey_3
    obtain ⟨hf0, hf1⟩ := ti2 hm
    subst hf0
    subst hf1
    exact W.vret hx hb hr (fun t ht hW => ⟨⟨rfl, by rw [ht]; exact hP⟩, hS.F ht⟩) hS.2.2 dX6_pushRow_50
def mX6_follow_a (vj : Nat → Int64) (va : Nat → Int32) (vpa : Nat → Int32) (vb : Nat → Int32) (x3 : Int64) : (Nat → Int64) × (Nat → Int32) × (Nat → Int32) := (if (mX4_wantedDirection va vpa) = (-1 : Int32) then (bt1 (mX4_turn va vpa) (fun va_14 => (bt1 (mX4_comeToNextPlace va_14) (fun va_16 => (vj, va_16, vb))))) else (if (lg_cmp x3 (0 : Int64)) = 0 then (bt1 (mX4_comeToNextPlace (upd va 4 ((va 4) + (1 : Int32)))) (fun va_12 => (vj, va_12, vb))) else (bt2 (mX6_pushRow_b vj vb (mX6_rowOf_a vj va vb x3) (mX4_wantedDirection va vpa)) (fun vj_3 vb_4 => (bt1 (mX4_comeToNextPlace (upd (upd (upd va 0 (mX2_beside (va 0) (mX4_wantedDirection va vpa))) 3 ((va 3) + (1 : Int32))) 5 ((va 5) + (mJ13_bitCount_95d88 (mX6_rowOf_a vj va vb x3))))) (fun va_9 => (vj_3, va_9, vb_4)))))))
set_option maxHeartbeats 4000000 in
set_option maxRecDepth 100000 in
theorem kX6_follow_a (l : Launch) (Γ : my_G) (q_fl q_k q_c q_a q_pa q_b q_pb : Nat) (vi : Nat → Int32) (vj : Nat → Int64) (vk : Nat → Int32) (vc : Nat → Int32) (va : Nat → Int32) (vpa : Nat → Int32) (vb : Nat → Int32) (vpb : Nat → Int32) (x3 : Int64) (vj_z : Nat → Int64) (va_z : Nat → Int32) (vb_z : Nat → Int32) (hm : mX6_follow_a vj va vpa vb x3 = (vj_z, va_z, vb_z)) : Mn l yX6_follow wsX6_follow ({ frames := 3, cells := 0, slots := 0, locals := 63 } : Room) Γ [.ref q_fl, .ref q_a, .ref q_b, .long x3] (wFloor Γ q_fl q_k q_c q_a q_pa q_b q_pb vi vj vk vc va vpa vb vpb) none (wFloor Γ q_fl q_k q_c q_a q_pa q_b q_pb vi vj_z vk vc va_z vpa vb_z vpb) := by
  intro sz
  refine Met.ofW (cc := cX6_follow) (maxL := 8) (ret := none) (by decide) rfl ?_
  intro p e s m args below meth c s₁ B hml hv
  obtain ⟨rfl, hsz, hP, hK, hD0⟩ := hv
  have hx := B.exec
  have hb := B.bytes
  have hr := B.returns
  have hts := atoms_spec (ws := wsX6_follow) B.pre
  have hown : s.vm.findClass RX6 = some m.cls := findClass_of_methodNamed B.named
  have hlocks := B.notSynchronized
  have hinX1 : ∀ w ∈ u_ws RX1 TX1 12, w ∈ wsX6_follow := fun w h => List.mem_cons_of_mem _ (List.mem_append_right _ h)
  have hinX4 : ∀ w ∈ u_ws RX4 TX4 10, w ∈ wsX6_follow := fun w h => List.mem_cons_of_mem _ (List.mem_append_left _ (List.mem_append_right _ h))
  subst hsz
  have hD := hD0.self (sz := s.heap.size)
  have hA : ∀ q : Nat, s.heap.size ≤ q → va_A (wFloor Γ q_fl q_k q_c q_a q_pa q_b q_pb vi vj vk vc va vpa vb vpb) s.heap.size q := fun q h => Or.inr h
  generalize va_A (wFloor Γ q_fl q_k q_c q_a q_pa q_b q_pb vi vj vk vc va vpa vb vpb) s.heap.size = A at hD hA ⊢
  have hS : va_S A s.heap s.heap [] := va_S.rf
  have hl := lv_entry ([.ref q_fl, .ref q_a, .ref q_b, .long x3]) (n := 8) (Nat.le_of_ble_eq_true rfl)
  rw [lg_entry_eq]
  generalize (lg_sl ([.ref q_fl, .ref q_a, .ref q_b, .long x3]) ++ List.replicate (8 - (lg_sl ([.ref q_fl, .ref q_a, .ref q_b, .long x3])).length) Slot.unset).toArray = ls at hl ⊢
  replace hl : lv_has ls 8 [(0, .ref q_fl), (1, .ref q_a), (2, .ref q_b), (3, .long x3)] := hl
  unfold mX6_follow_a at hm
  refine lv_aload_n hx hb dX6_follow_0 rfl (lv_at hl 1 rfl) ?_
  refine my_call1 (wc := (wRobot Γ q_a q_pa va vpa)) (w1 := (wRobot Γ q_a q_pa va vpa)) (ws1 := (wFloor Γ q_fl q_k q_c q_a q_pa q_b q_pb vi vj vk vc va vpa vb vpb)) hP hD hS hA [3, 4] rfl rfl rfl (va_runV (As := []) (rest := []) ⟨hx, hb, hml, hown, hts⟩ (kX4_wantedDirection l Γ q_a q_pa va vpa (mX4_wantedDirection va vpa) rfl _) (cwV 0 hts gX6_follow_X4_wantedDirection rfl rfl rfl (by decide +kernel) ⟨Nat.le_of_ble_eq_true rfl, Nat.le_of_ble_eq_true rfl⟩) (my_preV (wc := (wRobot Γ q_a q_pa va vpa)) (ci := 3) (q0 := 3) [3, 4] hK hP hD rfl rfl rfl rfl) rfl rfl hl.1 rfl (lv_room (Nat.le_of_ble_eq_true rfl)) dX6_follow_1 ⟨Nat.le_of_ble_eq_true rfl, Nat.le_of_ble_eq_true rfl⟩) (fun H locs hP hD hS => ?_)
  refine lv_istore (lv' := [(5, .int (mX4_wantedDirection va vpa)), (0, .ref q_fl), (1, .ref q_a), (2, .ref q_b), (3, .long x3)]) hx hb dX6_follow_4 hl (by decide) rfl (fun ls hl => ?_)
  refine lv_iload hx hb dX6_follow_6 (lv_at hl 0 rfl) ?_
  refine lv_iconst (v := (-1 : Int32)) hx hb dX6_follow_8 (by decide) ?_
  refine lv_icmp_ne (tgt := 19) hx hb dX6_follow_9 (by decide) (fun c_1 => ?_) (fun c_1 => ?_)
  · replace hm := if_f hm c_1
    refine lv_lload_n hx hb dX6_follow_19 rfl (lv_at hl 4 rfl) ?_
    refine lv_lconst (v := (0 : Int64)) hx hb dX6_follow_20 (by decide) ?_
    refine W.lcmp hx hb dX6_follow_21 ?_
    refine lv_if_ne (tgt := 38) hx hb dX6_follow_22 (by decide) (fun c_2 => ?_) (fun c_2 => ?_)
    · replace hm := if_f hm c_2
      refine lv_aload_n hx hb dX6_follow_38 rfl (lv_at hl 1 rfl) ?_
      refine lv_aload_n hx hb dX6_follow_39 rfl (lv_at hl 2 rfl) ?_
      refine lv_lload_n hx hb dX6_follow_40 rfl (lv_at hl 4 rfl) ?_
      refine my_call1 (wc := (wFloor Γ q_fl q_k q_c q_a q_pa q_b q_pb vi vj vk vc va vpa vb vpb)) (w1 := (wFloor Γ q_fl q_k q_c q_a q_pa q_b q_pb vi vj vk vc va vpa vb vpb)) (ws1 := (wFloor Γ q_fl q_k q_c q_a q_pa q_b q_pb vi vj vk vc va vpa vb vpb)) hP hD hS hA [0, 1, 2, 3, 4, 5, 6] rfl rfl rfl (va_runS (As := [.ref q_fl, .ref q_a, .long x3]) (rest := []) ⟨hx, hb, hml, hown, hts⟩ (kX6_rowOf_a l Γ q_fl q_k q_c q_a q_pa q_b q_pb vi vj vk vc va vpa vb vpb x3 (mX6_rowOf_a vj va vb x3) rfl _) (va_cwS 3 hts gX6_follow_X6_rowOf rfl rfl rfl (by decide +kernel) ⟨Nat.le_of_ble_eq_true rfl, Nat.le_of_ble_eq_true rfl⟩) (my_preS (wc := (wFloor Γ q_fl q_k q_c q_a q_pa q_b q_pb vi vj vk vc va vpa vb vpb)) [0, 1, 2, 3, 4, 5, 6] hK hP hD rfl rfl) rfl rfl hl.1 rfl (lv_room (Nat.le_of_ble_eq_true rfl)) dX6_follow_41 ⟨Nat.le_of_ble_eq_true rfl, Nat.le_of_ble_eq_true rfl⟩) (fun H locs hP hD hS => ?_)
      refine lv_lstore (lv' := [(6, .long (mX6_rowOf_a vj va vb x3)), (5, .int (mX4_wantedDirection va vpa)), (0, .ref q_fl), (1, .ref q_a), (2, .ref q_b), (3, .long x3)]) hx hb dX6_follow_44 hl (by decide) rfl (fun ls hl => ?_)
      refine lv_aload_n hx hb dX6_follow_46 rfl (lv_at hl 2 rfl) ?_
      refine lv_aload_n hx hb dX6_follow_47 rfl (lv_at hl 4 rfl) ?_
      refine lv_lload hx hb dX6_follow_48 (lv_at hl 0 rfl) ?_
      refine lv_iload hx hb dX6_follow_50 (lv_at hl 1 rfl) ?_
      obtain ⟨vj_3, vb_4, hc_5, hm⟩ := bt2_s hm
      refine my_call0 (wc := (wFloor Γ q_fl q_k q_c q_a q_pa q_b q_pb vi vj vk vc va vpa vb vpb)) (w1 := (wFloor Γ q_fl q_k q_c q_a q_pa q_b q_pb vi vj_3 vk vc va vpa vb_4 vpb)) (ws1 := (wFloor Γ q_fl q_k q_c q_a q_pa q_b q_pb vi vj_3 vk vc va vpa vb_4 vpb)) hP hD hS hA [0, 1, 2, 3, 4, 5, 6] rfl rfl rfl (va_runS (As := [.ref q_fl, .ref q_b, .long (mX6_rowOf_a vj va vb x3), .int (mX4_wantedDirection va vpa)]) (rest := []) ⟨hx, hb, hml, hown, hts⟩ (kX6_pushRow_b l Γ q_fl q_k q_c q_a q_pa q_b q_pb vi vj vk vc va vpa vb vpb (mX6_rowOf_a vj va vb x3) (mX4_wantedDirection va vpa) vj_3 vb_4 hc_5 _) (va_cwS 4 hts gX6_follow_X6_pushRow rfl rfl rfl (by decide +kernel) ⟨Nat.le_of_ble_eq_true rfl, Nat.le_of_ble_eq_true rfl⟩) (my_preS (wc := (wFloor Γ q_fl q_k q_c q_a q_pa q_b q_pb vi vj vk vc va vpa vb vpb)) [0, 1, 2, 3, 4, 5, 6] hK hP hD rfl rfl) rfl rfl hl.1 rfl (lv_room (Nat.le_of_ble_eq_true rfl)) dX6_follow_52 ⟨Nat.le_of_ble_eq_true rfl, Nat.le_of_ble_eq_true rfl⟩) (fun H locs hP hD hS => ?_)
      refine lv_aload_n hx hb dX6_follow_55 rfl (lv_at hl 3 rfl) ?_
      refine lv_aload_n hx hb dX6_follow_56 rfl (lv_at hl 3 rfl) ?_
      refine va_get (D := my_D Γ) (ci := 3) (v := .int (va 0)) (C := RX4) (T := TX4) (N := 10) hx hb hts hinX4 hown hK hP 3 rfl rfl 0 (by decide) (hts (.fieldLink RX6 66 "BeltFloor$Robot" "cell" "I") (List.mem_of_getElem? (i := 2) rfl)) (fun _ h9 => h9) rfl dX6_follow_57 ?_
      refine lv_iload hx hb dX6_follow_60 (lv_at hl 1 rfl) ?_
      refine my_call1 (wc := ([] : va_W)) (w1 := ([] : va_W)) (ws1 := (wFloor Γ q_fl q_k q_c q_a q_pa q_b q_pb vi vj_3 vk vc va vpa vb_4 vpb)) hP hD hS hA [] rfl rfl rfl (va_runS (As := [.int (va 0), .int (mX4_wantedDirection va vpa)]) (rest := [.ref q_a]) ⟨hx, hb, hml, hown, hts⟩ (kX2_beside l Γ (va 0) (mX4_wantedDirection va vpa) (mX2_beside (va 0) (mX4_wantedDirection va vpa)) rfl _) (va_cwS 2 hts gX6_follow_X2_beside rfl rfl rfl (by decide +kernel) ⟨Nat.le_of_ble_eq_true rfl, Nat.le_of_ble_eq_true rfl⟩) (my_preS (wc := ([] : va_W)) [] hK hP hD rfl rfl) rfl rfl hl.1 rfl (lv_room (Nat.le_of_ble_eq_true rfl)) dX6_follow_62 ⟨Nat.le_of_ble_eq_true rfl, Nat.le_of_ble_eq_true rfl⟩) (fun H locs hP hD hS => ?_)
      refine lv_topi (fun y_6 ey_6 => ?_)
      refine va_put (D := my_D Γ) (ci := 3) (v := .int y_6) (ty := .int) (C := RX4) (T := TX4) (N := 10) hx hb hts hinX4 tyX4 tyX4_ok nmX4 hown hK hP hD hS 3 rfl rfl 0 (by decide) (hts (.fieldLink RX6 66 "BeltFloor$Robot" "cell" "I") (List.mem_of_getElem? (i := 2) rfl)) (fun _ h9 => h9) rfl (by decide +kernel) rfl rfl (Nat.le_of_ble_eq_true rfl) dX6_follow_65 (fun H locs hP hD hS => ?_)
      replace hP : va_P (my_D Γ) vwCl (wFloor Γ q_fl q_k q_c q_a q_pa q_b q_pb vi vj_3 vk vc (upd va 0 y_6) vpa vb_4 vpb) H := hP
      replace hD : va_D A (wFloor Γ q_fl q_k q_c q_a q_pa q_b q_pb vi vj_3 vk vc (upd va 0 y_6) vpa vb_4 vpb) := hD
      subst ey_6
      refine lv_aload_n hx hb dX6_follow_68 rfl (lv_at hl 3 rfl) ?_
      refine lv_dup hx hb dX6_follow_69 rfl ?_
      refine va_get (D := my_D Γ) (ci := 3) (v := .int (va 3)) (C := RX4) (T := TX4) (N := 10) hx hb hts hinX4 hown hK hP 3 rfl rfl 3 (by decide) (hts (.fieldLink RX6 111 "BeltFloor$Robot" "moves" "I") (List.mem_of_getElem? (i := 3) rfl)) (fun _ h9 => h9) rfl dX6_follow_70 ?_
      refine lv_iconst (v := (1 : Int32)) hx hb dX6_follow_73 (by decide) ?_
      refine lv_iadd hx hb dX6_follow_74 ?_
      refine lv_topi (fun y_7 ey_7 => ?_)
      refine va_put (D := my_D Γ) (ci := 3) (v := .int y_7) (ty := .int) (C := RX4) (T := TX4) (N := 10) hx hb hts hinX4 tyX4 tyX4_ok nmX4 hown hK hP hD hS 3 rfl rfl 3 (by decide) (hts (.fieldLink RX6 111 "BeltFloor$Robot" "moves" "I") (List.mem_of_getElem? (i := 3) rfl)) (fun _ h9 => h9) rfl (by decide +kernel) rfl rfl (Nat.le_of_ble_eq_true rfl) dX6_follow_75 (fun H locs hP hD hS => ?_)
      replace hP : va_P (my_D Γ) vwCl (wFloor Γ q_fl q_k q_c q_a q_pa q_b q_pb vi vj_3 vk vc (upd (upd va 0 (mX2_beside (va 0) (mX4_wantedDirection va vpa))) 3 y_7) vpa vb_4 vpb) H := hP
      replace hD : va_D A (wFloor Γ q_fl q_k q_c q_a q_pa q_b q_pb vi vj_3 vk vc (upd (upd va 0 (mX2_beside (va 0) (mX4_wantedDirection va vpa))) 3 y_7) vpa vb_4 vpb) := hD
      subst ey_7
      refine lv_aload_n hx hb dX6_follow_78 rfl (lv_at hl 3 rfl) ?_
      refine lv_dup hx hb dX6_follow_79 rfl ?_
      refine va_get (D := my_D Γ) (ci := 3) (v := .int (va 5)) (C := RX4) (T := TX4) (N := 10) hx hb hts hinX4 hown hK hP 3 rfl rfl 5 (by decide) (hts (.fieldLink RX6 114 "BeltFloor$Robot" "pushes" "I") (List.mem_of_getElem? (i := 4) rfl)) (fun _ h9 => h9) rfl dX6_follow_80 ?_
      refine lv_lload hx hb dX6_follow_83 (lv_at hl 0 rfl) ?_
      refine my_call1 (wc := ([] : va_W)) (w1 := ([] : va_W)) (ws1 := (wFloor Γ q_fl q_k q_c q_a q_pa q_b q_pb vi vj_3 vk vc (upd (upd va 0 (mX2_beside (va 0) (mX4_wantedDirection va vpa))) 3 ((va 3) + (1 : Int32))) vpa vb_4 vpb)) hP hD hS hA [] rfl rfl rfl (va_runS (As := [.long (mX6_rowOf_a vj va vb x3)]) (rest := [.int (va 5), .ref q_a]) ⟨hx, hb, hml, hown, hts⟩ (kJ13_bitCount_95d88 l Γ (mX6_rowOf_a vj va vb x3) (mJ13_bitCount_95d88 (mX6_rowOf_a vj va vb x3)) rfl _) (va_cwS 1 hts gX6_follow_J13_bitCount_95d88 rfl rfl rfl (by decide +kernel) ⟨Nat.le_of_ble_eq_true rfl, Nat.le_of_ble_eq_true rfl⟩) (my_preS (wc := ([] : va_W)) [] hK hP hD rfl rfl) rfl rfl hl.1 rfl (lv_room (Nat.le_of_ble_eq_true rfl)) dX6_follow_85 ⟨Nat.le_of_ble_eq_true rfl, Nat.le_of_ble_eq_true rfl⟩) (fun H locs hP hD hS => ?_)
      refine lv_iadd hx hb dX6_follow_88 ?_
      refine lv_topi (fun y_8 ey_8 => ?_)
      refine va_put (D := my_D Γ) (ci := 3) (v := .int y_8) (ty := .int) (C := RX4) (T := TX4) (N := 10) hx hb hts hinX4 tyX4 tyX4_ok nmX4 hown hK hP hD hS 3 rfl rfl 5 (by decide) (hts (.fieldLink RX6 114 "BeltFloor$Robot" "pushes" "I") (List.mem_of_getElem? (i := 4) rfl)) (fun _ h9 => h9) rfl (by decide +kernel) rfl rfl (Nat.le_of_ble_eq_true rfl) dX6_follow_89 (fun H locs hP hD hS => ?_)
      replace hP : va_P (my_D Γ) vwCl (wFloor Γ q_fl q_k q_c q_a q_pa q_b q_pb vi vj_3 vk vc (upd (upd (upd va 0 (mX2_beside (va 0) (mX4_wantedDirection va vpa))) 3 ((va 3) + (1 : Int32))) 5 y_8) vpa vb_4 vpb) H := hP
      replace hD : va_D A (wFloor Γ q_fl q_k q_c q_a q_pa q_b q_pb vi vj_3 vk vc (upd (upd (upd va 0 (mX2_beside (va 0) (mX4_wantedDirection va vpa))) 3 ((va 3) + (1 : Int32))) 5 y_8) vpa vb_4 vpb) := hD
      subst ey_8
      refine lv_aload_n hx hb dX6_follow_92 rfl (lv_at hl 3 rfl) ?_
      obtain ⟨va_9, hc_10, hm⟩ := bt1_s hm
      refine my_call0 (wc := (wRobot Γ q_a q_pa (upd (upd (upd va 0 (mX2_beside (va 0) (mX4_wantedDirection va vpa))) 3 ((va 3) + (1 : Int32))) 5 ((va 5) + (mJ13_bitCount_95d88 (mX6_rowOf_a vj va vb x3)))) vpa)) (w1 := (wRobot Γ q_a q_pa va_9 vpa)) (ws1 := (wFloor Γ q_fl q_k q_c q_a q_pa q_b q_pb vi vj_3 vk vc va_9 vpa vb_4 vpb)) hP hD hS hA [3, 4] rfl rfl rfl (va_runV (As := []) (rest := []) ⟨hx, hb, hml, hown, hts⟩ (kX4_comeToNextPlace l Γ q_a q_pa (upd (upd (upd va 0 (mX2_beside (va 0) (mX4_wantedDirection va vpa))) 3 ((va 3) + (1 : Int32))) 5 ((va 5) + (mJ13_bitCount_95d88 (mX6_rowOf_a vj va vb x3)))) vpa va_9 hc_10 _) (cwV 0 hts gX6_follow_X4_comeToNextPlace rfl rfl rfl (by decide +kernel) ⟨Nat.le_of_ble_eq_true rfl, Nat.le_of_ble_eq_true rfl⟩) (my_preV (wc := (wRobot Γ q_a q_pa (upd (upd (upd va 0 (mX2_beside (va 0) (mX4_wantedDirection va vpa))) 3 ((va 3) + (1 : Int32))) 5 ((va 5) + (mJ13_bitCount_95d88 (mX6_rowOf_a vj va vb x3)))) vpa)) (ci := 3) (q0 := 3) [3, 4] hK hP hD rfl rfl rfl rfl) rfl rfl hl.1 rfl (lv_room (Nat.le_of_ble_eq_true rfl)) dX6_follow_93 ⟨Nat.le_of_ble_eq_true rfl, Nat.le_of_ble_eq_true rfl⟩) (fun H locs hP hD hS => ?_)
      obtain ⟨hf0, hf1, hf2⟩ := ti3 hm
      subst hf0
      subst hf1
      subst hf2
      exact W.vret hx hb hr (fun t ht hW => ⟨⟨rfl, by rw [ht]; exact hP⟩, hS.F ht⟩) hS.2.2 dX6_follow_96
    · replace hm := if_s hm c_2
      refine lv_aload_n hx hb dX6_follow_25 rfl (lv_at hl 2 rfl) ?_
      refine lv_dup hx hb dX6_follow_26 rfl ?_
      refine va_get (D := my_D Γ) (ci := 3) (v := .int (va 4)) (C := RX4) (T := TX4) (N := 10) hx hb hts hinX4 hown hK hP 3 rfl rfl 4 (by decide) (hts (.fieldLink RX6 100 "BeltFloor$Robot" "bumps" "I") (List.mem_of_getElem? (i := 1) rfl)) (fun _ h9 => h9) rfl dX6_follow_27 ?_
      refine lv_iconst (v := (1 : Int32)) hx hb dX6_follow_30 (by decide) ?_
      refine lv_iadd hx hb dX6_follow_31 ?_
      refine lv_topi (fun y_11 ey_11 => ?_)
      refine va_put (D := my_D Γ) (ci := 3) (v := .int y_11) (ty := .int) (C := RX4) (T := TX4) (N := 10) hx hb hts hinX4 tyX4 tyX4_ok nmX4 hown hK hP hD hS 3 rfl rfl 4 (by decide) (hts (.fieldLink RX6 100 "BeltFloor$Robot" "bumps" "I") (List.mem_of_getElem? (i := 1) rfl)) (fun _ h9 => h9) rfl (by decide +kernel) rfl rfl (Nat.le_of_ble_eq_true rfl) dX6_follow_32 (fun H locs hP hD hS => ?_)
      replace hP : va_P (my_D Γ) vwCl (wFloor Γ q_fl q_k q_c q_a q_pa q_b q_pb vi vj vk vc (upd va 4 y_11) vpa vb vpb) H := hP
      replace hD : va_D A (wFloor Γ q_fl q_k q_c q_a q_pa q_b q_pb vi vj vk vc (upd va 4 y_11) vpa vb vpb) := hD
      subst ey_11
      refine lv_goto (tgt := 92) hx hb dX6_follow_35 (by decide) ?_
      refine lv_aload_n hx hb dX6_follow_92 rfl (lv_at hl 2 rfl) ?_
      obtain ⟨va_12, hc_13, hm⟩ := bt1_s hm
      refine my_call0 (wc := (wRobot Γ q_a q_pa (upd va 4 ((va 4) + (1 : Int32))) vpa)) (w1 := (wRobot Γ q_a q_pa va_12 vpa)) (ws1 := (wFloor Γ q_fl q_k q_c q_a q_pa q_b q_pb vi vj vk vc va_12 vpa vb vpb)) hP hD hS hA [3, 4] rfl rfl rfl (va_runV (As := []) (rest := []) ⟨hx, hb, hml, hown, hts⟩ (kX4_comeToNextPlace l Γ q_a q_pa (upd va 4 ((va 4) + (1 : Int32))) vpa va_12 hc_13 _) (cwV 0 hts gX6_follow_X4_comeToNextPlace rfl rfl rfl (by decide +kernel) ⟨Nat.le_of_ble_eq_true rfl, Nat.le_of_ble_eq_true rfl⟩) (my_preV (wc := (wRobot Γ q_a q_pa (upd va 4 ((va 4) + (1 : Int32))) vpa)) (ci := 3) (q0 := 3) [3, 4] hK hP hD rfl rfl rfl rfl) rfl rfl hl.1 rfl (lv_room (Nat.le_of_ble_eq_true rfl)) dX6_follow_93 ⟨Nat.le_of_ble_eq_true rfl, Nat.le_of_ble_eq_true rfl⟩) (fun H locs hP hD hS => ?_)
      obtain ⟨hf0, hf1, hf2⟩ := ti3 hm
      subst hf0
      subst hf1
      subst hf2
      exact W.vret hx hb hr (fun t ht hW => ⟨⟨rfl, by rw [ht]; exact hP⟩, hS.F ht⟩) hS.2.2 dX6_follow_96
  · replace hm := if_s hm c_1
    refine lv_aload_n hx hb dX6_follow_12 rfl (lv_at hl 2 rfl) ?_
    obtain ⟨va_14, hc_15, hm⟩ := bt1_s hm
    refine my_call0 (wc := (wRobot Γ q_a q_pa va vpa)) (w1 := (wRobot Γ q_a q_pa va_14 vpa)) (ws1 := (wFloor Γ q_fl q_k q_c q_a q_pa q_b q_pb vi vj vk vc va_14 vpa vb vpb)) hP hD hS hA [3, 4] rfl rfl rfl (va_runV (As := []) (rest := []) ⟨hx, hb, hml, hown, hts⟩ (kX4_turn l Γ q_a q_pa va vpa va_14 hc_15 _) (cwV 0 hts gX6_follow_X4_turn rfl rfl rfl (by decide +kernel) ⟨Nat.le_of_ble_eq_true rfl, Nat.le_of_ble_eq_true rfl⟩) (my_preV (wc := (wRobot Γ q_a q_pa va vpa)) (ci := 3) (q0 := 3) [3, 4] hK hP hD rfl rfl rfl rfl) rfl rfl hl.1 rfl (lv_room (Nat.le_of_ble_eq_true rfl)) dX6_follow_13 ⟨Nat.le_of_ble_eq_true rfl, Nat.le_of_ble_eq_true rfl⟩) (fun H locs hP hD hS => ?_)
    refine lv_goto (tgt := 92) hx hb dX6_follow_16 (by decide) ?_
    refine lv_aload_n hx hb dX6_follow_92 rfl (lv_at hl 2 rfl) ?_
    obtain ⟨va_16, hc_17, hm⟩ := bt1_s hm
    refine my_call0 (wc := (wRobot Γ q_a q_pa va_14 vpa)) (w1 := (wRobot Γ q_a q_pa va_16 vpa)) (ws1 := (wFloor Γ q_fl q_k q_c q_a q_pa q_b q_pb vi vj vk vc va_16 vpa vb vpb)) hP hD hS hA [3, 4] rfl rfl rfl (va_runV (As := []) (rest := []) ⟨hx, hb, hml, hown, hts⟩ (kX4_comeToNextPlace l Γ q_a q_pa va_14 vpa va_16 hc_17 _) (cwV 0 hts gX6_follow_X4_comeToNextPlace rfl rfl rfl (by decide +kernel) ⟨Nat.le_of_ble_eq_true rfl, Nat.le_of_ble_eq_true rfl⟩) (my_preV (wc := (wRobot Γ q_a q_pa va_14 vpa)) (ci := 3) (q0 := 3) [3, 4] hK hP hD rfl rfl rfl rfl) rfl rfl hl.1 rfl (lv_room (Nat.le_of_ble_eq_true rfl)) dX6_follow_93 ⟨Nat.le_of_ble_eq_true rfl, Nat.le_of_ble_eq_true rfl⟩) (fun H locs hP hD hS => ?_)
    obtain ⟨hf0, hf1, hf2⟩ := ti3 hm
    subst hf0
    subst hf1
    subst hf2
    exact W.vret hx hb hr (fun t ht hW => ⟨⟨rfl, by rw [ht]; exact hP⟩, hS.F ht⟩) hS.2.2 dX6_follow_96
def mX6_follow_b (vj : Nat → Int64) (va : Nat → Int32) (vb : Nat → Int32) (vpb : Nat → Int32) (x3 : Int64) : (Nat → Int64) × (Nat → Int32) × (Nat → Int32) := (if (mX4_wantedDirection vb vpb) = (-1 : Int32) then (bt1 (mX4_turn vb vpb) (fun vb_14 => (bt1 (mX4_comeToNextPlace vb_14) (fun vb_16 => (vj, va, vb_16))))) else (if (lg_cmp x3 (0 : Int64)) = 0 then (bt1 (mX4_comeToNextPlace (upd vb 4 ((vb 4) + (1 : Int32)))) (fun vb_12 => (vj, va, vb_12))) else (bt2 (mX6_pushRow_a vj va (mX6_rowOf_b vj va vb x3) (mX4_wantedDirection vb vpb)) (fun vj_3 va_4 => (bt1 (mX4_comeToNextPlace (upd (upd (upd vb 0 (mX2_beside (vb 0) (mX4_wantedDirection vb vpb))) 3 ((vb 3) + (1 : Int32))) 5 ((vb 5) + (mJ13_bitCount_95d88 (mX6_rowOf_b vj va vb x3))))) (fun vb_9 => (vj_3, va_4, vb_9)))))))
set_option maxHeartbeats 4000000 in
set_option maxRecDepth 100000 in
theorem kX6_follow_b (l : Launch) (Γ : my_G) (q_fl q_k q_c q_a q_pa q_b q_pb : Nat) (vi : Nat → Int32) (vj : Nat → Int64) (vk : Nat → Int32) (vc : Nat → Int32) (va : Nat → Int32) (vpa : Nat → Int32) (vb : Nat → Int32) (vpb : Nat → Int32) (x3 : Int64) (vj_z : Nat → Int64) (va_z : Nat → Int32) (vb_z : Nat → Int32) (hm : mX6_follow_b vj va vb vpb x3 = (vj_z, va_z, vb_z)) : Mn l yX6_follow wsX6_follow ({ frames := 3, cells := 0, slots := 0, locals := 63 } : Room) Γ [.ref q_fl, .ref q_b, .ref q_a, .long x3] (wFloor Γ q_fl q_k q_c q_a q_pa q_b q_pb vi vj vk vc va vpa vb vpb) none (wFloor Γ q_fl q_k q_c q_a q_pa q_b q_pb vi vj_z vk vc va_z vpa vb_z vpb) := by
  intro sz
  refine Met.ofW (cc := cX6_follow) (maxL := 8) (ret := none) (by decide) rfl ?_
  intro p e s m args below meth c s₁ B hml hv
  obtain ⟨rfl, hsz, hP, hK, hD0⟩ := hv
  have hx := B.exec
  have hb := B.bytes
  have hr := B.returns
  have hts := atoms_spec (ws := wsX6_follow) B.pre
  have hown : s.vm.findClass RX6 = some m.cls := findClass_of_methodNamed B.named
  have hlocks := B.notSynchronized
  have hinX1 : ∀ w ∈ u_ws RX1 TX1 12, w ∈ wsX6_follow := fun w h => List.mem_cons_of_mem _ (List.mem_append_right _ h)
  have hinX4 : ∀ w ∈ u_ws RX4 TX4 10, w ∈ wsX6_follow := fun w h => List.mem_cons_of_mem _ (List.mem_append_left _ (List.mem_append_right _ h))
  subst hsz
  have hD := hD0.self (sz := s.heap.size)
  have hA : ∀ q : Nat, s.heap.size ≤ q → va_A (wFloor Γ q_fl q_k q_c q_a q_pa q_b q_pb vi vj vk vc va vpa vb vpb) s.heap.size q := fun q h => Or.inr h
  generalize va_A (wFloor Γ q_fl q_k q_c q_a q_pa q_b q_pb vi vj vk vc va vpa vb vpb) s.heap.size = A at hD hA ⊢
  have hS : va_S A s.heap s.heap [] := va_S.rf
  have hl := lv_entry ([.ref q_fl, .ref q_b, .ref q_a, .long x3]) (n := 8) (Nat.le_of_ble_eq_true rfl)
  rw [lg_entry_eq]
  generalize (lg_sl ([.ref q_fl, .ref q_b, .ref q_a, .long x3]) ++ List.replicate (8 - (lg_sl ([.ref q_fl, .ref q_b, .ref q_a, .long x3])).length) Slot.unset).toArray = ls at hl ⊢
  replace hl : lv_has ls 8 [(0, .ref q_fl), (1, .ref q_b), (2, .ref q_a), (3, .long x3)] := hl
  unfold mX6_follow_b at hm
  refine lv_aload_n hx hb dX6_follow_0 rfl (lv_at hl 1 rfl) ?_
  refine my_call1 (wc := (wRobot Γ q_b q_pb vb vpb)) (w1 := (wRobot Γ q_b q_pb vb vpb)) (ws1 := (wFloor Γ q_fl q_k q_c q_a q_pa q_b q_pb vi vj vk vc va vpa vb vpb)) hP hD hS hA [5, 6] rfl rfl rfl (va_runV (As := []) (rest := []) ⟨hx, hb, hml, hown, hts⟩ (kX4_wantedDirection l Γ q_b q_pb vb vpb (mX4_wantedDirection vb vpb) rfl _) (cwV 0 hts gX6_follow_X4_wantedDirection rfl rfl rfl (by decide +kernel) ⟨Nat.le_of_ble_eq_true rfl, Nat.le_of_ble_eq_true rfl⟩) (my_preV (wc := (wRobot Γ q_b q_pb vb vpb)) (ci := 3) (q0 := 5) [5, 6] hK hP hD rfl rfl rfl rfl) rfl rfl hl.1 rfl (lv_room (Nat.le_of_ble_eq_true rfl)) dX6_follow_1 ⟨Nat.le_of_ble_eq_true rfl, Nat.le_of_ble_eq_true rfl⟩) (fun H locs hP hD hS => ?_)
  refine lv_istore (lv' := [(5, .int (mX4_wantedDirection vb vpb)), (0, .ref q_fl), (1, .ref q_b), (2, .ref q_a), (3, .long x3)]) hx hb dX6_follow_4 hl (by decide) rfl (fun ls hl => ?_)
  refine lv_iload hx hb dX6_follow_6 (lv_at hl 0 rfl) ?_
  refine lv_iconst (v := (-1 : Int32)) hx hb dX6_follow_8 (by decide) ?_
  refine lv_icmp_ne (tgt := 19) hx hb dX6_follow_9 (by decide) (fun c_1 => ?_) (fun c_1 => ?_)
  · replace hm := if_f hm c_1
    refine lv_lload_n hx hb dX6_follow_19 rfl (lv_at hl 4 rfl) ?_
    refine lv_lconst (v := (0 : Int64)) hx hb dX6_follow_20 (by decide) ?_
    refine W.lcmp hx hb dX6_follow_21 ?_
    refine lv_if_ne (tgt := 38) hx hb dX6_follow_22 (by decide) (fun c_2 => ?_) (fun c_2 => ?_)
    · replace hm := if_f hm c_2
      refine lv_aload_n hx hb dX6_follow_38 rfl (lv_at hl 1 rfl) ?_
      refine lv_aload_n hx hb dX6_follow_39 rfl (lv_at hl 2 rfl) ?_
      refine lv_lload_n hx hb dX6_follow_40 rfl (lv_at hl 4 rfl) ?_
      refine my_call1 (wc := (wFloor Γ q_fl q_k q_c q_a q_pa q_b q_pb vi vj vk vc va vpa vb vpb)) (w1 := (wFloor Γ q_fl q_k q_c q_a q_pa q_b q_pb vi vj vk vc va vpa vb vpb)) (ws1 := (wFloor Γ q_fl q_k q_c q_a q_pa q_b q_pb vi vj vk vc va vpa vb vpb)) hP hD hS hA [0, 1, 2, 3, 4, 5, 6] rfl rfl rfl (va_runS (As := [.ref q_fl, .ref q_b, .long x3]) (rest := []) ⟨hx, hb, hml, hown, hts⟩ (kX6_rowOf_b l Γ q_fl q_k q_c q_a q_pa q_b q_pb vi vj vk vc va vpa vb vpb x3 (mX6_rowOf_b vj va vb x3) rfl _) (va_cwS 3 hts gX6_follow_X6_rowOf rfl rfl rfl (by decide +kernel) ⟨Nat.le_of_ble_eq_true rfl, Nat.le_of_ble_eq_true rfl⟩) (my_preS (wc := (wFloor Γ q_fl q_k q_c q_a q_pa q_b q_pb vi vj vk vc va vpa vb vpb)) [0, 1, 2, 3, 4, 5, 6] hK hP hD rfl rfl) rfl rfl hl.1 rfl (lv_room (Nat.le_of_ble_eq_true rfl)) dX6_follow_41 ⟨Nat.le_of_ble_eq_true rfl, Nat.le_of_ble_eq_true rfl⟩) (fun H locs hP hD hS => ?_)
      refine lv_lstore (lv' := [(6, .long (mX6_rowOf_b vj va vb x3)), (5, .int (mX4_wantedDirection vb vpb)), (0, .ref q_fl), (1, .ref q_b), (2, .ref q_a), (3, .long x3)]) hx hb dX6_follow_44 hl (by decide) rfl (fun ls hl => ?_)
      refine lv_aload_n hx hb dX6_follow_46 rfl (lv_at hl 2 rfl) ?_
      refine lv_aload_n hx hb dX6_follow_47 rfl (lv_at hl 4 rfl) ?_
      refine lv_lload hx hb dX6_follow_48 (lv_at hl 0 rfl) ?_
      refine lv_iload hx hb dX6_follow_50 (lv_at hl 1 rfl) ?_
      obtain ⟨vj_3, va_4, hc_5, hm⟩ := bt2_s hm
      refine my_call0 (wc := (wFloor Γ q_fl q_k q_c q_a q_pa q_b q_pb vi vj vk vc va vpa vb vpb)) (w1 := (wFloor Γ q_fl q_k q_c q_a q_pa q_b q_pb vi vj_3 vk vc va_4 vpa vb vpb)) (ws1 := (wFloor Γ q_fl q_k q_c q_a q_pa q_b q_pb vi vj_3 vk vc va_4 vpa vb vpb)) hP hD hS hA [0, 1, 2, 3, 4, 5, 6] rfl rfl rfl (va_runS (As := [.ref q_fl, .ref q_a, .long (mX6_rowOf_b vj va vb x3), .int (mX4_wantedDirection vb vpb)]) (rest := []) ⟨hx, hb, hml, hown, hts⟩ (kX6_pushRow_a l Γ q_fl q_k q_c q_a q_pa q_b q_pb vi vj vk vc va vpa vb vpb (mX6_rowOf_b vj va vb x3) (mX4_wantedDirection vb vpb) vj_3 va_4 hc_5 _) (va_cwS 4 hts gX6_follow_X6_pushRow rfl rfl rfl (by decide +kernel) ⟨Nat.le_of_ble_eq_true rfl, Nat.le_of_ble_eq_true rfl⟩) (my_preS (wc := (wFloor Γ q_fl q_k q_c q_a q_pa q_b q_pb vi vj vk vc va vpa vb vpb)) [0, 1, 2, 3, 4, 5, 6] hK hP hD rfl rfl) rfl rfl hl.1 rfl (lv_room (Nat.le_of_ble_eq_true rfl)) dX6_follow_52 ⟨Nat.le_of_ble_eq_true rfl, Nat.le_of_ble_eq_true rfl⟩) (fun H locs hP hD hS => ?_)
      refine lv_aload_n hx hb dX6_follow_55 rfl (lv_at hl 3 rfl) ?_
      refine lv_aload_n hx hb dX6_follow_56 rfl (lv_at hl 3 rfl) ?_
      refine va_get (D := my_D Γ) (ci := 3) (v := .int (vb 0)) (C := RX4) (T := TX4) (N := 10) hx hb hts hinX4 hown hK hP 5 rfl rfl 0 (by decide) (hts (.fieldLink RX6 66 "BeltFloor$Robot" "cell" "I") (List.mem_of_getElem? (i := 2) rfl)) (fun _ h9 => h9) rfl dX6_follow_57 ?_
      refine lv_iload hx hb dX6_follow_60 (lv_at hl 1 rfl) ?_
      refine my_call1 (wc := ([] : va_W)) (w1 := ([] : va_W)) (ws1 := (wFloor Γ q_fl q_k q_c q_a q_pa q_b q_pb vi vj_3 vk vc va_4 vpa vb vpb)) hP hD hS hA [] rfl rfl rfl (va_runS (As := [.int (vb 0), .int (mX4_wantedDirection vb vpb)]) (rest := [.ref q_b]) ⟨hx, hb, hml, hown, hts⟩ (kX2_beside l Γ (vb 0) (mX4_wantedDirection vb vpb) (mX2_beside (vb 0) (mX4_wantedDirection vb vpb)) rfl _) (va_cwS 2 hts gX6_follow_X2_beside rfl rfl rfl (by decide +kernel) ⟨Nat.le_of_ble_eq_true rfl, Nat.le_of_ble_eq_true rfl⟩) (my_preS (wc := ([] : va_W)) [] hK hP hD rfl rfl) rfl rfl hl.1 rfl (lv_room (Nat.le_of_ble_eq_true rfl)) dX6_follow_62 ⟨Nat.le_of_ble_eq_true rfl, Nat.le_of_ble_eq_true rfl⟩) (fun H locs hP hD hS => ?_)
      refine lv_topi (fun y_6 ey_6 => ?_)
      refine va_put (D := my_D Γ) (ci := 3) (v := .int y_6) (ty := .int) (C := RX4) (T := TX4) (N := 10) hx hb hts hinX4 tyX4 tyX4_ok nmX4 hown hK hP hD hS 5 rfl rfl 0 (by decide) (hts (.fieldLink RX6 66 "BeltFloor$Robot" "cell" "I") (List.mem_of_getElem? (i := 2) rfl)) (fun _ h9 => h9) rfl (by decide +kernel) rfl rfl (Nat.le_of_ble_eq_true rfl) dX6_follow_65 (fun H locs hP hD hS => ?_)
      replace hP : va_P (my_D Γ) vwCl (wFloor Γ q_fl q_k q_c q_a q_pa q_b q_pb vi vj_3 vk vc va_4 vpa (upd vb 0 y_6) vpb) H := hP
      replace hD : va_D A (wFloor Γ q_fl q_k q_c q_a q_pa q_b q_pb vi vj_3 vk vc va_4 vpa (upd vb 0 y_6) vpb) := hD
      subst ey_6
      refine lv_aload_n hx hb dX6_follow_68 rfl (lv_at hl 3 rfl) ?_
      refine lv_dup hx hb dX6_follow_69 rfl ?_
      refine va_get (D := my_D Γ) (ci := 3) (v := .int (vb 3)) (C := RX4) (T := TX4) (N := 10) hx hb hts hinX4 hown hK hP 5 rfl rfl 3 (by decide) (hts (.fieldLink RX6 111 "BeltFloor$Robot" "moves" "I") (List.mem_of_getElem? (i := 3) rfl)) (fun _ h9 => h9) rfl dX6_follow_70 ?_
      refine lv_iconst (v := (1 : Int32)) hx hb dX6_follow_73 (by decide) ?_
      refine lv_iadd hx hb dX6_follow_74 ?_
      refine lv_topi (fun y_7 ey_7 => ?_)
      refine va_put (D := my_D Γ) (ci := 3) (v := .int y_7) (ty := .int) (C := RX4) (T := TX4) (N := 10) hx hb hts hinX4 tyX4 tyX4_ok nmX4 hown hK hP hD hS 5 rfl rfl 3 (by decide) (hts (.fieldLink RX6 111 "BeltFloor$Robot" "moves" "I") (List.mem_of_getElem? (i := 3) rfl)) (fun _ h9 => h9) rfl (by decide +kernel) rfl rfl (Nat.le_of_ble_eq_true rfl) dX6_follow_75 (fun H locs hP hD hS => ?_)
      replace hP : va_P (my_D Γ) vwCl (wFloor Γ q_fl q_k q_c q_a q_pa q_b q_pb vi vj_3 vk vc va_4 vpa (upd (upd vb 0 (mX2_beside (vb 0) (mX4_wantedDirection vb vpb))) 3 y_7) vpb) H := hP
      replace hD : va_D A (wFloor Γ q_fl q_k q_c q_a q_pa q_b q_pb vi vj_3 vk vc va_4 vpa (upd (upd vb 0 (mX2_beside (vb 0) (mX4_wantedDirection vb vpb))) 3 y_7) vpb) := hD
      subst ey_7
      refine lv_aload_n hx hb dX6_follow_78 rfl (lv_at hl 3 rfl) ?_
      refine lv_dup hx hb dX6_follow_79 rfl ?_
      refine va_get (D := my_D Γ) (ci := 3) (v := .int (vb 5)) (C := RX4) (T := TX4) (N := 10) hx hb hts hinX4 hown hK hP 5 rfl rfl 5 (by decide) (hts (.fieldLink RX6 114 "BeltFloor$Robot" "pushes" "I") (List.mem_of_getElem? (i := 4) rfl)) (fun _ h9 => h9) rfl dX6_follow_80 ?_
      refine lv_lload hx hb dX6_follow_83 (lv_at hl 0 rfl) ?_
      refine my_call1 (wc := ([] : va_W)) (w1 := ([] : va_W)) (ws1 := (wFloor Γ q_fl q_k q_c q_a q_pa q_b q_pb vi vj_3 vk vc va_4 vpa (upd (upd vb 0 (mX2_beside (vb 0) (mX4_wantedDirection vb vpb))) 3 ((vb 3) + (1 : Int32))) vpb)) hP hD hS hA [] rfl rfl rfl (va_runS (As := [.long (mX6_rowOf_b vj va vb x3)]) (rest := [.int (vb 5), .ref q_b]) ⟨hx, hb, hml, hown, hts⟩ (kJ13_bitCount_95d88 l Γ (mX6_rowOf_b vj va vb x3) (mJ13_bitCount_95d88 (mX6_rowOf_b vj va vb x3)) rfl _) (va_cwS 1 hts gX6_follow_J13_bitCount_95d88 rfl rfl rfl (by decide +kernel) ⟨Nat.le_of_ble_eq_true rfl, Nat.le_of_ble_eq_true rfl⟩) (my_preS (wc := ([] : va_W)) [] hK hP hD rfl rfl) rfl rfl hl.1 rfl (lv_room (Nat.le_of_ble_eq_true rfl)) dX6_follow_85 ⟨Nat.le_of_ble_eq_true rfl, Nat.le_of_ble_eq_true rfl⟩) (fun H locs hP hD hS => ?_)
      refine lv_iadd hx hb dX6_follow_88 ?_
      refine lv_topi (fun y_8 ey_8 => ?_)
      refine va_put (D := my_D Γ) (ci := 3) (v := .int y_8) (ty := .int) (C := RX4) (T := TX4) (N := 10) hx hb hts hinX4 tyX4 tyX4_ok nmX4 hown hK hP hD hS 5 rfl rfl 5 (by decide) (hts (.fieldLink RX6 114 "BeltFloor$Robot" "pushes" "I") (List.mem_of_getElem? (i := 4) rfl)) (fun _ h9 => h9) rfl (by decide +kernel) rfl rfl (Nat.le_of_ble_eq_true rfl) dX6_follow_89 (fun H locs hP hD hS => ?_)
      replace hP : va_P (my_D Γ) vwCl (wFloor Γ q_fl q_k q_c q_a q_pa q_b q_pb vi vj_3 vk vc va_4 vpa (upd (upd (upd vb 0 (mX2_beside (vb 0) (mX4_wantedDirection vb vpb))) 3 ((vb 3) + (1 : Int32))) 5 y_8) vpb) H := hP
      replace hD : va_D A (wFloor Γ q_fl q_k q_c q_a q_pa q_b q_pb vi vj_3 vk vc va_4 vpa (upd (upd (upd vb 0 (mX2_beside (vb 0) (mX4_wantedDirection vb vpb))) 3 ((vb 3) + (1 : Int32))) 5 y_8) vpb) := hD
      subst ey_8
      refine lv_aload_n hx hb dX6_follow_92 rfl (lv_at hl 3 rfl) ?_
      obtain ⟨vb_9, hc_10, hm⟩ := bt1_s hm
      refine my_call0 (wc := (wRobot Γ q_b q_pb (upd (upd (upd vb 0 (mX2_beside (vb 0) (mX4_wantedDirection vb vpb))) 3 ((vb 3) + (1 : Int32))) 5 ((vb 5) + (mJ13_bitCount_95d88 (mX6_rowOf_b vj va vb x3)))) vpb)) (w1 := (wRobot Γ q_b q_pb vb_9 vpb)) (ws1 := (wFloor Γ q_fl q_k q_c q_a q_pa q_b q_pb vi vj_3 vk vc va_4 vpa vb_9 vpb)) hP hD hS hA [5, 6] rfl rfl rfl (va_runV (As := []) (rest := []) ⟨hx, hb, hml, hown, hts⟩ (kX4_comeToNextPlace l Γ q_b q_pb (upd (upd (upd vb 0 (mX2_beside (vb 0) (mX4_wantedDirection vb vpb))) 3 ((vb 3) + (1 : Int32))) 5 ((vb 5) + (mJ13_bitCount_95d88 (mX6_rowOf_b vj va vb x3)))) vpb vb_9 hc_10 _) (cwV 0 hts gX6_follow_X4_comeToNextPlace rfl rfl rfl (by decide +kernel) ⟨Nat.le_of_ble_eq_true rfl, Nat.le_of_ble_eq_true rfl⟩) (my_preV (wc := (wRobot Γ q_b q_pb (upd (upd (upd vb 0 (mX2_beside (vb 0) (mX4_wantedDirection vb vpb))) 3 ((vb 3) + (1 : Int32))) 5 ((vb 5) + (mJ13_bitCount_95d88 (mX6_rowOf_b vj va vb x3)))) vpb)) (ci := 3) (q0 := 5) [5, 6] hK hP hD rfl rfl rfl rfl) rfl rfl hl.1 rfl (lv_room (Nat.le_of_ble_eq_true rfl)) dX6_follow_93 ⟨Nat.le_of_ble_eq_true rfl, Nat.le_of_ble_eq_true rfl⟩) (fun H locs hP hD hS => ?_)
      obtain ⟨hf0, hf1, hf2⟩ := ti3 hm
      subst hf0
      subst hf1
      subst hf2
      exact W.vret hx hb hr (fun t ht hW => ⟨⟨rfl, by rw [ht]; exact hP⟩, hS.F ht⟩) hS.2.2 dX6_follow_96
    · replace hm := if_s hm c_2
      refine lv_aload_n hx hb dX6_follow_25 rfl (lv_at hl 2 rfl) ?_
      refine lv_dup hx hb dX6_follow_26 rfl ?_
      refine va_get (D := my_D Γ) (ci := 3) (v := .int (vb 4)) (C := RX4) (T := TX4) (N := 10) hx hb hts hinX4 hown hK hP 5 rfl rfl 4 (by decide) (hts (.fieldLink RX6 100 "BeltFloor$Robot" "bumps" "I") (List.mem_of_getElem? (i := 1) rfl)) (fun _ h9 => h9) rfl dX6_follow_27 ?_
      refine lv_iconst (v := (1 : Int32)) hx hb dX6_follow_30 (by decide) ?_
      refine lv_iadd hx hb dX6_follow_31 ?_
      refine lv_topi (fun y_11 ey_11 => ?_)
      refine va_put (D := my_D Γ) (ci := 3) (v := .int y_11) (ty := .int) (C := RX4) (T := TX4) (N := 10) hx hb hts hinX4 tyX4 tyX4_ok nmX4 hown hK hP hD hS 5 rfl rfl 4 (by decide) (hts (.fieldLink RX6 100 "BeltFloor$Robot" "bumps" "I") (List.mem_of_getElem? (i := 1) rfl)) (fun _ h9 => h9) rfl (by decide +kernel) rfl rfl (Nat.le_of_ble_eq_true rfl) dX6_follow_32 (fun H locs hP hD hS => ?_)
      replace hP : va_P (my_D Γ) vwCl (wFloor Γ q_fl q_k q_c q_a q_pa q_b q_pb vi vj vk vc va vpa (upd vb 4 y_11) vpb) H := hP
      replace hD : va_D A (wFloor Γ q_fl q_k q_c q_a q_pa q_b q_pb vi vj vk vc va vpa (upd vb 4 y_11) vpb) := hD
      subst ey_11
      refine lv_goto (tgt := 92) hx hb dX6_follow_35 (by decide) ?_
      refine lv_aload_n hx hb dX6_follow_92 rfl (lv_at hl 2 rfl) ?_
      obtain ⟨vb_12, hc_13, hm⟩ := bt1_s hm
      refine my_call0 (wc := (wRobot Γ q_b q_pb (upd vb 4 ((vb 4) + (1 : Int32))) vpb)) (w1 := (wRobot Γ q_b q_pb vb_12 vpb)) (ws1 := (wFloor Γ q_fl q_k q_c q_a q_pa q_b q_pb vi vj vk vc va vpa vb_12 vpb)) hP hD hS hA [5, 6] rfl rfl rfl (va_runV (As := []) (rest := []) ⟨hx, hb, hml, hown, hts⟩ (kX4_comeToNextPlace l Γ q_b q_pb (upd vb 4 ((vb 4) + (1 : Int32))) vpb vb_12 hc_13 _) (cwV 0 hts gX6_follow_X4_comeToNextPlace rfl rfl rfl (by decide +kernel) ⟨Nat.le_of_ble_eq_true rfl, Nat.le_of_ble_eq_true rfl⟩) (my_preV (wc := (wRobot Γ q_b q_pb (upd vb 4 ((vb 4) + (1 : Int32))) vpb)) (ci := 3) (q0 := 5) [5, 6] hK hP hD rfl rfl rfl rfl) rfl rfl hl.1 rfl (lv_room (Nat.le_of_ble_eq_true rfl)) dX6_follow_93 ⟨Nat.le_of_ble_eq_true rfl, Nat.le_of_ble_eq_true rfl⟩) (fun H locs hP hD hS => ?_)
      obtain ⟨hf0, hf1, hf2⟩ := ti3 hm
      subst hf0
      subst hf1
      subst hf2
      exact W.vret hx hb hr (fun t ht hW => ⟨⟨rfl, by rw [ht]; exact hP⟩, hS.F ht⟩) hS.2.2 dX6_follow_96
  · replace hm := if_s hm c_1
    refine lv_aload_n hx hb dX6_follow_12 rfl (lv_at hl 2 rfl) ?_
    obtain ⟨vb_14, hc_15, hm⟩ := bt1_s hm
    refine my_call0 (wc := (wRobot Γ q_b q_pb vb vpb)) (w1 := (wRobot Γ q_b q_pb vb_14 vpb)) (ws1 := (wFloor Γ q_fl q_k q_c q_a q_pa q_b q_pb vi vj vk vc va vpa vb_14 vpb)) hP hD hS hA [5, 6] rfl rfl rfl (va_runV (As := []) (rest := []) ⟨hx, hb, hml, hown, hts⟩ (kX4_turn l Γ q_b q_pb vb vpb vb_14 hc_15 _) (cwV 0 hts gX6_follow_X4_turn rfl rfl rfl (by decide +kernel) ⟨Nat.le_of_ble_eq_true rfl, Nat.le_of_ble_eq_true rfl⟩) (my_preV (wc := (wRobot Γ q_b q_pb vb vpb)) (ci := 3) (q0 := 5) [5, 6] hK hP hD rfl rfl rfl rfl) rfl rfl hl.1 rfl (lv_room (Nat.le_of_ble_eq_true rfl)) dX6_follow_13 ⟨Nat.le_of_ble_eq_true rfl, Nat.le_of_ble_eq_true rfl⟩) (fun H locs hP hD hS => ?_)
    refine lv_goto (tgt := 92) hx hb dX6_follow_16 (by decide) ?_
    refine lv_aload_n hx hb dX6_follow_92 rfl (lv_at hl 2 rfl) ?_
    obtain ⟨vb_16, hc_17, hm⟩ := bt1_s hm
    refine my_call0 (wc := (wRobot Γ q_b q_pb vb_14 vpb)) (w1 := (wRobot Γ q_b q_pb vb_16 vpb)) (ws1 := (wFloor Γ q_fl q_k q_c q_a q_pa q_b q_pb vi vj vk vc va vpa vb_16 vpb)) hP hD hS hA [5, 6] rfl rfl rfl (va_runV (As := []) (rest := []) ⟨hx, hb, hml, hown, hts⟩ (kX4_comeToNextPlace l Γ q_b q_pb vb_14 vpb vb_16 hc_17 _) (cwV 0 hts gX6_follow_X4_comeToNextPlace rfl rfl rfl (by decide +kernel) ⟨Nat.le_of_ble_eq_true rfl, Nat.le_of_ble_eq_true rfl⟩) (my_preV (wc := (wRobot Γ q_b q_pb vb_14 vpb)) (ci := 3) (q0 := 5) [5, 6] hK hP hD rfl rfl rfl rfl) rfl rfl hl.1 rfl (lv_room (Nat.le_of_ble_eq_true rfl)) dX6_follow_93 ⟨Nat.le_of_ble_eq_true rfl, Nat.le_of_ble_eq_true rfl⟩) (fun H locs hP hD hS => ?_)
    obtain ⟨hf0, hf1, hf2⟩ := ti3 hm
    subst hf0
    subst hf1
    subst hf2
    exact W.vret hx hb hr (fun t ht hW => ⟨⟨rfl, by rw [ht]; exact hP⟩, hS.F ht⟩) hS.2.2 dX6_follow_96
def mX6_beltTarget (vk : Nat → Int32) (x1 : Int32) : Int32 := (if 0 ≤ ((mX1_kindAt vk x1) - (3 : Int32)) then (if (mX1_kindAt vk (mX2_beside x1 ((mX1_kindAt vk x1) - (3 : Int32)))) = (1 : Int32) then (-1 : Int32) else (mX2_beside x1 ((mX1_kindAt vk x1) - (3 : Int32)))) else (-1 : Int32))
set_option maxHeartbeats 4000000 in
set_option maxRecDepth 100000 in
theorem kX6_beltTarget (l : Launch) (Γ : my_G) (q_fl q_k q_c q_a q_pa q_b q_pb : Nat) (vi : Nat → Int32) (vj : Nat → Int64) (vk : Nat → Int32) (vc : Nat → Int32) (va : Nat → Int32) (vpa : Nat → Int32) (vb : Nat → Int32) (vpb : Nat → Int32) (x1 : Int32) (rr : Int32) (hm : mX6_beltTarget vk x1 = rr) : Mn l yX6_beltTarget wsX6_beltTarget ({ frames := 1, cells := 0, slots := 0, locals := 22 } : Room) Γ [.ref q_fl, .int x1] (wFloor Γ q_fl q_k q_c q_a q_pa q_b q_pb vi vj vk vc va vpa vb vpb) (some (.int rr)) (wFloor Γ q_fl q_k q_c q_a q_pa q_b q_pb vi vj vk vc va vpa vb vpb) := by
  intro sz
  refine Met.ofW (cc := cX6_beltTarget) (maxL := 4) (ret := (some .int)) (by decide) rfl ?_
  intro p e s m args below meth c s₁ B hml hv
  obtain ⟨rfl, hsz, hP, hK, hD0⟩ := hv
  have hx := B.exec
  have hb := B.bytes
  have hr := B.returns
  have hts := atoms_spec (ws := wsX6_beltTarget) B.pre
  have hown : s.vm.findClass RX6 = some m.cls := findClass_of_methodNamed B.named
  have hlocks := B.notSynchronized
  have hinX1 : ∀ w ∈ u_ws RX1 TX1 12, w ∈ wsX6_beltTarget := fun w h => List.mem_cons_of_mem _ (List.mem_append_right _ h)
  subst hsz
  have hD := hD0.self (sz := s.heap.size)
  have hA : ∀ q : Nat, s.heap.size ≤ q → va_A (wFloor Γ q_fl q_k q_c q_a q_pa q_b q_pb vi vj vk vc va vpa vb vpb) s.heap.size q := fun q h => Or.inr h
  generalize va_A (wFloor Γ q_fl q_k q_c q_a q_pa q_b q_pb vi vj vk vc va vpa vb vpb) s.heap.size = A at hD hA ⊢
  have hS : va_S A s.heap s.heap [] := va_S.rf
  have hl := lv_entry ([.ref q_fl, .int x1]) (n := 4) (Nat.le_of_ble_eq_true rfl)
  rw [lg_entry_eq]
  generalize (lg_sl ([.ref q_fl, .int x1]) ++ List.replicate (4 - (lg_sl ([.ref q_fl, .int x1])).length) Slot.unset).toArray = ls at hl ⊢
  replace hl : lv_has ls 4 [(0, .ref q_fl), (1, .int x1)] := hl
  unfold mX6_beltTarget at hm
  refine lv_aload_n hx hb dX6_beltTarget_0 rfl (lv_at hl 0 rfl) ?_
  refine lv_iload_n hx hb dX6_beltTarget_1 rfl (lv_at hl 1 rfl) ?_
  refine my_call1 (wc := (wFloor Γ q_fl q_k q_c q_a q_pa q_b q_pb vi vj vk vc va vpa vb vpb)) (w1 := (wFloor Γ q_fl q_k q_c q_a q_pa q_b q_pb vi vj vk vc va vpa vb vpb)) (ws1 := (wFloor Γ q_fl q_k q_c q_a q_pa q_b q_pb vi vj vk vc va vpa vb vpb)) hP hD hS hA [0, 1, 2, 3, 4, 5, 6] rfl rfl rfl (va_runV (As := [.int x1]) (rest := []) ⟨hx, hb, hml, hown, hts⟩ (kX1_kindAt l Γ q_fl q_k q_c q_a q_pa q_b q_pb vi vj vk vc va vpa vb vpb x1 (mX1_kindAt vk x1) rfl _) (cwV 1 hts gX6_beltTarget_X1_kindAt rfl rfl rfl (by decide +kernel) ⟨Nat.le_of_ble_eq_true rfl, Nat.le_of_ble_eq_true rfl⟩) (my_preV (wc := (wFloor Γ q_fl q_k q_c q_a q_pa q_b q_pb vi vj vk vc va vpa vb vpb)) (ci := 1) (q0 := 0) [0, 1, 2, 3, 4, 5, 6] hK hP hD rfl rfl rfl rfl) rfl rfl hl.1 rfl (lv_room (Nat.le_of_ble_eq_true rfl)) dX6_beltTarget_2 ⟨Nat.le_of_ble_eq_true rfl, Nat.le_of_ble_eq_true rfl⟩) (fun H locs hP hD hS => ?_)
  refine lv_iconst (v := (3 : Int32)) hx hb dX6_beltTarget_5 (by decide) ?_
  refine lv_isub hx hb dX6_beltTarget_6 ?_
  refine lv_istore_n (lv' := [(2, .int ((mX1_kindAt vk x1) - (3 : Int32))), (0, .ref q_fl), (1, .int x1)]) hx hb dX6_beltTarget_7 rfl hl (by decide) rfl (fun ls hl => ?_)
  refine lv_iload_n hx hb dX6_beltTarget_8 rfl (lv_at hl 0 rfl) ?_
  refine lv_if_ge (tgt := 14) hx hb dX6_beltTarget_9 (by decide) (fun c_1 => ?_) (fun c_1 => ?_)
  · replace hm := if_s hm c_1
    refine lv_iload_n hx hb dX6_beltTarget_14 rfl (lv_at hl 2 rfl) ?_
    refine lv_iload_n hx hb dX6_beltTarget_15 rfl (lv_at hl 0 rfl) ?_
    refine my_call1 (wc := ([] : va_W)) (w1 := ([] : va_W)) (ws1 := (wFloor Γ q_fl q_k q_c q_a q_pa q_b q_pb vi vj vk vc va vpa vb vpb)) hP hD hS hA [] rfl rfl rfl (va_runS (As := [.int x1, .int ((mX1_kindAt vk x1) - (3 : Int32))]) (rest := []) ⟨hx, hb, hml, hown, hts⟩ (kX2_beside l Γ x1 ((mX1_kindAt vk x1) - (3 : Int32)) (mX2_beside x1 ((mX1_kindAt vk x1) - (3 : Int32))) rfl _) (va_cwS 2 hts gX6_beltTarget_X2_beside rfl rfl rfl (by decide +kernel) ⟨Nat.le_of_ble_eq_true rfl, Nat.le_of_ble_eq_true rfl⟩) (my_preS (wc := ([] : va_W)) [] hK hP hD rfl rfl) rfl rfl hl.1 rfl (lv_room (Nat.le_of_ble_eq_true rfl)) dX6_beltTarget_16 ⟨Nat.le_of_ble_eq_true rfl, Nat.le_of_ble_eq_true rfl⟩) (fun H locs hP hD hS => ?_)
    refine lv_istore_n (lv' := [(3, .int (mX2_beside x1 ((mX1_kindAt vk x1) - (3 : Int32)))), (2, .int ((mX1_kindAt vk x1) - (3 : Int32))), (0, .ref q_fl), (1, .int x1)]) hx hb dX6_beltTarget_19 rfl hl (by decide) rfl (fun ls hl => ?_)
    refine lv_aload_n hx hb dX6_beltTarget_20 rfl (lv_at hl 2 rfl) ?_
    refine lv_iload_n hx hb dX6_beltTarget_21 rfl (lv_at hl 0 rfl) ?_
    refine my_call1 (wc := (wFloor Γ q_fl q_k q_c q_a q_pa q_b q_pb vi vj vk vc va vpa vb vpb)) (w1 := (wFloor Γ q_fl q_k q_c q_a q_pa q_b q_pb vi vj vk vc va vpa vb vpb)) (ws1 := (wFloor Γ q_fl q_k q_c q_a q_pa q_b q_pb vi vj vk vc va vpa vb vpb)) hP hD hS hA [0, 1, 2, 3, 4, 5, 6] rfl rfl rfl (va_runV (As := [.int (mX2_beside x1 ((mX1_kindAt vk x1) - (3 : Int32)))]) (rest := []) ⟨hx, hb, hml, hown, hts⟩ (kX1_kindAt l Γ q_fl q_k q_c q_a q_pa q_b q_pb vi vj vk vc va vpa vb vpb (mX2_beside x1 ((mX1_kindAt vk x1) - (3 : Int32))) (mX1_kindAt vk (mX2_beside x1 ((mX1_kindAt vk x1) - (3 : Int32)))) rfl _) (cwV 1 hts gX6_beltTarget_X1_kindAt rfl rfl rfl (by decide +kernel) ⟨Nat.le_of_ble_eq_true rfl, Nat.le_of_ble_eq_true rfl⟩) (my_preV (wc := (wFloor Γ q_fl q_k q_c q_a q_pa q_b q_pb vi vj vk vc va vpa vb vpb)) (ci := 1) (q0 := 0) [0, 1, 2, 3, 4, 5, 6] hK hP hD rfl rfl rfl rfl) rfl rfl hl.1 rfl (lv_room (Nat.le_of_ble_eq_true rfl)) dX6_beltTarget_22 ⟨Nat.le_of_ble_eq_true rfl, Nat.le_of_ble_eq_true rfl⟩) (fun H locs hP hD hS => ?_)
    refine lv_iconst (v := (1 : Int32)) hx hb dX6_beltTarget_25 (by decide) ?_
    refine lv_icmp_ne (tgt := 33) hx hb dX6_beltTarget_26 (by decide) (fun c_2 => ?_) (fun c_2 => ?_)
    · replace hm := if_f hm c_2
      refine lv_iload_n hx hb dX6_beltTarget_33 rfl (lv_at hl 0 rfl) ?_
      have hf0 := hm
      subst hf0
      exact W.iret (v := (mX2_beside x1 ((mX1_kindAt vk x1) - (3 : Int32)))) hx hb hr (fun t ht hW => ⟨⟨rfl, by rw [ht]; exact hP⟩, hS.F ht⟩) hS.2.2 dX6_beltTarget_34
    · replace hm := if_s hm c_2
      refine lv_iconst (v := (-1 : Int32)) hx hb dX6_beltTarget_29 (by decide) ?_
      refine lv_goto (tgt := 34) hx hb dX6_beltTarget_30 (by decide) ?_
      have hf0 := hm
      subst hf0
      exact W.iret (v := (-1 : Int32)) hx hb hr (fun t ht hW => ⟨⟨rfl, by rw [ht]; exact hP⟩, hS.F ht⟩) hS.2.2 dX6_beltTarget_34
  · replace hm := if_f hm c_1
    refine lv_iconst (v := (-1 : Int32)) hx hb dX6_beltTarget_12 (by decide) ?_
    have hf0 := hm
    subst hf0
    exact W.iret (v := (-1 : Int32)) hx hb hr (fun t ht hW => ⟨⟨rfl, by rw [ht]; exact hP⟩, hS.F ht⟩) hS.2.2 dX6_beltTarget_13
def mX6_wantedTwice_J55 (k8 : (Nat → Int32) → Int64 → Int64 → Int64 → Int32 → Option (Int64)) (vk : Nat → Int32) (l1 : Int64) (l3 : Int64) (l5 : Int64) (l7 : Int32) : Option (Int64) := (k8 vk l1 l3 l5 (l7 + (1 : Int32)))
def mX6_wantedTwice_L8  : Nat → (Nat → Int32) → Int64 → Int64 → Int64 → Int32 → Option (Int64)
  | 0, _, _, _, _, _ => none
  | n + 1, vk, l1, l3, l5, l7 => (if (lg_cmp l1 (0 : Int64)) = 0 then (some l5) else (if (36 : Int32) ≤ l7 then (some l5) else (if (mX2_holds l1 l7) = 0 then (mX6_wantedTwice_J55 (fun vk l1 l3 l5 l7 => mX6_wantedTwice_L8 n vk l1 l3 l5 l7) vk l1 l3 l5 l7) else (mX6_wantedTwice_J55 (fun vk l1 l3 l5 l7 => mX6_wantedTwice_L8 n vk l1 l3 l5 l7) vk l1 (l3 ||| (mX2_setOf (mX6_beltTarget vk l7))) (l5 ||| (l3 &&& (mX2_setOf (mX6_beltTarget vk l7)))) l7))))
def mX6_wantedTwice (vk : Nat → Int32) (x1 : Int64) : Option (Int64) := (mX6_wantedTwice_L8 4096 vk x1 (0 : Int64) (0 : Int64) (0 : Int32))
set_option maxHeartbeats 4000000 in
set_option maxRecDepth 100000 in
theorem kX6_wantedTwice (l : Launch) (Γ : my_G) (q_fl q_k q_c q_a q_pa q_b q_pb : Nat) (vi : Nat → Int32) (vj : Nat → Int64) (vk : Nat → Int32) (vc : Nat → Int32) (va : Nat → Int32) (vpa : Nat → Int32) (vb : Nat → Int32) (vpb : Nat → Int32) (x1 : Int64) (rr : Int64) (hm : mX6_wantedTwice vk x1 = (some rr)) : Mn l yX6_wantedTwice wsX6_wantedTwice ({ frames := 2, cells := 0, slots := 0, locals := 45 } : Room) Γ [.ref q_fl, .long x1] (wFloor Γ q_fl q_k q_c q_a q_pa q_b q_pb vi vj vk vc va vpa vb vpb) (some (.long rr)) (wFloor Γ q_fl q_k q_c q_a q_pa q_b q_pb vi vj vk vc va vpa vb vpb) := by
  intro sz
  refine Met.ofW (cc := cX6_wantedTwice) (maxL := 10) (ret := (some .long)) (by decide) rfl ?_
  intro p e s m args below meth c s₁ B hml hv
  obtain ⟨rfl, hsz, hP, hK, hD0⟩ := hv
  have hx := B.exec
  have hb := B.bytes
  have hr := B.returns
  have hts := atoms_spec (ws := wsX6_wantedTwice) B.pre
  have hown : s.vm.findClass RX6 = some m.cls := findClass_of_methodNamed B.named
  have hlocks := B.notSynchronized
  have hinX1 : ∀ w ∈ u_ws RX1 TX1 12, w ∈ wsX6_wantedTwice := fun w h => List.mem_cons_of_mem _ (List.mem_append_right _ h)
  subst hsz
  have hD := hD0.self (sz := s.heap.size)
  have hA : ∀ q : Nat, s.heap.size ≤ q → va_A (wFloor Γ q_fl q_k q_c q_a q_pa q_b q_pb vi vj vk vc va vpa vb vpb) s.heap.size q := fun q h => Or.inr h
  generalize va_A (wFloor Γ q_fl q_k q_c q_a q_pa q_b q_pb vi vj vk vc va vpa vb vpb) s.heap.size = A at hD hA ⊢
  have hS : va_S A s.heap s.heap [] := va_S.rf
  have hl := lv_entry ([.ref q_fl, .long x1]) (n := 10) (Nat.le_of_ble_eq_true rfl)
  rw [lg_entry_eq]
  generalize (lg_sl ([.ref q_fl, .long x1]) ++ List.replicate (10 - (lg_sl ([.ref q_fl, .long x1])).length) Slot.unset).toArray = ls at hl ⊢
  replace hl : lv_has ls 10 [(0, .ref q_fl), (1, .long x1)] := hl
  have J_55 : ∀ (k8 : (Nat → Int32) → Int64 → Int64 → Int64 → Int32 → Option (Int64)), (∀ (vk : Nat → Int32) (l1 : Int64) (l3 : Int64) (l5 : Int64) (l7 : Int32) (H : Heap) (locs : List Loc) (ls : Array Slot), va_P (my_D Γ) vwCl (wFloor Γ q_fl q_k q_c q_a q_pa q_b q_pb vi vj vk vc va vpa vb vpb) H → va_D A (wFloor Γ q_fl q_k q_c q_a q_pa q_b q_pb vi vj vk vc va vpa vb vpb) → va_S A s.heap H locs → lv_has ls 10 [(0, .ref q_fl), (1, .long l1), (3, .long l3), (5, .long l5), (7, .int l7)] → k8 vk l1 l3 l5 l7 = (some rr) → W p l e (headSpec wsX6_wantedTwice ({ frames := 2, cells := 0, slots := 0, locals := 45 } : Room)).room s m ([.ref q_fl, .long x1] : List Value).toArray below meth c H locs 0 0 (MQ below (my_Q Γ A (some (.long rr)) (wFloor Γ q_fl q_k q_c q_a q_pa q_b q_pb vi vj vk vc va vpa vb vpb)) ([.ref q_fl, .long x1] : List Value).toArray s 0 0 A) (F0 m 8 ls [])) → ∀ (vk : Nat → Int32) (l1 : Int64) (l3 : Int64) (l5 : Int64) (l7 : Int32) (H : Heap) (locs : List Loc) (ls : Array Slot), va_P (my_D Γ) vwCl (wFloor Γ q_fl q_k q_c q_a q_pa q_b q_pb vi vj vk vc va vpa vb vpb) H → va_D A (wFloor Γ q_fl q_k q_c q_a q_pa q_b q_pb vi vj vk vc va vpa vb vpb) → va_S A s.heap H locs → lv_has ls 10 [(0, .ref q_fl), (1, .long l1), (3, .long l3), (5, .long l5), (7, .int l7)] → mX6_wantedTwice_J55 k8 vk l1 l3 l5 l7 = (some rr) → W p l e (headSpec wsX6_wantedTwice ({ frames := 2, cells := 0, slots := 0, locals := 45 } : Room)).room s m ([.ref q_fl, .long x1] : List Value).toArray below meth c H locs 0 0 (MQ below (my_Q Γ A (some (.long rr)) (wFloor Γ q_fl q_k q_c q_a q_pa q_b q_pb vi vj vk vc va vpa vb vpb)) ([.ref q_fl, .long x1] : List Value).toArray s 0 0 A) (F0 m 55 ls []) := by
    intro k8 hk8 vk l1 l3 l5 l7 H locs ls hP hD hS hl hm
    unfold mX6_wantedTwice_J55 at hm
    refine lv_iinc (v := (l7 + (1 : Int32))) (lv' := [(7, .int (l7 + (1 : Int32))), (0, .ref q_fl), (1, .long l1), (3, .long l3), (5, .long l5)]) hx hb dX6_wantedTwice_55 hl (k := 4) rfl rfl (by decide) rfl (fun ls hl => ?_)
    refine lv_goto (tgt := 8) hx hb dX6_wantedTwice_58 (by decide) ?_
    exact hk8 vk l1 l3 l5 (l7 + (1 : Int32)) _ _ _ hP hD hS (lv_sub hl [1, 2, 3, 4, 0] rfl) hm
  have J_8 : ∀ n : Nat, ∀ (vk : Nat → Int32) (l1 : Int64) (l3 : Int64) (l5 : Int64) (l7 : Int32) (H : Heap) (locs : List Loc) (ls : Array Slot), va_P (my_D Γ) vwCl (wFloor Γ q_fl q_k q_c q_a q_pa q_b q_pb vi vj vk vc va vpa vb vpb) H → va_D A (wFloor Γ q_fl q_k q_c q_a q_pa q_b q_pb vi vj vk vc va vpa vb vpb) → va_S A s.heap H locs → lv_has ls 10 [(0, .ref q_fl), (1, .long l1), (3, .long l3), (5, .long l5), (7, .int l7)] → mX6_wantedTwice_L8 n vk l1 l3 l5 l7 = (some rr) → W p l e (headSpec wsX6_wantedTwice ({ frames := 2, cells := 0, slots := 0, locals := 45 } : Room)).room s m ([.ref q_fl, .long x1] : List Value).toArray below meth c H locs 0 0 (MQ below (my_Q Γ A (some (.long rr)) (wFloor Γ q_fl q_k q_c q_a q_pa q_b q_pb vi vj vk vc va vpa vb vpb)) ([.ref q_fl, .long x1] : List Value).toArray s 0 0 A) (F0 m 8 ls []) := by
    intro  n
    induction n with
    | zero => intro vk l1 l3 l5 l7 H locs ls hP hD hS hl hm; cases hm
    | succ n ih =>
      intro vk l1 l3 l5 l7 H locs ls hP hD hS hl hm
      unfold mX6_wantedTwice_L8 at hm
      refine lv_lload_n hx hb dX6_wantedTwice_8 rfl (lv_at hl 1 rfl) ?_
      refine lv_lconst (v := (0 : Int64)) hx hb dX6_wantedTwice_9 (by decide) ?_
      refine W.lcmp hx hb dX6_wantedTwice_10 ?_
      refine lv_if_eq (tgt := 61) hx hb dX6_wantedTwice_11 (by decide) (fun c_1 => ?_) (fun c_1 => ?_)
      · replace hm := if_s hm c_1
        refine lv_lload hx hb dX6_wantedTwice_61 (lv_at hl 3 rfl) ?_
        obtain hf0 := Option.some.inj hm
        subst hf0
        exact W.lret (v := l5) hx hb hr (fun t ht hW => ⟨⟨rfl, by rw [ht]; exact hP⟩, hS.F ht⟩) hS.2.2 dX6_wantedTwice_63
      · replace hm := if_f hm c_1
        refine lv_iload hx hb dX6_wantedTwice_14 (lv_at hl 4 rfl) ?_
        refine lv_bipush (v := (36 : Int32)) hx hb dX6_wantedTwice_16 (by decide) ?_
        refine lv_icmp_ge (tgt := 61) hx hb dX6_wantedTwice_18 (by decide) (fun c_2 => ?_) (fun c_2 => ?_)
        · replace hm := if_s hm c_2
          refine lv_lload hx hb dX6_wantedTwice_61 (lv_at hl 3 rfl) ?_
          obtain hf0 := Option.some.inj hm
          subst hf0
          exact W.lret (v := l5) hx hb hr (fun t ht hW => ⟨⟨rfl, by rw [ht]; exact hP⟩, hS.F ht⟩) hS.2.2 dX6_wantedTwice_63
        · replace hm := if_f hm c_2
          refine lv_lload_n hx hb dX6_wantedTwice_21 rfl (lv_at hl 1 rfl) ?_
          refine lv_iload hx hb dX6_wantedTwice_22 (lv_at hl 4 rfl) ?_
          refine my_call1 (wc := ([] : va_W)) (w1 := ([] : va_W)) (ws1 := (wFloor Γ q_fl q_k q_c q_a q_pa q_b q_pb vi vj vk vc va vpa vb vpb)) hP hD hS hA [] rfl rfl rfl (va_runS (As := [.long l1, .int l7]) (rest := []) ⟨hx, hb, hml, hown, hts⟩ (kX2_holds l Γ l1 l7 (mX2_holds l1 l7) rfl _) (va_cwS 2 hts gX6_wantedTwice_X2_holds rfl rfl rfl (by decide +kernel) ⟨Nat.le_of_ble_eq_true rfl, Nat.le_of_ble_eq_true rfl⟩) (my_preS (wc := ([] : va_W)) [] hK hP hD rfl rfl) rfl rfl hl.1 rfl (lv_room (Nat.le_of_ble_eq_true rfl)) dX6_wantedTwice_24 ⟨Nat.le_of_ble_eq_true rfl, Nat.le_of_ble_eq_true rfl⟩) (fun H locs hP hD hS => ?_)
          refine lv_if_eq (tgt := 55) hx hb dX6_wantedTwice_27 (by decide) (fun c_3 => ?_) (fun c_3 => ?_)
          · replace hm := if_s hm c_3
            exact J_55 (fun vk l1 l3 l5 l7 => mX6_wantedTwice_L8 n vk l1 l3 l5 l7) ih vk l1 l3 l5 l7 _ _ _ hP hD hS (lv_sub hl [0, 1, 2, 3, 4] rfl) hm
          · replace hm := if_f hm c_3
            refine lv_aload_n hx hb dX6_wantedTwice_30 rfl (lv_at hl 0 rfl) ?_
            refine lv_iload hx hb dX6_wantedTwice_31 (lv_at hl 4 rfl) ?_
            refine my_call1 (wc := (wFloor Γ q_fl q_k q_c q_a q_pa q_b q_pb vi vj vk vc va vpa vb vpb)) (w1 := (wFloor Γ q_fl q_k q_c q_a q_pa q_b q_pb vi vj vk vc va vpa vb vpb)) (ws1 := (wFloor Γ q_fl q_k q_c q_a q_pa q_b q_pb vi vj vk vc va vpa vb vpb)) hP hD hS hA [0, 1, 2, 3, 4, 5, 6] rfl rfl rfl (va_runS (As := [.ref q_fl, .int l7]) (rest := []) ⟨hx, hb, hml, hown, hts⟩ (kX6_beltTarget l Γ q_fl q_k q_c q_a q_pa q_b q_pb vi vj vk vc va vpa vb vpb l7 (mX6_beltTarget vk l7) rfl _) (va_cwS 2 hts gX6_wantedTwice_X6_beltTarget rfl rfl rfl (by decide +kernel) ⟨Nat.le_of_ble_eq_true rfl, Nat.le_of_ble_eq_true rfl⟩) (my_preS (wc := (wFloor Γ q_fl q_k q_c q_a q_pa q_b q_pb vi vj vk vc va vpa vb vpb)) [0, 1, 2, 3, 4, 5, 6] hK hP hD rfl rfl) rfl rfl hl.1 rfl (lv_room (Nat.le_of_ble_eq_true rfl)) dX6_wantedTwice_33 ⟨Nat.le_of_ble_eq_true rfl, Nat.le_of_ble_eq_true rfl⟩) (fun H locs hP hD hS => ?_)
            refine my_call1 (wc := ([] : va_W)) (w1 := ([] : va_W)) (ws1 := (wFloor Γ q_fl q_k q_c q_a q_pa q_b q_pb vi vj vk vc va vpa vb vpb)) hP hD hS hA [] rfl rfl rfl (va_runS (As := [.int (mX6_beltTarget vk l7)]) (rest := []) ⟨hx, hb, hml, hown, hts⟩ (kX2_setOf l Γ (mX6_beltTarget vk l7) (mX2_setOf (mX6_beltTarget vk l7)) rfl _) (va_cwS 1 hts gX6_wantedTwice_X2_setOf rfl rfl rfl (by decide +kernel) ⟨Nat.le_of_ble_eq_true rfl, Nat.le_of_ble_eq_true rfl⟩) (my_preS (wc := ([] : va_W)) [] hK hP hD rfl rfl) rfl rfl hl.1 rfl (lv_room (Nat.le_of_ble_eq_true rfl)) dX6_wantedTwice_36 ⟨Nat.le_of_ble_eq_true rfl, Nat.le_of_ble_eq_true rfl⟩) (fun H locs hP hD hS => ?_)
            refine lv_lstore (lv' := [(8, .long (mX2_setOf (mX6_beltTarget vk l7))), (0, .ref q_fl), (1, .long l1), (3, .long l3), (5, .long l5), (7, .int l7)]) hx hb dX6_wantedTwice_39 hl (by decide) rfl (fun ls hl => ?_)
            refine lv_lload hx hb dX6_wantedTwice_41 (lv_at hl 4 rfl) ?_
            refine lv_lload_n hx hb dX6_wantedTwice_43 rfl (lv_at hl 3 rfl) ?_
            refine lv_lload hx hb dX6_wantedTwice_44 (lv_at hl 0 rfl) ?_
            refine lv_land hx hb dX6_wantedTwice_46 ?_
            refine lv_lor hx hb dX6_wantedTwice_47 ?_
            refine lv_lstore (lv' := [(5, .long (l5 ||| (l3 &&& (mX2_setOf (mX6_beltTarget vk l7))))), (8, .long (mX2_setOf (mX6_beltTarget vk l7))), (0, .ref q_fl), (1, .long l1), (3, .long l3), (7, .int l7)]) hx hb dX6_wantedTwice_48 hl (by decide) rfl (fun ls hl => ?_)
            refine lv_lload_n hx hb dX6_wantedTwice_50 rfl (lv_at hl 4 rfl) ?_
            refine lv_lload hx hb dX6_wantedTwice_51 (lv_at hl 1 rfl) ?_
            refine lv_lor hx hb dX6_wantedTwice_53 ?_
            refine lv_lstore_n (lv' := [(3, .long (l3 ||| (mX2_setOf (mX6_beltTarget vk l7)))), (5, .long (l5 ||| (l3 &&& (mX2_setOf (mX6_beltTarget vk l7))))), (8, .long (mX2_setOf (mX6_beltTarget vk l7))), (0, .ref q_fl), (1, .long l1), (7, .int l7)]) hx hb dX6_wantedTwice_54 rfl hl (by decide) rfl (fun ls hl => ?_)
            exact J_55 (fun vk l1 l3 l5 l7 => mX6_wantedTwice_L8 n vk l1 l3 l5 l7) ih vk l1 (l3 ||| (mX2_setOf (mX6_beltTarget vk l7))) (l5 ||| (l3 &&& (mX2_setOf (mX6_beltTarget vk l7)))) l7 _ _ _ hP hD hS (lv_sub hl [3, 4, 0, 1, 5] rfl) hm
  unfold mX6_wantedTwice at hm
  refine lv_lconst (v := (0 : Int64)) hx hb dX6_wantedTwice_0 (by decide) ?_
  refine lv_lstore_n (lv' := [(3, .long (0 : Int64)), (0, .ref q_fl), (1, .long x1)]) hx hb dX6_wantedTwice_1 rfl hl (by decide) rfl (fun ls hl => ?_)
  refine lv_lconst (v := (0 : Int64)) hx hb dX6_wantedTwice_2 (by decide) ?_
  refine lv_lstore (lv' := [(5, .long (0 : Int64)), (3, .long (0 : Int64)), (0, .ref q_fl), (1, .long x1)]) hx hb dX6_wantedTwice_3 hl (by decide) rfl (fun ls hl => ?_)
  refine lv_iconst (v := (0 : Int32)) hx hb dX6_wantedTwice_5 (by decide) ?_
  refine lv_istore (lv' := [(7, .int (0 : Int32)), (5, .long (0 : Int64)), (3, .long (0 : Int64)), (0, .ref q_fl), (1, .long x1)]) hx hb dX6_wantedTwice_6 hl (by decide) rfl (fun ls hl => ?_)
  exact J_8 4096 vk x1 (0 : Int64) (0 : Int64) (0 : Int32) _ _ _ hP hD hS (lv_sub hl [3, 4, 2, 1, 0] rfl) hm
def mX6_carriedIfUnhindered_J93 (k6 : (Nat → Int32) → Int64 → Int64 → Int64 → Int32 → Option (Int64)) (vk : Nat → Int32) (l1 : Int64) (l3 : Int64) (l5 : Int64) (l7 : Int32) : Option (Int64) := (k6 vk l1 l3 l5 (l7 + (1 : Int32)))
def mX6_carriedIfUnhindered_J61 (k6 : (Nat → Int32) → Int64 → Int64 → Int64 → Int32 → Option (Int64)) (vk : Nat → Int32) (l1 : Int64) (l3 : Int64) (l5 : Int64) (l7 : Int32) (l8 : Int32) (s0 : Int32) : Option (Int64) := (if l8 = (-1 : Int32) then (mX6_carriedIfUnhindered_J93 k6 vk l1 l3 l5 l7) else (if (mX2_holds l3 l8) = 0 then (if s0 = 0 then (mX6_carriedIfUnhindered_J93 k6 vk l1 l3 (l5 ||| (mX2_setOf l7)) l7) else (mX6_carriedIfUnhindered_J93 k6 vk l1 l3 l5 l7)) else (mX6_carriedIfUnhindered_J93 k6 vk l1 l3 l5 l7)))
def mX6_carriedIfUnhindered_J60 (k6 : (Nat → Int32) → Int64 → Int64 → Int64 → Int32 → Option (Int64)) (vk : Nat → Int32) (l1 : Int64) (l3 : Int64) (l5 : Int64) (l7 : Int32) (l8 : Int32) : Option (Int64) := (mX6_carriedIfUnhindered_J61 k6 vk l1 l3 l5 l7 l8 (0 : Int32))
def mX6_carriedIfUnhindered_L6  : Nat → (Nat → Int32) → Int64 → Int64 → Int64 → Int32 → Option (Int64)
  | 0, _, _, _, _, _ => none
  | n + 1, vk, l1, l3, l5, l7 => (if (lg_cmp l1 (0 : Int64)) = 0 then (some l5) else (if (36 : Int32) ≤ l7 then (some l5) else (if (mX2_holds l1 l7) = 0 then (mX6_carriedIfUnhindered_J93 (fun vk l1 l3 l5 l7 => mX6_carriedIfUnhindered_L6 n vk l1 l3 l5 l7) vk l1 l3 l5 l7) else (if (mX2_holds l1 (mX6_beltTarget vk l7)) = 0 then (mX6_carriedIfUnhindered_J60 (fun vk l1 l3 l5 l7 => mX6_carriedIfUnhindered_L6 n vk l1 l3 l5 l7) vk l1 l3 l5 l7 (mX6_beltTarget vk l7)) else (if (mX6_beltTarget vk (mX6_beltTarget vk l7)) = l7 then (mX6_carriedIfUnhindered_J61 (fun vk l1 l3 l5 l7 => mX6_carriedIfUnhindered_L6 n vk l1 l3 l5 l7) vk l1 l3 l5 l7 (mX6_beltTarget vk l7) (1 : Int32)) else (mX6_carriedIfUnhindered_J60 (fun vk l1 l3 l5 l7 => mX6_carriedIfUnhindered_L6 n vk l1 l3 l5 l7) vk l1 l3 l5 l7 (mX6_beltTarget vk l7)))))))
def mX6_carriedIfUnhindered (vk : Nat → Int32) (x1 : Int64) (x2 : Int64) : Option (Int64) := (mX6_carriedIfUnhindered_L6 4096 vk x1 x2 (0 : Int64) (0 : Int32))
set_option maxHeartbeats 4000000 in
set_option maxRecDepth 100000 in
theorem kX6_carriedIfUnhindered (l : Launch) (Γ : my_G) (q_fl q_k q_c q_a q_pa q_b q_pb : Nat) (vi : Nat → Int32) (vj : Nat → Int64) (vk : Nat → Int32) (vc : Nat → Int32) (va : Nat → Int32) (vpa : Nat → Int32) (vb : Nat → Int32) (vpb : Nat → Int32) (x1 : Int64) (x2 : Int64) (rr : Int64) (hm : mX6_carriedIfUnhindered vk x1 x2 = (some rr)) : Mn l yX6_carriedIfUnhindered wsX6_carriedIfUnhindered ({ frames := 2, cells := 0, slots := 0, locals := 45 } : Room) Γ [.ref q_fl, .long x1, .long x2] (wFloor Γ q_fl q_k q_c q_a q_pa q_b q_pb vi vj vk vc va vpa vb vpb) (some (.long rr)) (wFloor Γ q_fl q_k q_c q_a q_pa q_b q_pb vi vj vk vc va vpa vb vpb) := by
  intro sz
  refine Met.ofW (cc := cX6_carriedIfUnhindered) (maxL := 10) (ret := (some .long)) (by decide) rfl ?_
  intro p e s m args below meth c s₁ B hml hv
  obtain ⟨rfl, hsz, hP, hK, hD0⟩ := hv
  have hx := B.exec
  have hb := B.bytes
  have hr := B.returns
  have hts := atoms_spec (ws := wsX6_carriedIfUnhindered) B.pre
  have hown : s.vm.findClass RX6 = some m.cls := findClass_of_methodNamed B.named
  have hlocks := B.notSynchronized
  have hinX1 : ∀ w ∈ u_ws RX1 TX1 12, w ∈ wsX6_carriedIfUnhindered := fun w h => List.mem_cons_of_mem _ (List.mem_append_right _ h)
  subst hsz
  have hD := hD0.self (sz := s.heap.size)
  have hA : ∀ q : Nat, s.heap.size ≤ q → va_A (wFloor Γ q_fl q_k q_c q_a q_pa q_b q_pb vi vj vk vc va vpa vb vpb) s.heap.size q := fun q h => Or.inr h
  generalize va_A (wFloor Γ q_fl q_k q_c q_a q_pa q_b q_pb vi vj vk vc va vpa vb vpb) s.heap.size = A at hD hA ⊢
  have hS : va_S A s.heap s.heap [] := va_S.rf
  have hl := lv_entry ([.ref q_fl, .long x1, .long x2]) (n := 10) (Nat.le_of_ble_eq_true rfl)
  rw [lg_entry_eq]
  generalize (lg_sl ([.ref q_fl, .long x1, .long x2]) ++ List.replicate (10 - (lg_sl ([.ref q_fl, .long x1, .long x2])).length) Slot.unset).toArray = ls at hl ⊢
  replace hl : lv_has ls 10 [(0, .ref q_fl), (1, .long x1), (3, .long x2)] := hl
  have J_93 : ∀ (k6 : (Nat → Int32) → Int64 → Int64 → Int64 → Int32 → Option (Int64)), (∀ (vk : Nat → Int32) (l1 : Int64) (l3 : Int64) (l5 : Int64) (l7 : Int32) (H : Heap) (locs : List Loc) (ls : Array Slot), va_P (my_D Γ) vwCl (wFloor Γ q_fl q_k q_c q_a q_pa q_b q_pb vi vj vk vc va vpa vb vpb) H → va_D A (wFloor Γ q_fl q_k q_c q_a q_pa q_b q_pb vi vj vk vc va vpa vb vpb) → va_S A s.heap H locs → lv_has ls 10 [(0, .ref q_fl), (1, .long l1), (3, .long l3), (5, .long l5), (7, .int l7)] → k6 vk l1 l3 l5 l7 = (some rr) → W p l e (headSpec wsX6_carriedIfUnhindered ({ frames := 2, cells := 0, slots := 0, locals := 45 } : Room)).room s m ([.ref q_fl, .long x1, .long x2] : List Value).toArray below meth c H locs 0 0 (MQ below (my_Q Γ A (some (.long rr)) (wFloor Γ q_fl q_k q_c q_a q_pa q_b q_pb vi vj vk vc va vpa vb vpb)) ([.ref q_fl, .long x1, .long x2] : List Value).toArray s 0 0 A) (F0 m 6 ls [])) → ∀ (vk : Nat → Int32) (l1 : Int64) (l3 : Int64) (l5 : Int64) (l7 : Int32) (H : Heap) (locs : List Loc) (ls : Array Slot), va_P (my_D Γ) vwCl (wFloor Γ q_fl q_k q_c q_a q_pa q_b q_pb vi vj vk vc va vpa vb vpb) H → va_D A (wFloor Γ q_fl q_k q_c q_a q_pa q_b q_pb vi vj vk vc va vpa vb vpb) → va_S A s.heap H locs → lv_has ls 10 [(0, .ref q_fl), (1, .long l1), (3, .long l3), (5, .long l5), (7, .int l7)] → mX6_carriedIfUnhindered_J93 k6 vk l1 l3 l5 l7 = (some rr) → W p l e (headSpec wsX6_carriedIfUnhindered ({ frames := 2, cells := 0, slots := 0, locals := 45 } : Room)).room s m ([.ref q_fl, .long x1, .long x2] : List Value).toArray below meth c H locs 0 0 (MQ below (my_Q Γ A (some (.long rr)) (wFloor Γ q_fl q_k q_c q_a q_pa q_b q_pb vi vj vk vc va vpa vb vpb)) ([.ref q_fl, .long x1, .long x2] : List Value).toArray s 0 0 A) (F0 m 93 ls []) := by
    intro k6 hk6 vk l1 l3 l5 l7 H locs ls hP hD hS hl hm
    unfold mX6_carriedIfUnhindered_J93 at hm
    refine lv_iinc (v := (l7 + (1 : Int32))) (lv' := [(7, .int (l7 + (1 : Int32))), (0, .ref q_fl), (1, .long l1), (3, .long l3), (5, .long l5)]) hx hb dX6_carriedIfUnhindered_93 hl (k := 4) rfl rfl (by decide) rfl (fun ls hl => ?_)
    refine lv_goto (tgt := 6) hx hb dX6_carriedIfUnhindered_96 (by decide) ?_
    exact hk6 vk l1 l3 l5 (l7 + (1 : Int32)) _ _ _ hP hD hS (lv_sub hl [1, 2, 3, 4, 0] rfl) hm
  have J_61 : ∀ (k6 : (Nat → Int32) → Int64 → Int64 → Int64 → Int32 → Option (Int64)), (∀ (vk : Nat → Int32) (l1 : Int64) (l3 : Int64) (l5 : Int64) (l7 : Int32) (H : Heap) (locs : List Loc) (ls : Array Slot), va_P (my_D Γ) vwCl (wFloor Γ q_fl q_k q_c q_a q_pa q_b q_pb vi vj vk vc va vpa vb vpb) H → va_D A (wFloor Γ q_fl q_k q_c q_a q_pa q_b q_pb vi vj vk vc va vpa vb vpb) → va_S A s.heap H locs → lv_has ls 10 [(0, .ref q_fl), (1, .long l1), (3, .long l3), (5, .long l5), (7, .int l7)] → k6 vk l1 l3 l5 l7 = (some rr) → W p l e (headSpec wsX6_carriedIfUnhindered ({ frames := 2, cells := 0, slots := 0, locals := 45 } : Room)).room s m ([.ref q_fl, .long x1, .long x2] : List Value).toArray below meth c H locs 0 0 (MQ below (my_Q Γ A (some (.long rr)) (wFloor Γ q_fl q_k q_c q_a q_pa q_b q_pb vi vj vk vc va vpa vb vpb)) ([.ref q_fl, .long x1, .long x2] : List Value).toArray s 0 0 A) (F0 m 6 ls [])) → ∀ (vk : Nat → Int32) (l1 : Int64) (l3 : Int64) (l5 : Int64) (l7 : Int32) (l8 : Int32) (s0 : Int32) (H : Heap) (locs : List Loc) (ls : Array Slot), va_P (my_D Γ) vwCl (wFloor Γ q_fl q_k q_c q_a q_pa q_b q_pb vi vj vk vc va vpa vb vpb) H → va_D A (wFloor Γ q_fl q_k q_c q_a q_pa q_b q_pb vi vj vk vc va vpa vb vpb) → va_S A s.heap H locs → lv_has ls 10 [(0, .ref q_fl), (1, .long l1), (3, .long l3), (5, .long l5), (7, .int l7), (8, .int l8)] → mX6_carriedIfUnhindered_J61 k6 vk l1 l3 l5 l7 l8 s0 = (some rr) → W p l e (headSpec wsX6_carriedIfUnhindered ({ frames := 2, cells := 0, slots := 0, locals := 45 } : Room)).room s m ([.ref q_fl, .long x1, .long x2] : List Value).toArray below meth c H locs 0 0 (MQ below (my_Q Γ A (some (.long rr)) (wFloor Γ q_fl q_k q_c q_a q_pa q_b q_pb vi vj vk vc va vpa vb vpb)) ([.ref q_fl, .long x1, .long x2] : List Value).toArray s 0 0 A) (F0 m 61 ls [.int s0]) := by
    intro k6 hk6 vk l1 l3 l5 l7 l8 s0 H locs ls hP hD hS hl hm
    unfold mX6_carriedIfUnhindered_J61 at hm
    refine lv_istore (lv' := [(9, .int s0), (0, .ref q_fl), (1, .long l1), (3, .long l3), (5, .long l5), (7, .int l7), (8, .int l8)]) hx hb dX6_carriedIfUnhindered_61 hl (by decide) rfl (fun ls hl => ?_)
    refine lv_iload hx hb dX6_carriedIfUnhindered_63 (lv_at hl 6 rfl) ?_
    refine lv_iconst (v := (-1 : Int32)) hx hb dX6_carriedIfUnhindered_65 (by decide) ?_
    refine lv_icmp_eq (tgt := 93) hx hb dX6_carriedIfUnhindered_66 (by decide) (fun c_5 => ?_) (fun c_5 => ?_)
    · replace hm := if_s hm c_5
      exact J_93 k6 hk6 vk l1 l3 l5 l7 _ _ _ hP hD hS (lv_sub hl [1, 2, 3, 4, 5] rfl) hm
    · replace hm := if_f hm c_5
      refine lv_lload_n hx hb dX6_carriedIfUnhindered_69 rfl (lv_at hl 3 rfl) ?_
      refine lv_iload hx hb dX6_carriedIfUnhindered_70 (lv_at hl 6 rfl) ?_
      refine my_call1 (wc := ([] : va_W)) (w1 := ([] : va_W)) (ws1 := (wFloor Γ q_fl q_k q_c q_a q_pa q_b q_pb vi vj vk vc va vpa vb vpb)) hP hD hS hA [] rfl rfl rfl (va_runS (As := [.long l3, .int l8]) (rest := []) ⟨hx, hb, hml, hown, hts⟩ (kX2_holds l Γ l3 l8 (mX2_holds l3 l8) rfl _) (va_cwS 2 hts gX6_carriedIfUnhindered_X2_holds rfl rfl rfl (by decide +kernel) ⟨Nat.le_of_ble_eq_true rfl, Nat.le_of_ble_eq_true rfl⟩) (my_preS (wc := ([] : va_W)) [] hK hP hD rfl rfl) rfl rfl hl.1 rfl (lv_room (Nat.le_of_ble_eq_true rfl)) dX6_carriedIfUnhindered_72 ⟨Nat.le_of_ble_eq_true rfl, Nat.le_of_ble_eq_true rfl⟩) (fun H locs hP hD hS => ?_)
      refine lv_if_ne (tgt := 93) hx hb dX6_carriedIfUnhindered_75 (by decide) (fun c_6 => ?_) (fun c_6 => ?_)
      · replace hm := if_f hm c_6
        exact J_93 k6 hk6 vk l1 l3 l5 l7 _ _ _ hP hD hS (lv_sub hl [1, 2, 3, 4, 5] rfl) hm
      · replace hm := if_s hm c_6
        refine lv_iload hx hb dX6_carriedIfUnhindered_78 (lv_at hl 0 rfl) ?_
        refine lv_if_ne (tgt := 93) hx hb dX6_carriedIfUnhindered_80 (by decide) (fun c_7 => ?_) (fun c_7 => ?_)
        · replace hm := if_f hm c_7
          exact J_93 k6 hk6 vk l1 l3 l5 l7 _ _ _ hP hD hS (lv_sub hl [1, 2, 3, 4, 5] rfl) hm
        · replace hm := if_s hm c_7
          refine lv_lload hx hb dX6_carriedIfUnhindered_83 (lv_at hl 4 rfl) ?_
          refine lv_iload hx hb dX6_carriedIfUnhindered_85 (lv_at hl 5 rfl) ?_
          refine my_call1 (wc := ([] : va_W)) (w1 := ([] : va_W)) (ws1 := (wFloor Γ q_fl q_k q_c q_a q_pa q_b q_pb vi vj vk vc va vpa vb vpb)) hP hD hS hA [] rfl rfl rfl (va_runS (As := [.int l7]) (rest := [.long l5]) ⟨hx, hb, hml, hown, hts⟩ (kX2_setOf l Γ l7 (mX2_setOf l7) rfl _) (va_cwS 1 hts gX6_carriedIfUnhindered_X2_setOf rfl rfl rfl (by decide +kernel) ⟨Nat.le_of_ble_eq_true rfl, Nat.le_of_ble_eq_true rfl⟩) (my_preS (wc := ([] : va_W)) [] hK hP hD rfl rfl) rfl rfl hl.1 rfl (lv_room (Nat.le_of_ble_eq_true rfl)) dX6_carriedIfUnhindered_87 ⟨Nat.le_of_ble_eq_true rfl, Nat.le_of_ble_eq_true rfl⟩) (fun H locs hP hD hS => ?_)
          refine lv_lor hx hb dX6_carriedIfUnhindered_90 ?_
          refine lv_lstore (lv' := [(5, .long (l5 ||| (mX2_setOf l7))), (9, .int s0), (0, .ref q_fl), (1, .long l1), (3, .long l3), (7, .int l7), (8, .int l8)]) hx hb dX6_carriedIfUnhindered_91 hl (by decide) rfl (fun ls hl => ?_)
          exact J_93 k6 hk6 vk l1 l3 (l5 ||| (mX2_setOf l7)) l7 _ _ _ hP hD hS (lv_sub hl [2, 3, 4, 0, 5] rfl) hm
  have J_60 : ∀ (k6 : (Nat → Int32) → Int64 → Int64 → Int64 → Int32 → Option (Int64)), (∀ (vk : Nat → Int32) (l1 : Int64) (l3 : Int64) (l5 : Int64) (l7 : Int32) (H : Heap) (locs : List Loc) (ls : Array Slot), va_P (my_D Γ) vwCl (wFloor Γ q_fl q_k q_c q_a q_pa q_b q_pb vi vj vk vc va vpa vb vpb) H → va_D A (wFloor Γ q_fl q_k q_c q_a q_pa q_b q_pb vi vj vk vc va vpa vb vpb) → va_S A s.heap H locs → lv_has ls 10 [(0, .ref q_fl), (1, .long l1), (3, .long l3), (5, .long l5), (7, .int l7)] → k6 vk l1 l3 l5 l7 = (some rr) → W p l e (headSpec wsX6_carriedIfUnhindered ({ frames := 2, cells := 0, slots := 0, locals := 45 } : Room)).room s m ([.ref q_fl, .long x1, .long x2] : List Value).toArray below meth c H locs 0 0 (MQ below (my_Q Γ A (some (.long rr)) (wFloor Γ q_fl q_k q_c q_a q_pa q_b q_pb vi vj vk vc va vpa vb vpb)) ([.ref q_fl, .long x1, .long x2] : List Value).toArray s 0 0 A) (F0 m 6 ls [])) → ∀ (vk : Nat → Int32) (l1 : Int64) (l3 : Int64) (l5 : Int64) (l7 : Int32) (l8 : Int32) (H : Heap) (locs : List Loc) (ls : Array Slot), va_P (my_D Γ) vwCl (wFloor Γ q_fl q_k q_c q_a q_pa q_b q_pb vi vj vk vc va vpa vb vpb) H → va_D A (wFloor Γ q_fl q_k q_c q_a q_pa q_b q_pb vi vj vk vc va vpa vb vpb) → va_S A s.heap H locs → lv_has ls 10 [(0, .ref q_fl), (1, .long l1), (3, .long l3), (5, .long l5), (7, .int l7), (8, .int l8)] → mX6_carriedIfUnhindered_J60 k6 vk l1 l3 l5 l7 l8 = (some rr) → W p l e (headSpec wsX6_carriedIfUnhindered ({ frames := 2, cells := 0, slots := 0, locals := 45 } : Room)).room s m ([.ref q_fl, .long x1, .long x2] : List Value).toArray below meth c H locs 0 0 (MQ below (my_Q Γ A (some (.long rr)) (wFloor Γ q_fl q_k q_c q_a q_pa q_b q_pb vi vj vk vc va vpa vb vpb)) ([.ref q_fl, .long x1, .long x2] : List Value).toArray s 0 0 A) (F0 m 60 ls []) := by
    intro k6 hk6 vk l1 l3 l5 l7 l8 H locs ls hP hD hS hl hm
    unfold mX6_carriedIfUnhindered_J60 at hm
    refine lv_iconst (v := (0 : Int32)) hx hb dX6_carriedIfUnhindered_60 (by decide) ?_
    exact J_61 k6 hk6 vk l1 l3 l5 l7 l8 (0 : Int32) _ _ _ hP hD hS (lv_sub hl [0, 1, 2, 3, 4, 5] rfl) hm
  have J_6 : ∀ n : Nat, ∀ (vk : Nat → Int32) (l1 : Int64) (l3 : Int64) (l5 : Int64) (l7 : Int32) (H : Heap) (locs : List Loc) (ls : Array Slot), va_P (my_D Γ) vwCl (wFloor Γ q_fl q_k q_c q_a q_pa q_b q_pb vi vj vk vc va vpa vb vpb) H → va_D A (wFloor Γ q_fl q_k q_c q_a q_pa q_b q_pb vi vj vk vc va vpa vb vpb) → va_S A s.heap H locs → lv_has ls 10 [(0, .ref q_fl), (1, .long l1), (3, .long l3), (5, .long l5), (7, .int l7)] → mX6_carriedIfUnhindered_L6 n vk l1 l3 l5 l7 = (some rr) → W p l e (headSpec wsX6_carriedIfUnhindered ({ frames := 2, cells := 0, slots := 0, locals := 45 } : Room)).room s m ([.ref q_fl, .long x1, .long x2] : List Value).toArray below meth c H locs 0 0 (MQ below (my_Q Γ A (some (.long rr)) (wFloor Γ q_fl q_k q_c q_a q_pa q_b q_pb vi vj vk vc va vpa vb vpb)) ([.ref q_fl, .long x1, .long x2] : List Value).toArray s 0 0 A) (F0 m 6 ls []) := by
    intro  n
    induction n with
    | zero => intro vk l1 l3 l5 l7 H locs ls hP hD hS hl hm; cases hm
    | succ n ih =>
      intro vk l1 l3 l5 l7 H locs ls hP hD hS hl hm
      unfold mX6_carriedIfUnhindered_L6 at hm
      refine lv_lload_n hx hb dX6_carriedIfUnhindered_6 rfl (lv_at hl 1 rfl) ?_
      refine lv_lconst (v := (0 : Int64)) hx hb dX6_carriedIfUnhindered_7 (by decide) ?_
      refine W.lcmp hx hb dX6_carriedIfUnhindered_8 ?_
      refine lv_if_eq (tgt := 99) hx hb dX6_carriedIfUnhindered_9 (by decide) (fun c_1 => ?_) (fun c_1 => ?_)
      · replace hm := if_s hm c_1
        refine lv_lload hx hb dX6_carriedIfUnhindered_99 (lv_at hl 3 rfl) ?_
        obtain hf0 := Option.some.inj hm
        subst hf0
        exact W.lret (v := l5) hx hb hr (fun t ht hW => ⟨⟨rfl, by rw [ht]; exact hP⟩, hS.F ht⟩) hS.2.2 dX6_carriedIfUnhindered_101
      · replace hm := if_f hm c_1
        refine lv_iload hx hb dX6_carriedIfUnhindered_12 (lv_at hl 4 rfl) ?_
        refine lv_bipush (v := (36 : Int32)) hx hb dX6_carriedIfUnhindered_14 (by decide) ?_
        refine lv_icmp_ge (tgt := 99) hx hb dX6_carriedIfUnhindered_16 (by decide) (fun c_2 => ?_) (fun c_2 => ?_)
        · replace hm := if_s hm c_2
          refine lv_lload hx hb dX6_carriedIfUnhindered_99 (lv_at hl 3 rfl) ?_
          obtain hf0 := Option.some.inj hm
          subst hf0
          exact W.lret (v := l5) hx hb hr (fun t ht hW => ⟨⟨rfl, by rw [ht]; exact hP⟩, hS.F ht⟩) hS.2.2 dX6_carriedIfUnhindered_101
        · replace hm := if_f hm c_2
          refine lv_lload_n hx hb dX6_carriedIfUnhindered_19 rfl (lv_at hl 1 rfl) ?_
          refine lv_iload hx hb dX6_carriedIfUnhindered_20 (lv_at hl 4 rfl) ?_
          refine my_call1 (wc := ([] : va_W)) (w1 := ([] : va_W)) (ws1 := (wFloor Γ q_fl q_k q_c q_a q_pa q_b q_pb vi vj vk vc va vpa vb vpb)) hP hD hS hA [] rfl rfl rfl (va_runS (As := [.long l1, .int l7]) (rest := []) ⟨hx, hb, hml, hown, hts⟩ (kX2_holds l Γ l1 l7 (mX2_holds l1 l7) rfl _) (va_cwS 2 hts gX6_carriedIfUnhindered_X2_holds rfl rfl rfl (by decide +kernel) ⟨Nat.le_of_ble_eq_true rfl, Nat.le_of_ble_eq_true rfl⟩) (my_preS (wc := ([] : va_W)) [] hK hP hD rfl rfl) rfl rfl hl.1 rfl (lv_room (Nat.le_of_ble_eq_true rfl)) dX6_carriedIfUnhindered_22 ⟨Nat.le_of_ble_eq_true rfl, Nat.le_of_ble_eq_true rfl⟩) (fun H locs hP hD hS => ?_)
          refine lv_if_eq (tgt := 93) hx hb dX6_carriedIfUnhindered_25 (by decide) (fun c_3 => ?_) (fun c_3 => ?_)
          · replace hm := if_s hm c_3
            exact J_93 (fun vk l1 l3 l5 l7 => mX6_carriedIfUnhindered_L6 n vk l1 l3 l5 l7) ih vk l1 l3 l5 l7 _ _ _ hP hD hS (lv_sub hl [0, 1, 2, 3, 4] rfl) hm
          · replace hm := if_f hm c_3
            refine lv_aload_n hx hb dX6_carriedIfUnhindered_28 rfl (lv_at hl 0 rfl) ?_
            refine lv_iload hx hb dX6_carriedIfUnhindered_29 (lv_at hl 4 rfl) ?_
            refine my_call1 (wc := (wFloor Γ q_fl q_k q_c q_a q_pa q_b q_pb vi vj vk vc va vpa vb vpb)) (w1 := (wFloor Γ q_fl q_k q_c q_a q_pa q_b q_pb vi vj vk vc va vpa vb vpb)) (ws1 := (wFloor Γ q_fl q_k q_c q_a q_pa q_b q_pb vi vj vk vc va vpa vb vpb)) hP hD hS hA [0, 1, 2, 3, 4, 5, 6] rfl rfl rfl (va_runS (As := [.ref q_fl, .int l7]) (rest := []) ⟨hx, hb, hml, hown, hts⟩ (kX6_beltTarget l Γ q_fl q_k q_c q_a q_pa q_b q_pb vi vj vk vc va vpa vb vpb l7 (mX6_beltTarget vk l7) rfl _) (va_cwS 2 hts gX6_carriedIfUnhindered_X6_beltTarget rfl rfl rfl (by decide +kernel) ⟨Nat.le_of_ble_eq_true rfl, Nat.le_of_ble_eq_true rfl⟩) (my_preS (wc := (wFloor Γ q_fl q_k q_c q_a q_pa q_b q_pb vi vj vk vc va vpa vb vpb)) [0, 1, 2, 3, 4, 5, 6] hK hP hD rfl rfl) rfl rfl hl.1 rfl (lv_room (Nat.le_of_ble_eq_true rfl)) dX6_carriedIfUnhindered_31 ⟨Nat.le_of_ble_eq_true rfl, Nat.le_of_ble_eq_true rfl⟩) (fun H locs hP hD hS => ?_)
            refine lv_istore (lv' := [(8, .int (mX6_beltTarget vk l7)), (0, .ref q_fl), (1, .long l1), (3, .long l3), (5, .long l5), (7, .int l7)]) hx hb dX6_carriedIfUnhindered_34 hl (by decide) rfl (fun ls hl => ?_)
            refine lv_lload_n hx hb dX6_carriedIfUnhindered_36 rfl (lv_at hl 2 rfl) ?_
            refine lv_iload hx hb dX6_carriedIfUnhindered_37 (lv_at hl 0 rfl) ?_
            refine my_call1 (wc := ([] : va_W)) (w1 := ([] : va_W)) (ws1 := (wFloor Γ q_fl q_k q_c q_a q_pa q_b q_pb vi vj vk vc va vpa vb vpb)) hP hD hS hA [] rfl rfl rfl (va_runS (As := [.long l1, .int (mX6_beltTarget vk l7)]) (rest := []) ⟨hx, hb, hml, hown, hts⟩ (kX2_holds l Γ l1 (mX6_beltTarget vk l7) (mX2_holds l1 (mX6_beltTarget vk l7)) rfl _) (va_cwS 2 hts gX6_carriedIfUnhindered_X2_holds rfl rfl rfl (by decide +kernel) ⟨Nat.le_of_ble_eq_true rfl, Nat.le_of_ble_eq_true rfl⟩) (my_preS (wc := ([] : va_W)) [] hK hP hD rfl rfl) rfl rfl hl.1 rfl (lv_room (Nat.le_of_ble_eq_true rfl)) dX6_carriedIfUnhindered_39 ⟨Nat.le_of_ble_eq_true rfl, Nat.le_of_ble_eq_true rfl⟩) (fun H locs hP hD hS => ?_)
            refine lv_if_eq (tgt := 60) hx hb dX6_carriedIfUnhindered_42 (by decide) (fun c_4 => ?_) (fun c_4 => ?_)
            · replace hm := if_s hm c_4
              exact J_60 (fun vk l1 l3 l5 l7 => mX6_carriedIfUnhindered_L6 n vk l1 l3 l5 l7) ih vk l1 l3 l5 l7 (mX6_beltTarget vk l7) _ _ _ hP hD hS (lv_sub hl [1, 2, 3, 4, 5, 0] rfl) hm
            · replace hm := if_f hm c_4
              refine lv_aload_n hx hb dX6_carriedIfUnhindered_45 rfl (lv_at hl 1 rfl) ?_
              refine lv_iload hx hb dX6_carriedIfUnhindered_46 (lv_at hl 0 rfl) ?_
              refine my_call1 (wc := (wFloor Γ q_fl q_k q_c q_a q_pa q_b q_pb vi vj vk vc va vpa vb vpb)) (w1 := (wFloor Γ q_fl q_k q_c q_a q_pa q_b q_pb vi vj vk vc va vpa vb vpb)) (ws1 := (wFloor Γ q_fl q_k q_c q_a q_pa q_b q_pb vi vj vk vc va vpa vb vpb)) hP hD hS hA [0, 1, 2, 3, 4, 5, 6] rfl rfl rfl (va_runS (As := [.ref q_fl, .int (mX6_beltTarget vk l7)]) (rest := []) ⟨hx, hb, hml, hown, hts⟩ (kX6_beltTarget l Γ q_fl q_k q_c q_a q_pa q_b q_pb vi vj vk vc va vpa vb vpb (mX6_beltTarget vk l7) (mX6_beltTarget vk (mX6_beltTarget vk l7)) rfl _) (va_cwS 2 hts gX6_carriedIfUnhindered_X6_beltTarget rfl rfl rfl (by decide +kernel) ⟨Nat.le_of_ble_eq_true rfl, Nat.le_of_ble_eq_true rfl⟩) (my_preS (wc := (wFloor Γ q_fl q_k q_c q_a q_pa q_b q_pb vi vj vk vc va vpa vb vpb)) [0, 1, 2, 3, 4, 5, 6] hK hP hD rfl rfl) rfl rfl hl.1 rfl (lv_room (Nat.le_of_ble_eq_true rfl)) dX6_carriedIfUnhindered_48 ⟨Nat.le_of_ble_eq_true rfl, Nat.le_of_ble_eq_true rfl⟩) (fun H locs hP hD hS => ?_)
              refine lv_iload hx hb dX6_carriedIfUnhindered_51 (lv_at hl 5 rfl) ?_
              refine lv_icmp_ne (tgt := 60) hx hb dX6_carriedIfUnhindered_53 (by decide) (fun c_8 => ?_) (fun c_8 => ?_)
              · replace hm := if_f hm c_8
                exact J_60 (fun vk l1 l3 l5 l7 => mX6_carriedIfUnhindered_L6 n vk l1 l3 l5 l7) ih vk l1 l3 l5 l7 (mX6_beltTarget vk l7) _ _ _ hP hD hS (lv_sub hl [1, 2, 3, 4, 5, 0] rfl) hm
              · replace hm := if_s hm c_8
                refine lv_iconst (v := (1 : Int32)) hx hb dX6_carriedIfUnhindered_56 (by decide) ?_
                refine lv_goto (tgt := 61) hx hb dX6_carriedIfUnhindered_57 (by decide) ?_
                exact J_61 (fun vk l1 l3 l5 l7 => mX6_carriedIfUnhindered_L6 n vk l1 l3 l5 l7) ih vk l1 l3 l5 l7 (mX6_beltTarget vk l7) (1 : Int32) _ _ _ hP hD hS (lv_sub hl [1, 2, 3, 4, 5, 0] rfl) hm
  unfold mX6_carriedIfUnhindered at hm
  refine lv_lconst (v := (0 : Int64)) hx hb dX6_carriedIfUnhindered_0 (by decide) ?_
  refine lv_lstore (lv' := [(5, .long (0 : Int64)), (0, .ref q_fl), (1, .long x1), (3, .long x2)]) hx hb dX6_carriedIfUnhindered_1 hl (by decide) rfl (fun ls hl => ?_)
  refine lv_iconst (v := (0 : Int32)) hx hb dX6_carriedIfUnhindered_3 (by decide) ?_
  refine lv_istore (lv' := [(7, .int (0 : Int32)), (5, .long (0 : Int64)), (0, .ref q_fl), (1, .long x1), (3, .long x2)]) hx hb dX6_carriedIfUnhindered_4 hl (by decide) rfl (fun ls hl => ?_)
  exact J_6 4096 vk x1 x2 (0 : Int64) (0 : Int32) _ _ _ hP hD hS (lv_sub hl [2, 3, 4, 1, 0] rfl) hm
def mX6_heldUp_J51 (k6 : (Nat → Int32) → Int64 → Int64 → Int64 → Int32 → Option (Int64)) (vk : Nat → Int32) (l1 : Int64) (l3 : Int64) (l5 : Int64) (l7 : Int32) : Option (Int64) := (k6 vk l1 l3 l5 (l7 + (1 : Int32)))
def mX6_heldUp_L6  : Nat → (Nat → Int32) → Int64 → Int64 → Int64 → Int32 → Option (Int64)
  | 0, _, _, _, _, _ => none
  | n + 1, vk, l1, l3, l5, l7 => (if (lg_cmp l1 (0 : Int64)) = 0 then (some l5) else (if (36 : Int32) ≤ l7 then (some l5) else (if (mX2_holds l1 l7) = 0 then (mX6_heldUp_J51 (fun vk l1 l3 l5 l7 => mX6_heldUp_L6 n vk l1 l3 l5 l7) vk l1 l3 l5 l7) else (if (mX2_holds l3 (mX6_beltTarget vk l7)) = 0 then (mX6_heldUp_J51 (fun vk l1 l3 l5 l7 => mX6_heldUp_L6 n vk l1 l3 l5 l7) vk l1 l3 l5 l7) else (mX6_heldUp_J51 (fun vk l1 l3 l5 l7 => mX6_heldUp_L6 n vk l1 l3 l5 l7) vk l1 l3 (l5 ||| (mX2_setOf l7)) l7)))))
def mX6_heldUp (vk : Nat → Int32) (x1 : Int64) (x2 : Int64) : Option (Int64) := (mX6_heldUp_L6 4096 vk x1 x2 (0 : Int64) (0 : Int32))
set_option maxHeartbeats 4000000 in
set_option maxRecDepth 100000 in
theorem kX6_heldUp (l : Launch) (Γ : my_G) (q_fl q_k q_c q_a q_pa q_b q_pb : Nat) (vi : Nat → Int32) (vj : Nat → Int64) (vk : Nat → Int32) (vc : Nat → Int32) (va : Nat → Int32) (vpa : Nat → Int32) (vb : Nat → Int32) (vpb : Nat → Int32) (x1 : Int64) (x2 : Int64) (rr : Int64) (hm : mX6_heldUp vk x1 x2 = (some rr)) : Mn l yX6_heldUp wsX6_heldUp ({ frames := 2, cells := 0, slots := 0, locals := 45 } : Room) Γ [.ref q_fl, .long x1, .long x2] (wFloor Γ q_fl q_k q_c q_a q_pa q_b q_pb vi vj vk vc va vpa vb vpb) (some (.long rr)) (wFloor Γ q_fl q_k q_c q_a q_pa q_b q_pb vi vj vk vc va vpa vb vpb) := by
  intro sz
  refine Met.ofW (cc := cX6_heldUp) (maxL := 8) (ret := (some .long)) (by decide) rfl ?_
  intro p e s m args below meth c s₁ B hml hv
  obtain ⟨rfl, hsz, hP, hK, hD0⟩ := hv
  have hx := B.exec
  have hb := B.bytes
  have hr := B.returns
  have hts := atoms_spec (ws := wsX6_heldUp) B.pre
  have hown : s.vm.findClass RX6 = some m.cls := findClass_of_methodNamed B.named
  have hlocks := B.notSynchronized
  have hinX1 : ∀ w ∈ u_ws RX1 TX1 12, w ∈ wsX6_heldUp := fun w h => List.mem_cons_of_mem _ (List.mem_append_right _ h)
  subst hsz
  have hD := hD0.self (sz := s.heap.size)
  have hA : ∀ q : Nat, s.heap.size ≤ q → va_A (wFloor Γ q_fl q_k q_c q_a q_pa q_b q_pb vi vj vk vc va vpa vb vpb) s.heap.size q := fun q h => Or.inr h
  generalize va_A (wFloor Γ q_fl q_k q_c q_a q_pa q_b q_pb vi vj vk vc va vpa vb vpb) s.heap.size = A at hD hA ⊢
  have hS : va_S A s.heap s.heap [] := va_S.rf
  have hl := lv_entry ([.ref q_fl, .long x1, .long x2]) (n := 8) (Nat.le_of_ble_eq_true rfl)
  rw [lg_entry_eq]
  generalize (lg_sl ([.ref q_fl, .long x1, .long x2]) ++ List.replicate (8 - (lg_sl ([.ref q_fl, .long x1, .long x2])).length) Slot.unset).toArray = ls at hl ⊢
  replace hl : lv_has ls 8 [(0, .ref q_fl), (1, .long x1), (3, .long x2)] := hl
  have J_51 : ∀ (k6 : (Nat → Int32) → Int64 → Int64 → Int64 → Int32 → Option (Int64)), (∀ (vk : Nat → Int32) (l1 : Int64) (l3 : Int64) (l5 : Int64) (l7 : Int32) (H : Heap) (locs : List Loc) (ls : Array Slot), va_P (my_D Γ) vwCl (wFloor Γ q_fl q_k q_c q_a q_pa q_b q_pb vi vj vk vc va vpa vb vpb) H → va_D A (wFloor Γ q_fl q_k q_c q_a q_pa q_b q_pb vi vj vk vc va vpa vb vpb) → va_S A s.heap H locs → lv_has ls 8 [(0, .ref q_fl), (1, .long l1), (3, .long l3), (5, .long l5), (7, .int l7)] → k6 vk l1 l3 l5 l7 = (some rr) → W p l e (headSpec wsX6_heldUp ({ frames := 2, cells := 0, slots := 0, locals := 45 } : Room)).room s m ([.ref q_fl, .long x1, .long x2] : List Value).toArray below meth c H locs 0 0 (MQ below (my_Q Γ A (some (.long rr)) (wFloor Γ q_fl q_k q_c q_a q_pa q_b q_pb vi vj vk vc va vpa vb vpb)) ([.ref q_fl, .long x1, .long x2] : List Value).toArray s 0 0 A) (F0 m 6 ls [])) → ∀ (vk : Nat → Int32) (l1 : Int64) (l3 : Int64) (l5 : Int64) (l7 : Int32) (H : Heap) (locs : List Loc) (ls : Array Slot), va_P (my_D Γ) vwCl (wFloor Γ q_fl q_k q_c q_a q_pa q_b q_pb vi vj vk vc va vpa vb vpb) H → va_D A (wFloor Γ q_fl q_k q_c q_a q_pa q_b q_pb vi vj vk vc va vpa vb vpb) → va_S A s.heap H locs → lv_has ls 8 [(0, .ref q_fl), (1, .long l1), (3, .long l3), (5, .long l5), (7, .int l7)] → mX6_heldUp_J51 k6 vk l1 l3 l5 l7 = (some rr) → W p l e (headSpec wsX6_heldUp ({ frames := 2, cells := 0, slots := 0, locals := 45 } : Room)).room s m ([.ref q_fl, .long x1, .long x2] : List Value).toArray below meth c H locs 0 0 (MQ below (my_Q Γ A (some (.long rr)) (wFloor Γ q_fl q_k q_c q_a q_pa q_b q_pb vi vj vk vc va vpa vb vpb)) ([.ref q_fl, .long x1, .long x2] : List Value).toArray s 0 0 A) (F0 m 51 ls []) := by
    intro k6 hk6 vk l1 l3 l5 l7 H locs ls hP hD hS hl hm
    unfold mX6_heldUp_J51 at hm
    refine lv_iinc (v := (l7 + (1 : Int32))) (lv' := [(7, .int (l7 + (1 : Int32))), (0, .ref q_fl), (1, .long l1), (3, .long l3), (5, .long l5)]) hx hb dX6_heldUp_51 hl (k := 4) rfl rfl (by decide) rfl (fun ls hl => ?_)
    refine lv_goto (tgt := 6) hx hb dX6_heldUp_54 (by decide) ?_
    exact hk6 vk l1 l3 l5 (l7 + (1 : Int32)) _ _ _ hP hD hS (lv_sub hl [1, 2, 3, 4, 0] rfl) hm
  have J_6 : ∀ n : Nat, ∀ (vk : Nat → Int32) (l1 : Int64) (l3 : Int64) (l5 : Int64) (l7 : Int32) (H : Heap) (locs : List Loc) (ls : Array Slot), va_P (my_D Γ) vwCl (wFloor Γ q_fl q_k q_c q_a q_pa q_b q_pb vi vj vk vc va vpa vb vpb) H → va_D A (wFloor Γ q_fl q_k q_c q_a q_pa q_b q_pb vi vj vk vc va vpa vb vpb) → va_S A s.heap H locs → lv_has ls 8 [(0, .ref q_fl), (1, .long l1), (3, .long l3), (5, .long l5), (7, .int l7)] → mX6_heldUp_L6 n vk l1 l3 l5 l7 = (some rr) → W p l e (headSpec wsX6_heldUp ({ frames := 2, cells := 0, slots := 0, locals := 45 } : Room)).room s m ([.ref q_fl, .long x1, .long x2] : List Value).toArray below meth c H locs 0 0 (MQ below (my_Q Γ A (some (.long rr)) (wFloor Γ q_fl q_k q_c q_a q_pa q_b q_pb vi vj vk vc va vpa vb vpb)) ([.ref q_fl, .long x1, .long x2] : List Value).toArray s 0 0 A) (F0 m 6 ls []) := by
    intro  n
    induction n with
    | zero => intro vk l1 l3 l5 l7 H locs ls hP hD hS hl hm; cases hm
    | succ n ih =>
      intro vk l1 l3 l5 l7 H locs ls hP hD hS hl hm
      unfold mX6_heldUp_L6 at hm
      refine lv_lload_n hx hb dX6_heldUp_6 rfl (lv_at hl 1 rfl) ?_
      refine lv_lconst (v := (0 : Int64)) hx hb dX6_heldUp_7 (by decide) ?_
      refine W.lcmp hx hb dX6_heldUp_8 ?_
      refine lv_if_eq (tgt := 57) hx hb dX6_heldUp_9 (by decide) (fun c_1 => ?_) (fun c_1 => ?_)
      · replace hm := if_s hm c_1
        refine lv_lload hx hb dX6_heldUp_57 (lv_at hl 3 rfl) ?_
        obtain hf0 := Option.some.inj hm
        subst hf0
        exact W.lret (v := l5) hx hb hr (fun t ht hW => ⟨⟨rfl, by rw [ht]; exact hP⟩, hS.F ht⟩) hS.2.2 dX6_heldUp_59
      · replace hm := if_f hm c_1
        refine lv_iload hx hb dX6_heldUp_12 (lv_at hl 4 rfl) ?_
        refine lv_bipush (v := (36 : Int32)) hx hb dX6_heldUp_14 (by decide) ?_
        refine lv_icmp_ge (tgt := 57) hx hb dX6_heldUp_16 (by decide) (fun c_2 => ?_) (fun c_2 => ?_)
        · replace hm := if_s hm c_2
          refine lv_lload hx hb dX6_heldUp_57 (lv_at hl 3 rfl) ?_
          obtain hf0 := Option.some.inj hm
          subst hf0
          exact W.lret (v := l5) hx hb hr (fun t ht hW => ⟨⟨rfl, by rw [ht]; exact hP⟩, hS.F ht⟩) hS.2.2 dX6_heldUp_59
        · replace hm := if_f hm c_2
          refine lv_lload_n hx hb dX6_heldUp_19 rfl (lv_at hl 1 rfl) ?_
          refine lv_iload hx hb dX6_heldUp_20 (lv_at hl 4 rfl) ?_
          refine my_call1 (wc := ([] : va_W)) (w1 := ([] : va_W)) (ws1 := (wFloor Γ q_fl q_k q_c q_a q_pa q_b q_pb vi vj vk vc va vpa vb vpb)) hP hD hS hA [] rfl rfl rfl (va_runS (As := [.long l1, .int l7]) (rest := []) ⟨hx, hb, hml, hown, hts⟩ (kX2_holds l Γ l1 l7 (mX2_holds l1 l7) rfl _) (va_cwS 2 hts gX6_heldUp_X2_holds rfl rfl rfl (by decide +kernel) ⟨Nat.le_of_ble_eq_true rfl, Nat.le_of_ble_eq_true rfl⟩) (my_preS (wc := ([] : va_W)) [] hK hP hD rfl rfl) rfl rfl hl.1 rfl (lv_room (Nat.le_of_ble_eq_true rfl)) dX6_heldUp_22 ⟨Nat.le_of_ble_eq_true rfl, Nat.le_of_ble_eq_true rfl⟩) (fun H locs hP hD hS => ?_)
          refine lv_if_eq (tgt := 51) hx hb dX6_heldUp_25 (by decide) (fun c_3 => ?_) (fun c_3 => ?_)
          · replace hm := if_s hm c_3
            exact J_51 (fun vk l1 l3 l5 l7 => mX6_heldUp_L6 n vk l1 l3 l5 l7) ih vk l1 l3 l5 l7 _ _ _ hP hD hS (lv_sub hl [0, 1, 2, 3, 4] rfl) hm
          · replace hm := if_f hm c_3
            refine lv_lload_n hx hb dX6_heldUp_28 rfl (lv_at hl 2 rfl) ?_
            refine lv_aload_n hx hb dX6_heldUp_29 rfl (lv_at hl 0 rfl) ?_
            refine lv_iload hx hb dX6_heldUp_30 (lv_at hl 4 rfl) ?_
            refine my_call1 (wc := (wFloor Γ q_fl q_k q_c q_a q_pa q_b q_pb vi vj vk vc va vpa vb vpb)) (w1 := (wFloor Γ q_fl q_k q_c q_a q_pa q_b q_pb vi vj vk vc va vpa vb vpb)) (ws1 := (wFloor Γ q_fl q_k q_c q_a q_pa q_b q_pb vi vj vk vc va vpa vb vpb)) hP hD hS hA [0, 1, 2, 3, 4, 5, 6] rfl rfl rfl (va_runS (As := [.ref q_fl, .int l7]) (rest := [.long l3]) ⟨hx, hb, hml, hown, hts⟩ (kX6_beltTarget l Γ q_fl q_k q_c q_a q_pa q_b q_pb vi vj vk vc va vpa vb vpb l7 (mX6_beltTarget vk l7) rfl _) (va_cwS 2 hts gX6_heldUp_X6_beltTarget rfl rfl rfl (by decide +kernel) ⟨Nat.le_of_ble_eq_true rfl, Nat.le_of_ble_eq_true rfl⟩) (my_preS (wc := (wFloor Γ q_fl q_k q_c q_a q_pa q_b q_pb vi vj vk vc va vpa vb vpb)) [0, 1, 2, 3, 4, 5, 6] hK hP hD rfl rfl) rfl rfl hl.1 rfl (lv_room (Nat.le_of_ble_eq_true rfl)) dX6_heldUp_32 ⟨Nat.le_of_ble_eq_true rfl, Nat.le_of_ble_eq_true rfl⟩) (fun H locs hP hD hS => ?_)
            refine my_call1 (wc := ([] : va_W)) (w1 := ([] : va_W)) (ws1 := (wFloor Γ q_fl q_k q_c q_a q_pa q_b q_pb vi vj vk vc va vpa vb vpb)) hP hD hS hA [] rfl rfl rfl (va_runS (As := [.long l3, .int (mX6_beltTarget vk l7)]) (rest := []) ⟨hx, hb, hml, hown, hts⟩ (kX2_holds l Γ l3 (mX6_beltTarget vk l7) (mX2_holds l3 (mX6_beltTarget vk l7)) rfl _) (va_cwS 2 hts gX6_heldUp_X2_holds rfl rfl rfl (by decide +kernel) ⟨Nat.le_of_ble_eq_true rfl, Nat.le_of_ble_eq_true rfl⟩) (my_preS (wc := ([] : va_W)) [] hK hP hD rfl rfl) rfl rfl hl.1 rfl (lv_room (Nat.le_of_ble_eq_true rfl)) dX6_heldUp_35 ⟨Nat.le_of_ble_eq_true rfl, Nat.le_of_ble_eq_true rfl⟩) (fun H locs hP hD hS => ?_)
            refine lv_if_eq (tgt := 51) hx hb dX6_heldUp_38 (by decide) (fun c_4 => ?_) (fun c_4 => ?_)
            · replace hm := if_s hm c_4
              exact J_51 (fun vk l1 l3 l5 l7 => mX6_heldUp_L6 n vk l1 l3 l5 l7) ih vk l1 l3 l5 l7 _ _ _ hP hD hS (lv_sub hl [0, 1, 2, 3, 4] rfl) hm
            · replace hm := if_f hm c_4
              refine lv_lload hx hb dX6_heldUp_41 (lv_at hl 3 rfl) ?_
              refine lv_iload hx hb dX6_heldUp_43 (lv_at hl 4 rfl) ?_
              refine my_call1 (wc := ([] : va_W)) (w1 := ([] : va_W)) (ws1 := (wFloor Γ q_fl q_k q_c q_a q_pa q_b q_pb vi vj vk vc va vpa vb vpb)) hP hD hS hA [] rfl rfl rfl (va_runS (As := [.int l7]) (rest := [.long l5]) ⟨hx, hb, hml, hown, hts⟩ (kX2_setOf l Γ l7 (mX2_setOf l7) rfl _) (va_cwS 1 hts gX6_heldUp_X2_setOf rfl rfl rfl (by decide +kernel) ⟨Nat.le_of_ble_eq_true rfl, Nat.le_of_ble_eq_true rfl⟩) (my_preS (wc := ([] : va_W)) [] hK hP hD rfl rfl) rfl rfl hl.1 rfl (lv_room (Nat.le_of_ble_eq_true rfl)) dX6_heldUp_45 ⟨Nat.le_of_ble_eq_true rfl, Nat.le_of_ble_eq_true rfl⟩) (fun H locs hP hD hS => ?_)
              refine lv_lor hx hb dX6_heldUp_48 ?_
              refine lv_lstore (lv' := [(5, .long (l5 ||| (mX2_setOf l7))), (0, .ref q_fl), (1, .long l1), (3, .long l3), (7, .int l7)]) hx hb dX6_heldUp_49 hl (by decide) rfl (fun ls hl => ?_)
              exact J_51 (fun vk l1 l3 l5 l7 => mX6_heldUp_L6 n vk l1 l3 l5 l7) ih vk l1 l3 (l5 ||| (mX2_setOf l7)) l7 _ _ _ hP hD hS (lv_sub hl [1, 2, 3, 0, 4] rfl) hm
  unfold mX6_heldUp at hm
  refine lv_lconst (v := (0 : Int64)) hx hb dX6_heldUp_0 (by decide) ?_
  refine lv_lstore (lv' := [(5, .long (0 : Int64)), (0, .ref q_fl), (1, .long x1), (3, .long x2)]) hx hb dX6_heldUp_1 hl (by decide) rfl (fun ls hl => ?_)
  refine lv_iconst (v := (0 : Int32)) hx hb dX6_heldUp_3 (by decide) ?_
  refine lv_istore (lv' := [(7, .int (0 : Int32)), (5, .long (0 : Int64)), (0, .ref q_fl), (1, .long x1), (3, .long x2)]) hx hb dX6_heldUp_4 hl (by decide) rfl (fun ls hl => ?_)
  exact J_6 4096 vk x1 x2 (0 : Int64) (0 : Int32) _ _ _ hP hD hS (lv_sub hl [2, 3, 4, 1, 0] rfl) hm
def mX6_carriedThings_L27  : Nat → (Nat → Int64) → (Nat → Int32) → (Nat → Int32) → (Nat → Int32) → Int64 → Int64 → Int32 → Option (Int64)
  | 0, _, _, _, _, _, _, _ => none
  | n + 1, vj, vk, va, vb, l1, l5, l7 => (if (36 : Int32) ≤ l7 then (some l5) else (bo1 (mX6_heldUp vk l5 (l1 &&& (l5 ^^^ (-1 : Int64)))) (fun r_6 => (if (lg_cmp r_6 (0 : Int64)) = 0 then (some l5) else (mX6_carriedThings_L27 n vj vk va vb l1 (l5 &&& (r_6 ^^^ (-1 : Int64))) (l7 + (1 : Int32)))))))
def mX6_carriedThings (vj : Nat → Int64) (vk : Nat → Int32) (va : Nat → Int32) (vb : Nat → Int32) : Option (Int64) := (bo1 (mX6_wantedTwice vk ((mX1_things vj va vb) &&& (vj 5))) (fun r_1 => (bo1 (mX6_carriedIfUnhindered vk ((mX1_things vj va vb) &&& (vj 5)) r_1) (fun r_3 => (mX6_carriedThings_L27 4096 vj vk va vb (mX1_things vj va vb) r_3 (0 : Int32))))))
set_option maxHeartbeats 4000000 in
set_option maxRecDepth 100000 in
theorem kX6_carriedThings (l : Launch) (Γ : my_G) (q_fl q_k q_c q_a q_pa q_b q_pb : Nat) (vi : Nat → Int32) (vj : Nat → Int64) (vk : Nat → Int32) (vc : Nat → Int32) (va : Nat → Int32) (vpa : Nat → Int32) (vb : Nat → Int32) (vpb : Nat → Int32)  (rr : Int64) (hm : mX6_carriedThings vj vk va vb = (some rr)) : Mn l yX6_carriedThings wsX6_carriedThings ({ frames := 3, cells := 0, slots := 0, locals := 74 } : Room) Γ [.ref q_fl] (wFloor Γ q_fl q_k q_c q_a q_pa q_b q_pb vi vj vk vc va vpa vb vpb) (some (.long rr)) (wFloor Γ q_fl q_k q_c q_a q_pa q_b q_pb vi vj vk vc va vpa vb vpb) := by
  intro sz
  refine Met.ofW (cc := cX6_carriedThings) (maxL := 10) (ret := (some .long)) (by decide) rfl ?_
  intro p e s m args below meth c s₁ B hml hv
  obtain ⟨rfl, hsz, hP, hK, hD0⟩ := hv
  have hx := B.exec
  have hb := B.bytes
  have hr := B.returns
  have hts := atoms_spec (ws := wsX6_carriedThings) B.pre
  have hown : s.vm.findClass RX6 = some m.cls := findClass_of_methodNamed B.named
  have hlocks := B.notSynchronized
  have hinX1 : ∀ w ∈ u_ws RX1 TX1 12, w ∈ wsX6_carriedThings := fun w h => List.mem_cons_of_mem _ (List.mem_append_left _ (List.mem_append_right _ h))
  have hinX4 : ∀ w ∈ u_ws RX4 TX4 10, w ∈ wsX6_carriedThings := fun w h => List.mem_cons_of_mem _ (List.mem_append_right _ h)
  subst hsz
  have hD := hD0.self (sz := s.heap.size)
  have hA : ∀ q : Nat, s.heap.size ≤ q → va_A (wFloor Γ q_fl q_k q_c q_a q_pa q_b q_pb vi vj vk vc va vpa vb vpb) s.heap.size q := fun q h => Or.inr h
  generalize va_A (wFloor Γ q_fl q_k q_c q_a q_pa q_b q_pb vi vj vk vc va vpa vb vpb) s.heap.size = A at hD hA ⊢
  have hS : va_S A s.heap s.heap [] := va_S.rf
  have hl := lv_entry ([.ref q_fl]) (n := 10) (Nat.le_of_ble_eq_true rfl)
  rw [lg_entry_eq]
  generalize (lg_sl ([.ref q_fl]) ++ List.replicate (10 - (lg_sl ([.ref q_fl])).length) Slot.unset).toArray = ls at hl ⊢
  replace hl : lv_has ls 10 [(0, .ref q_fl)] := hl
  have J_27 : ∀ n : Nat, ∀ (vj : Nat → Int64) (vk : Nat → Int32) (va : Nat → Int32) (vb : Nat → Int32) (l1 : Int64) (l5 : Int64) (l7 : Int32) (H : Heap) (locs : List Loc) (ls : Array Slot), va_P (my_D Γ) vwCl (wFloor Γ q_fl q_k q_c q_a q_pa q_b q_pb vi vj vk vc va vpa vb vpb) H → va_D A (wFloor Γ q_fl q_k q_c q_a q_pa q_b q_pb vi vj vk vc va vpa vb vpb) → va_S A s.heap H locs → lv_has ls 10 [(0, .ref q_fl), (1, .long l1), (5, .long l5), (7, .int l7)] → mX6_carriedThings_L27 n vj vk va vb l1 l5 l7 = (some rr) → W p l e (headSpec wsX6_carriedThings ({ frames := 3, cells := 0, slots := 0, locals := 74 } : Room)).room s m ([.ref q_fl] : List Value).toArray below meth c H locs 0 0 (MQ below (my_Q Γ A (some (.long rr)) (wFloor Γ q_fl q_k q_c q_a q_pa q_b q_pb vi vj vk vc va vpa vb vpb)) ([.ref q_fl] : List Value).toArray s 0 0 A) (F0 m 27 ls []) := by
    intro  n
    induction n with
    | zero => intro vj vk va vb l1 l5 l7 H locs ls hP hD hS hl hm; cases hm
    | succ n ih =>
      intro vj vk va vb l1 l5 l7 H locs ls hP hD hS hl hm
      unfold mX6_carriedThings_L27 at hm
      refine lv_iload hx hb dX6_carriedThings_27 (lv_at hl 3 rfl) ?_
      refine lv_bipush (v := (36 : Int32)) hx hb dX6_carriedThings_29 (by decide) ?_
      refine lv_icmp_ge (tgt := 77) hx hb dX6_carriedThings_31 (by decide) (fun c_5 => ?_) (fun c_5 => ?_)
      · replace hm := if_s hm c_5
        refine lv_lload hx hb dX6_carriedThings_77 (lv_at hl 2 rfl) ?_
        obtain hf0 := Option.some.inj hm
        subst hf0
        exact W.lret (v := l5) hx hb hr (fun t ht hW => ⟨⟨rfl, by rw [ht]; exact hP⟩, hS.F ht⟩) hS.2.2 dX6_carriedThings_79
      · replace hm := if_f hm c_5
        refine lv_aload_n hx hb dX6_carriedThings_34 rfl (lv_at hl 0 rfl) ?_
        refine lv_lload hx hb dX6_carriedThings_35 (lv_at hl 2 rfl) ?_
        refine lv_lload_n hx hb dX6_carriedThings_37 rfl (lv_at hl 1 rfl) ?_
        refine lv_lload hx hb dX6_carriedThings_38 (lv_at hl 2 rfl) ?_
        refine lv_ldc2 (v := (-1 : Int64)) hx hb hown (hts (.constantLong RX6 95 (-1)) (List.mem_of_getElem? (i := 2) rfl)) dX6_carriedThings_40 ?_
        refine lv_lxor hx hb dX6_carriedThings_43 ?_
        refine lv_land hx hb dX6_carriedThings_44 ?_
        obtain ⟨r_6, hc_7, hm⟩ := bo1_s hm
        refine my_call1 (wc := (wFloor Γ q_fl q_k q_c q_a q_pa q_b q_pb vi vj vk vc va vpa vb vpb)) (w1 := (wFloor Γ q_fl q_k q_c q_a q_pa q_b q_pb vi vj vk vc va vpa vb vpb)) (ws1 := (wFloor Γ q_fl q_k q_c q_a q_pa q_b q_pb vi vj vk vc va vpa vb vpb)) hP hD hS hA [0, 1, 2, 3, 4, 5, 6] rfl rfl rfl (va_runS (As := [.ref q_fl, .long l5, .long (l1 &&& (l5 ^^^ (-1 : Int64)))]) (rest := []) ⟨hx, hb, hml, hown, hts⟩ (kX6_heldUp l Γ q_fl q_k q_c q_a q_pa q_b q_pb vi vj vk vc va vpa vb vpb l5 (l1 &&& (l5 ^^^ (-1 : Int64))) r_6 hc_7 _) (va_cwS 3 hts gX6_carriedThings_X6_heldUp rfl rfl rfl (by decide +kernel) ⟨Nat.le_of_ble_eq_true rfl, Nat.le_of_ble_eq_true rfl⟩) (my_preS (wc := (wFloor Γ q_fl q_k q_c q_a q_pa q_b q_pb vi vj vk vc va vpa vb vpb)) [0, 1, 2, 3, 4, 5, 6] hK hP hD rfl rfl) rfl rfl hl.1 rfl (lv_room (Nat.le_of_ble_eq_true rfl)) dX6_carriedThings_45 ⟨Nat.le_of_ble_eq_true rfl, Nat.le_of_ble_eq_true rfl⟩) (fun H locs hP hD hS => ?_)
        refine lv_lstore (lv' := [(8, .long r_6), (0, .ref q_fl), (1, .long l1), (5, .long l5), (7, .int l7)]) hx hb dX6_carriedThings_48 hl (by decide) rfl (fun ls hl => ?_)
        refine lv_lload hx hb dX6_carriedThings_50 (lv_at hl 0 rfl) ?_
        refine lv_lconst (v := (0 : Int64)) hx hb dX6_carriedThings_52 (by decide) ?_
        refine W.lcmp hx hb dX6_carriedThings_53 ?_
        refine lv_if_ne (tgt := 60) hx hb dX6_carriedThings_54 (by decide) (fun c_8 => ?_) (fun c_8 => ?_)
        · replace hm := if_f hm c_8
          refine lv_lload hx hb dX6_carriedThings_60 (lv_at hl 3 rfl) ?_
          refine lv_lload hx hb dX6_carriedThings_62 (lv_at hl 0 rfl) ?_
          refine lv_ldc2 (v := (-1 : Int64)) hx hb hown (hts (.constantLong RX6 95 (-1)) (List.mem_of_getElem? (i := 2) rfl)) dX6_carriedThings_64 ?_
          refine lv_lxor hx hb dX6_carriedThings_67 ?_
          refine lv_land hx hb dX6_carriedThings_68 ?_
          refine lv_lstore (lv' := [(5, .long (l5 &&& (r_6 ^^^ (-1 : Int64)))), (8, .long r_6), (0, .ref q_fl), (1, .long l1), (7, .int l7)]) hx hb dX6_carriedThings_69 hl (by decide) rfl (fun ls hl => ?_)
          refine lv_iinc (v := (l7 + (1 : Int32))) (lv' := [(7, .int (l7 + (1 : Int32))), (5, .long (l5 &&& (r_6 ^^^ (-1 : Int64)))), (8, .long r_6), (0, .ref q_fl), (1, .long l1)]) hx hb dX6_carriedThings_71 hl (k := 4) rfl rfl (by decide) rfl (fun ls hl => ?_)
          refine lv_goto (tgt := 27) hx hb dX6_carriedThings_74 (by decide) ?_
          exact ih vj vk va vb l1 (l5 &&& (r_6 ^^^ (-1 : Int64))) (l7 + (1 : Int32)) _ _ _ hP hD hS (lv_sub hl [3, 4, 1, 0] rfl) hm
        · replace hm := if_s hm c_8
          refine lv_lload hx hb dX6_carriedThings_57 (lv_at hl 3 rfl) ?_
          obtain hf0 := Option.some.inj hm
          subst hf0
          exact W.lret (v := l5) hx hb hr (fun t ht hW => ⟨⟨rfl, by rw [ht]; exact hP⟩, hS.F ht⟩) hS.2.2 dX6_carriedThings_59
  unfold mX6_carriedThings at hm
  refine lv_aload_n hx hb dX6_carriedThings_0 rfl (lv_at hl 0 rfl) ?_
  refine my_call1 (wc := (wFloor Γ q_fl q_k q_c q_a q_pa q_b q_pb vi vj vk vc va vpa vb vpb)) (w1 := (wFloor Γ q_fl q_k q_c q_a q_pa q_b q_pb vi vj vk vc va vpa vb vpb)) (ws1 := (wFloor Γ q_fl q_k q_c q_a q_pa q_b q_pb vi vj vk vc va vpa vb vpb)) hP hD hS hA [0, 1, 2, 3, 4, 5, 6] rfl rfl rfl (va_runV (As := []) (rest := []) ⟨hx, hb, hml, hown, hts⟩ (kX1_things l Γ q_fl q_k q_c q_a q_pa q_b q_pb vi vj vk vc va vpa vb vpb (mX1_things vj va vb) rfl _) (cwV 0 hts gX6_carriedThings_X1_things rfl rfl rfl (by decide +kernel) ⟨Nat.le_of_ble_eq_true rfl, Nat.le_of_ble_eq_true rfl⟩) (my_preV (wc := (wFloor Γ q_fl q_k q_c q_a q_pa q_b q_pb vi vj vk vc va vpa vb vpb)) (ci := 1) (q0 := 0) [0, 1, 2, 3, 4, 5, 6] hK hP hD rfl rfl rfl rfl) rfl rfl hl.1 rfl (lv_room (Nat.le_of_ble_eq_true rfl)) dX6_carriedThings_1 ⟨Nat.le_of_ble_eq_true rfl, Nat.le_of_ble_eq_true rfl⟩) (fun H locs hP hD hS => ?_)
  refine lv_lstore_n (lv' := [(1, .long (mX1_things vj va vb)), (0, .ref q_fl)]) hx hb dX6_carriedThings_4 rfl hl (by decide) rfl (fun ls hl => ?_)
  refine lv_lload_n hx hb dX6_carriedThings_5 rfl (lv_at hl 0 rfl) ?_
  refine lv_aload_n hx hb dX6_carriedThings_6 rfl (lv_at hl 1 rfl) ?_
  refine va_get (D := my_D Γ) (ci := 1) (v := .long (vj 5)) (C := RX1) (T := TX1) (N := 12) hx hb hts hinX1 hown hK hP 0 rfl rfl 5 (by decide) (hts (.fieldLink RX6 134 "BeltFloor$Floor" "belts" "J") (List.mem_of_getElem? (i := 1) rfl)) (fun _ h9 => h9) rfl dX6_carriedThings_7 ?_
  refine lv_land hx hb dX6_carriedThings_10 ?_
  refine lv_lstore_n (lv' := [(3, .long ((mX1_things vj va vb) &&& (vj 5))), (1, .long (mX1_things vj va vb)), (0, .ref q_fl)]) hx hb dX6_carriedThings_11 rfl hl (by decide) rfl (fun ls hl => ?_)
  refine lv_aload_n hx hb dX6_carriedThings_12 rfl (lv_at hl 2 rfl) ?_
  refine lv_lload_n hx hb dX6_carriedThings_13 rfl (lv_at hl 0 rfl) ?_
  refine lv_aload_n hx hb dX6_carriedThings_14 rfl (lv_at hl 2 rfl) ?_
  refine lv_lload_n hx hb dX6_carriedThings_15 rfl (lv_at hl 0 rfl) ?_
  obtain ⟨r_1, hc_2, hm⟩ := bo1_s hm
  refine my_call1 (wc := (wFloor Γ q_fl q_k q_c q_a q_pa q_b q_pb vi vj vk vc va vpa vb vpb)) (w1 := (wFloor Γ q_fl q_k q_c q_a q_pa q_b q_pb vi vj vk vc va vpa vb vpb)) (ws1 := (wFloor Γ q_fl q_k q_c q_a q_pa q_b q_pb vi vj vk vc va vpa vb vpb)) hP hD hS hA [0, 1, 2, 3, 4, 5, 6] rfl rfl rfl (va_runS (As := [.ref q_fl, .long ((mX1_things vj va vb) &&& (vj 5))]) (rest := [.long ((mX1_things vj va vb) &&& (vj 5)), .ref q_fl]) ⟨hx, hb, hml, hown, hts⟩ (kX6_wantedTwice l Γ q_fl q_k q_c q_a q_pa q_b q_pb vi vj vk vc va vpa vb vpb ((mX1_things vj va vb) &&& (vj 5)) r_1 hc_2 _) (va_cwS 2 hts gX6_carriedThings_X6_wantedTwice rfl rfl rfl (by decide +kernel) ⟨Nat.le_of_ble_eq_true rfl, Nat.le_of_ble_eq_true rfl⟩) (my_preS (wc := (wFloor Γ q_fl q_k q_c q_a q_pa q_b q_pb vi vj vk vc va vpa vb vpb)) [0, 1, 2, 3, 4, 5, 6] hK hP hD rfl rfl) rfl rfl hl.1 rfl (lv_room (Nat.le_of_ble_eq_true rfl)) dX6_carriedThings_16 ⟨Nat.le_of_ble_eq_true rfl, Nat.le_of_ble_eq_true rfl⟩) (fun H locs hP hD hS => ?_)
  obtain ⟨r_3, hc_4, hm⟩ := bo1_s hm
  refine my_call1 (wc := (wFloor Γ q_fl q_k q_c q_a q_pa q_b q_pb vi vj vk vc va vpa vb vpb)) (w1 := (wFloor Γ q_fl q_k q_c q_a q_pa q_b q_pb vi vj vk vc va vpa vb vpb)) (ws1 := (wFloor Γ q_fl q_k q_c q_a q_pa q_b q_pb vi vj vk vc va vpa vb vpb)) hP hD hS hA [0, 1, 2, 3, 4, 5, 6] rfl rfl rfl (va_runS (As := [.ref q_fl, .long ((mX1_things vj va vb) &&& (vj 5)), .long r_1]) (rest := []) ⟨hx, hb, hml, hown, hts⟩ (kX6_carriedIfUnhindered l Γ q_fl q_k q_c q_a q_pa q_b q_pb vi vj vk vc va vpa vb vpb ((mX1_things vj va vb) &&& (vj 5)) r_1 r_3 hc_4 _) (va_cwS 3 hts gX6_carriedThings_X6_carriedIfUnhindered rfl rfl rfl (by decide +kernel) ⟨Nat.le_of_ble_eq_true rfl, Nat.le_of_ble_eq_true rfl⟩) (my_preS (wc := (wFloor Γ q_fl q_k q_c q_a q_pa q_b q_pb vi vj vk vc va vpa vb vpb)) [0, 1, 2, 3, 4, 5, 6] hK hP hD rfl rfl) rfl rfl hl.1 rfl (lv_room (Nat.le_of_ble_eq_true rfl)) dX6_carriedThings_19 ⟨Nat.le_of_ble_eq_true rfl, Nat.le_of_ble_eq_true rfl⟩) (fun H locs hP hD hS => ?_)
  refine lv_lstore (lv' := [(5, .long r_3), (3, .long ((mX1_things vj va vb) &&& (vj 5))), (1, .long (mX1_things vj va vb)), (0, .ref q_fl)]) hx hb dX6_carriedThings_22 hl (by decide) rfl (fun ls hl => ?_)
  refine lv_iconst (v := (0 : Int32)) hx hb dX6_carriedThings_24 (by decide) ?_
  refine lv_istore (lv' := [(7, .int (0 : Int32)), (5, .long r_3), (3, .long ((mX1_things vj va vb) &&& (vj 5))), (1, .long (mX1_things vj va vb)), (0, .ref q_fl)]) hx hb dX6_carriedThings_25 hl (by decide) rfl (fun ls hl => ?_)
  exact J_27 4096 vj vk va vb (mX1_things vj va vb) r_3 (0 : Int32) _ _ _ hP hD hS (lv_sub hl [4, 3, 1, 0] rfl) hm
def mX6_carryRobot_a (vk : Nat → Int32) (va : Nat → Int32) (x2 : Int64) : (Nat → Int32) := (if (mX2_holds x2 (va 0)) = 0 then va else (upd va 0 (mX6_beltTarget vk (va 0))))
set_option maxHeartbeats 4000000 in
set_option maxRecDepth 100000 in
theorem kX6_carryRobot_a (l : Launch) (Γ : my_G) (q_fl q_k q_c q_a q_pa q_b q_pb : Nat) (vi : Nat → Int32) (vj : Nat → Int64) (vk : Nat → Int32) (vc : Nat → Int32) (va : Nat → Int32) (vpa : Nat → Int32) (vb : Nat → Int32) (vpb : Nat → Int32) (x2 : Int64) (va_z : Nat → Int32) (hm : mX6_carryRobot_a vk va x2 = va_z) : Mn l yX6_carryRobot wsX6_carryRobot ({ frames := 2, cells := 0, slots := 0, locals := 45 } : Room) Γ [.ref q_fl, .ref q_a, .long x2] (wFloor Γ q_fl q_k q_c q_a q_pa q_b q_pb vi vj vk vc va vpa vb vpb) none (wFloor Γ q_fl q_k q_c q_a q_pa q_b q_pb vi vj vk vc va_z vpa vb vpb) := by
  intro sz
  refine Met.ofW (cc := cX6_carryRobot) (maxL := 4) (ret := none) (by decide) rfl ?_
  intro p e s m args below meth c s₁ B hml hv
  obtain ⟨rfl, hsz, hP, hK, hD0⟩ := hv
  have hx := B.exec
  have hb := B.bytes
  have hr := B.returns
  have hts := atoms_spec (ws := wsX6_carryRobot) B.pre
  have hown : s.vm.findClass RX6 = some m.cls := findClass_of_methodNamed B.named
  have hlocks := B.notSynchronized
  have hinX1 : ∀ w ∈ u_ws RX1 TX1 12, w ∈ wsX6_carryRobot := fun w h => List.mem_cons_of_mem _ (List.mem_append_right _ h)
  have hinX4 : ∀ w ∈ u_ws RX4 TX4 10, w ∈ wsX6_carryRobot := fun w h => List.mem_cons_of_mem _ (List.mem_append_left _ (List.mem_append_right _ h))
  subst hsz
  have hD := hD0.self (sz := s.heap.size)
  have hA : ∀ q : Nat, s.heap.size ≤ q → va_A (wFloor Γ q_fl q_k q_c q_a q_pa q_b q_pb vi vj vk vc va vpa vb vpb) s.heap.size q := fun q h => Or.inr h
  generalize va_A (wFloor Γ q_fl q_k q_c q_a q_pa q_b q_pb vi vj vk vc va vpa vb vpb) s.heap.size = A at hD hA ⊢
  have hS : va_S A s.heap s.heap [] := va_S.rf
  have hl := lv_entry ([.ref q_fl, .ref q_a, .long x2]) (n := 4) (Nat.le_of_ble_eq_true rfl)
  rw [lg_entry_eq]
  generalize (lg_sl ([.ref q_fl, .ref q_a, .long x2]) ++ List.replicate (4 - (lg_sl ([.ref q_fl, .ref q_a, .long x2])).length) Slot.unset).toArray = ls at hl ⊢
  replace hl : lv_has ls 4 [(0, .ref q_fl), (1, .ref q_a), (2, .long x2)] := hl
  unfold mX6_carryRobot_a at hm
  refine lv_lload_n hx hb dX6_carryRobot_0 rfl (lv_at hl 2 rfl) ?_
  refine lv_aload_n hx hb dX6_carryRobot_1 rfl (lv_at hl 1 rfl) ?_
  refine va_get (D := my_D Γ) (ci := 3) (v := .int (va 0)) (C := RX4) (T := TX4) (N := 10) hx hb hts hinX4 hown hK hP 3 rfl rfl 0 (by decide) (hts (.fieldLink RX6 66 "BeltFloor$Robot" "cell" "I") (List.mem_of_getElem? (i := 1) rfl)) (fun _ h9 => h9) rfl dX6_carryRobot_2 ?_
  refine my_call1 (wc := ([] : va_W)) (w1 := ([] : va_W)) (ws1 := (wFloor Γ q_fl q_k q_c q_a q_pa q_b q_pb vi vj vk vc va vpa vb vpb)) hP hD hS hA [] rfl rfl rfl (va_runS (As := [.long x2, .int (va 0)]) (rest := []) ⟨hx, hb, hml, hown, hts⟩ (kX2_holds l Γ x2 (va 0) (mX2_holds x2 (va 0)) rfl _) (va_cwS 2 hts gX6_carryRobot_X2_holds rfl rfl rfl (by decide +kernel) ⟨Nat.le_of_ble_eq_true rfl, Nat.le_of_ble_eq_true rfl⟩) (my_preS (wc := ([] : va_W)) [] hK hP hD rfl rfl) rfl rfl hl.1 rfl (lv_room (Nat.le_of_ble_eq_true rfl)) dX6_carryRobot_5 ⟨Nat.le_of_ble_eq_true rfl, Nat.le_of_ble_eq_true rfl⟩) (fun H locs hP hD hS => ?_)
  refine lv_if_eq (tgt := 23) hx hb dX6_carryRobot_8 (by decide) (fun c_1 => ?_) (fun c_1 => ?_)
  · replace hm := if_s hm c_1
    have hf0 := hm
    subst hf0
    exact W.vret hx hb hr (fun t ht hW => ⟨⟨rfl, by rw [ht]; exact hP⟩, hS.F ht⟩) hS.2.2 dX6_carryRobot_23
  · replace hm := if_f hm c_1
    refine lv_aload_n hx hb dX6_carryRobot_11 rfl (lv_at hl 1 rfl) ?_
    refine lv_aload_n hx hb dX6_carryRobot_12 rfl (lv_at hl 0 rfl) ?_
    refine lv_aload_n hx hb dX6_carryRobot_13 rfl (lv_at hl 1 rfl) ?_
    refine va_get (D := my_D Γ) (ci := 3) (v := .int (va 0)) (C := RX4) (T := TX4) (N := 10) hx hb hts hinX4 hown hK hP 3 rfl rfl 0 (by decide) (hts (.fieldLink RX6 66 "BeltFloor$Robot" "cell" "I") (List.mem_of_getElem? (i := 1) rfl)) (fun _ h9 => h9) rfl dX6_carryRobot_14 ?_
    refine my_call1 (wc := (wFloor Γ q_fl q_k q_c q_a q_pa q_b q_pb vi vj vk vc va vpa vb vpb)) (w1 := (wFloor Γ q_fl q_k q_c q_a q_pa q_b q_pb vi vj vk vc va vpa vb vpb)) (ws1 := (wFloor Γ q_fl q_k q_c q_a q_pa q_b q_pb vi vj vk vc va vpa vb vpb)) hP hD hS hA [0, 1, 2, 3, 4, 5, 6] rfl rfl rfl (va_runS (As := [.ref q_fl, .int (va 0)]) (rest := [.ref q_a]) ⟨hx, hb, hml, hown, hts⟩ (kX6_beltTarget l Γ q_fl q_k q_c q_a q_pa q_b q_pb vi vj vk vc va vpa vb vpb (va 0) (mX6_beltTarget vk (va 0)) rfl _) (va_cwS 2 hts gX6_carryRobot_X6_beltTarget rfl rfl rfl (by decide +kernel) ⟨Nat.le_of_ble_eq_true rfl, Nat.le_of_ble_eq_true rfl⟩) (my_preS (wc := (wFloor Γ q_fl q_k q_c q_a q_pa q_b q_pb vi vj vk vc va vpa vb vpb)) [0, 1, 2, 3, 4, 5, 6] hK hP hD rfl rfl) rfl rfl hl.1 rfl (lv_room (Nat.le_of_ble_eq_true rfl)) dX6_carryRobot_17 ⟨Nat.le_of_ble_eq_true rfl, Nat.le_of_ble_eq_true rfl⟩) (fun H locs hP hD hS => ?_)
    refine lv_topi (fun y_2 ey_2 => ?_)
    refine va_put (D := my_D Γ) (ci := 3) (v := .int y_2) (ty := .int) (C := RX4) (T := TX4) (N := 10) hx hb hts hinX4 tyX4 tyX4_ok nmX4 hown hK hP hD hS 3 rfl rfl 0 (by decide) (hts (.fieldLink RX6 66 "BeltFloor$Robot" "cell" "I") (List.mem_of_getElem? (i := 1) rfl)) (fun _ h9 => h9) rfl (by decide +kernel) rfl rfl (Nat.le_of_ble_eq_true rfl) dX6_carryRobot_20 (fun H locs hP hD hS => ?_)
    replace hP : va_P (my_D Γ) vwCl (wFloor Γ q_fl q_k q_c q_a q_pa q_b q_pb vi vj vk vc (upd va 0 y_2) vpa vb vpb) H := hP
    replace hD : va_D A (wFloor Γ q_fl q_k q_c q_a q_pa q_b q_pb vi vj vk vc (upd va 0 y_2) vpa vb vpb) := hD
    subst ey_2
    have hf0 := hm
    subst hf0
    exact W.vret hx hb hr (fun t ht hW => ⟨⟨rfl, by rw [ht]; exact hP⟩, hS.F ht⟩) hS.2.2 dX6_carryRobot_23
def mX6_carryRobot_b (vk : Nat → Int32) (vb : Nat → Int32) (x2 : Int64) : (Nat → Int32) := (if (mX2_holds x2 (vb 0)) = 0 then vb else (upd vb 0 (mX6_beltTarget vk (vb 0))))
set_option maxHeartbeats 4000000 in
set_option maxRecDepth 100000 in
theorem kX6_carryRobot_b (l : Launch) (Γ : my_G) (q_fl q_k q_c q_a q_pa q_b q_pb : Nat) (vi : Nat → Int32) (vj : Nat → Int64) (vk : Nat → Int32) (vc : Nat → Int32) (va : Nat → Int32) (vpa : Nat → Int32) (vb : Nat → Int32) (vpb : Nat → Int32) (x2 : Int64) (vb_z : Nat → Int32) (hm : mX6_carryRobot_b vk vb x2 = vb_z) : Mn l yX6_carryRobot wsX6_carryRobot ({ frames := 2, cells := 0, slots := 0, locals := 45 } : Room) Γ [.ref q_fl, .ref q_b, .long x2] (wFloor Γ q_fl q_k q_c q_a q_pa q_b q_pb vi vj vk vc va vpa vb vpb) none (wFloor Γ q_fl q_k q_c q_a q_pa q_b q_pb vi vj vk vc va vpa vb_z vpb) := by
  intro sz
  refine Met.ofW (cc := cX6_carryRobot) (maxL := 4) (ret := none) (by decide) rfl ?_
  intro p e s m args below meth c s₁ B hml hv
  obtain ⟨rfl, hsz, hP, hK, hD0⟩ := hv
  have hx := B.exec
  have hb := B.bytes
  have hr := B.returns
  have hts := atoms_spec (ws := wsX6_carryRobot) B.pre
  have hown : s.vm.findClass RX6 = some m.cls := findClass_of_methodNamed B.named
  have hlocks := B.notSynchronized
  have hinX1 : ∀ w ∈ u_ws RX1 TX1 12, w ∈ wsX6_carryRobot := fun w h => List.mem_cons_of_mem _ (List.mem_append_right _ h)
  have hinX4 : ∀ w ∈ u_ws RX4 TX4 10, w ∈ wsX6_carryRobot := fun w h => List.mem_cons_of_mem _ (List.mem_append_left _ (List.mem_append_right _ h))
  subst hsz
  have hD := hD0.self (sz := s.heap.size)
  have hA : ∀ q : Nat, s.heap.size ≤ q → va_A (wFloor Γ q_fl q_k q_c q_a q_pa q_b q_pb vi vj vk vc va vpa vb vpb) s.heap.size q := fun q h => Or.inr h
  generalize va_A (wFloor Γ q_fl q_k q_c q_a q_pa q_b q_pb vi vj vk vc va vpa vb vpb) s.heap.size = A at hD hA ⊢
  have hS : va_S A s.heap s.heap [] := va_S.rf
  have hl := lv_entry ([.ref q_fl, .ref q_b, .long x2]) (n := 4) (Nat.le_of_ble_eq_true rfl)
  rw [lg_entry_eq]
  generalize (lg_sl ([.ref q_fl, .ref q_b, .long x2]) ++ List.replicate (4 - (lg_sl ([.ref q_fl, .ref q_b, .long x2])).length) Slot.unset).toArray = ls at hl ⊢
  replace hl : lv_has ls 4 [(0, .ref q_fl), (1, .ref q_b), (2, .long x2)] := hl
  unfold mX6_carryRobot_b at hm
  refine lv_lload_n hx hb dX6_carryRobot_0 rfl (lv_at hl 2 rfl) ?_
  refine lv_aload_n hx hb dX6_carryRobot_1 rfl (lv_at hl 1 rfl) ?_
  refine va_get (D := my_D Γ) (ci := 3) (v := .int (vb 0)) (C := RX4) (T := TX4) (N := 10) hx hb hts hinX4 hown hK hP 5 rfl rfl 0 (by decide) (hts (.fieldLink RX6 66 "BeltFloor$Robot" "cell" "I") (List.mem_of_getElem? (i := 1) rfl)) (fun _ h9 => h9) rfl dX6_carryRobot_2 ?_
  refine my_call1 (wc := ([] : va_W)) (w1 := ([] : va_W)) (ws1 := (wFloor Γ q_fl q_k q_c q_a q_pa q_b q_pb vi vj vk vc va vpa vb vpb)) hP hD hS hA [] rfl rfl rfl (va_runS (As := [.long x2, .int (vb 0)]) (rest := []) ⟨hx, hb, hml, hown, hts⟩ (kX2_holds l Γ x2 (vb 0) (mX2_holds x2 (vb 0)) rfl _) (va_cwS 2 hts gX6_carryRobot_X2_holds rfl rfl rfl (by decide +kernel) ⟨Nat.le_of_ble_eq_true rfl, Nat.le_of_ble_eq_true rfl⟩) (my_preS (wc := ([] : va_W)) [] hK hP hD rfl rfl) rfl rfl hl.1 rfl (lv_room (Nat.le_of_ble_eq_true rfl)) dX6_carryRobot_5 ⟨Nat.le_of_ble_eq_true rfl, Nat.le_of_ble_eq_true rfl⟩) (fun H locs hP hD hS => ?_)
  refine lv_if_eq (tgt := 23) hx hb dX6_carryRobot_8 (by decide) (fun c_1 => ?_) (fun c_1 => ?_)
  · replace hm := if_s hm c_1
    have hf0 := hm
    subst hf0
    exact W.vret hx hb hr (fun t ht hW => ⟨⟨rfl, by rw [ht]; exact hP⟩, hS.F ht⟩) hS.2.2 dX6_carryRobot_23
  · replace hm := if_f hm c_1
    refine lv_aload_n hx hb dX6_carryRobot_11 rfl (lv_at hl 1 rfl) ?_
    refine lv_aload_n hx hb dX6_carryRobot_12 rfl (lv_at hl 0 rfl) ?_
    refine lv_aload_n hx hb dX6_carryRobot_13 rfl (lv_at hl 1 rfl) ?_
    refine va_get (D := my_D Γ) (ci := 3) (v := .int (vb 0)) (C := RX4) (T := TX4) (N := 10) hx hb hts hinX4 hown hK hP 5 rfl rfl 0 (by decide) (hts (.fieldLink RX6 66 "BeltFloor$Robot" "cell" "I") (List.mem_of_getElem? (i := 1) rfl)) (fun _ h9 => h9) rfl dX6_carryRobot_14 ?_
    refine my_call1 (wc := (wFloor Γ q_fl q_k q_c q_a q_pa q_b q_pb vi vj vk vc va vpa vb vpb)) (w1 := (wFloor Γ q_fl q_k q_c q_a q_pa q_b q_pb vi vj vk vc va vpa vb vpb)) (ws1 := (wFloor Γ q_fl q_k q_c q_a q_pa q_b q_pb vi vj vk vc va vpa vb vpb)) hP hD hS hA [0, 1, 2, 3, 4, 5, 6] rfl rfl rfl (va_runS (As := [.ref q_fl, .int (vb 0)]) (rest := [.ref q_b]) ⟨hx, hb, hml, hown, hts⟩ (kX6_beltTarget l Γ q_fl q_k q_c q_a q_pa q_b q_pb vi vj vk vc va vpa vb vpb (vb 0) (mX6_beltTarget vk (vb 0)) rfl _) (va_cwS 2 hts gX6_carryRobot_X6_beltTarget rfl rfl rfl (by decide +kernel) ⟨Nat.le_of_ble_eq_true rfl, Nat.le_of_ble_eq_true rfl⟩) (my_preS (wc := (wFloor Γ q_fl q_k q_c q_a q_pa q_b q_pb vi vj vk vc va vpa vb vpb)) [0, 1, 2, 3, 4, 5, 6] hK hP hD rfl rfl) rfl rfl hl.1 rfl (lv_room (Nat.le_of_ble_eq_true rfl)) dX6_carryRobot_17 ⟨Nat.le_of_ble_eq_true rfl, Nat.le_of_ble_eq_true rfl⟩) (fun H locs hP hD hS => ?_)
    refine lv_topi (fun y_2 ey_2 => ?_)
    refine va_put (D := my_D Γ) (ci := 3) (v := .int y_2) (ty := .int) (C := RX4) (T := TX4) (N := 10) hx hb hts hinX4 tyX4 tyX4_ok nmX4 hown hK hP hD hS 5 rfl rfl 0 (by decide) (hts (.fieldLink RX6 66 "BeltFloor$Robot" "cell" "I") (List.mem_of_getElem? (i := 1) rfl)) (fun _ h9 => h9) rfl (by decide +kernel) rfl rfl (Nat.le_of_ble_eq_true rfl) dX6_carryRobot_20 (fun H locs hP hD hS => ?_)
    replace hP : va_P (my_D Γ) vwCl (wFloor Γ q_fl q_k q_c q_a q_pa q_b q_pb vi vj vk vc va vpa (upd vb 0 y_2) vpb) H := hP
    replace hD : va_D A (wFloor Γ q_fl q_k q_c q_a q_pa q_b q_pb vi vj vk vc va vpa (upd vb 0 y_2) vpb) := hD
    subst ey_2
    have hf0 := hm
    subst hf0
    exact W.vret hx hb hr (fun t ht hW => ⟨⟨rfl, by rw [ht]; exact hP⟩, hS.F ht⟩) hS.2.2 dX6_carryRobot_23
def mX6_carryAll_J59  (vj : Nat → Int64) (vk : Nat → Int32) (va : Nat → Int32) (vb : Nat → Int32) (l1 : Int64) (l3 : Int64) : Option ((Nat → Int64) × (Nat → Int32) × (Nat → Int32)) := (bt1 (mX6_carryRobot_a vk va l1) (fun va_2 => (bt1 (mX6_carryRobot_b vk vb l1) (fun vb_4 => (some ((vp_updL vj 4 l3), va_2, vb_4))))))
def mX6_carryAll_J53 (k14 : (Nat → Int64) → (Nat → Int32) → (Nat → Int32) → (Nat → Int32) → Int64 → Int64 → Int32 → Option ((Nat → Int64) × (Nat → Int32) × (Nat → Int32))) (vj : Nat → Int64) (vk : Nat → Int32) (va : Nat → Int32) (vb : Nat → Int32) (l1 : Int64) (l3 : Int64) (l5 : Int32) : Option ((Nat → Int64) × (Nat → Int32) × (Nat → Int32)) := (k14 vj vk va vb l1 l3 (l5 + (1 : Int32)))
def mX6_carryAll_L14  : Nat → (Nat → Int64) → (Nat → Int32) → (Nat → Int32) → (Nat → Int32) → Int64 → Int64 → Int32 → Option ((Nat → Int64) × (Nat → Int32) × (Nat → Int32))
  | 0, _, _, _, _, _, _, _ => none
  | n + 1, vj, vk, va, vb, l1, l3, l5 => (if (lg_cmp l1 (0 : Int64)) = 0 then (mX6_carryAll_J59 vj vk va vb l1 l3) else (if (36 : Int32) ≤ l5 then (mX6_carryAll_J59 vj vk va vb l1 l3) else (if (mX2_holds ((vj 4) &&& l1) l5) = 0 then (mX6_carryAll_J53 (fun vj vk va vb l1 l3 l5 => mX6_carryAll_L14 n vj vk va vb l1 l3 l5) vj vk va vb l1 l3 l5) else (mX6_carryAll_J53 (fun vj vk va vb l1 l3 l5 => mX6_carryAll_L14 n vj vk va vb l1 l3 l5) vj vk va vb l1 (l3 ||| (mX2_setOf (mX6_beltTarget vk l5))) l5))))
def mX6_carryAll (vj : Nat → Int64) (vk : Nat → Int32) (va : Nat → Int32) (vb : Nat → Int32) (x1 : Int64) : Option ((Nat → Int64) × (Nat → Int32) × (Nat → Int32)) := (mX6_carryAll_L14 4096 vj vk va vb x1 ((vj 4) &&& (x1 ^^^ (-1 : Int64))) (0 : Int32))
set_option maxHeartbeats 4000000 in
set_option maxRecDepth 100000 in
theorem kX6_carryAll (l : Launch) (Γ : my_G) (q_fl q_k q_c q_a q_pa q_b q_pb : Nat) (vi : Nat → Int32) (vj : Nat → Int64) (vk : Nat → Int32) (vc : Nat → Int32) (va : Nat → Int32) (vpa : Nat → Int32) (vb : Nat → Int32) (vpb : Nat → Int32) (x1 : Int64) (vj_z : Nat → Int64) (va_z : Nat → Int32) (vb_z : Nat → Int32) (hm : mX6_carryAll vj vk va vb x1 = (some (vj_z, va_z, vb_z))) : Mn l yX6_carryAll wsX6_carryAll ({ frames := 3, cells := 0, slots := 0, locals := 68 } : Room) Γ [.ref q_fl, .long x1] (wFloor Γ q_fl q_k q_c q_a q_pa q_b q_pb vi vj vk vc va vpa vb vpb) none (wFloor Γ q_fl q_k q_c q_a q_pa q_b q_pb vi vj_z vk vc va_z vpa vb_z vpb) := by
  intro sz
  refine Met.ofW (cc := cX6_carryAll) (maxL := 6) (ret := none) (by decide) rfl ?_
  intro p e s m args below meth c s₁ B hml hv
  obtain ⟨rfl, hsz, hP, hK, hD0⟩ := hv
  have hx := B.exec
  have hb := B.bytes
  have hr := B.returns
  have hts := atoms_spec (ws := wsX6_carryAll) B.pre
  have hown : s.vm.findClass RX6 = some m.cls := findClass_of_methodNamed B.named
  have hlocks := B.notSynchronized
  have hinX1 : ∀ w ∈ u_ws RX1 TX1 12, w ∈ wsX6_carryAll := fun w h => List.mem_cons_of_mem _ (List.mem_append_left _ (List.mem_append_right _ h))
  have hinX4 : ∀ w ∈ u_ws RX4 TX4 10, w ∈ wsX6_carryAll := fun w h => List.mem_cons_of_mem _ (List.mem_append_right _ h)
  subst hsz
  have hD := hD0.self (sz := s.heap.size)
  have hA : ∀ q : Nat, s.heap.size ≤ q → va_A (wFloor Γ q_fl q_k q_c q_a q_pa q_b q_pb vi vj vk vc va vpa vb vpb) s.heap.size q := fun q h => Or.inr h
  generalize va_A (wFloor Γ q_fl q_k q_c q_a q_pa q_b q_pb vi vj vk vc va vpa vb vpb) s.heap.size = A at hD hA ⊢
  have hS : va_S A s.heap s.heap [] := va_S.rf
  have hl := lv_entry ([.ref q_fl, .long x1]) (n := 6) (Nat.le_of_ble_eq_true rfl)
  rw [lg_entry_eq]
  generalize (lg_sl ([.ref q_fl, .long x1]) ++ List.replicate (6 - (lg_sl ([.ref q_fl, .long x1])).length) Slot.unset).toArray = ls at hl ⊢
  replace hl : lv_has ls 6 [(0, .ref q_fl), (1, .long x1)] := hl
  have J_59 : ∀ (vj : Nat → Int64) (vk : Nat → Int32) (va : Nat → Int32) (vb : Nat → Int32) (l1 : Int64) (l3 : Int64) (H : Heap) (locs : List Loc) (ls : Array Slot), va_P (my_D Γ) vwCl (wFloor Γ q_fl q_k q_c q_a q_pa q_b q_pb vi vj vk vc va vpa vb vpb) H → va_D A (wFloor Γ q_fl q_k q_c q_a q_pa q_b q_pb vi vj vk vc va vpa vb vpb) → va_S A s.heap H locs → lv_has ls 6 [(0, .ref q_fl), (1, .long l1), (3, .long l3)] → mX6_carryAll_J59 vj vk va vb l1 l3 = (some (vj_z, va_z, vb_z)) → W p l e (headSpec wsX6_carryAll ({ frames := 3, cells := 0, slots := 0, locals := 68 } : Room)).room s m ([.ref q_fl, .long x1] : List Value).toArray below meth c H locs 0 0 (MQ below (my_Q Γ A none (wFloor Γ q_fl q_k q_c q_a q_pa q_b q_pb vi vj_z vk vc va_z vpa vb_z vpb)) ([.ref q_fl, .long x1] : List Value).toArray s 0 0 A) (F0 m 59 ls []) := by
    intro  vj vk va vb l1 l3 H locs ls hP hD hS hl hm
    unfold mX6_carryAll_J59 at hm
    refine lv_aload_n hx hb dX6_carryAll_59 rfl (lv_at hl 0 rfl) ?_
    refine lv_lload_n hx hb dX6_carryAll_60 rfl (lv_at hl 2 rfl) ?_
    refine va_put (D := my_D Γ) (ci := 1) (v := .long l3) (ty := .long) (C := RX1) (T := TX1) (N := 12) hx hb hts hinX1 tyX1 tyX1_ok nmX1 hown hK hP hD hS 0 rfl rfl 4 (by decide) (hts (.fieldLink RX6 126 "BeltFloor$Floor" "crates" "J") (List.mem_of_getElem? (i := 1) rfl)) (fun _ h9 => h9) rfl (by decide +kernel) rfl rfl (Nat.le_of_ble_eq_true rfl) dX6_carryAll_61 (fun H locs hP hD hS => ?_)
    replace hP : va_P (my_D Γ) vwCl (wFloor Γ q_fl q_k q_c q_a q_pa q_b q_pb vi (vp_updL vj 4 l3) vk vc va vpa vb vpb) H := hP
    replace hD : va_D A (wFloor Γ q_fl q_k q_c q_a q_pa q_b q_pb vi (vp_updL vj 4 l3) vk vc va vpa vb vpb) := hD
    refine lv_aload_n hx hb dX6_carryAll_64 rfl (lv_at hl 0 rfl) ?_
    refine lv_aload_n hx hb dX6_carryAll_65 rfl (lv_at hl 0 rfl) ?_
    refine va_get (D := my_D Γ) (ci := 1) (v := .ref q_a) (C := RX1) (T := TX1) (N := 12) hx hb hts hinX1 hown hK hP 0 rfl rfl 2 (by decide) (hts (.fieldLink RX6 15 "BeltFloor$Floor" "first" "LBeltFloor$Robot;") (List.mem_of_getElem? (i := 3) rfl)) (fun _ h9 => h9) rfl dX6_carryAll_66 ?_
    refine lv_lload_n hx hb dX6_carryAll_69 rfl (lv_at hl 1 rfl) ?_
    obtain ⟨va_2, hc_3, hm⟩ := bt1_s hm
    refine my_call0 (wc := (wFloor Γ q_fl q_k q_c q_a q_pa q_b q_pb vi (vp_updL vj 4 l3) vk vc va vpa vb vpb)) (w1 := (wFloor Γ q_fl q_k q_c q_a q_pa q_b q_pb vi (vp_updL vj 4 l3) vk vc va_2 vpa vb vpb)) (ws1 := (wFloor Γ q_fl q_k q_c q_a q_pa q_b q_pb vi (vp_updL vj 4 l3) vk vc va_2 vpa vb vpb)) hP hD hS hA [0, 1, 2, 3, 4, 5, 6] rfl rfl rfl (va_runS (As := [.ref q_fl, .ref q_a, .long l1]) (rest := []) ⟨hx, hb, hml, hown, hts⟩ (kX6_carryRobot_a l Γ q_fl q_k q_c q_a q_pa q_b q_pb vi (vp_updL vj 4 l3) vk vc va vpa vb vpb l1 va_2 hc_3 _) (va_cwS 3 hts gX6_carryAll_X6_carryRobot rfl rfl rfl (by decide +kernel) ⟨Nat.le_of_ble_eq_true rfl, Nat.le_of_ble_eq_true rfl⟩) (my_preS (wc := (wFloor Γ q_fl q_k q_c q_a q_pa q_b q_pb vi (vp_updL vj 4 l3) vk vc va vpa vb vpb)) [0, 1, 2, 3, 4, 5, 6] hK hP hD rfl rfl) rfl rfl hl.1 rfl (lv_room (Nat.le_of_ble_eq_true rfl)) dX6_carryAll_70 ⟨Nat.le_of_ble_eq_true rfl, Nat.le_of_ble_eq_true rfl⟩) (fun H locs hP hD hS => ?_)
    refine lv_aload_n hx hb dX6_carryAll_73 rfl (lv_at hl 0 rfl) ?_
    refine lv_aload_n hx hb dX6_carryAll_74 rfl (lv_at hl 0 rfl) ?_
    refine va_get (D := my_D Γ) (ci := 1) (v := .ref q_b) (C := RX1) (T := TX1) (N := 12) hx hb hts hinX1 hown hK hP 0 rfl rfl 3 (by decide) (hts (.fieldLink RX6 25 "BeltFloor$Floor" "second" "LBeltFloor$Robot;") (List.mem_of_getElem? (i := 4) rfl)) (fun _ h9 => h9) rfl dX6_carryAll_75 ?_
    refine lv_lload_n hx hb dX6_carryAll_78 rfl (lv_at hl 1 rfl) ?_
    obtain ⟨vb_4, hc_5, hm⟩ := bt1_s hm
    refine my_call0 (wc := (wFloor Γ q_fl q_k q_c q_a q_pa q_b q_pb vi (vp_updL vj 4 l3) vk vc va_2 vpa vb vpb)) (w1 := (wFloor Γ q_fl q_k q_c q_a q_pa q_b q_pb vi (vp_updL vj 4 l3) vk vc va_2 vpa vb_4 vpb)) (ws1 := (wFloor Γ q_fl q_k q_c q_a q_pa q_b q_pb vi (vp_updL vj 4 l3) vk vc va_2 vpa vb_4 vpb)) hP hD hS hA [0, 1, 2, 3, 4, 5, 6] rfl rfl rfl (va_runS (As := [.ref q_fl, .ref q_b, .long l1]) (rest := []) ⟨hx, hb, hml, hown, hts⟩ (kX6_carryRobot_b l Γ q_fl q_k q_c q_a q_pa q_b q_pb vi (vp_updL vj 4 l3) vk vc va_2 vpa vb vpb l1 vb_4 hc_5 _) (va_cwS 3 hts gX6_carryAll_X6_carryRobot rfl rfl rfl (by decide +kernel) ⟨Nat.le_of_ble_eq_true rfl, Nat.le_of_ble_eq_true rfl⟩) (my_preS (wc := (wFloor Γ q_fl q_k q_c q_a q_pa q_b q_pb vi (vp_updL vj 4 l3) vk vc va_2 vpa vb vpb)) [0, 1, 2, 3, 4, 5, 6] hK hP hD rfl rfl) rfl rfl hl.1 rfl (lv_room (Nat.le_of_ble_eq_true rfl)) dX6_carryAll_79 ⟨Nat.le_of_ble_eq_true rfl, Nat.le_of_ble_eq_true rfl⟩) (fun H locs hP hD hS => ?_)
    obtain ⟨hf0, hf1, hf2⟩ := si3 hm
    subst hf0
    subst hf1
    subst hf2
    exact W.vret hx hb hr (fun t ht hW => ⟨⟨rfl, by rw [ht]; exact hP⟩, hS.F ht⟩) hS.2.2 dX6_carryAll_82
  have J_53 : ∀ (k14 : (Nat → Int64) → (Nat → Int32) → (Nat → Int32) → (Nat → Int32) → Int64 → Int64 → Int32 → Option ((Nat → Int64) × (Nat → Int32) × (Nat → Int32))), (∀ (vj : Nat → Int64) (vk : Nat → Int32) (va : Nat → Int32) (vb : Nat → Int32) (l1 : Int64) (l3 : Int64) (l5 : Int32) (H : Heap) (locs : List Loc) (ls : Array Slot), va_P (my_D Γ) vwCl (wFloor Γ q_fl q_k q_c q_a q_pa q_b q_pb vi vj vk vc va vpa vb vpb) H → va_D A (wFloor Γ q_fl q_k q_c q_a q_pa q_b q_pb vi vj vk vc va vpa vb vpb) → va_S A s.heap H locs → lv_has ls 6 [(0, .ref q_fl), (1, .long l1), (3, .long l3), (5, .int l5)] → k14 vj vk va vb l1 l3 l5 = (some (vj_z, va_z, vb_z)) → W p l e (headSpec wsX6_carryAll ({ frames := 3, cells := 0, slots := 0, locals := 68 } : Room)).room s m ([.ref q_fl, .long x1] : List Value).toArray below meth c H locs 0 0 (MQ below (my_Q Γ A none (wFloor Γ q_fl q_k q_c q_a q_pa q_b q_pb vi vj_z vk vc va_z vpa vb_z vpb)) ([.ref q_fl, .long x1] : List Value).toArray s 0 0 A) (F0 m 14 ls [])) → ∀ (vj : Nat → Int64) (vk : Nat → Int32) (va : Nat → Int32) (vb : Nat → Int32) (l1 : Int64) (l3 : Int64) (l5 : Int32) (H : Heap) (locs : List Loc) (ls : Array Slot), va_P (my_D Γ) vwCl (wFloor Γ q_fl q_k q_c q_a q_pa q_b q_pb vi vj vk vc va vpa vb vpb) H → va_D A (wFloor Γ q_fl q_k q_c q_a q_pa q_b q_pb vi vj vk vc va vpa vb vpb) → va_S A s.heap H locs → lv_has ls 6 [(0, .ref q_fl), (1, .long l1), (3, .long l3), (5, .int l5)] → mX6_carryAll_J53 k14 vj vk va vb l1 l3 l5 = (some (vj_z, va_z, vb_z)) → W p l e (headSpec wsX6_carryAll ({ frames := 3, cells := 0, slots := 0, locals := 68 } : Room)).room s m ([.ref q_fl, .long x1] : List Value).toArray below meth c H locs 0 0 (MQ below (my_Q Γ A none (wFloor Γ q_fl q_k q_c q_a q_pa q_b q_pb vi vj_z vk vc va_z vpa vb_z vpb)) ([.ref q_fl, .long x1] : List Value).toArray s 0 0 A) (F0 m 53 ls []) := by
    intro k14 hk14 vj vk va vb l1 l3 l5 H locs ls hP hD hS hl hm
    unfold mX6_carryAll_J53 at hm
    refine lv_iinc (v := (l5 + (1 : Int32))) (lv' := [(5, .int (l5 + (1 : Int32))), (0, .ref q_fl), (1, .long l1), (3, .long l3)]) hx hb dX6_carryAll_53 hl (k := 3) rfl rfl (by decide) rfl (fun ls hl => ?_)
    refine lv_goto (tgt := 14) hx hb dX6_carryAll_56 (by decide) ?_
    exact hk14 vj vk va vb l1 l3 (l5 + (1 : Int32)) _ _ _ hP hD hS (lv_sub hl [1, 2, 3, 0] rfl) hm
  have J_14 : ∀ n : Nat, ∀ (vj : Nat → Int64) (vk : Nat → Int32) (va : Nat → Int32) (vb : Nat → Int32) (l1 : Int64) (l3 : Int64) (l5 : Int32) (H : Heap) (locs : List Loc) (ls : Array Slot), va_P (my_D Γ) vwCl (wFloor Γ q_fl q_k q_c q_a q_pa q_b q_pb vi vj vk vc va vpa vb vpb) H → va_D A (wFloor Γ q_fl q_k q_c q_a q_pa q_b q_pb vi vj vk vc va vpa vb vpb) → va_S A s.heap H locs → lv_has ls 6 [(0, .ref q_fl), (1, .long l1), (3, .long l3), (5, .int l5)] → mX6_carryAll_L14 n vj vk va vb l1 l3 l5 = (some (vj_z, va_z, vb_z)) → W p l e (headSpec wsX6_carryAll ({ frames := 3, cells := 0, slots := 0, locals := 68 } : Room)).room s m ([.ref q_fl, .long x1] : List Value).toArray below meth c H locs 0 0 (MQ below (my_Q Γ A none (wFloor Γ q_fl q_k q_c q_a q_pa q_b q_pb vi vj_z vk vc va_z vpa vb_z vpb)) ([.ref q_fl, .long x1] : List Value).toArray s 0 0 A) (F0 m 14 ls []) := by
    intro  n
    induction n with
    | zero => intro vj vk va vb l1 l3 l5 H locs ls hP hD hS hl hm; cases hm
    | succ n ih =>
      intro vj vk va vb l1 l3 l5 H locs ls hP hD hS hl hm
      unfold mX6_carryAll_L14 at hm
      refine lv_lload_n hx hb dX6_carryAll_14 rfl (lv_at hl 1 rfl) ?_
      refine lv_lconst (v := (0 : Int64)) hx hb dX6_carryAll_15 (by decide) ?_
      refine W.lcmp hx hb dX6_carryAll_16 ?_
      refine lv_if_eq (tgt := 59) hx hb dX6_carryAll_17 (by decide) (fun c_1 => ?_) (fun c_1 => ?_)
      · replace hm := if_s hm c_1
        exact J_59 vj vk va vb l1 l3 _ _ _ hP hD hS (lv_sub hl [0, 1, 2] rfl) hm
      · replace hm := if_f hm c_1
        refine lv_iload hx hb dX6_carryAll_20 (lv_at hl 3 rfl) ?_
        refine lv_bipush (v := (36 : Int32)) hx hb dX6_carryAll_22 (by decide) ?_
        refine lv_icmp_ge (tgt := 59) hx hb dX6_carryAll_24 (by decide) (fun c_6 => ?_) (fun c_6 => ?_)
        · replace hm := if_s hm c_6
          exact J_59 vj vk va vb l1 l3 _ _ _ hP hD hS (lv_sub hl [0, 1, 2] rfl) hm
        · replace hm := if_f hm c_6
          refine lv_aload_n hx hb dX6_carryAll_27 rfl (lv_at hl 0 rfl) ?_
          refine va_get (D := my_D Γ) (ci := 1) (v := .long (vj 4)) (C := RX1) (T := TX1) (N := 12) hx hb hts hinX1 hown hK hP 0 rfl rfl 4 (by decide) (hts (.fieldLink RX6 126 "BeltFloor$Floor" "crates" "J") (List.mem_of_getElem? (i := 1) rfl)) (fun _ h9 => h9) rfl dX6_carryAll_28 ?_
          refine lv_lload_n hx hb dX6_carryAll_31 rfl (lv_at hl 1 rfl) ?_
          refine lv_land hx hb dX6_carryAll_32 ?_
          refine lv_iload hx hb dX6_carryAll_33 (lv_at hl 3 rfl) ?_
          refine my_call1 (wc := ([] : va_W)) (w1 := ([] : va_W)) (ws1 := (wFloor Γ q_fl q_k q_c q_a q_pa q_b q_pb vi vj vk vc va vpa vb vpb)) hP hD hS hA [] rfl rfl rfl (va_runS (As := [.long ((vj 4) &&& l1), .int l5]) (rest := []) ⟨hx, hb, hml, hown, hts⟩ (kX2_holds l Γ ((vj 4) &&& l1) l5 (mX2_holds ((vj 4) &&& l1) l5) rfl _) (va_cwS 2 hts gX6_carryAll_X2_holds rfl rfl rfl (by decide +kernel) ⟨Nat.le_of_ble_eq_true rfl, Nat.le_of_ble_eq_true rfl⟩) (my_preS (wc := ([] : va_W)) [] hK hP hD rfl rfl) rfl rfl hl.1 rfl (lv_room (Nat.le_of_ble_eq_true rfl)) dX6_carryAll_35 ⟨Nat.le_of_ble_eq_true rfl, Nat.le_of_ble_eq_true rfl⟩) (fun H locs hP hD hS => ?_)
          refine lv_if_eq (tgt := 53) hx hb dX6_carryAll_38 (by decide) (fun c_7 => ?_) (fun c_7 => ?_)
          · replace hm := if_s hm c_7
            exact J_53 (fun vj vk va vb l1 l3 l5 => mX6_carryAll_L14 n vj vk va vb l1 l3 l5) ih vj vk va vb l1 l3 l5 _ _ _ hP hD hS (lv_sub hl [0, 1, 2, 3] rfl) hm
          · replace hm := if_f hm c_7
            refine lv_lload_n hx hb dX6_carryAll_41 rfl (lv_at hl 2 rfl) ?_
            refine lv_aload_n hx hb dX6_carryAll_42 rfl (lv_at hl 0 rfl) ?_
            refine lv_iload hx hb dX6_carryAll_43 (lv_at hl 3 rfl) ?_
            refine my_call1 (wc := (wFloor Γ q_fl q_k q_c q_a q_pa q_b q_pb vi vj vk vc va vpa vb vpb)) (w1 := (wFloor Γ q_fl q_k q_c q_a q_pa q_b q_pb vi vj vk vc va vpa vb vpb)) (ws1 := (wFloor Γ q_fl q_k q_c q_a q_pa q_b q_pb vi vj vk vc va vpa vb vpb)) hP hD hS hA [0, 1, 2, 3, 4, 5, 6] rfl rfl rfl (va_runS (As := [.ref q_fl, .int l5]) (rest := [.long l3]) ⟨hx, hb, hml, hown, hts⟩ (kX6_beltTarget l Γ q_fl q_k q_c q_a q_pa q_b q_pb vi vj vk vc va vpa vb vpb l5 (mX6_beltTarget vk l5) rfl _) (va_cwS 2 hts gX6_carryAll_X6_beltTarget rfl rfl rfl (by decide +kernel) ⟨Nat.le_of_ble_eq_true rfl, Nat.le_of_ble_eq_true rfl⟩) (my_preS (wc := (wFloor Γ q_fl q_k q_c q_a q_pa q_b q_pb vi vj vk vc va vpa vb vpb)) [0, 1, 2, 3, 4, 5, 6] hK hP hD rfl rfl) rfl rfl hl.1 rfl (lv_room (Nat.le_of_ble_eq_true rfl)) dX6_carryAll_45 ⟨Nat.le_of_ble_eq_true rfl, Nat.le_of_ble_eq_true rfl⟩) (fun H locs hP hD hS => ?_)
            refine my_call1 (wc := ([] : va_W)) (w1 := ([] : va_W)) (ws1 := (wFloor Γ q_fl q_k q_c q_a q_pa q_b q_pb vi vj vk vc va vpa vb vpb)) hP hD hS hA [] rfl rfl rfl (va_runS (As := [.int (mX6_beltTarget vk l5)]) (rest := [.long l3]) ⟨hx, hb, hml, hown, hts⟩ (kX2_setOf l Γ (mX6_beltTarget vk l5) (mX2_setOf (mX6_beltTarget vk l5)) rfl _) (va_cwS 1 hts gX6_carryAll_X2_setOf rfl rfl rfl (by decide +kernel) ⟨Nat.le_of_ble_eq_true rfl, Nat.le_of_ble_eq_true rfl⟩) (my_preS (wc := ([] : va_W)) [] hK hP hD rfl rfl) rfl rfl hl.1 rfl (lv_room (Nat.le_of_ble_eq_true rfl)) dX6_carryAll_48 ⟨Nat.le_of_ble_eq_true rfl, Nat.le_of_ble_eq_true rfl⟩) (fun H locs hP hD hS => ?_)
            refine lv_lor hx hb dX6_carryAll_51 ?_
            refine lv_lstore_n (lv' := [(3, .long (l3 ||| (mX2_setOf (mX6_beltTarget vk l5)))), (0, .ref q_fl), (1, .long l1), (5, .int l5)]) hx hb dX6_carryAll_52 rfl hl (by decide) rfl (fun ls hl => ?_)
            exact J_53 (fun vj vk va vb l1 l3 l5 => mX6_carryAll_L14 n vj vk va vb l1 l3 l5) ih vj vk va vb l1 (l3 ||| (mX2_setOf (mX6_beltTarget vk l5))) l5 _ _ _ hP hD hS (lv_sub hl [1, 2, 0, 3] rfl) hm
  unfold mX6_carryAll at hm
  refine lv_aload_n hx hb dX6_carryAll_0 rfl (lv_at hl 0 rfl) ?_
  refine va_get (D := my_D Γ) (ci := 1) (v := .long (vj 4)) (C := RX1) (T := TX1) (N := 12) hx hb hts hinX1 hown hK hP 0 rfl rfl 4 (by decide) (hts (.fieldLink RX6 126 "BeltFloor$Floor" "crates" "J") (List.mem_of_getElem? (i := 1) rfl)) (fun _ h9 => h9) rfl dX6_carryAll_1 ?_
  refine lv_lload_n hx hb dX6_carryAll_4 rfl (lv_at hl 1 rfl) ?_
  refine lv_ldc2 (v := (-1 : Int64)) hx hb hown (hts (.constantLong RX6 95 (-1)) (List.mem_of_getElem? (i := 2) rfl)) dX6_carryAll_5 ?_
  refine lv_lxor hx hb dX6_carryAll_8 ?_
  refine lv_land hx hb dX6_carryAll_9 ?_
  refine lv_lstore_n (lv' := [(3, .long ((vj 4) &&& (x1 ^^^ (-1 : Int64)))), (0, .ref q_fl), (1, .long x1)]) hx hb dX6_carryAll_10 rfl hl (by decide) rfl (fun ls hl => ?_)
  refine lv_iconst (v := (0 : Int32)) hx hb dX6_carryAll_11 (by decide) ?_
  refine lv_istore (lv' := [(5, .int (0 : Int32)), (3, .long ((vj 4) &&& (x1 ^^^ (-1 : Int64)))), (0, .ref q_fl), (1, .long x1)]) hx hb dX6_carryAll_12 hl (by decide) rfl (fun ls hl => ?_)
  exact J_14 4096 vj vk va vb x1 ((vj 4) &&& (x1 ^^^ (-1 : Int64))) (0 : Int32) _ _ _ hP hD hS (lv_sub hl [2, 3, 1, 0] rfl) hm
def mX6_loseCrates (vi : Nat → Int32) (vj : Nat → Int64) : (Nat → Int32) × (Nat → Int64) := ((upd vi 10 ((vi 10) + (mJ13_bitCount_95d88 ((vj 4) &&& (vj 6))))), (vp_updL vj 4 ((vj 4) &&& (((vj 4) &&& (vj 6)) ^^^ (-1 : Int64)))))
set_option maxHeartbeats 4000000 in
set_option maxRecDepth 100000 in
theorem kX6_loseCrates (l : Launch) (Γ : my_G) (q_fl q_k q_c q_a q_pa q_b q_pb : Nat) (vi : Nat → Int32) (vj : Nat → Int64) (vk : Nat → Int32) (vc : Nat → Int32) (va : Nat → Int32) (vpa : Nat → Int32) (vb : Nat → Int32) (vpb : Nat → Int32)  (vi_z : Nat → Int32) (vj_z : Nat → Int64) (hm : mX6_loseCrates vi vj = (vi_z, vj_z)) : Mn l yX6_loseCrates wsX6_loseCrates ({ frames := 1, cells := 0, slots := 0, locals := 21 } : Room) Γ [.ref q_fl] (wFloor Γ q_fl q_k q_c q_a q_pa q_b q_pb vi vj vk vc va vpa vb vpb) none (wFloor Γ q_fl q_k q_c q_a q_pa q_b q_pb vi_z vj_z vk vc va vpa vb vpb) := by
  intro sz
  refine Met.ofW (cc := cX6_loseCrates) (maxL := 3) (ret := none) (by decide) rfl ?_
  intro p e s m args below meth c s₁ B hml hv
  obtain ⟨rfl, hsz, hP, hK, hD0⟩ := hv
  have hx := B.exec
  have hb := B.bytes
  have hr := B.returns
  have hts := atoms_spec (ws := wsX6_loseCrates) B.pre
  have hown : s.vm.findClass RX6 = some m.cls := findClass_of_methodNamed B.named
  have hlocks := B.notSynchronized
  have hinX1 : ∀ w ∈ u_ws RX1 TX1 12, w ∈ wsX6_loseCrates := fun w h => List.mem_cons_of_mem _ (List.mem_append_right _ h)
  subst hsz
  have hD := hD0.self (sz := s.heap.size)
  have hA : ∀ q : Nat, s.heap.size ≤ q → va_A (wFloor Γ q_fl q_k q_c q_a q_pa q_b q_pb vi vj vk vc va vpa vb vpb) s.heap.size q := fun q h => Or.inr h
  generalize va_A (wFloor Γ q_fl q_k q_c q_a q_pa q_b q_pb vi vj vk vc va vpa vb vpb) s.heap.size = A at hD hA ⊢
  have hS : va_S A s.heap s.heap [] := va_S.rf
  have hl := lv_entry ([.ref q_fl]) (n := 3) (Nat.le_of_ble_eq_true rfl)
  rw [lg_entry_eq]
  generalize (lg_sl ([.ref q_fl]) ++ List.replicate (3 - (lg_sl ([.ref q_fl])).length) Slot.unset).toArray = ls at hl ⊢
  replace hl : lv_has ls 3 [(0, .ref q_fl)] := hl
  unfold mX6_loseCrates at hm
  refine lv_aload_n hx hb dX6_loseCrates_0 rfl (lv_at hl 0 rfl) ?_
  refine va_get (D := my_D Γ) (ci := 1) (v := .long (vj 4)) (C := RX1) (T := TX1) (N := 12) hx hb hts hinX1 hown hK hP 0 rfl rfl 4 (by decide) (hts (.fieldLink RX6 126 "BeltFloor$Floor" "crates" "J") (List.mem_of_getElem? (i := 1) rfl)) (fun _ h9 => h9) rfl dX6_loseCrates_1 ?_
  refine lv_aload_n hx hb dX6_loseCrates_4 rfl (lv_at hl 0 rfl) ?_
  refine va_get (D := my_D Γ) (ci := 1) (v := .long (vj 6)) (C := RX1) (T := TX1) (N := 12) hx hb hts hinX1 hown hK hP 0 rfl rfl 6 (by decide) (hts (.fieldLink RX6 156 "BeltFloor$Floor" "pits" "J") (List.mem_of_getElem? (i := 2) rfl)) (fun _ h9 => h9) rfl dX6_loseCrates_5 ?_
  refine lv_land hx hb dX6_loseCrates_8 ?_
  refine lv_lstore_n (lv' := [(1, .long ((vj 4) &&& (vj 6))), (0, .ref q_fl)]) hx hb dX6_loseCrates_9 rfl hl (by decide) rfl (fun ls hl => ?_)
  refine lv_aload_n hx hb dX6_loseCrates_10 rfl (lv_at hl 1 rfl) ?_
  refine lv_dup hx hb dX6_loseCrates_11 rfl ?_
  refine va_get (D := my_D Γ) (ci := 1) (v := .long (vj 4)) (C := RX1) (T := TX1) (N := 12) hx hb hts hinX1 hown hK hP 0 rfl rfl 4 (by decide) (hts (.fieldLink RX6 126 "BeltFloor$Floor" "crates" "J") (List.mem_of_getElem? (i := 1) rfl)) (fun _ h9 => h9) rfl dX6_loseCrates_12 ?_
  refine lv_lload_n hx hb dX6_loseCrates_15 rfl (lv_at hl 0 rfl) ?_
  refine lv_ldc2 (v := (-1 : Int64)) hx hb hown (hts (.constantLong RX6 95 (-1)) (List.mem_of_getElem? (i := 3) rfl)) dX6_loseCrates_16 ?_
  refine lv_lxor hx hb dX6_loseCrates_19 ?_
  refine lv_land hx hb dX6_loseCrates_20 ?_
  refine lv_topl (fun y_1 ey_1 => ?_)
  refine va_put (D := my_D Γ) (ci := 1) (v := .long y_1) (ty := .long) (C := RX1) (T := TX1) (N := 12) hx hb hts hinX1 tyX1 tyX1_ok nmX1 hown hK hP hD hS 0 rfl rfl 4 (by decide) (hts (.fieldLink RX6 126 "BeltFloor$Floor" "crates" "J") (List.mem_of_getElem? (i := 1) rfl)) (fun _ h9 => h9) rfl (by decide +kernel) rfl rfl (Nat.le_of_ble_eq_true rfl) dX6_loseCrates_21 (fun H locs hP hD hS => ?_)
  replace hP : va_P (my_D Γ) vwCl (wFloor Γ q_fl q_k q_c q_a q_pa q_b q_pb vi (vp_updL vj 4 y_1) vk vc va vpa vb vpb) H := hP
  replace hD : va_D A (wFloor Γ q_fl q_k q_c q_a q_pa q_b q_pb vi (vp_updL vj 4 y_1) vk vc va vpa vb vpb) := hD
  subst ey_1
  refine lv_aload_n hx hb dX6_loseCrates_24 rfl (lv_at hl 1 rfl) ?_
  refine lv_dup hx hb dX6_loseCrates_25 rfl ?_
  refine va_get (D := my_D Γ) (ci := 1) (v := .int (vi 10)) (C := RX1) (T := TX1) (N := 12) hx hb hts hinX1 hown hK hP 0 rfl rfl 10 (by decide) (hts (.fieldLink RX6 159 "BeltFloor$Floor" "lostCrates" "I") (List.mem_of_getElem? (i := 4) rfl)) (fun _ h9 => h9) rfl dX6_loseCrates_26 ?_
  refine lv_lload_n hx hb dX6_loseCrates_29 rfl (lv_at hl 0 rfl) ?_
  refine my_call1 (wc := ([] : va_W)) (w1 := ([] : va_W)) (ws1 := (wFloor Γ q_fl q_k q_c q_a q_pa q_b q_pb vi (vp_updL vj 4 ((vj 4) &&& (((vj 4) &&& (vj 6)) ^^^ (-1 : Int64)))) vk vc va vpa vb vpb)) hP hD hS hA [] rfl rfl rfl (va_runS (As := [.long ((vj 4) &&& (vj 6))]) (rest := [.int (vi 10), .ref q_fl]) ⟨hx, hb, hml, hown, hts⟩ (kJ13_bitCount_95d88 l Γ ((vj 4) &&& (vj 6)) (mJ13_bitCount_95d88 ((vj 4) &&& (vj 6))) rfl _) (va_cwS 1 hts gX6_loseCrates_J13_bitCount_95d88 rfl rfl rfl (by decide +kernel) ⟨Nat.le_of_ble_eq_true rfl, Nat.le_of_ble_eq_true rfl⟩) (my_preS (wc := ([] : va_W)) [] hK hP hD rfl rfl) rfl rfl hl.1 rfl (lv_room (Nat.le_of_ble_eq_true rfl)) dX6_loseCrates_30 ⟨Nat.le_of_ble_eq_true rfl, Nat.le_of_ble_eq_true rfl⟩) (fun H locs hP hD hS => ?_)
  refine lv_iadd hx hb dX6_loseCrates_33 ?_
  refine lv_topi (fun y_2 ey_2 => ?_)
  refine va_put (D := my_D Γ) (ci := 1) (v := .int y_2) (ty := .int) (C := RX1) (T := TX1) (N := 12) hx hb hts hinX1 tyX1 tyX1_ok nmX1 hown hK hP hD hS 0 rfl rfl 10 (by decide) (hts (.fieldLink RX6 159 "BeltFloor$Floor" "lostCrates" "I") (List.mem_of_getElem? (i := 4) rfl)) (fun _ h9 => h9) rfl (by decide +kernel) rfl rfl (Nat.le_of_ble_eq_true rfl) dX6_loseCrates_34 (fun H locs hP hD hS => ?_)
  replace hP : va_P (my_D Γ) vwCl (wFloor Γ q_fl q_k q_c q_a q_pa q_b q_pb (upd vi 10 y_2) (vp_updL vj 4 ((vj 4) &&& (((vj 4) &&& (vj 6)) ^^^ (-1 : Int64)))) vk vc va vpa vb vpb) H := hP
  replace hD : va_D A (wFloor Γ q_fl q_k q_c q_a q_pa q_b q_pb (upd vi 10 y_2) (vp_updL vj 4 ((vj 4) &&& (((vj 4) &&& (vj 6)) ^^^ (-1 : Int64)))) vk vc va vpa vb vpb) := hD
  subst ey_2
  obtain ⟨hf0, hf1⟩ := ti2 hm
  subst hf0
  subst hf1
  exact W.vret hx hb hr (fun t ht hW => ⟨⟨rfl, by rw [ht]; exact hP⟩, hS.F ht⟩) hS.2.2 dX6_loseCrates_37
def mX6_letFall_a (vj : Nat → Int64) (vk : Nat → Int32) (va : Nat → Int32) (vb : Nat → Int32) : Option ((Nat → Int32)) := (if (mX1_kindAt vk (va 0)) = (2 : Int32) then (bo1 (mX1_lowestFreeCell vj vk (upd (upd va 6 ((va 6) + (1 : Int32))) 1 (0 : Int32)) vb) (fun r_3 => (if r_3 = (-1 : Int32) then (some (upd (upd va 6 ((va 6) + (1 : Int32))) 1 (0 : Int32))) else (some (upd (upd (upd va 6 ((va 6) + (1 : Int32))) 1 (0 : Int32)) 0 r_3))))) else (some va))
set_option maxHeartbeats 4000000 in
set_option maxRecDepth 100000 in
theorem kX6_letFall_a (l : Launch) (Γ : my_G) (q_fl q_k q_c q_a q_pa q_b q_pb : Nat) (vi : Nat → Int32) (vj : Nat → Int64) (vk : Nat → Int32) (vc : Nat → Int32) (va : Nat → Int32) (vpa : Nat → Int32) (vb : Nat → Int32) (vpb : Nat → Int32)  (va_z : Nat → Int32) (hm : mX6_letFall_a vj vk va vb = (some va_z)) : Mn l yX6_letFall wsX6_letFall ({ frames := 3, cells := 0, slots := 0, locals := 61 } : Room) Γ [.ref q_fl, .ref q_a] (wFloor Γ q_fl q_k q_c q_a q_pa q_b q_pb vi vj vk vc va vpa vb vpb) none (wFloor Γ q_fl q_k q_c q_a q_pa q_b q_pb vi vj vk vc va_z vpa vb vpb) := by
  intro sz
  refine Met.ofW (cc := cX6_letFall) (maxL := 3) (ret := none) (by decide) rfl ?_
  intro p e s m args below meth c s₁ B hml hv
  obtain ⟨rfl, hsz, hP, hK, hD0⟩ := hv
  have hx := B.exec
  have hb := B.bytes
  have hr := B.returns
  have hts := atoms_spec (ws := wsX6_letFall) B.pre
  have hown : s.vm.findClass RX6 = some m.cls := findClass_of_methodNamed B.named
  have hlocks := B.notSynchronized
  have hinX1 : ∀ w ∈ u_ws RX1 TX1 12, w ∈ wsX6_letFall := fun w h => List.mem_cons_of_mem _ (List.mem_append_right _ h)
  have hinX4 : ∀ w ∈ u_ws RX4 TX4 10, w ∈ wsX6_letFall := fun w h => List.mem_cons_of_mem _ (List.mem_append_left _ (List.mem_append_right _ h))
  subst hsz
  have hD := hD0.self (sz := s.heap.size)
  have hA : ∀ q : Nat, s.heap.size ≤ q → va_A (wFloor Γ q_fl q_k q_c q_a q_pa q_b q_pb vi vj vk vc va vpa vb vpb) s.heap.size q := fun q h => Or.inr h
  generalize va_A (wFloor Γ q_fl q_k q_c q_a q_pa q_b q_pb vi vj vk vc va vpa vb vpb) s.heap.size = A at hD hA ⊢
  have hS : va_S A s.heap s.heap [] := va_S.rf
  have hl := lv_entry ([.ref q_fl, .ref q_a]) (n := 3) (Nat.le_of_ble_eq_true rfl)
  rw [lg_entry_eq]
  generalize (lg_sl ([.ref q_fl, .ref q_a]) ++ List.replicate (3 - (lg_sl ([.ref q_fl, .ref q_a])).length) Slot.unset).toArray = ls at hl ⊢
  replace hl : lv_has ls 3 [(0, .ref q_fl), (1, .ref q_a)] := hl
  unfold mX6_letFall_a at hm
  refine lv_aload_n hx hb dX6_letFall_0 rfl (lv_at hl 0 rfl) ?_
  refine lv_aload_n hx hb dX6_letFall_1 rfl (lv_at hl 1 rfl) ?_
  refine va_get (D := my_D Γ) (ci := 3) (v := .int (va 0)) (C := RX4) (T := TX4) (N := 10) hx hb hts hinX4 hown hK hP 3 rfl rfl 0 (by decide) (hts (.fieldLink RX6 66 "BeltFloor$Robot" "cell" "I") (List.mem_of_getElem? (i := 1) rfl)) (fun _ h9 => h9) rfl dX6_letFall_2 ?_
  refine my_call1 (wc := (wFloor Γ q_fl q_k q_c q_a q_pa q_b q_pb vi vj vk vc va vpa vb vpb)) (w1 := (wFloor Γ q_fl q_k q_c q_a q_pa q_b q_pb vi vj vk vc va vpa vb vpb)) (ws1 := (wFloor Γ q_fl q_k q_c q_a q_pa q_b q_pb vi vj vk vc va vpa vb vpb)) hP hD hS hA [0, 1, 2, 3, 4, 5, 6] rfl rfl rfl (va_runV (As := [.int (va 0)]) (rest := []) ⟨hx, hb, hml, hown, hts⟩ (kX1_kindAt l Γ q_fl q_k q_c q_a q_pa q_b q_pb vi vj vk vc va vpa vb vpb (va 0) (mX1_kindAt vk (va 0)) rfl _) (cwV 1 hts gX6_letFall_X1_kindAt rfl rfl rfl (by decide +kernel) ⟨Nat.le_of_ble_eq_true rfl, Nat.le_of_ble_eq_true rfl⟩) (my_preV (wc := (wFloor Γ q_fl q_k q_c q_a q_pa q_b q_pb vi vj vk vc va vpa vb vpb)) (ci := 1) (q0 := 0) [0, 1, 2, 3, 4, 5, 6] hK hP hD rfl rfl rfl rfl) rfl rfl hl.1 rfl (lv_room (Nat.le_of_ble_eq_true rfl)) dX6_letFall_5 ⟨Nat.le_of_ble_eq_true rfl, Nat.le_of_ble_eq_true rfl⟩) (fun H locs hP hD hS => ?_)
  refine lv_iconst (v := (2 : Int32)) hx hb dX6_letFall_8 (by decide) ?_
  refine lv_icmp_eq (tgt := 13) hx hb dX6_letFall_9 (by decide) (fun c_1 => ?_) (fun c_1 => ?_)
  · replace hm := if_s hm c_1
    refine lv_aload_n hx hb dX6_letFall_13 rfl (lv_at hl 1 rfl) ?_
    refine lv_dup hx hb dX6_letFall_14 rfl ?_
    refine va_get (D := my_D Γ) (ci := 3) (v := .int (va 6)) (C := RX4) (T := TX4) (N := 10) hx hb hts hinX4 hown hK hP 3 rfl rfl 6 (by decide) (hts (.fieldLink RX6 162 "BeltFloor$Robot" "falls" "I") (List.mem_of_getElem? (i := 2) rfl)) (fun _ h9 => h9) rfl dX6_letFall_15 ?_
    refine lv_iconst (v := (1 : Int32)) hx hb dX6_letFall_18 (by decide) ?_
    refine lv_iadd hx hb dX6_letFall_19 ?_
    refine lv_topi (fun y_2 ey_2 => ?_)
    refine va_put (D := my_D Γ) (ci := 3) (v := .int y_2) (ty := .int) (C := RX4) (T := TX4) (N := 10) hx hb hts hinX4 tyX4 tyX4_ok nmX4 hown hK hP hD hS 3 rfl rfl 6 (by decide) (hts (.fieldLink RX6 162 "BeltFloor$Robot" "falls" "I") (List.mem_of_getElem? (i := 2) rfl)) (fun _ h9 => h9) rfl (by decide +kernel) rfl rfl (Nat.le_of_ble_eq_true rfl) dX6_letFall_20 (fun H locs hP hD hS => ?_)
    replace hP : va_P (my_D Γ) vwCl (wFloor Γ q_fl q_k q_c q_a q_pa q_b q_pb vi vj vk vc (upd va 6 y_2) vpa vb vpb) H := hP
    replace hD : va_D A (wFloor Γ q_fl q_k q_c q_a q_pa q_b q_pb vi vj vk vc (upd va 6 y_2) vpa vb vpb) := hD
    subst ey_2
    refine lv_aload_n hx hb dX6_letFall_23 rfl (lv_at hl 1 rfl) ?_
    refine lv_iconst (v := (0 : Int32)) hx hb dX6_letFall_24 (by decide) ?_
    refine va_put (D := my_D Γ) (ci := 3) (v := .int (0 : Int32)) (ty := .int) (C := RX4) (T := TX4) (N := 10) hx hb hts hinX4 tyX4 tyX4_ok nmX4 hown hK hP hD hS 3 rfl rfl 1 (by decide) (hts (.fieldLink RX6 165 "BeltFloor$Robot" "facing" "I") (List.mem_of_getElem? (i := 3) rfl)) (fun _ h9 => h9) rfl (by decide +kernel) rfl rfl (Nat.le_of_ble_eq_true rfl) dX6_letFall_25 (fun H locs hP hD hS => ?_)
    replace hP : va_P (my_D Γ) vwCl (wFloor Γ q_fl q_k q_c q_a q_pa q_b q_pb vi vj vk vc (upd (upd va 6 ((va 6) + (1 : Int32))) 1 (0 : Int32)) vpa vb vpb) H := hP
    replace hD : va_D A (wFloor Γ q_fl q_k q_c q_a q_pa q_b q_pb vi vj vk vc (upd (upd va 6 ((va 6) + (1 : Int32))) 1 (0 : Int32)) vpa vb vpb) := hD
    refine lv_aload_n hx hb dX6_letFall_28 rfl (lv_at hl 0 rfl) ?_
    obtain ⟨r_3, hc_4, hm⟩ := bo1_s hm
    refine my_call1 (wc := (wFloor Γ q_fl q_k q_c q_a q_pa q_b q_pb vi vj vk vc (upd (upd va 6 ((va 6) + (1 : Int32))) 1 (0 : Int32)) vpa vb vpb)) (w1 := (wFloor Γ q_fl q_k q_c q_a q_pa q_b q_pb vi vj vk vc (upd (upd va 6 ((va 6) + (1 : Int32))) 1 (0 : Int32)) vpa vb vpb)) (ws1 := (wFloor Γ q_fl q_k q_c q_a q_pa q_b q_pb vi vj vk vc (upd (upd va 6 ((va 6) + (1 : Int32))) 1 (0 : Int32)) vpa vb vpb)) hP hD hS hA [0, 1, 2, 3, 4, 5, 6] rfl rfl rfl (va_runV (As := []) (rest := []) ⟨hx, hb, hml, hown, hts⟩ (kX1_lowestFreeCell l Γ q_fl q_k q_c q_a q_pa q_b q_pb vi vj vk vc (upd (upd va 6 ((va 6) + (1 : Int32))) 1 (0 : Int32)) vpa vb vpb r_3 hc_4 _) (cwV 0 hts gX6_letFall_X1_lowestFreeCell rfl rfl rfl (by decide +kernel) ⟨Nat.le_of_ble_eq_true rfl, Nat.le_of_ble_eq_true rfl⟩) (my_preV (wc := (wFloor Γ q_fl q_k q_c q_a q_pa q_b q_pb vi vj vk vc (upd (upd va 6 ((va 6) + (1 : Int32))) 1 (0 : Int32)) vpa vb vpb)) (ci := 1) (q0 := 0) [0, 1, 2, 3, 4, 5, 6] hK hP hD rfl rfl rfl rfl) rfl rfl hl.1 rfl (lv_room (Nat.le_of_ble_eq_true rfl)) dX6_letFall_29 ⟨Nat.le_of_ble_eq_true rfl, Nat.le_of_ble_eq_true rfl⟩) (fun H locs hP hD hS => ?_)
    refine lv_istore_n (lv' := [(2, .int r_3), (0, .ref q_fl), (1, .ref q_a)]) hx hb dX6_letFall_32 rfl hl (by decide) rfl (fun ls hl => ?_)
    refine lv_iload_n hx hb dX6_letFall_33 rfl (lv_at hl 0 rfl) ?_
    refine lv_iconst (v := (-1 : Int32)) hx hb dX6_letFall_34 (by decide) ?_
    refine lv_icmp_eq (tgt := 43) hx hb dX6_letFall_35 (by decide) (fun c_5 => ?_) (fun c_5 => ?_)
    · replace hm := if_s hm c_5
      obtain hf0 := Option.some.inj hm
      subst hf0
      exact W.vret hx hb hr (fun t ht hW => ⟨⟨rfl, by rw [ht]; exact hP⟩, hS.F ht⟩) hS.2.2 dX6_letFall_43
    · replace hm := if_f hm c_5
      refine lv_aload_n hx hb dX6_letFall_38 rfl (lv_at hl 2 rfl) ?_
      refine lv_iload_n hx hb dX6_letFall_39 rfl (lv_at hl 0 rfl) ?_
      refine va_put (D := my_D Γ) (ci := 3) (v := .int r_3) (ty := .int) (C := RX4) (T := TX4) (N := 10) hx hb hts hinX4 tyX4 tyX4_ok nmX4 hown hK hP hD hS 3 rfl rfl 0 (by decide) (hts (.fieldLink RX6 66 "BeltFloor$Robot" "cell" "I") (List.mem_of_getElem? (i := 1) rfl)) (fun _ h9 => h9) rfl (by decide +kernel) rfl rfl (Nat.le_of_ble_eq_true rfl) dX6_letFall_40 (fun H locs hP hD hS => ?_)
      replace hP : va_P (my_D Γ) vwCl (wFloor Γ q_fl q_k q_c q_a q_pa q_b q_pb vi vj vk vc (upd (upd (upd va 6 ((va 6) + (1 : Int32))) 1 (0 : Int32)) 0 r_3) vpa vb vpb) H := hP
      replace hD : va_D A (wFloor Γ q_fl q_k q_c q_a q_pa q_b q_pb vi vj vk vc (upd (upd (upd va 6 ((va 6) + (1 : Int32))) 1 (0 : Int32)) 0 r_3) vpa vb vpb) := hD
      obtain hf0 := Option.some.inj hm
      subst hf0
      exact W.vret hx hb hr (fun t ht hW => ⟨⟨rfl, by rw [ht]; exact hP⟩, hS.F ht⟩) hS.2.2 dX6_letFall_43
  · replace hm := if_f hm c_1
    obtain hf0 := Option.some.inj hm
    subst hf0
    exact W.vret hx hb hr (fun t ht hW => ⟨⟨rfl, by rw [ht]; exact hP⟩, hS.F ht⟩) hS.2.2 dX6_letFall_12
def mX6_letFall_b (vj : Nat → Int64) (vk : Nat → Int32) (va : Nat → Int32) (vb : Nat → Int32) : Option ((Nat → Int32)) := (if (mX1_kindAt vk (vb 0)) = (2 : Int32) then (bo1 (mX1_lowestFreeCell vj vk va (upd (upd vb 6 ((vb 6) + (1 : Int32))) 1 (0 : Int32))) (fun r_3 => (if r_3 = (-1 : Int32) then (some (upd (upd vb 6 ((vb 6) + (1 : Int32))) 1 (0 : Int32))) else (some (upd (upd (upd vb 6 ((vb 6) + (1 : Int32))) 1 (0 : Int32)) 0 r_3))))) else (some vb))
set_option maxHeartbeats 4000000 in
set_option maxRecDepth 100000 in
theorem kX6_letFall_b (l : Launch) (Γ : my_G) (q_fl q_k q_c q_a q_pa q_b q_pb : Nat) (vi : Nat → Int32) (vj : Nat → Int64) (vk : Nat → Int32) (vc : Nat → Int32) (va : Nat → Int32) (vpa : Nat → Int32) (vb : Nat → Int32) (vpb : Nat → Int32)  (vb_z : Nat → Int32) (hm : mX6_letFall_b vj vk va vb = (some vb_z)) : Mn l yX6_letFall wsX6_letFall ({ frames := 3, cells := 0, slots := 0, locals := 61 } : Room) Γ [.ref q_fl, .ref q_b] (wFloor Γ q_fl q_k q_c q_a q_pa q_b q_pb vi vj vk vc va vpa vb vpb) none (wFloor Γ q_fl q_k q_c q_a q_pa q_b q_pb vi vj vk vc va vpa vb_z vpb) := by
  intro sz
  refine Met.ofW (cc := cX6_letFall) (maxL := 3) (ret := none) (by decide) rfl ?_
  intro p e s m args below meth c s₁ B hml hv
  obtain ⟨rfl, hsz, hP, hK, hD0⟩ := hv
  have hx := B.exec
  have hb := B.bytes
  have hr := B.returns
  have hts := atoms_spec (ws := wsX6_letFall) B.pre
  have hown : s.vm.findClass RX6 = some m.cls := findClass_of_methodNamed B.named
  have hlocks := B.notSynchronized
  have hinX1 : ∀ w ∈ u_ws RX1 TX1 12, w ∈ wsX6_letFall := fun w h => List.mem_cons_of_mem _ (List.mem_append_right _ h)
  have hinX4 : ∀ w ∈ u_ws RX4 TX4 10, w ∈ wsX6_letFall := fun w h => List.mem_cons_of_mem _ (List.mem_append_left _ (List.mem_append_right _ h))
  subst hsz
  have hD := hD0.self (sz := s.heap.size)
  have hA : ∀ q : Nat, s.heap.size ≤ q → va_A (wFloor Γ q_fl q_k q_c q_a q_pa q_b q_pb vi vj vk vc va vpa vb vpb) s.heap.size q := fun q h => Or.inr h
  generalize va_A (wFloor Γ q_fl q_k q_c q_a q_pa q_b q_pb vi vj vk vc va vpa vb vpb) s.heap.size = A at hD hA ⊢
  have hS : va_S A s.heap s.heap [] := va_S.rf
  have hl := lv_entry ([.ref q_fl, .ref q_b]) (n := 3) (Nat.le_of_ble_eq_true rfl)
  rw [lg_entry_eq]
  generalize (lg_sl ([.ref q_fl, .ref q_b]) ++ List.replicate (3 - (lg_sl ([.ref q_fl, .ref q_b])).length) Slot.unset).toArray = ls at hl ⊢
  replace hl : lv_has ls 3 [(0, .ref q_fl), (1, .ref q_b)] := hl
  unfold mX6_letFall_b at hm
  refine lv_aload_n hx hb dX6_letFall_0 rfl (lv_at hl 0 rfl) ?_
  refine lv_aload_n hx hb dX6_letFall_1 rfl (lv_at hl 1 rfl) ?_
  refine va_get (D := my_D Γ) (ci := 3) (v := .int (vb 0)) (C := RX4) (T := TX4) (N := 10) hx hb hts hinX4 hown hK hP 5 rfl rfl 0 (by decide) (hts (.fieldLink RX6 66 "BeltFloor$Robot" "cell" "I") (List.mem_of_getElem? (i := 1) rfl)) (fun _ h9 => h9) rfl dX6_letFall_2 ?_
  refine my_call1 (wc := (wFloor Γ q_fl q_k q_c q_a q_pa q_b q_pb vi vj vk vc va vpa vb vpb)) (w1 := (wFloor Γ q_fl q_k q_c q_a q_pa q_b q_pb vi vj vk vc va vpa vb vpb)) (ws1 := (wFloor Γ q_fl q_k q_c q_a q_pa q_b q_pb vi vj vk vc va vpa vb vpb)) hP hD hS hA [0, 1, 2, 3, 4, 5, 6] rfl rfl rfl (va_runV (As := [.int (vb 0)]) (rest := []) ⟨hx, hb, hml, hown, hts⟩ (kX1_kindAt l Γ q_fl q_k q_c q_a q_pa q_b q_pb vi vj vk vc va vpa vb vpb (vb 0) (mX1_kindAt vk (vb 0)) rfl _) (cwV 1 hts gX6_letFall_X1_kindAt rfl rfl rfl (by decide +kernel) ⟨Nat.le_of_ble_eq_true rfl, Nat.le_of_ble_eq_true rfl⟩) (my_preV (wc := (wFloor Γ q_fl q_k q_c q_a q_pa q_b q_pb vi vj vk vc va vpa vb vpb)) (ci := 1) (q0 := 0) [0, 1, 2, 3, 4, 5, 6] hK hP hD rfl rfl rfl rfl) rfl rfl hl.1 rfl (lv_room (Nat.le_of_ble_eq_true rfl)) dX6_letFall_5 ⟨Nat.le_of_ble_eq_true rfl, Nat.le_of_ble_eq_true rfl⟩) (fun H locs hP hD hS => ?_)
  refine lv_iconst (v := (2 : Int32)) hx hb dX6_letFall_8 (by decide) ?_
  refine lv_icmp_eq (tgt := 13) hx hb dX6_letFall_9 (by decide) (fun c_1 => ?_) (fun c_1 => ?_)
  · replace hm := if_s hm c_1
    refine lv_aload_n hx hb dX6_letFall_13 rfl (lv_at hl 1 rfl) ?_
    refine lv_dup hx hb dX6_letFall_14 rfl ?_
    refine va_get (D := my_D Γ) (ci := 3) (v := .int (vb 6)) (C := RX4) (T := TX4) (N := 10) hx hb hts hinX4 hown hK hP 5 rfl rfl 6 (by decide) (hts (.fieldLink RX6 162 "BeltFloor$Robot" "falls" "I") (List.mem_of_getElem? (i := 2) rfl)) (fun _ h9 => h9) rfl dX6_letFall_15 ?_
    refine lv_iconst (v := (1 : Int32)) hx hb dX6_letFall_18 (by decide) ?_
    refine lv_iadd hx hb dX6_letFall_19 ?_
    refine lv_topi (fun y_2 ey_2 => ?_)
    refine va_put (D := my_D Γ) (ci := 3) (v := .int y_2) (ty := .int) (C := RX4) (T := TX4) (N := 10) hx hb hts hinX4 tyX4 tyX4_ok nmX4 hown hK hP hD hS 5 rfl rfl 6 (by decide) (hts (.fieldLink RX6 162 "BeltFloor$Robot" "falls" "I") (List.mem_of_getElem? (i := 2) rfl)) (fun _ h9 => h9) rfl (by decide +kernel) rfl rfl (Nat.le_of_ble_eq_true rfl) dX6_letFall_20 (fun H locs hP hD hS => ?_)
    replace hP : va_P (my_D Γ) vwCl (wFloor Γ q_fl q_k q_c q_a q_pa q_b q_pb vi vj vk vc va vpa (upd vb 6 y_2) vpb) H := hP
    replace hD : va_D A (wFloor Γ q_fl q_k q_c q_a q_pa q_b q_pb vi vj vk vc va vpa (upd vb 6 y_2) vpb) := hD
    subst ey_2
    refine lv_aload_n hx hb dX6_letFall_23 rfl (lv_at hl 1 rfl) ?_
    refine lv_iconst (v := (0 : Int32)) hx hb dX6_letFall_24 (by decide) ?_
    refine va_put (D := my_D Γ) (ci := 3) (v := .int (0 : Int32)) (ty := .int) (C := RX4) (T := TX4) (N := 10) hx hb hts hinX4 tyX4 tyX4_ok nmX4 hown hK hP hD hS 5 rfl rfl 1 (by decide) (hts (.fieldLink RX6 165 "BeltFloor$Robot" "facing" "I") (List.mem_of_getElem? (i := 3) rfl)) (fun _ h9 => h9) rfl (by decide +kernel) rfl rfl (Nat.le_of_ble_eq_true rfl) dX6_letFall_25 (fun H locs hP hD hS => ?_)
    replace hP : va_P (my_D Γ) vwCl (wFloor Γ q_fl q_k q_c q_a q_pa q_b q_pb vi vj vk vc va vpa (upd (upd vb 6 ((vb 6) + (1 : Int32))) 1 (0 : Int32)) vpb) H := hP
    replace hD : va_D A (wFloor Γ q_fl q_k q_c q_a q_pa q_b q_pb vi vj vk vc va vpa (upd (upd vb 6 ((vb 6) + (1 : Int32))) 1 (0 : Int32)) vpb) := hD
    refine lv_aload_n hx hb dX6_letFall_28 rfl (lv_at hl 0 rfl) ?_
    obtain ⟨r_3, hc_4, hm⟩ := bo1_s hm
    refine my_call1 (wc := (wFloor Γ q_fl q_k q_c q_a q_pa q_b q_pb vi vj vk vc va vpa (upd (upd vb 6 ((vb 6) + (1 : Int32))) 1 (0 : Int32)) vpb)) (w1 := (wFloor Γ q_fl q_k q_c q_a q_pa q_b q_pb vi vj vk vc va vpa (upd (upd vb 6 ((vb 6) + (1 : Int32))) 1 (0 : Int32)) vpb)) (ws1 := (wFloor Γ q_fl q_k q_c q_a q_pa q_b q_pb vi vj vk vc va vpa (upd (upd vb 6 ((vb 6) + (1 : Int32))) 1 (0 : Int32)) vpb)) hP hD hS hA [0, 1, 2, 3, 4, 5, 6] rfl rfl rfl (va_runV (As := []) (rest := []) ⟨hx, hb, hml, hown, hts⟩ (kX1_lowestFreeCell l Γ q_fl q_k q_c q_a q_pa q_b q_pb vi vj vk vc va vpa (upd (upd vb 6 ((vb 6) + (1 : Int32))) 1 (0 : Int32)) vpb r_3 hc_4 _) (cwV 0 hts gX6_letFall_X1_lowestFreeCell rfl rfl rfl (by decide +kernel) ⟨Nat.le_of_ble_eq_true rfl, Nat.le_of_ble_eq_true rfl⟩) (my_preV (wc := (wFloor Γ q_fl q_k q_c q_a q_pa q_b q_pb vi vj vk vc va vpa (upd (upd vb 6 ((vb 6) + (1 : Int32))) 1 (0 : Int32)) vpb)) (ci := 1) (q0 := 0) [0, 1, 2, 3, 4, 5, 6] hK hP hD rfl rfl rfl rfl) rfl rfl hl.1 rfl (lv_room (Nat.le_of_ble_eq_true rfl)) dX6_letFall_29 ⟨Nat.le_of_ble_eq_true rfl, Nat.le_of_ble_eq_true rfl⟩) (fun H locs hP hD hS => ?_)
    refine lv_istore_n (lv' := [(2, .int r_3), (0, .ref q_fl), (1, .ref q_b)]) hx hb dX6_letFall_32 rfl hl (by decide) rfl (fun ls hl => ?_)
    refine lv_iload_n hx hb dX6_letFall_33 rfl (lv_at hl 0 rfl) ?_
    refine lv_iconst (v := (-1 : Int32)) hx hb dX6_letFall_34 (by decide) ?_
    refine lv_icmp_eq (tgt := 43) hx hb dX6_letFall_35 (by decide) (fun c_5 => ?_) (fun c_5 => ?_)
    · replace hm := if_s hm c_5
      obtain hf0 := Option.some.inj hm
      subst hf0
      exact W.vret hx hb hr (fun t ht hW => ⟨⟨rfl, by rw [ht]; exact hP⟩, hS.F ht⟩) hS.2.2 dX6_letFall_43
    · replace hm := if_f hm c_5
      refine lv_aload_n hx hb dX6_letFall_38 rfl (lv_at hl 2 rfl) ?_
      refine lv_iload_n hx hb dX6_letFall_39 rfl (lv_at hl 0 rfl) ?_
      refine va_put (D := my_D Γ) (ci := 3) (v := .int r_3) (ty := .int) (C := RX4) (T := TX4) (N := 10) hx hb hts hinX4 tyX4 tyX4_ok nmX4 hown hK hP hD hS 5 rfl rfl 0 (by decide) (hts (.fieldLink RX6 66 "BeltFloor$Robot" "cell" "I") (List.mem_of_getElem? (i := 1) rfl)) (fun _ h9 => h9) rfl (by decide +kernel) rfl rfl (Nat.le_of_ble_eq_true rfl) dX6_letFall_40 (fun H locs hP hD hS => ?_)
      replace hP : va_P (my_D Γ) vwCl (wFloor Γ q_fl q_k q_c q_a q_pa q_b q_pb vi vj vk vc va vpa (upd (upd (upd vb 6 ((vb 6) + (1 : Int32))) 1 (0 : Int32)) 0 r_3) vpb) H := hP
      replace hD : va_D A (wFloor Γ q_fl q_k q_c q_a q_pa q_b q_pb vi vj vk vc va vpa (upd (upd (upd vb 6 ((vb 6) + (1 : Int32))) 1 (0 : Int32)) 0 r_3) vpb) := hD
      obtain hf0 := Option.some.inj hm
      subst hf0
      exact W.vret hx hb hr (fun t ht hW => ⟨⟨rfl, by rw [ht]; exact hP⟩, hS.F ht⟩) hS.2.2 dX6_letFall_43
  · replace hm := if_f hm c_1
    obtain hf0 := Option.some.inj hm
    subst hf0
    exact W.vret hx hb hr (fun t ht hW => ⟨⟨rfl, by rw [ht]; exact hP⟩, hS.F ht⟩) hS.2.2 dX6_letFall_12
def mX6_passCheckpoint_a (vi : Nat → Int32) (vc : Nat → Int32) (va : Nat → Int32) : Option (Int32 × (Nat → Int32)) := (bo1 (mX1_checkpointCell vi vc (va 2)) (fun r_1 => (if r_1 = (va 0) then (some ((1 : Int32), (upd va 2 ((va 2) + (1 : Int32))))) else (some ((0 : Int32), va)))))
set_option maxHeartbeats 4000000 in
set_option maxRecDepth 100000 in
theorem kX6_passCheckpoint_a (l : Launch) (Γ : my_G) (q_fl q_k q_c q_a q_pa q_b q_pb : Nat) (vi : Nat → Int32) (vj : Nat → Int64) (vk : Nat → Int32) (vc : Nat → Int32) (va : Nat → Int32) (vpa : Nat → Int32) (vb : Nat → Int32) (vpb : Nat → Int32)  (rr : Int32) (va_z : Nat → Int32) (hm : mX6_passCheckpoint_a vi vc va = (some (rr, va_z))) : Mn l yX6_passCheckpoint wsX6_passCheckpoint ({ frames := 1, cells := 0, slots := 0, locals := 22 } : Room) Γ [.ref q_fl, .ref q_a] (wFloor Γ q_fl q_k q_c q_a q_pa q_b q_pb vi vj vk vc va vpa vb vpb) (some (.int rr)) (wFloor Γ q_fl q_k q_c q_a q_pa q_b q_pb vi vj vk vc va_z vpa vb vpb) := by
  intro sz
  refine Met.ofW (cc := cX6_passCheckpoint) (maxL := 2) (ret := (some .int)) (by decide) rfl ?_
  intro p e s m args below meth c s₁ B hml hv
  obtain ⟨rfl, hsz, hP, hK, hD0⟩ := hv
  have hx := B.exec
  have hb := B.bytes
  have hr := B.returns
  have hts := atoms_spec (ws := wsX6_passCheckpoint) B.pre
  have hown : s.vm.findClass RX6 = some m.cls := findClass_of_methodNamed B.named
  have hlocks := B.notSynchronized
  have hinX1 : ∀ w ∈ u_ws RX1 TX1 12, w ∈ wsX6_passCheckpoint := fun w h => List.mem_cons_of_mem _ (List.mem_append_right _ h)
  have hinX4 : ∀ w ∈ u_ws RX4 TX4 10, w ∈ wsX6_passCheckpoint := fun w h => List.mem_cons_of_mem _ (List.mem_append_left _ (List.mem_append_right _ h))
  subst hsz
  have hD := hD0.self (sz := s.heap.size)
  have hA : ∀ q : Nat, s.heap.size ≤ q → va_A (wFloor Γ q_fl q_k q_c q_a q_pa q_b q_pb vi vj vk vc va vpa vb vpb) s.heap.size q := fun q h => Or.inr h
  generalize va_A (wFloor Γ q_fl q_k q_c q_a q_pa q_b q_pb vi vj vk vc va vpa vb vpb) s.heap.size = A at hD hA ⊢
  have hS : va_S A s.heap s.heap [] := va_S.rf
  have hl := lv_entry ([.ref q_fl, .ref q_a]) (n := 2) (Nat.le_of_ble_eq_true rfl)
  rw [lg_entry_eq]
  generalize (lg_sl ([.ref q_fl, .ref q_a]) ++ List.replicate (2 - (lg_sl ([.ref q_fl, .ref q_a])).length) Slot.unset).toArray = ls at hl ⊢
  replace hl : lv_has ls 2 [(0, .ref q_fl), (1, .ref q_a)] := hl
  unfold mX6_passCheckpoint_a at hm
  refine lv_aload_n hx hb dX6_passCheckpoint_0 rfl (lv_at hl 0 rfl) ?_
  refine lv_aload_n hx hb dX6_passCheckpoint_1 rfl (lv_at hl 1 rfl) ?_
  refine va_get (D := my_D Γ) (ci := 3) (v := .int (va 2)) (C := RX4) (T := TX4) (N := 10) hx hb hts hinX4 hown hK hP 3 rfl rfl 2 (by decide) (hts (.fieldLink RX6 171 "BeltFloor$Robot" "next" "I") (List.mem_of_getElem? (i := 1) rfl)) (fun _ h9 => h9) rfl dX6_passCheckpoint_2 ?_
  obtain ⟨r_1, hc_2, hm⟩ := bo1_s hm
  refine my_call1 (wc := (wFloor Γ q_fl q_k q_c q_a q_pa q_b q_pb vi vj vk vc va vpa vb vpb)) (w1 := (wFloor Γ q_fl q_k q_c q_a q_pa q_b q_pb vi vj vk vc va vpa vb vpb)) (ws1 := (wFloor Γ q_fl q_k q_c q_a q_pa q_b q_pb vi vj vk vc va vpa vb vpb)) hP hD hS hA [0, 1, 2, 3, 4, 5, 6] rfl rfl rfl (va_runV (As := [.int (va 2)]) (rest := []) ⟨hx, hb, hml, hown, hts⟩ (kX1_checkpointCell l Γ q_fl q_k q_c q_a q_pa q_b q_pb vi vj vk vc va vpa vb vpb (va 2) r_1 hc_2 _) (cwV 1 hts gX6_passCheckpoint_X1_checkpointCell rfl rfl rfl (by decide +kernel) ⟨Nat.le_of_ble_eq_true rfl, Nat.le_of_ble_eq_true rfl⟩) (my_preV (wc := (wFloor Γ q_fl q_k q_c q_a q_pa q_b q_pb vi vj vk vc va vpa vb vpb)) (ci := 1) (q0 := 0) [0, 1, 2, 3, 4, 5, 6] hK hP hD rfl rfl rfl rfl) rfl rfl hl.1 rfl (lv_room (Nat.le_of_ble_eq_true rfl)) dX6_passCheckpoint_5 ⟨Nat.le_of_ble_eq_true rfl, Nat.le_of_ble_eq_true rfl⟩) (fun H locs hP hD hS => ?_)
  refine lv_aload_n hx hb dX6_passCheckpoint_8 rfl (lv_at hl 1 rfl) ?_
  refine va_get (D := my_D Γ) (ci := 3) (v := .int (va 0)) (C := RX4) (T := TX4) (N := 10) hx hb hts hinX4 hown hK hP 3 rfl rfl 0 (by decide) (hts (.fieldLink RX6 66 "BeltFloor$Robot" "cell" "I") (List.mem_of_getElem? (i := 2) rfl)) (fun _ h9 => h9) rfl dX6_passCheckpoint_9 ?_
  refine lv_icmp_eq (tgt := 17) hx hb dX6_passCheckpoint_12 (by decide) (fun c_3 => ?_) (fun c_3 => ?_)
  · replace hm := if_s hm c_3
    refine lv_aload_n hx hb dX6_passCheckpoint_17 rfl (lv_at hl 1 rfl) ?_
    refine lv_dup hx hb dX6_passCheckpoint_18 rfl ?_
    refine va_get (D := my_D Γ) (ci := 3) (v := .int (va 2)) (C := RX4) (T := TX4) (N := 10) hx hb hts hinX4 hown hK hP 3 rfl rfl 2 (by decide) (hts (.fieldLink RX6 171 "BeltFloor$Robot" "next" "I") (List.mem_of_getElem? (i := 1) rfl)) (fun _ h9 => h9) rfl dX6_passCheckpoint_19 ?_
    refine lv_iconst (v := (1 : Int32)) hx hb dX6_passCheckpoint_22 (by decide) ?_
    refine lv_iadd hx hb dX6_passCheckpoint_23 ?_
    refine lv_topi (fun y_4 ey_4 => ?_)
    refine va_put (D := my_D Γ) (ci := 3) (v := .int y_4) (ty := .int) (C := RX4) (T := TX4) (N := 10) hx hb hts hinX4 tyX4 tyX4_ok nmX4 hown hK hP hD hS 3 rfl rfl 2 (by decide) (hts (.fieldLink RX6 171 "BeltFloor$Robot" "next" "I") (List.mem_of_getElem? (i := 1) rfl)) (fun _ h9 => h9) rfl (by decide +kernel) rfl rfl (Nat.le_of_ble_eq_true rfl) dX6_passCheckpoint_24 (fun H locs hP hD hS => ?_)
    replace hP : va_P (my_D Γ) vwCl (wFloor Γ q_fl q_k q_c q_a q_pa q_b q_pb vi vj vk vc (upd va 2 y_4) vpa vb vpb) H := hP
    replace hD : va_D A (wFloor Γ q_fl q_k q_c q_a q_pa q_b q_pb vi vj vk vc (upd va 2 y_4) vpa vb vpb) := hD
    subst ey_4
    refine lv_iconst (v := (1 : Int32)) hx hb dX6_passCheckpoint_27 (by decide) ?_
    obtain ⟨hf0, hf1⟩ := si2 hm
    subst hf0
    subst hf1
    exact W.iret (v := (1 : Int32)) hx hb hr (fun t ht hW => ⟨⟨rfl, by rw [ht]; exact hP⟩, hS.F ht⟩) hS.2.2 dX6_passCheckpoint_28
  · replace hm := if_f hm c_3
    refine lv_iconst (v := (0 : Int32)) hx hb dX6_passCheckpoint_15 (by decide) ?_
    obtain ⟨hf0, hf1⟩ := si2 hm
    subst hf0
    subst hf1
    exact W.iret (v := (0 : Int32)) hx hb hr (fun t ht hW => ⟨⟨rfl, by rw [ht]; exact hP⟩, hS.F ht⟩) hS.2.2 dX6_passCheckpoint_16
def mX6_passCheckpoint_b (vi : Nat → Int32) (vc : Nat → Int32) (vb : Nat → Int32) : Option (Int32 × (Nat → Int32)) := (bo1 (mX1_checkpointCell vi vc (vb 2)) (fun r_1 => (if r_1 = (vb 0) then (some ((1 : Int32), (upd vb 2 ((vb 2) + (1 : Int32))))) else (some ((0 : Int32), vb)))))
set_option maxHeartbeats 4000000 in
set_option maxRecDepth 100000 in
theorem kX6_passCheckpoint_b (l : Launch) (Γ : my_G) (q_fl q_k q_c q_a q_pa q_b q_pb : Nat) (vi : Nat → Int32) (vj : Nat → Int64) (vk : Nat → Int32) (vc : Nat → Int32) (va : Nat → Int32) (vpa : Nat → Int32) (vb : Nat → Int32) (vpb : Nat → Int32)  (rr : Int32) (vb_z : Nat → Int32) (hm : mX6_passCheckpoint_b vi vc vb = (some (rr, vb_z))) : Mn l yX6_passCheckpoint wsX6_passCheckpoint ({ frames := 1, cells := 0, slots := 0, locals := 22 } : Room) Γ [.ref q_fl, .ref q_b] (wFloor Γ q_fl q_k q_c q_a q_pa q_b q_pb vi vj vk vc va vpa vb vpb) (some (.int rr)) (wFloor Γ q_fl q_k q_c q_a q_pa q_b q_pb vi vj vk vc va vpa vb_z vpb) := by
  intro sz
  refine Met.ofW (cc := cX6_passCheckpoint) (maxL := 2) (ret := (some .int)) (by decide) rfl ?_
  intro p e s m args below meth c s₁ B hml hv
  obtain ⟨rfl, hsz, hP, hK, hD0⟩ := hv
  have hx := B.exec
  have hb := B.bytes
  have hr := B.returns
  have hts := atoms_spec (ws := wsX6_passCheckpoint) B.pre
  have hown : s.vm.findClass RX6 = some m.cls := findClass_of_methodNamed B.named
  have hlocks := B.notSynchronized
  have hinX1 : ∀ w ∈ u_ws RX1 TX1 12, w ∈ wsX6_passCheckpoint := fun w h => List.mem_cons_of_mem _ (List.mem_append_right _ h)
  have hinX4 : ∀ w ∈ u_ws RX4 TX4 10, w ∈ wsX6_passCheckpoint := fun w h => List.mem_cons_of_mem _ (List.mem_append_left _ (List.mem_append_right _ h))
  subst hsz
  have hD := hD0.self (sz := s.heap.size)
  have hA : ∀ q : Nat, s.heap.size ≤ q → va_A (wFloor Γ q_fl q_k q_c q_a q_pa q_b q_pb vi vj vk vc va vpa vb vpb) s.heap.size q := fun q h => Or.inr h
  generalize va_A (wFloor Γ q_fl q_k q_c q_a q_pa q_b q_pb vi vj vk vc va vpa vb vpb) s.heap.size = A at hD hA ⊢
  have hS : va_S A s.heap s.heap [] := va_S.rf
  have hl := lv_entry ([.ref q_fl, .ref q_b]) (n := 2) (Nat.le_of_ble_eq_true rfl)
  rw [lg_entry_eq]
  generalize (lg_sl ([.ref q_fl, .ref q_b]) ++ List.replicate (2 - (lg_sl ([.ref q_fl, .ref q_b])).length) Slot.unset).toArray = ls at hl ⊢
  replace hl : lv_has ls 2 [(0, .ref q_fl), (1, .ref q_b)] := hl
  unfold mX6_passCheckpoint_b at hm
  refine lv_aload_n hx hb dX6_passCheckpoint_0 rfl (lv_at hl 0 rfl) ?_
  refine lv_aload_n hx hb dX6_passCheckpoint_1 rfl (lv_at hl 1 rfl) ?_
  refine va_get (D := my_D Γ) (ci := 3) (v := .int (vb 2)) (C := RX4) (T := TX4) (N := 10) hx hb hts hinX4 hown hK hP 5 rfl rfl 2 (by decide) (hts (.fieldLink RX6 171 "BeltFloor$Robot" "next" "I") (List.mem_of_getElem? (i := 1) rfl)) (fun _ h9 => h9) rfl dX6_passCheckpoint_2 ?_
  obtain ⟨r_1, hc_2, hm⟩ := bo1_s hm
  refine my_call1 (wc := (wFloor Γ q_fl q_k q_c q_a q_pa q_b q_pb vi vj vk vc va vpa vb vpb)) (w1 := (wFloor Γ q_fl q_k q_c q_a q_pa q_b q_pb vi vj vk vc va vpa vb vpb)) (ws1 := (wFloor Γ q_fl q_k q_c q_a q_pa q_b q_pb vi vj vk vc va vpa vb vpb)) hP hD hS hA [0, 1, 2, 3, 4, 5, 6] rfl rfl rfl (va_runV (As := [.int (vb 2)]) (rest := []) ⟨hx, hb, hml, hown, hts⟩ (kX1_checkpointCell l Γ q_fl q_k q_c q_a q_pa q_b q_pb vi vj vk vc va vpa vb vpb (vb 2) r_1 hc_2 _) (cwV 1 hts gX6_passCheckpoint_X1_checkpointCell rfl rfl rfl (by decide +kernel) ⟨Nat.le_of_ble_eq_true rfl, Nat.le_of_ble_eq_true rfl⟩) (my_preV (wc := (wFloor Γ q_fl q_k q_c q_a q_pa q_b q_pb vi vj vk vc va vpa vb vpb)) (ci := 1) (q0 := 0) [0, 1, 2, 3, 4, 5, 6] hK hP hD rfl rfl rfl rfl) rfl rfl hl.1 rfl (lv_room (Nat.le_of_ble_eq_true rfl)) dX6_passCheckpoint_5 ⟨Nat.le_of_ble_eq_true rfl, Nat.le_of_ble_eq_true rfl⟩) (fun H locs hP hD hS => ?_)
  refine lv_aload_n hx hb dX6_passCheckpoint_8 rfl (lv_at hl 1 rfl) ?_
  refine va_get (D := my_D Γ) (ci := 3) (v := .int (vb 0)) (C := RX4) (T := TX4) (N := 10) hx hb hts hinX4 hown hK hP 5 rfl rfl 0 (by decide) (hts (.fieldLink RX6 66 "BeltFloor$Robot" "cell" "I") (List.mem_of_getElem? (i := 2) rfl)) (fun _ h9 => h9) rfl dX6_passCheckpoint_9 ?_
  refine lv_icmp_eq (tgt := 17) hx hb dX6_passCheckpoint_12 (by decide) (fun c_3 => ?_) (fun c_3 => ?_)
  · replace hm := if_s hm c_3
    refine lv_aload_n hx hb dX6_passCheckpoint_17 rfl (lv_at hl 1 rfl) ?_
    refine lv_dup hx hb dX6_passCheckpoint_18 rfl ?_
    refine va_get (D := my_D Γ) (ci := 3) (v := .int (vb 2)) (C := RX4) (T := TX4) (N := 10) hx hb hts hinX4 hown hK hP 5 rfl rfl 2 (by decide) (hts (.fieldLink RX6 171 "BeltFloor$Robot" "next" "I") (List.mem_of_getElem? (i := 1) rfl)) (fun _ h9 => h9) rfl dX6_passCheckpoint_19 ?_
    refine lv_iconst (v := (1 : Int32)) hx hb dX6_passCheckpoint_22 (by decide) ?_
    refine lv_iadd hx hb dX6_passCheckpoint_23 ?_
    refine lv_topi (fun y_4 ey_4 => ?_)
    refine va_put (D := my_D Γ) (ci := 3) (v := .int y_4) (ty := .int) (C := RX4) (T := TX4) (N := 10) hx hb hts hinX4 tyX4 tyX4_ok nmX4 hown hK hP hD hS 5 rfl rfl 2 (by decide) (hts (.fieldLink RX6 171 "BeltFloor$Robot" "next" "I") (List.mem_of_getElem? (i := 1) rfl)) (fun _ h9 => h9) rfl (by decide +kernel) rfl rfl (Nat.le_of_ble_eq_true rfl) dX6_passCheckpoint_24 (fun H locs hP hD hS => ?_)
    replace hP : va_P (my_D Γ) vwCl (wFloor Γ q_fl q_k q_c q_a q_pa q_b q_pb vi vj vk vc va vpa (upd vb 2 y_4) vpb) H := hP
    replace hD : va_D A (wFloor Γ q_fl q_k q_c q_a q_pa q_b q_pb vi vj vk vc va vpa (upd vb 2 y_4) vpb) := hD
    subst ey_4
    refine lv_iconst (v := (1 : Int32)) hx hb dX6_passCheckpoint_27 (by decide) ?_
    obtain ⟨hf0, hf1⟩ := si2 hm
    subst hf0
    subst hf1
    exact W.iret (v := (1 : Int32)) hx hb hr (fun t ht hW => ⟨⟨rfl, by rw [ht]; exact hP⟩, hS.F ht⟩) hS.2.2 dX6_passCheckpoint_28
  · replace hm := if_f hm c_3
    refine lv_iconst (v := (0 : Int32)) hx hb dX6_passCheckpoint_15 (by decide) ?_
    obtain ⟨hf0, hf1⟩ := si2 hm
    subst hf0
    subst hf1
    exact W.iret (v := (0 : Int32)) hx hb hr (fun t ht hW => ⟨⟨rfl, by rw [ht]; exact hP⟩, hS.F ht⟩) hS.2.2 dX6_passCheckpoint_16
def mX6_makeOne_J66  (vi : Nat → Int32) (vj : Nat → Int64) (vk : Nat → Int32) (vc : Nat → Int32) (va : Nat → Int32) (vpa : Nat → Int32) (vb : Nat → Int32) (vpb : Nat → Int32) (s3 : Int64) : Option (Int32 × (Nat → Int32) × (Nat → Int64) × (Nat → Int32) × (Nat → Int32)) := (bt3 (mX6_follow_b vj va vb vpb s3) (fun vj_11 va_12 vb_13 => (bo1 (mX6_carriedThings vj_11 vk va_12 vb_13) (fun r_15 => (bo3 (mX6_carryAll vj_11 vk va_12 vb_13 r_15) (fun vj_17 va_18 vb_19 => (bt2 (mX6_loseCrates vi vj_17) (fun vi_21 vj_22 => (bo1 (mX6_letFall_a vj_22 vk va_18 vb_19) (fun va_24 => (bo1 (mX6_letFall_b vj_22 vk va_24 vb_19) (fun vb_26 => (bo2 (mX6_passCheckpoint_a (upd vi_21 11 ((vi_21 11) + (1 : Int32))) vc va_24) (fun r_29 va_30 => (bo2 (mX6_passCheckpoint_b (upd vi_21 11 ((vi_21 11) + (1 : Int32))) vc vb_26) (fun r_32 vb_33 => (some ((r_29 + r_32), (upd vi_21 11 ((vi_21 11) + (1 : Int32))), vj_22, va_30, vb_33))))))))))))))))))
def mX6_makeOne_J44  (vi : Nat → Int32) (vj : Nat → Int64) (vk : Nat → Int32) (vc : Nat → Int32) (va : Nat → Int32) (vpa : Nat → Int32) (vb : Nat → Int32) (vpb : Nat → Int32) (l3 : Int64) (l5 : Int32) (s3 : Int64) : Option (Int32 × (Nat → Int32) × (Nat → Int64) × (Nat → Int32) × (Nat → Int32)) := (bt3 (mX6_follow_a vj va vpa vb s3) (fun vj_6 va_7 vb_8 => (if l5 = 0 then (mX6_makeOne_J66 vi vj_6 vk vc va_7 vpa vb_8 vpb l3) else (mX6_makeOne_J66 vi vj_6 vk vc va_7 vpa vb_8 vpb (0 : Int64)))))
def mX6_makeOne (vi : Nat → Int32) (vj : Nat → Int64) (vk : Nat → Int32) (vc : Nat → Int32) (va : Nat → Int32) (vpa : Nat → Int32) (vb : Nat → Int32) (vpb : Nat → Int32) : Option (Int32 × (Nat → Int32) × (Nat → Int64) × (Nat → Int32) × (Nat → Int32)) := (bo1 (mX6_wayOf_a vj vk va vpa vb) (fun r_1 => (bo1 (mX6_wayOf_b vj vk va vb vpb) (fun r_3 => (if (mX6_clash r_1 r_3) = 0 then (mX6_makeOne_J44 vi vj vk vc va vpa vb vpb r_3 (mX6_clash r_1 r_3) r_1) else (mX6_makeOne_J44 vi vj vk vc va vpa vb vpb r_3 (mX6_clash r_1 r_3) (0 : Int64)))))))
set_option maxHeartbeats 4000000 in
set_option maxRecDepth 100000 in
theorem kX6_makeOne (l : Launch) (Γ : my_G) (q_fl q_k q_c q_a q_pa q_b q_pb : Nat) (vi : Nat → Int32) (vj : Nat → Int64) (vk : Nat → Int32) (vc : Nat → Int32) (va : Nat → Int32) (vpa : Nat → Int32) (vb : Nat → Int32) (vpb : Nat → Int32)  (rr : Int32) (vi_z : Nat → Int32) (vj_z : Nat → Int64) (va_z : Nat → Int32) (vb_z : Nat → Int32) (hm : mX6_makeOne vi vj vk vc va vpa vb vpb = (some (rr, vi_z, vj_z, va_z, vb_z))) : Mn l yX6_makeOne wsX6_makeOne ({ frames := 4, cells := 0, slots := 0, locals := 103 } : Room) Γ [.ref q_fl] (wFloor Γ q_fl q_k q_c q_a q_pa q_b q_pb vi vj vk vc va vpa vb vpb) (some (.int rr)) (wFloor Γ q_fl q_k q_c q_a q_pa q_b q_pb vi_z vj_z vk vc va_z vpa vb_z vpb) := by
  intro sz
  refine Met.ofW (cc := cX6_makeOne) (maxL := 6) (ret := (some .int)) (by decide) rfl ?_
  intro p e s m args below meth c s₁ B hml hv
  obtain ⟨rfl, hsz, hP, hK, hD0⟩ := hv
  have hx := B.exec
  have hb := B.bytes
  have hr := B.returns
  have hts := atoms_spec (ws := wsX6_makeOne) B.pre
  have hown : s.vm.findClass RX6 = some m.cls := findClass_of_methodNamed B.named
  have hlocks := B.notSynchronized
  have hinX1 : ∀ w ∈ u_ws RX1 TX1 12, w ∈ wsX6_makeOne := fun w h => List.mem_cons_of_mem _ (List.mem_append_left _ (List.mem_append_right _ h))
  have hinX4 : ∀ w ∈ u_ws RX4 TX4 10, w ∈ wsX6_makeOne := fun w h => List.mem_cons_of_mem _ (List.mem_append_right _ h)
  subst hsz
  have hD := hD0.self (sz := s.heap.size)
  have hA : ∀ q : Nat, s.heap.size ≤ q → va_A (wFloor Γ q_fl q_k q_c q_a q_pa q_b q_pb vi vj vk vc va vpa vb vpb) s.heap.size q := fun q h => Or.inr h
  generalize va_A (wFloor Γ q_fl q_k q_c q_a q_pa q_b q_pb vi vj vk vc va vpa vb vpb) s.heap.size = A at hD hA ⊢
  have hS : va_S A s.heap s.heap [] := va_S.rf
  have hl := lv_entry ([.ref q_fl]) (n := 6) (Nat.le_of_ble_eq_true rfl)
  rw [lg_entry_eq]
  generalize (lg_sl ([.ref q_fl]) ++ List.replicate (6 - (lg_sl ([.ref q_fl])).length) Slot.unset).toArray = ls at hl ⊢
  replace hl : lv_has ls 6 [(0, .ref q_fl)] := hl
  have J_66 : ∀ (vi : Nat → Int32) (vj : Nat → Int64) (vk : Nat → Int32) (vc : Nat → Int32) (va : Nat → Int32) (vpa : Nat → Int32) (vb : Nat → Int32) (vpb : Nat → Int32) (s3 : Int64) (H : Heap) (locs : List Loc) (ls : Array Slot), va_P (my_D Γ) vwCl (wFloor Γ q_fl q_k q_c q_a q_pa q_b q_pb vi vj vk vc va vpa vb vpb) H → va_D A (wFloor Γ q_fl q_k q_c q_a q_pa q_b q_pb vi vj vk vc va vpa vb vpb) → va_S A s.heap H locs → lv_has ls 6 [(0, .ref q_fl)] → mX6_makeOne_J66 vi vj vk vc va vpa vb vpb s3 = (some (rr, vi_z, vj_z, va_z, vb_z)) → W p l e (headSpec wsX6_makeOne ({ frames := 4, cells := 0, slots := 0, locals := 103 } : Room)).room s m ([.ref q_fl] : List Value).toArray below meth c H locs 0 0 (MQ below (my_Q Γ A (some (.int rr)) (wFloor Γ q_fl q_k q_c q_a q_pa q_b q_pb vi_z vj_z vk vc va_z vpa vb_z vpb)) ([.ref q_fl] : List Value).toArray s 0 0 A) (F0 m 66 ls [.long s3, .ref q_a, .ref q_b, .ref q_fl]) := by
    intro  vi vj vk vc va vpa vb vpb s3 H locs ls hP hD hS hl hm
    unfold mX6_makeOne_J66 at hm
    obtain ⟨vj_11, va_12, vb_13, hc_14, hm⟩ := bt3_s hm
    refine my_call0 (wc := (wFloor Γ q_fl q_k q_c q_a q_pa q_b q_pb vi vj vk vc va vpa vb vpb)) (w1 := (wFloor Γ q_fl q_k q_c q_a q_pa q_b q_pb vi vj_11 vk vc va_12 vpa vb_13 vpb)) (ws1 := (wFloor Γ q_fl q_k q_c q_a q_pa q_b q_pb vi vj_11 vk vc va_12 vpa vb_13 vpb)) hP hD hS hA [0, 1, 2, 3, 4, 5, 6] rfl rfl rfl (va_runS (As := [.ref q_fl, .ref q_b, .ref q_a, .long s3]) (rest := []) ⟨hx, hb, hml, hown, hts⟩ (kX6_follow_b l Γ q_fl q_k q_c q_a q_pa q_b q_pb vi vj vk vc va vpa vb vpb s3 vj_11 va_12 vb_13 hc_14 _) (va_cwS 4 hts gX6_makeOne_X6_follow rfl rfl rfl (by decide +kernel) ⟨Nat.le_of_ble_eq_true rfl, Nat.le_of_ble_eq_true rfl⟩) (my_preS (wc := (wFloor Γ q_fl q_k q_c q_a q_pa q_b q_pb vi vj vk vc va vpa vb vpb)) [0, 1, 2, 3, 4, 5, 6] hK hP hD rfl rfl) rfl rfl hl.1 rfl (lv_room (Nat.le_of_ble_eq_true rfl)) dX6_makeOne_66 ⟨Nat.le_of_ble_eq_true rfl, Nat.le_of_ble_eq_true rfl⟩) (fun H locs hP hD hS => ?_)
    refine lv_aload_n hx hb dX6_makeOne_69 rfl (lv_at hl 0 rfl) ?_
    refine lv_aload_n hx hb dX6_makeOne_70 rfl (lv_at hl 0 rfl) ?_
    obtain ⟨r_15, hc_16, hm⟩ := bo1_s hm
    refine my_call1 (wc := (wFloor Γ q_fl q_k q_c q_a q_pa q_b q_pb vi vj_11 vk vc va_12 vpa vb_13 vpb)) (w1 := (wFloor Γ q_fl q_k q_c q_a q_pa q_b q_pb vi vj_11 vk vc va_12 vpa vb_13 vpb)) (ws1 := (wFloor Γ q_fl q_k q_c q_a q_pa q_b q_pb vi vj_11 vk vc va_12 vpa vb_13 vpb)) hP hD hS hA [0, 1, 2, 3, 4, 5, 6] rfl rfl rfl (va_runS (As := [.ref q_fl]) (rest := [.ref q_fl]) ⟨hx, hb, hml, hown, hts⟩ (kX6_carriedThings l Γ q_fl q_k q_c q_a q_pa q_b q_pb vi vj_11 vk vc va_12 vpa vb_13 vpb r_15 hc_16 _) (va_cwS 1 hts gX6_makeOne_X6_carriedThings rfl rfl rfl (by decide +kernel) ⟨Nat.le_of_ble_eq_true rfl, Nat.le_of_ble_eq_true rfl⟩) (my_preS (wc := (wFloor Γ q_fl q_k q_c q_a q_pa q_b q_pb vi vj_11 vk vc va_12 vpa vb_13 vpb)) [0, 1, 2, 3, 4, 5, 6] hK hP hD rfl rfl) rfl rfl hl.1 rfl (lv_room (Nat.le_of_ble_eq_true rfl)) dX6_makeOne_71 ⟨Nat.le_of_ble_eq_true rfl, Nat.le_of_ble_eq_true rfl⟩) (fun H locs hP hD hS => ?_)
    obtain ⟨vj_17, va_18, vb_19, hc_20, hm⟩ := bo3_s hm
    refine my_call0 (wc := (wFloor Γ q_fl q_k q_c q_a q_pa q_b q_pb vi vj_11 vk vc va_12 vpa vb_13 vpb)) (w1 := (wFloor Γ q_fl q_k q_c q_a q_pa q_b q_pb vi vj_17 vk vc va_18 vpa vb_19 vpb)) (ws1 := (wFloor Γ q_fl q_k q_c q_a q_pa q_b q_pb vi vj_17 vk vc va_18 vpa vb_19 vpb)) hP hD hS hA [0, 1, 2, 3, 4, 5, 6] rfl rfl rfl (va_runS (As := [.ref q_fl, .long r_15]) (rest := []) ⟨hx, hb, hml, hown, hts⟩ (kX6_carryAll l Γ q_fl q_k q_c q_a q_pa q_b q_pb vi vj_11 vk vc va_12 vpa vb_13 vpb r_15 vj_17 va_18 vb_19 hc_20 _) (va_cwS 2 hts gX6_makeOne_X6_carryAll rfl rfl rfl (by decide +kernel) ⟨Nat.le_of_ble_eq_true rfl, Nat.le_of_ble_eq_true rfl⟩) (my_preS (wc := (wFloor Γ q_fl q_k q_c q_a q_pa q_b q_pb vi vj_11 vk vc va_12 vpa vb_13 vpb)) [0, 1, 2, 3, 4, 5, 6] hK hP hD rfl rfl) rfl rfl hl.1 rfl (lv_room (Nat.le_of_ble_eq_true rfl)) dX6_makeOne_74 ⟨Nat.le_of_ble_eq_true rfl, Nat.le_of_ble_eq_true rfl⟩) (fun H locs hP hD hS => ?_)
    refine lv_aload_n hx hb dX6_makeOne_77 rfl (lv_at hl 0 rfl) ?_
    obtain ⟨vi_21, vj_22, hc_23, hm⟩ := bt2_s hm
    refine my_call0 (wc := (wFloor Γ q_fl q_k q_c q_a q_pa q_b q_pb vi vj_17 vk vc va_18 vpa vb_19 vpb)) (w1 := (wFloor Γ q_fl q_k q_c q_a q_pa q_b q_pb vi_21 vj_22 vk vc va_18 vpa vb_19 vpb)) (ws1 := (wFloor Γ q_fl q_k q_c q_a q_pa q_b q_pb vi_21 vj_22 vk vc va_18 vpa vb_19 vpb)) hP hD hS hA [0, 1, 2, 3, 4, 5, 6] rfl rfl rfl (va_runS (As := [.ref q_fl]) (rest := []) ⟨hx, hb, hml, hown, hts⟩ (kX6_loseCrates l Γ q_fl q_k q_c q_a q_pa q_b q_pb vi vj_17 vk vc va_18 vpa vb_19 vpb vi_21 vj_22 hc_23 _) (va_cwS 1 hts gX6_makeOne_X6_loseCrates rfl rfl rfl (by decide +kernel) ⟨Nat.le_of_ble_eq_true rfl, Nat.le_of_ble_eq_true rfl⟩) (my_preS (wc := (wFloor Γ q_fl q_k q_c q_a q_pa q_b q_pb vi vj_17 vk vc va_18 vpa vb_19 vpb)) [0, 1, 2, 3, 4, 5, 6] hK hP hD rfl rfl) rfl rfl hl.1 rfl (lv_room (Nat.le_of_ble_eq_true rfl)) dX6_makeOne_78 ⟨Nat.le_of_ble_eq_true rfl, Nat.le_of_ble_eq_true rfl⟩) (fun H locs hP hD hS => ?_)
    refine lv_aload_n hx hb dX6_makeOne_81 rfl (lv_at hl 0 rfl) ?_
    refine lv_aload_n hx hb dX6_makeOne_82 rfl (lv_at hl 0 rfl) ?_
    refine va_get (D := my_D Γ) (ci := 1) (v := .ref q_a) (C := RX1) (T := TX1) (N := 12) hx hb hts hinX1 hown hK hP 0 rfl rfl 2 (by decide) (hts (.fieldLink RX6 15 "BeltFloor$Floor" "first" "LBeltFloor$Robot;") (List.mem_of_getElem? (i := 1) rfl)) (fun _ h9 => h9) rfl dX6_makeOne_83 ?_
    obtain ⟨va_24, hc_25, hm⟩ := bo1_s hm
    refine my_call0 (wc := (wFloor Γ q_fl q_k q_c q_a q_pa q_b q_pb vi_21 vj_22 vk vc va_18 vpa vb_19 vpb)) (w1 := (wFloor Γ q_fl q_k q_c q_a q_pa q_b q_pb vi_21 vj_22 vk vc va_24 vpa vb_19 vpb)) (ws1 := (wFloor Γ q_fl q_k q_c q_a q_pa q_b q_pb vi_21 vj_22 vk vc va_24 vpa vb_19 vpb)) hP hD hS hA [0, 1, 2, 3, 4, 5, 6] rfl rfl rfl (va_runS (As := [.ref q_fl, .ref q_a]) (rest := []) ⟨hx, hb, hml, hown, hts⟩ (kX6_letFall_a l Γ q_fl q_k q_c q_a q_pa q_b q_pb vi_21 vj_22 vk vc va_18 vpa vb_19 vpb va_24 hc_25 _) (va_cwS 2 hts gX6_makeOne_X6_letFall rfl rfl rfl (by decide +kernel) ⟨Nat.le_of_ble_eq_true rfl, Nat.le_of_ble_eq_true rfl⟩) (my_preS (wc := (wFloor Γ q_fl q_k q_c q_a q_pa q_b q_pb vi_21 vj_22 vk vc va_18 vpa vb_19 vpb)) [0, 1, 2, 3, 4, 5, 6] hK hP hD rfl rfl) rfl rfl hl.1 rfl (lv_room (Nat.le_of_ble_eq_true rfl)) dX6_makeOne_86 ⟨Nat.le_of_ble_eq_true rfl, Nat.le_of_ble_eq_true rfl⟩) (fun H locs hP hD hS => ?_)
    refine lv_aload_n hx hb dX6_makeOne_89 rfl (lv_at hl 0 rfl) ?_
    refine lv_aload_n hx hb dX6_makeOne_90 rfl (lv_at hl 0 rfl) ?_
    refine va_get (D := my_D Γ) (ci := 1) (v := .ref q_b) (C := RX1) (T := TX1) (N := 12) hx hb hts hinX1 hown hK hP 0 rfl rfl 3 (by decide) (hts (.fieldLink RX6 25 "BeltFloor$Floor" "second" "LBeltFloor$Robot;") (List.mem_of_getElem? (i := 2) rfl)) (fun _ h9 => h9) rfl dX6_makeOne_91 ?_
    obtain ⟨vb_26, hc_27, hm⟩ := bo1_s hm
    refine my_call0 (wc := (wFloor Γ q_fl q_k q_c q_a q_pa q_b q_pb vi_21 vj_22 vk vc va_24 vpa vb_19 vpb)) (w1 := (wFloor Γ q_fl q_k q_c q_a q_pa q_b q_pb vi_21 vj_22 vk vc va_24 vpa vb_26 vpb)) (ws1 := (wFloor Γ q_fl q_k q_c q_a q_pa q_b q_pb vi_21 vj_22 vk vc va_24 vpa vb_26 vpb)) hP hD hS hA [0, 1, 2, 3, 4, 5, 6] rfl rfl rfl (va_runS (As := [.ref q_fl, .ref q_b]) (rest := []) ⟨hx, hb, hml, hown, hts⟩ (kX6_letFall_b l Γ q_fl q_k q_c q_a q_pa q_b q_pb vi_21 vj_22 vk vc va_24 vpa vb_19 vpb vb_26 hc_27 _) (va_cwS 2 hts gX6_makeOne_X6_letFall rfl rfl rfl (by decide +kernel) ⟨Nat.le_of_ble_eq_true rfl, Nat.le_of_ble_eq_true rfl⟩) (my_preS (wc := (wFloor Γ q_fl q_k q_c q_a q_pa q_b q_pb vi_21 vj_22 vk vc va_24 vpa vb_19 vpb)) [0, 1, 2, 3, 4, 5, 6] hK hP hD rfl rfl) rfl rfl hl.1 rfl (lv_room (Nat.le_of_ble_eq_true rfl)) dX6_makeOne_94 ⟨Nat.le_of_ble_eq_true rfl, Nat.le_of_ble_eq_true rfl⟩) (fun H locs hP hD hS => ?_)
    refine lv_aload_n hx hb dX6_makeOne_97 rfl (lv_at hl 0 rfl) ?_
    refine lv_dup hx hb dX6_makeOne_98 rfl ?_
    refine va_get (D := my_D Γ) (ci := 1) (v := .int (vi_21 11)) (C := RX1) (T := TX1) (N := 12) hx hb hts hinX1 hown hK hP 0 rfl rfl 11 (by decide) (hts (.fieldLink RX6 52 "BeltFloor$Floor" "stepsMade" "I") (List.mem_of_getElem? (i := 3) rfl)) (fun _ h9 => h9) rfl dX6_makeOne_99 ?_
    refine lv_iconst (v := (1 : Int32)) hx hb dX6_makeOne_102 (by decide) ?_
    refine lv_iadd hx hb dX6_makeOne_103 ?_
    refine lv_topi (fun y_28 ey_28 => ?_)
    refine va_put (D := my_D Γ) (ci := 1) (v := .int y_28) (ty := .int) (C := RX1) (T := TX1) (N := 12) hx hb hts hinX1 tyX1 tyX1_ok nmX1 hown hK hP hD hS 0 rfl rfl 11 (by decide) (hts (.fieldLink RX6 52 "BeltFloor$Floor" "stepsMade" "I") (List.mem_of_getElem? (i := 3) rfl)) (fun _ h9 => h9) rfl (by decide +kernel) rfl rfl (Nat.le_of_ble_eq_true rfl) dX6_makeOne_104 (fun H locs hP hD hS => ?_)
    replace hP : va_P (my_D Γ) vwCl (wFloor Γ q_fl q_k q_c q_a q_pa q_b q_pb (upd vi_21 11 y_28) vj_22 vk vc va_24 vpa vb_26 vpb) H := hP
    replace hD : va_D A (wFloor Γ q_fl q_k q_c q_a q_pa q_b q_pb (upd vi_21 11 y_28) vj_22 vk vc va_24 vpa vb_26 vpb) := hD
    subst ey_28
    refine lv_aload_n hx hb dX6_makeOne_107 rfl (lv_at hl 0 rfl) ?_
    refine lv_aload_n hx hb dX6_makeOne_108 rfl (lv_at hl 0 rfl) ?_
    refine va_get (D := my_D Γ) (ci := 1) (v := .ref q_a) (C := RX1) (T := TX1) (N := 12) hx hb hts hinX1 hown hK hP 0 rfl rfl 2 (by decide) (hts (.fieldLink RX6 15 "BeltFloor$Floor" "first" "LBeltFloor$Robot;") (List.mem_of_getElem? (i := 1) rfl)) (fun _ h9 => h9) rfl dX6_makeOne_109 ?_
    obtain ⟨r_29, va_30, hc_31, hm⟩ := bo2_s hm
    refine my_call1 (wc := (wFloor Γ q_fl q_k q_c q_a q_pa q_b q_pb (upd vi_21 11 ((vi_21 11) + (1 : Int32))) vj_22 vk vc va_24 vpa vb_26 vpb)) (w1 := (wFloor Γ q_fl q_k q_c q_a q_pa q_b q_pb (upd vi_21 11 ((vi_21 11) + (1 : Int32))) vj_22 vk vc va_30 vpa vb_26 vpb)) (ws1 := (wFloor Γ q_fl q_k q_c q_a q_pa q_b q_pb (upd vi_21 11 ((vi_21 11) + (1 : Int32))) vj_22 vk vc va_30 vpa vb_26 vpb)) hP hD hS hA [0, 1, 2, 3, 4, 5, 6] rfl rfl rfl (va_runS (As := [.ref q_fl, .ref q_a]) (rest := []) ⟨hx, hb, hml, hown, hts⟩ (kX6_passCheckpoint_a l Γ q_fl q_k q_c q_a q_pa q_b q_pb (upd vi_21 11 ((vi_21 11) + (1 : Int32))) vj_22 vk vc va_24 vpa vb_26 vpb r_29 va_30 hc_31 _) (va_cwS 2 hts gX6_makeOne_X6_passCheckpoint rfl rfl rfl (by decide +kernel) ⟨Nat.le_of_ble_eq_true rfl, Nat.le_of_ble_eq_true rfl⟩) (my_preS (wc := (wFloor Γ q_fl q_k q_c q_a q_pa q_b q_pb (upd vi_21 11 ((vi_21 11) + (1 : Int32))) vj_22 vk vc va_24 vpa vb_26 vpb)) [0, 1, 2, 3, 4, 5, 6] hK hP hD rfl rfl) rfl rfl hl.1 rfl (lv_room (Nat.le_of_ble_eq_true rfl)) dX6_makeOne_112 ⟨Nat.le_of_ble_eq_true rfl, Nat.le_of_ble_eq_true rfl⟩) (fun H locs hP hD hS => ?_)
    refine lv_aload_n hx hb dX6_makeOne_115 rfl (lv_at hl 0 rfl) ?_
    refine lv_aload_n hx hb dX6_makeOne_116 rfl (lv_at hl 0 rfl) ?_
    refine va_get (D := my_D Γ) (ci := 1) (v := .ref q_b) (C := RX1) (T := TX1) (N := 12) hx hb hts hinX1 hown hK hP 0 rfl rfl 3 (by decide) (hts (.fieldLink RX6 25 "BeltFloor$Floor" "second" "LBeltFloor$Robot;") (List.mem_of_getElem? (i := 2) rfl)) (fun _ h9 => h9) rfl dX6_makeOne_117 ?_
    obtain ⟨r_32, vb_33, hc_34, hm⟩ := bo2_s hm
    refine my_call1 (wc := (wFloor Γ q_fl q_k q_c q_a q_pa q_b q_pb (upd vi_21 11 ((vi_21 11) + (1 : Int32))) vj_22 vk vc va_30 vpa vb_26 vpb)) (w1 := (wFloor Γ q_fl q_k q_c q_a q_pa q_b q_pb (upd vi_21 11 ((vi_21 11) + (1 : Int32))) vj_22 vk vc va_30 vpa vb_33 vpb)) (ws1 := (wFloor Γ q_fl q_k q_c q_a q_pa q_b q_pb (upd vi_21 11 ((vi_21 11) + (1 : Int32))) vj_22 vk vc va_30 vpa vb_33 vpb)) hP hD hS hA [0, 1, 2, 3, 4, 5, 6] rfl rfl rfl (va_runS (As := [.ref q_fl, .ref q_b]) (rest := [.int r_29]) ⟨hx, hb, hml, hown, hts⟩ (kX6_passCheckpoint_b l Γ q_fl q_k q_c q_a q_pa q_b q_pb (upd vi_21 11 ((vi_21 11) + (1 : Int32))) vj_22 vk vc va_30 vpa vb_26 vpb r_32 vb_33 hc_34 _) (va_cwS 2 hts gX6_makeOne_X6_passCheckpoint rfl rfl rfl (by decide +kernel) ⟨Nat.le_of_ble_eq_true rfl, Nat.le_of_ble_eq_true rfl⟩) (my_preS (wc := (wFloor Γ q_fl q_k q_c q_a q_pa q_b q_pb (upd vi_21 11 ((vi_21 11) + (1 : Int32))) vj_22 vk vc va_30 vpa vb_26 vpb)) [0, 1, 2, 3, 4, 5, 6] hK hP hD rfl rfl) rfl rfl hl.1 rfl (lv_room (Nat.le_of_ble_eq_true rfl)) dX6_makeOne_120 ⟨Nat.le_of_ble_eq_true rfl, Nat.le_of_ble_eq_true rfl⟩) (fun H locs hP hD hS => ?_)
    refine lv_iadd hx hb dX6_makeOne_123 ?_
    obtain ⟨hf0, hf1, hf2, hf3, hf4⟩ := si5 hm
    subst hf0
    subst hf1
    subst hf2
    subst hf3
    subst hf4
    exact W.iret (v := (r_29 + r_32)) hx hb hr (fun t ht hW => ⟨⟨rfl, by rw [ht]; exact hP⟩, hS.F ht⟩) hS.2.2 dX6_makeOne_124
  have J_44 : ∀ (vi : Nat → Int32) (vj : Nat → Int64) (vk : Nat → Int32) (vc : Nat → Int32) (va : Nat → Int32) (vpa : Nat → Int32) (vb : Nat → Int32) (vpb : Nat → Int32) (l3 : Int64) (l5 : Int32) (s3 : Int64) (H : Heap) (locs : List Loc) (ls : Array Slot), va_P (my_D Γ) vwCl (wFloor Γ q_fl q_k q_c q_a q_pa q_b q_pb vi vj vk vc va vpa vb vpb) H → va_D A (wFloor Γ q_fl q_k q_c q_a q_pa q_b q_pb vi vj vk vc va vpa vb vpb) → va_S A s.heap H locs → lv_has ls 6 [(0, .ref q_fl), (3, .long l3), (5, .int l5)] → mX6_makeOne_J44 vi vj vk vc va vpa vb vpb l3 l5 s3 = (some (rr, vi_z, vj_z, va_z, vb_z)) → W p l e (headSpec wsX6_makeOne ({ frames := 4, cells := 0, slots := 0, locals := 103 } : Room)).room s m ([.ref q_fl] : List Value).toArray below meth c H locs 0 0 (MQ below (my_Q Γ A (some (.int rr)) (wFloor Γ q_fl q_k q_c q_a q_pa q_b q_pb vi_z vj_z vk vc va_z vpa vb_z vpb)) ([.ref q_fl] : List Value).toArray s 0 0 A) (F0 m 44 ls [.long s3, .ref q_b, .ref q_a, .ref q_fl]) := by
    intro  vi vj vk vc va vpa vb vpb l3 l5 s3 H locs ls hP hD hS hl hm
    unfold mX6_makeOne_J44 at hm
    obtain ⟨vj_6, va_7, vb_8, hc_9, hm⟩ := bt3_s hm
    refine my_call0 (wc := (wFloor Γ q_fl q_k q_c q_a q_pa q_b q_pb vi vj vk vc va vpa vb vpb)) (w1 := (wFloor Γ q_fl q_k q_c q_a q_pa q_b q_pb vi vj_6 vk vc va_7 vpa vb_8 vpb)) (ws1 := (wFloor Γ q_fl q_k q_c q_a q_pa q_b q_pb vi vj_6 vk vc va_7 vpa vb_8 vpb)) hP hD hS hA [0, 1, 2, 3, 4, 5, 6] rfl rfl rfl (va_runS (As := [.ref q_fl, .ref q_a, .ref q_b, .long s3]) (rest := []) ⟨hx, hb, hml, hown, hts⟩ (kX6_follow_a l Γ q_fl q_k q_c q_a q_pa q_b q_pb vi vj vk vc va vpa vb vpb s3 vj_6 va_7 vb_8 hc_9 _) (va_cwS 4 hts gX6_makeOne_X6_follow rfl rfl rfl (by decide +kernel) ⟨Nat.le_of_ble_eq_true rfl, Nat.le_of_ble_eq_true rfl⟩) (my_preS (wc := (wFloor Γ q_fl q_k q_c q_a q_pa q_b q_pb vi vj vk vc va vpa vb vpb)) [0, 1, 2, 3, 4, 5, 6] hK hP hD rfl rfl) rfl rfl hl.1 rfl (lv_room (Nat.le_of_ble_eq_true rfl)) dX6_makeOne_44 ⟨Nat.le_of_ble_eq_true rfl, Nat.le_of_ble_eq_true rfl⟩) (fun H locs hP hD hS => ?_)
    refine lv_aload_n hx hb dX6_makeOne_47 rfl (lv_at hl 0 rfl) ?_
    refine lv_aload_n hx hb dX6_makeOne_48 rfl (lv_at hl 0 rfl) ?_
    refine va_get (D := my_D Γ) (ci := 1) (v := .ref q_b) (C := RX1) (T := TX1) (N := 12) hx hb hts hinX1 hown hK hP 0 rfl rfl 3 (by decide) (hts (.fieldLink RX6 25 "BeltFloor$Floor" "second" "LBeltFloor$Robot;") (List.mem_of_getElem? (i := 2) rfl)) (fun _ h9 => h9) rfl dX6_makeOne_49 ?_
    refine lv_aload_n hx hb dX6_makeOne_52 rfl (lv_at hl 0 rfl) ?_
    refine va_get (D := my_D Γ) (ci := 1) (v := .ref q_a) (C := RX1) (T := TX1) (N := 12) hx hb hts hinX1 hown hK hP 0 rfl rfl 2 (by decide) (hts (.fieldLink RX6 15 "BeltFloor$Floor" "first" "LBeltFloor$Robot;") (List.mem_of_getElem? (i := 1) rfl)) (fun _ h9 => h9) rfl dX6_makeOne_53 ?_
    refine lv_iload hx hb dX6_makeOne_56 (lv_at hl 2 rfl) ?_
    refine lv_if_eq (tgt := 65) hx hb dX6_makeOne_58 (by decide) (fun c_10 => ?_) (fun c_10 => ?_)
    · replace hm := if_s hm c_10
      refine lv_lload_n hx hb dX6_makeOne_65 rfl (lv_at hl 1 rfl) ?_
      exact J_66 vi vj_6 vk vc va_7 vpa vb_8 vpb l3 _ _ _ hP hD hS (lv_sub hl [0] rfl) hm
    · replace hm := if_f hm c_10
      refine lv_lconst (v := (0 : Int64)) hx hb dX6_makeOne_61 (by decide) ?_
      refine lv_goto (tgt := 66) hx hb dX6_makeOne_62 (by decide) ?_
      exact J_66 vi vj_6 vk vc va_7 vpa vb_8 vpb (0 : Int64) _ _ _ hP hD hS (lv_sub hl [0] rfl) hm
  unfold mX6_makeOne at hm
  refine lv_aload_n hx hb dX6_makeOne_0 rfl (lv_at hl 0 rfl) ?_
  refine lv_aload_n hx hb dX6_makeOne_1 rfl (lv_at hl 0 rfl) ?_
  refine va_get (D := my_D Γ) (ci := 1) (v := .ref q_a) (C := RX1) (T := TX1) (N := 12) hx hb hts hinX1 hown hK hP 0 rfl rfl 2 (by decide) (hts (.fieldLink RX6 15 "BeltFloor$Floor" "first" "LBeltFloor$Robot;") (List.mem_of_getElem? (i := 1) rfl)) (fun _ h9 => h9) rfl dX6_makeOne_2 ?_
  obtain ⟨r_1, hc_2, hm⟩ := bo1_s hm
  refine my_call1 (wc := (wFloor Γ q_fl q_k q_c q_a q_pa q_b q_pb vi vj vk vc va vpa vb vpb)) (w1 := (wFloor Γ q_fl q_k q_c q_a q_pa q_b q_pb vi vj vk vc va vpa vb vpb)) (ws1 := (wFloor Γ q_fl q_k q_c q_a q_pa q_b q_pb vi vj vk vc va vpa vb vpb)) hP hD hS hA [0, 1, 2, 3, 4, 5, 6] rfl rfl rfl (va_runS (As := [.ref q_fl, .ref q_a]) (rest := []) ⟨hx, hb, hml, hown, hts⟩ (kX6_wayOf_a l Γ q_fl q_k q_c q_a q_pa q_b q_pb vi vj vk vc va vpa vb vpb r_1 hc_2 _) (va_cwS 2 hts gX6_makeOne_X6_wayOf rfl rfl rfl (by decide +kernel) ⟨Nat.le_of_ble_eq_true rfl, Nat.le_of_ble_eq_true rfl⟩) (my_preS (wc := (wFloor Γ q_fl q_k q_c q_a q_pa q_b q_pb vi vj vk vc va vpa vb vpb)) [0, 1, 2, 3, 4, 5, 6] hK hP hD rfl rfl) rfl rfl hl.1 rfl (lv_room (Nat.le_of_ble_eq_true rfl)) dX6_makeOne_5 ⟨Nat.le_of_ble_eq_true rfl, Nat.le_of_ble_eq_true rfl⟩) (fun H locs hP hD hS => ?_)
  refine lv_lstore_n (lv' := [(1, .long r_1), (0, .ref q_fl)]) hx hb dX6_makeOne_8 rfl hl (by decide) rfl (fun ls hl => ?_)
  refine lv_aload_n hx hb dX6_makeOne_9 rfl (lv_at hl 1 rfl) ?_
  refine lv_aload_n hx hb dX6_makeOne_10 rfl (lv_at hl 1 rfl) ?_
  refine va_get (D := my_D Γ) (ci := 1) (v := .ref q_b) (C := RX1) (T := TX1) (N := 12) hx hb hts hinX1 hown hK hP 0 rfl rfl 3 (by decide) (hts (.fieldLink RX6 25 "BeltFloor$Floor" "second" "LBeltFloor$Robot;") (List.mem_of_getElem? (i := 2) rfl)) (fun _ h9 => h9) rfl dX6_makeOne_11 ?_
  obtain ⟨r_3, hc_4, hm⟩ := bo1_s hm
  refine my_call1 (wc := (wFloor Γ q_fl q_k q_c q_a q_pa q_b q_pb vi vj vk vc va vpa vb vpb)) (w1 := (wFloor Γ q_fl q_k q_c q_a q_pa q_b q_pb vi vj vk vc va vpa vb vpb)) (ws1 := (wFloor Γ q_fl q_k q_c q_a q_pa q_b q_pb vi vj vk vc va vpa vb vpb)) hP hD hS hA [0, 1, 2, 3, 4, 5, 6] rfl rfl rfl (va_runS (As := [.ref q_fl, .ref q_b]) (rest := []) ⟨hx, hb, hml, hown, hts⟩ (kX6_wayOf_b l Γ q_fl q_k q_c q_a q_pa q_b q_pb vi vj vk vc va vpa vb vpb r_3 hc_4 _) (va_cwS 2 hts gX6_makeOne_X6_wayOf rfl rfl rfl (by decide +kernel) ⟨Nat.le_of_ble_eq_true rfl, Nat.le_of_ble_eq_true rfl⟩) (my_preS (wc := (wFloor Γ q_fl q_k q_c q_a q_pa q_b q_pb vi vj vk vc va vpa vb vpb)) [0, 1, 2, 3, 4, 5, 6] hK hP hD rfl rfl) rfl rfl hl.1 rfl (lv_room (Nat.le_of_ble_eq_true rfl)) dX6_makeOne_14 ⟨Nat.le_of_ble_eq_true rfl, Nat.le_of_ble_eq_true rfl⟩) (fun H locs hP hD hS => ?_)
  refine lv_lstore_n (lv' := [(3, .long r_3), (1, .long r_1), (0, .ref q_fl)]) hx hb dX6_makeOne_17 rfl hl (by decide) rfl (fun ls hl => ?_)
  refine lv_lload_n hx hb dX6_makeOne_18 rfl (lv_at hl 1 rfl) ?_
  refine lv_lload_n hx hb dX6_makeOne_19 rfl (lv_at hl 0 rfl) ?_
  refine my_call1 (wc := ([] : va_W)) (w1 := ([] : va_W)) (ws1 := (wFloor Γ q_fl q_k q_c q_a q_pa q_b q_pb vi vj vk vc va vpa vb vpb)) hP hD hS hA [] rfl rfl rfl (va_runS (As := [.long r_1, .long r_3]) (rest := []) ⟨hx, hb, hml, hown, hts⟩ (kX6_clash l Γ r_1 r_3 (mX6_clash r_1 r_3) rfl _) (va_cwS 2 hts gX6_makeOne_X6_clash rfl rfl rfl (by decide +kernel) ⟨Nat.le_of_ble_eq_true rfl, Nat.le_of_ble_eq_true rfl⟩) (my_preS (wc := ([] : va_W)) [] hK hP hD rfl rfl) rfl rfl hl.1 rfl (lv_room (Nat.le_of_ble_eq_true rfl)) dX6_makeOne_20 ⟨Nat.le_of_ble_eq_true rfl, Nat.le_of_ble_eq_true rfl⟩) (fun H locs hP hD hS => ?_)
  refine lv_istore (lv' := [(5, .int (mX6_clash r_1 r_3)), (3, .long r_3), (1, .long r_1), (0, .ref q_fl)]) hx hb dX6_makeOne_23 hl (by decide) rfl (fun ls hl => ?_)
  refine lv_aload_n hx hb dX6_makeOne_25 rfl (lv_at hl 3 rfl) ?_
  refine lv_aload_n hx hb dX6_makeOne_26 rfl (lv_at hl 3 rfl) ?_
  refine va_get (D := my_D Γ) (ci := 1) (v := .ref q_a) (C := RX1) (T := TX1) (N := 12) hx hb hts hinX1 hown hK hP 0 rfl rfl 2 (by decide) (hts (.fieldLink RX6 15 "BeltFloor$Floor" "first" "LBeltFloor$Robot;") (List.mem_of_getElem? (i := 1) rfl)) (fun _ h9 => h9) rfl dX6_makeOne_27 ?_
  refine lv_aload_n hx hb dX6_makeOne_30 rfl (lv_at hl 3 rfl) ?_
  refine va_get (D := my_D Γ) (ci := 1) (v := .ref q_b) (C := RX1) (T := TX1) (N := 12) hx hb hts hinX1 hown hK hP 0 rfl rfl 3 (by decide) (hts (.fieldLink RX6 25 "BeltFloor$Floor" "second" "LBeltFloor$Robot;") (List.mem_of_getElem? (i := 2) rfl)) (fun _ h9 => h9) rfl dX6_makeOne_31 ?_
  refine lv_iload hx hb dX6_makeOne_34 (lv_at hl 0 rfl) ?_
  refine lv_if_eq (tgt := 43) hx hb dX6_makeOne_36 (by decide) (fun c_5 => ?_) (fun c_5 => ?_)
  · replace hm := if_s hm c_5
    refine lv_lload_n hx hb dX6_makeOne_43 rfl (lv_at hl 2 rfl) ?_
    exact J_44 vi vj vk vc va vpa vb vpb r_3 (mX6_clash r_1 r_3) r_1 _ _ _ hP hD hS (lv_sub hl [3, 1, 0] rfl) hm
  · replace hm := if_f hm c_5
    refine lv_lconst (v := (0 : Int64)) hx hb dX6_makeOne_39 (by decide) ?_
    refine lv_goto (tgt := 44) hx hb dX6_makeOne_40 (by decide) ?_
    exact J_44 vi vj vk vc va vpa vb vpb r_3 (mX6_clash r_1 r_3) (0 : Int64) _ _ _ hP hD hS (lv_sub hl [3, 1, 0] rfl) hm
def mX6_makeSome_L4  : Nat → (Nat → Int32) → (Nat → Int64) → (Nat → Int32) → (Nat → Int32) → (Nat → Int32) → (Nat → Int32) → (Nat → Int32) → (Nat → Int32) → Int32 → Int32 → Int32 → Option (Int32 × (Nat → Int32) × (Nat → Int64) × (Nat → Int32) × (Nat → Int32))
  | 0, _, _, _, _, _, _, _, _, _, _, _ => none
  | n + 1, vi, vj, vk, vc, va, vpa, vb, vpb, l1, l2, l3 => (if l1 ≤ l3 then (some (l2, vi, vj, va, vb)) else (bo5 (mX6_makeOne vi vj vk vc va vpa vb vpb) (fun r_2 vi_3 vj_4 va_5 vb_6 => (mX6_makeSome_L4 n vi_3 vj_4 vk vc va_5 vpa vb_6 vpb l1 (l2 + r_2) (l3 + (1 : Int32))))))
def mX6_makeSome (vi : Nat → Int32) (vj : Nat → Int64) (vk : Nat → Int32) (vc : Nat → Int32) (va : Nat → Int32) (vpa : Nat → Int32) (vb : Nat → Int32) (vpb : Nat → Int32) (x1 : Int32) : Option (Int32 × (Nat → Int32) × (Nat → Int64) × (Nat → Int32) × (Nat → Int32)) := (mX6_makeSome_L4 4096 vi vj vk vc va vpa vb vpb x1 (0 : Int32) (0 : Int32))
set_option maxHeartbeats 4000000 in
set_option maxRecDepth 100000 in
theorem kX6_makeSome (l : Launch) (Γ : my_G) (q_fl q_k q_c q_a q_pa q_b q_pb : Nat) (vi : Nat → Int32) (vj : Nat → Int64) (vk : Nat → Int32) (vc : Nat → Int32) (va : Nat → Int32) (vpa : Nat → Int32) (vb : Nat → Int32) (vpb : Nat → Int32) (x1 : Int32) (rr : Int32) (vi_z : Nat → Int32) (vj_z : Nat → Int64) (va_z : Nat → Int32) (vb_z : Nat → Int32) (hm : mX6_makeSome vi vj vk vc va vpa vb vpb x1 = (some (rr, vi_z, vj_z, va_z, vb_z))) : Mn l yX6_makeSome wsX6_makeSome ({ frames := 5, cells := 0, slots := 0, locals := 128 } : Room) Γ [.ref q_fl, .int x1] (wFloor Γ q_fl q_k q_c q_a q_pa q_b q_pb vi vj vk vc va vpa vb vpb) (some (.int rr)) (wFloor Γ q_fl q_k q_c q_a q_pa q_b q_pb vi_z vj_z vk vc va_z vpa vb_z vpb) := by
  intro sz
  refine Met.ofW (cc := cX6_makeSome) (maxL := 4) (ret := (some .int)) (by decide) rfl ?_
  intro p e s m args below meth c s₁ B hml hv
  obtain ⟨rfl, hsz, hP, hK, hD0⟩ := hv
  have hx := B.exec
  have hb := B.bytes
  have hr := B.returns
  have hts := atoms_spec (ws := wsX6_makeSome) B.pre
  have hown : s.vm.findClass RX6 = some m.cls := findClass_of_methodNamed B.named
  have hlocks := B.notSynchronized
  have hinX1 : ∀ w ∈ u_ws RX1 TX1 12, w ∈ wsX6_makeSome := fun w h => List.mem_cons_of_mem _ (List.mem_append_left _ (List.mem_append_right _ h))
  have hinX4 : ∀ w ∈ u_ws RX4 TX4 10, w ∈ wsX6_makeSome := fun w h => List.mem_cons_of_mem _ (List.mem_append_right _ h)
  subst hsz
  have hD := hD0.self (sz := s.heap.size)
  have hA : ∀ q : Nat, s.heap.size ≤ q → va_A (wFloor Γ q_fl q_k q_c q_a q_pa q_b q_pb vi vj vk vc va vpa vb vpb) s.heap.size q := fun q h => Or.inr h
  generalize va_A (wFloor Γ q_fl q_k q_c q_a q_pa q_b q_pb vi vj vk vc va vpa vb vpb) s.heap.size = A at hD hA ⊢
  have hS : va_S A s.heap s.heap [] := va_S.rf
  have hl := lv_entry ([.ref q_fl, .int x1]) (n := 4) (Nat.le_of_ble_eq_true rfl)
  rw [lg_entry_eq]
  generalize (lg_sl ([.ref q_fl, .int x1]) ++ List.replicate (4 - (lg_sl ([.ref q_fl, .int x1])).length) Slot.unset).toArray = ls at hl ⊢
  replace hl : lv_has ls 4 [(0, .ref q_fl), (1, .int x1)] := hl
  have J_4 : ∀ n : Nat, ∀ (vi : Nat → Int32) (vj : Nat → Int64) (vk : Nat → Int32) (vc : Nat → Int32) (va : Nat → Int32) (vpa : Nat → Int32) (vb : Nat → Int32) (vpb : Nat → Int32) (l1 : Int32) (l2 : Int32) (l3 : Int32) (H : Heap) (locs : List Loc) (ls : Array Slot), va_P (my_D Γ) vwCl (wFloor Γ q_fl q_k q_c q_a q_pa q_b q_pb vi vj vk vc va vpa vb vpb) H → va_D A (wFloor Γ q_fl q_k q_c q_a q_pa q_b q_pb vi vj vk vc va vpa vb vpb) → va_S A s.heap H locs → lv_has ls 4 [(0, .ref q_fl), (1, .int l1), (2, .int l2), (3, .int l3)] → mX6_makeSome_L4 n vi vj vk vc va vpa vb vpb l1 l2 l3 = (some (rr, vi_z, vj_z, va_z, vb_z)) → W p l e (headSpec wsX6_makeSome ({ frames := 5, cells := 0, slots := 0, locals := 128 } : Room)).room s m ([.ref q_fl, .int x1] : List Value).toArray below meth c H locs 0 0 (MQ below (my_Q Γ A (some (.int rr)) (wFloor Γ q_fl q_k q_c q_a q_pa q_b q_pb vi_z vj_z vk vc va_z vpa vb_z vpb)) ([.ref q_fl, .int x1] : List Value).toArray s 0 0 A) (F0 m 4 ls []) := by
    intro  n
    induction n with
    | zero => intro vi vj vk vc va vpa vb vpb l1 l2 l3 H locs ls hP hD hS hl hm; cases hm
    | succ n ih =>
      intro vi vj vk vc va vpa vb vpb l1 l2 l3 H locs ls hP hD hS hl hm
      unfold mX6_makeSome_L4 at hm
      refine lv_iload_n hx hb dX6_makeSome_4 rfl (lv_at hl 3 rfl) ?_
      refine lv_iload_n hx hb dX6_makeSome_5 rfl (lv_at hl 1 rfl) ?_
      refine lv_icmp_ge (tgt := 22) hx hb dX6_makeSome_6 (by decide) (fun c_1 => ?_) (fun c_1 => ?_)
      · replace hm := if_s hm c_1
        refine lv_iload_n hx hb dX6_makeSome_22 rfl (lv_at hl 2 rfl) ?_
        obtain ⟨hf0, hf1, hf2, hf3, hf4⟩ := si5 hm
        subst hf0
        subst hf1
        subst hf2
        subst hf3
        subst hf4
        exact W.iret (v := l2) hx hb hr (fun t ht hW => ⟨⟨rfl, by rw [ht]; exact hP⟩, hS.F ht⟩) hS.2.2 dX6_makeSome_23
      · replace hm := if_f hm c_1
        refine lv_iload_n hx hb dX6_makeSome_9 rfl (lv_at hl 2 rfl) ?_
        refine lv_aload_n hx hb dX6_makeSome_10 rfl (lv_at hl 0 rfl) ?_
        obtain ⟨r_2, vi_3, vj_4, va_5, vb_6, hc_7, hm⟩ := bo5_s hm
        refine my_call1 (wc := (wFloor Γ q_fl q_k q_c q_a q_pa q_b q_pb vi vj vk vc va vpa vb vpb)) (w1 := (wFloor Γ q_fl q_k q_c q_a q_pa q_b q_pb vi_3 vj_4 vk vc va_5 vpa vb_6 vpb)) (ws1 := (wFloor Γ q_fl q_k q_c q_a q_pa q_b q_pb vi_3 vj_4 vk vc va_5 vpa vb_6 vpb)) hP hD hS hA [0, 1, 2, 3, 4, 5, 6] rfl rfl rfl (va_runS (As := [.ref q_fl]) (rest := [.int l2]) ⟨hx, hb, hml, hown, hts⟩ (kX6_makeOne l Γ q_fl q_k q_c q_a q_pa q_b q_pb vi vj vk vc va vpa vb vpb r_2 vi_3 vj_4 va_5 vb_6 hc_7 _) (va_cwS 1 hts gX6_makeSome_X6_makeOne rfl rfl rfl (by decide +kernel) ⟨Nat.le_of_ble_eq_true rfl, Nat.le_of_ble_eq_true rfl⟩) (my_preS (wc := (wFloor Γ q_fl q_k q_c q_a q_pa q_b q_pb vi vj vk vc va vpa vb vpb)) [0, 1, 2, 3, 4, 5, 6] hK hP hD rfl rfl) rfl rfl hl.1 rfl (lv_room (Nat.le_of_ble_eq_true rfl)) dX6_makeSome_11 ⟨Nat.le_of_ble_eq_true rfl, Nat.le_of_ble_eq_true rfl⟩) (fun H locs hP hD hS => ?_)
        refine lv_iadd hx hb dX6_makeSome_14 ?_
        refine lv_istore_n (lv' := [(2, .int (l2 + r_2)), (0, .ref q_fl), (1, .int l1), (3, .int l3)]) hx hb dX6_makeSome_15 rfl hl (by decide) rfl (fun ls hl => ?_)
        refine lv_iinc (v := (l3 + (1 : Int32))) (lv' := [(3, .int (l3 + (1 : Int32))), (2, .int (l2 + r_2)), (0, .ref q_fl), (1, .int l1)]) hx hb dX6_makeSome_16 hl (k := 3) rfl rfl (by decide) rfl (fun ls hl => ?_)
        refine lv_goto (tgt := 4) hx hb dX6_makeSome_19 (by decide) ?_
        exact ih vi_3 vj_4 vk vc va_5 vpa vb_6 vpb l1 (l2 + r_2) (l3 + (1 : Int32)) _ _ _ hP hD hS (lv_sub hl [2, 3, 1, 0] rfl) hm
  unfold mX6_makeSome at hm
  refine lv_iconst (v := (0 : Int32)) hx hb dX6_makeSome_0 (by decide) ?_
  refine lv_istore_n (lv' := [(2, .int (0 : Int32)), (0, .ref q_fl), (1, .int x1)]) hx hb dX6_makeSome_1 rfl hl (by decide) rfl (fun ls hl => ?_)
  refine lv_iconst (v := (0 : Int32)) hx hb dX6_makeSome_2 (by decide) ?_
  refine lv_istore_n (lv' := [(3, .int (0 : Int32)), (2, .int (0 : Int32)), (0, .ref q_fl), (1, .int x1)]) hx hb dX6_makeSome_3 rfl hl (by decide) rfl (fun ls hl => ?_)
  exact J_4 4096 vi vj vk vc va vpa vb vpb x1 (0 : Int32) (0 : Int32) _ _ _ hP hD hS (lv_sub hl [2, 3, 1, 0] rfl) hm
