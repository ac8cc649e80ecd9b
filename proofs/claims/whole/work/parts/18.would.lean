def mX8_passesIn_L32  : Nat → (Nat → Int32) → (Nat → Int64) → (Nat → Int32) → (Nat → Int32) → (Nat → Int32) → (Nat → Int32) → (Nat → Int32) → (Nat → Int32) → (Nat → Int32) → (Nat → Int64) → (Nat → Int32) → (Nat → Int32) → (Nat → Int32) → (Nat → Int32) → (Nat → Int32) → (Nat → Int32) → Int32 → Int32 → Option ((Int32 × (Nat → Int32) × (Nat → Int64) × (Nat → Int32) × (Nat → Int32) × (Nat → Int32) × (Nat → Int32) × (Nat → Int32) × (Nat → Int32)) ⊕ String)
  | 0, _, _, _, _, _, _, _, _, _, _, _, _, _, _, _, _, _, _ => none
  | n + 1, vi, vj, vk, vc, va, vpa, vb, vpb, viT, vjT, vkT, vcT, vaT, vpaT, vbT, vpbT, l3, l4 => (if (150 : Int32) < l4 then (some (Sum.inl ((-1 : Int32), viT, vjT, vkT, vcT, vaT, vpaT, vbT, vpbT))) else (bo5 (mX6_makeOne viT vjT vkT vcT vaT vpaT vbT vpbT) (fun r_13 viT_14 vjT_15 vaT_16 vbT_17 => (if (vaT_16 2) = l3 then (mX8_passesIn_L32 n vi vj vk vc va vpa vb vpb viT_14 vjT_15 vkT vcT vaT_16 vpaT vbT_17 vpbT l3 (l4 + (1 : Int32))) else (some (Sum.inl (l4, viT_14, vjT_15, vkT, vcT, vaT_16, vpaT, vbT_17, vpbT)))))))
def mX8_passesIn_L32_1  : Nat → (Nat → Int32) → (Nat → Int64) → (Nat → Int32) → (Nat → Int32) → (Nat → Int32) → (Nat → Int32) → (Nat → Int32) → (Nat → Int32) → (Nat → Int32) → (Nat → Int64) → (Nat → Int32) → (Nat → Int32) → (Nat → Int32) → (Nat → Int32) → (Nat → Int32) → (Nat → Int32) → Int32 → Int32 → Option ((Int32 × (Nat → Int32) × (Nat → Int64) × (Nat → Int32) × (Nat → Int32) × (Nat → Int32) × (Nat → Int32) × (Nat → Int32) × (Nat → Int32)) ⊕ String)
  | 0, _, _, _, _, _, _, _, _, _, _, _, _, _, _, _, _, _, _ => none
  | n + 1, vi, vj, vk, vc, va, vpa, vb, vpb, viT, vjT, vkT, vcT, vaT, vpaT, vbT, vpbT, l3, l4 => (if (150 : Int32) < l4 then (some (Sum.inl ((-1 : Int32), viT, vjT, vkT, vcT, vaT, vpaT, vbT, vpbT))) else (bo5 (mX6_makeOne viT vjT vkT vcT vaT vpaT vbT vpbT) (fun r_21 viT_22 vjT_23 vaT_24 vbT_25 => (if (vbT_25 2) = l3 then (mX8_passesIn_L32_1 n vi vj vk vc va vpa vb vpb viT_22 vjT_23 vkT vcT vaT_24 vpaT vbT_25 vpbT l3 (l4 + (1 : Int32))) else (some (Sum.inl (l4, viT_22, vjT_23, vkT, vcT, vaT_24, vpaT, vbT_25, vpbT)))))))
def mX8_passesIn (vi : Nat → Int32) (vj : Nat → Int64) (vk : Nat → Int32) (vc : Nat → Int32) (va : Nat → Int32) (vpa : Nat → Int32) (vb : Nat → Int32) (vpb : Nat → Int32) (viT : Nat → Int32) (vjT : Nat → Int64) (vkT : Nat → Int32) (vcT : Nat → Int32) (vaT : Nat → Int32) (vpaT : Nat → Int32) (vbT : Nat → Int32) (vpbT : Nat → Int32) (x0 : Int32) : Option ((Int32 × (Nat → Int32) × (Nat → Int64) × (Nat → Int32) × (Nat → Int32) × (Nat → Int32) × (Nat → Int32) × (Nat → Int32) × (Nat → Int32)) ⊕ String) := (bx1 (mX8_checkRobot x0) (fun _ => (bo8 (mX1_copyFrom viT vjT vkT vcT vaT vpaT vbT vpbT vi vj vk vc va vpa vb vpb) (fun viT_2 vjT_3 vkT_4 vcT_5 vaT_6 vpaT_7 vbT_8 vpbT_9 => (if x0 = 0 then (mX8_passesIn_L32 4096 vi vj vk vc va vpa vb vpb viT_2 vjT_3 vkT_4 vcT_5 vaT_6 vpaT_7 vbT_8 vpbT_9 (vaT_6 2) (1 : Int32)) else (mX8_passesIn_L32_1 4096 vi vj vk vc va vpa vb vpb viT_2 vjT_3 vkT_4 vcT_5 vaT_6 vpaT_7 vbT_8 vpbT_9 (vbT_8 2) (1 : Int32)))))))
set_option maxHeartbeats 4000000 in
set_option maxRecDepth 100000 in
theorem kX8_passesIn (l : Launch) (Γ : my_G) (hfl : l.stackTraces = false) (q_bf q_fl q_k q_c q_a q_pa q_b q_pb q_flT q_kT q_cT q_aT q_paT q_bT q_pbT q_tx q_hi q_s1 q_s2 q_fd q_kc q_kr : Nat) (vi : Nat → Int32) (vj : Nat → Int64) (vk : Nat → Int32) (vc : Nat → Int32) (va : Nat → Int32) (vpa : Nat → Int32) (vb : Nat → Int32) (vpb : Nat → Int32) (viT : Nat → Int32) (vjT : Nat → Int64) (vkT : Nat → Int32) (vcT : Nat → Int32) (vaT : Nat → Int32) (vpaT : Nat → Int32) (vbT : Nat → Int32) (vpbT : Nat → Int32) (x0 : Int32) (mr : (Int32 × (Nat → Int32) × (Nat → Int64) × (Nat → Int32) × (Nat → Int32) × (Nat → Int32) × (Nat → Int32) × (Nat → Int32) × (Nat → Int32)) ⊕ String) (hm : mX8_passesIn vi vj vk vc va vpa vb vpb viT vjT vkT vcT vaT vpaT vbT vpbT x0 = (some mr)) : MnX l yX8_passesIn wsX8_passesIn ({ frames := 7, cells := 1, slots := 6, locals := 128 } : Room) Γ [.ref q_bf, .int x0] (wBF Γ q_bf q_tx q_fl q_flT q_hi q_s1 q_s2 q_fd q_kc q_kr  ++ wFloor Γ q_fl q_k q_c q_a q_pa q_b q_pb vi vj vk vc va vpa vb vpb ++ wFloor Γ q_flT q_kT q_cT q_aT q_paT q_bT q_pbT viT vjT vkT vcT vaT vpaT vbT vpbT) (my_map (fun q : Int32 × (Nat → Int32) × (Nat → Int64) × (Nat → Int32) × (Nat → Int32) × (Nat → Int32) × (Nat → Int32) × (Nat → Int32) × (Nat → Int32) => ((some (.int (q.1))), (wBF Γ q_bf q_tx q_fl q_flT q_hi q_s1 q_s2 q_fd q_kc q_kr  ++ wFloor Γ q_fl q_k q_c q_a q_pa q_b q_pb vi vj vk vc va vpa vb vpb ++ wFloor Γ q_flT q_kT q_cT q_aT q_paT q_bT q_pbT (q.2.1) (q.2.2.1) (q.2.2.2.1) (q.2.2.2.2.1) (q.2.2.2.2.2.1) (q.2.2.2.2.2.2.1) (q.2.2.2.2.2.2.2.1) (q.2.2.2.2.2.2.2.2)))) mr) 1 6 := by
  intro sz
  refine vx_ofW (cc := cX8_passesIn) (maxL := 5) (ret := (some .int)) (by decide) rfl ?_
  intro p e s m args below meth c s₁ B hml htab hv
  obtain ⟨rfl, ⟨hsz, hP, hK, hD0⟩, hZ, hstr⟩ := hv
  have hx := B.exec
  have hb := B.bytes
  have hr := B.returns
  have hts := atoms_spec (ws := wsX8_passesIn) B.pre
  have hown : s.vm.findClass RX8 = some m.cls := findClass_of_methodNamed B.named
  have hlocks := B.notSynchronized
  have hinX1 : ∀ w ∈ u_ws RX1 TX1 12, w ∈ wsX8_passesIn := fun w h => List.mem_cons_of_mem _ (List.mem_append_left _ (List.mem_append_right _ h))
  have hinX4 : ∀ w ∈ u_ws RX4 TX4 10, w ∈ wsX8_passesIn := fun w h => List.mem_cons_of_mem _ (List.mem_append_left _ (List.mem_append_left _ (List.mem_append_right _ h)))
  have hinX8 : ∀ w ∈ u_ws RX8 TX8 9, w ∈ wsX8_passesIn := fun w h => List.mem_cons_of_mem _ (List.mem_append_left _ (List.mem_append_left _ (List.mem_append_left _ (List.mem_append_right _ h))))
  subst hsz
  have hD := hD0.self (sz := s.heap.size)
  have hA : ∀ q : Nat, s.heap.size ≤ q → va_A (wBF Γ q_bf q_tx q_fl q_flT q_hi q_s1 q_s2 q_fd q_kc q_kr  ++ wFloor Γ q_fl q_k q_c q_a q_pa q_b q_pb vi vj vk vc va vpa vb vpb ++ wFloor Γ q_flT q_kT q_cT q_aT q_paT q_bT q_pbT viT vjT vkT vcT vaT vpaT vbT vpbT) s.heap.size q := fun q h => Or.inr h
  generalize va_A (wBF Γ q_bf q_tx q_fl q_flT q_hi q_s1 q_s2 q_fd q_kc q_kr  ++ wFloor Γ q_fl q_k q_c q_a q_pa q_b q_pb vi vj vk vc va vpa vb vpb ++ wFloor Γ q_flT q_kT q_cT q_aT q_paT q_bT q_pbT viT vjT vkT vcT vaT vpaT vbT vpbT) s.heap.size = A at hD hA hZ ⊢
  obtain ⟨W0_, hW0_⟩ : ∃ w : va_W, (wBF Γ q_bf q_tx q_fl q_flT q_hi q_s1 q_s2 q_fd q_kc q_kr  ++ wFloor Γ q_fl q_k q_c q_a q_pa q_b q_pb vi vj vk vc va vpa vb vpb ++ wFloor Γ q_flT q_kT q_cT q_aT q_paT q_bT q_pbT viT vjT vkT vcT vaT vpaT vbT vpbT) = w := ⟨_, rfl⟩
  rw [show my_XC Γ A (wBF Γ q_bf q_tx q_fl q_flT q_hi q_s1 q_s2 q_fd q_kc q_kr  ++ wFloor Γ q_fl q_k q_c q_a q_pa q_b q_pb vi vj vk vc va vpa vb vpb ++ wFloor Γ q_flT q_kT q_cT q_aT q_paT q_bT q_pbT viT vjT vkT vcT vaT vpaT vbT vpbT) (my_map (fun q : Int32 × (Nat → Int32) × (Nat → Int64) × (Nat → Int32) × (Nat → Int32) × (Nat → Int32) × (Nat → Int32) × (Nat → Int32) × (Nat → Int32) => ((some (.int (q.1))), (wBF Γ q_bf q_tx q_fl q_flT q_hi q_s1 q_s2 q_fd q_kc q_kr  ++ wFloor Γ q_fl q_k q_c q_a q_pa q_b q_pb vi vj vk vc va vpa vb vpb ++ wFloor Γ q_flT q_kT q_cT q_aT q_paT q_bT q_pbT (q.2.1) (q.2.2.1) (q.2.2.2.1) (q.2.2.2.2.1) (q.2.2.2.2.2.1) (q.2.2.2.2.2.2.1) (q.2.2.2.2.2.2.2.1) (q.2.2.2.2.2.2.2.2)))) mr) = my_XC Γ A W0_ (my_map (fun q : Int32 × (Nat → Int32) × (Nat → Int64) × (Nat → Int32) × (Nat → Int32) × (Nat → Int32) × (Nat → Int32) × (Nat → Int32) × (Nat → Int32) => ((some (.int (q.1))), (wBF Γ q_bf q_tx q_fl q_flT q_hi q_s1 q_s2 q_fd q_kc q_kr  ++ wFloor Γ q_fl q_k q_c q_a q_pa q_b q_pb vi vj vk vc va vpa vb vpb ++ wFloor Γ q_flT q_kT q_cT q_aT q_paT q_bT q_pbT (q.2.1) (q.2.2.1) (q.2.2.2.1) (q.2.2.2.2.1) (q.2.2.2.2.2.1) (q.2.2.2.2.2.2.1) (q.2.2.2.2.2.2.2.1) (q.2.2.2.2.2.2.2.2)))) mr) from congrArg (fun w => my_XC Γ A w (my_map (fun q : Int32 × (Nat → Int32) × (Nat → Int64) × (Nat → Int32) × (Nat → Int32) × (Nat → Int32) × (Nat → Int32) × (Nat → Int32) × (Nat → Int32) => ((some (.int (q.1))), (wBF Γ q_bf q_tx q_fl q_flT q_hi q_s1 q_s2 q_fd q_kc q_kr  ++ wFloor Γ q_fl q_k q_c q_a q_pa q_b q_pb vi vj vk vc va vpa vb vpb ++ wFloor Γ q_flT q_kT q_cT q_aT q_paT q_bT q_pbT (q.2.1) (q.2.2.1) (q.2.2.2.1) (q.2.2.2.2.1) (q.2.2.2.2.2.1) (q.2.2.2.2.2.2.1) (q.2.2.2.2.2.2.2.1) (q.2.2.2.2.2.2.2.2)))) mr)) hW0_]
  have hS : va_S A s.heap s.heap [] := va_S.rf
  have hl := lv_entry ([.ref q_bf, .int x0]) (n := 5) (Nat.le_of_ble_eq_true rfl)
  rw [lg_entry_eq]
  generalize (lg_sl ([.ref q_bf, .int x0]) ++ List.replicate (5 - (lg_sl ([.ref q_bf, .int x0])).length) Slot.unset).toArray = ls at hl ⊢
  replace hl : lv_has ls 5 [(0, .ref q_bf), (1, .int x0)] := hl
  have J_32 : ∀ n : Nat, ∀ (vi : Nat → Int32) (vj : Nat → Int64) (vk : Nat → Int32) (vc : Nat → Int32) (va : Nat → Int32) (vpa : Nat → Int32) (vb : Nat → Int32) (vpb : Nat → Int32) (viT : Nat → Int32) (vjT : Nat → Int64) (vkT : Nat → Int32) (vcT : Nat → Int32) (vaT : Nat → Int32) (vpaT : Nat → Int32) (vbT : Nat → Int32) (vpbT : Nat → Int32) (l3 : Int32) (l4 : Int32) (H : Heap) (locs : List Loc) (ls : Array Slot), va_P (my_D Γ) vwCl (wBF Γ q_bf q_tx q_fl q_flT q_hi q_s1 q_s2 q_fd q_kc q_kr  ++ wFloor Γ q_fl q_k q_c q_a q_pa q_b q_pb vi vj vk vc va vpa vb vpb ++ wFloor Γ q_flT q_kT q_cT q_aT q_paT q_bT q_pbT viT vjT vkT vcT vaT vpaT vbT vpbT) H → va_D A (wBF Γ q_bf q_tx q_fl q_flT q_hi q_s1 q_s2 q_fd q_kc q_kr  ++ wFloor Γ q_fl q_k q_c q_a q_pa q_b q_pb vi vj vk vc va vpa vb vpb ++ wFloor Γ q_flT q_kT q_cT q_aT q_paT q_bT q_pbT viT vjT vkT vcT vaT vpaT vbT vpbT) → va_S A s.heap H locs → lv_has ls 5 [(0, .ref q_bf), (2, .ref q_aT), (3, .int l3), (4, .int l4)] → mX8_passesIn_L32 n vi vj vk vc va vpa vb vpb viT vjT vkT vcT vaT vpaT vbT vpbT l3 l4 = (some mr) → W p l e (headSpec wsX8_passesIn ({ frames := 7, cells := 1, slots := 6, locals := 128 } : Room)).room s m ([.ref q_bf, .int x0] : List Value).toArray below meth c H locs 1 6 (vx_MQ below (my_QR Γ A (my_map (fun q : Int32 × (Nat → Int32) × (Nat → Int64) × (Nat → Int32) × (Nat → Int32) × (Nat → Int32) × (Nat → Int32) × (Nat → Int32) × (Nat → Int32) => ((some (.int (q.1))), (wBF Γ q_bf q_tx q_fl q_flT q_hi q_s1 q_s2 q_fd q_kc q_kr  ++ wFloor Γ q_fl q_k q_c q_a q_pa q_b q_pb vi vj vk vc va vpa vb vpb ++ wFloor Γ q_flT q_kT q_cT q_aT q_paT q_bT q_pbT (q.2.1) (q.2.2.1) (q.2.2.2.1) (q.2.2.2.2.1) (q.2.2.2.2.2.1) (q.2.2.2.2.2.2.1) (q.2.2.2.2.2.2.2.1) (q.2.2.2.2.2.2.2.2)))) mr)) (my_XC Γ A W0_ (my_map (fun q : Int32 × (Nat → Int32) × (Nat → Int64) × (Nat → Int32) × (Nat → Int32) × (Nat → Int32) × (Nat → Int32) × (Nat → Int32) × (Nat → Int32) => ((some (.int (q.1))), (wBF Γ q_bf q_tx q_fl q_flT q_hi q_s1 q_s2 q_fd q_kc q_kr  ++ wFloor Γ q_fl q_k q_c q_a q_pa q_b q_pb vi vj vk vc va vpa vb vpb ++ wFloor Γ q_flT q_kT q_cT q_aT q_paT q_bT q_pbT (q.2.1) (q.2.2.1) (q.2.2.2.1) (q.2.2.2.2.1) (q.2.2.2.2.2.1) (q.2.2.2.2.2.2.1) (q.2.2.2.2.2.2.2.1) (q.2.2.2.2.2.2.2.2)))) mr)) ([.ref q_bf, .int x0] : List Value).toArray s 1 6 A) (F0 m 32 ls []) := by
    intro  n
    induction n with
    | zero => intro vi vj vk vc va vpa vb vpb viT vjT vkT vcT vaT vpaT vbT vpbT l3 l4 H locs ls hP hD hS hl hm; cases hm
    | succ n ih =>
      intro vi vj vk vc va vpa vb vpb viT vjT vkT vcT vaT vpaT vbT vpbT l3 l4 H locs ls hP hD hS hl hm
      unfold mX8_passesIn_L32 at hm
      refine lv_iload hx hb dX8_passesIn_32 (lv_at hl 3 rfl) ?_
      refine lv_sipush (v := (150 : Int32)) hx hb dX8_passesIn_34 (by decide) ?_
      refine lv_icmp_gt (tgt := 65) hx hb dX8_passesIn_37 (by decide) (fun c_12 => ?_) (fun c_12 => ?_)
      · replace hm := if_s hm c_12
        refine lv_iconst (v := (-1 : Int32)) hx hb dX8_passesIn_65 (by decide) ?_
        cases hm
        exact vx_ret (W.widen (k := 1) (n := 6) (Nat.le_of_ble_eq_true rfl) (Nat.le_of_ble_eq_true rfl) (W.iret (v := (-1 : Int32)) hx hb hr (fun t ht hW => ⟨_, _, rfl, ⟨rfl, by rw [ht]; exact hP⟩, hS.F ht⟩) hS.2.2 dX8_passesIn_66))
      · replace hm := if_f hm c_12
        refine lv_aload_n hx hb dX8_passesIn_40 rfl (lv_at hl 0 rfl) ?_
        refine va_get (D := my_D Γ) (ci := 6) (v := .ref q_flT) (C := RX8) (T := TX8) (N := 9) hx hb hts hinX8 hown hK hP 0 rfl rfl 2 (by decide) (hts (.fieldLink RX8 23 "BeltFloor" "trial" "LBeltFloor$Floor;") (List.mem_of_getElem? (i := 1) rfl)) (fun _ h9 => h9) rfl dX8_passesIn_41 ?_
        obtain ⟨r_13, viT_14, vjT_15, vaT_16, vbT_17, hc_18, hm⟩ := bo5_s hm
        refine my_call1 (wc := (wFloor Γ q_flT q_kT q_cT q_aT q_paT q_bT q_pbT viT vjT vkT vcT vaT vpaT vbT vpbT)) (w1 := (wFloor Γ q_flT q_kT q_cT q_aT q_paT q_bT q_pbT viT_14 vjT_15 vkT vcT vaT_16 vpaT vbT_17 vpbT)) (ws1 := (wBF Γ q_bf q_tx q_fl q_flT q_hi q_s1 q_s2 q_fd q_kc q_kr  ++ wFloor Γ q_fl q_k q_c q_a q_pa q_b q_pb vi vj vk vc va vpa vb vpb ++ wFloor Γ q_flT q_kT q_cT q_aT q_paT q_bT q_pbT viT_14 vjT_15 vkT vcT vaT_16 vpaT vbT_17 vpbT)) hP hD hS hA [8, 9, 10, 11, 12, 13, 14] rfl rfl rfl (va_runS (As := [.ref q_flT]) (rest := []) ⟨hx, hb, hml, hown, hts⟩ (kX6_makeOne l Γ q_flT q_kT q_cT q_aT q_paT q_bT q_pbT viT vjT vkT vcT vaT vpaT vbT vpbT r_13 viT_14 vjT_15 vaT_16 vbT_17 hc_18 _) (va_cwS 1 hts gX8_passesIn_X6_makeOne rfl rfl rfl (by decide +kernel) ⟨Nat.le_of_ble_eq_true rfl, Nat.le_of_ble_eq_true rfl⟩) (my_preS (wc := (wFloor Γ q_flT q_kT q_cT q_aT q_paT q_bT q_pbT viT vjT vkT vcT vaT vpaT vbT vpbT)) [8, 9, 10, 11, 12, 13, 14] hK hP hD rfl rfl) rfl rfl hl.1 rfl (lv_room (Nat.le_of_ble_eq_true rfl)) dX8_passesIn_44 ⟨Nat.le_of_ble_eq_true rfl, Nat.le_of_ble_eq_true rfl⟩) (fun H locs hP hD hS => ?_)
        refine lv_pop hx hb dX8_passesIn_47 rfl ?_
        refine lv_aload_n hx hb dX8_passesIn_48 rfl (lv_at hl 1 rfl) ?_
        refine va_get (D := my_D Γ) (ci := 3) (v := .int (vaT_16 2)) (C := RX4) (T := TX4) (N := 10) hx hb hts hinX4 hown hK hP 11 rfl rfl 2 (by decide) (hts (.fieldLink RX8 152 "BeltFloor$Robot" "next" "I") (List.mem_of_getElem? (i := 3) rfl)) (fun _ h9 => h9) rfl dX8_passesIn_49 ?_
        refine lv_iload_n hx hb dX8_passesIn_52 rfl (lv_at hl 2 rfl) ?_
        refine lv_icmp_eq (tgt := 59) hx hb dX8_passesIn_53 (by decide) (fun c_19 => ?_) (fun c_19 => ?_)
        · replace hm := if_s hm c_19
          refine lv_iinc (v := (l4 + (1 : Int32))) (lv' := [(4, .int (l4 + (1 : Int32))), (0, .ref q_bf), (2, .ref q_aT), (3, .int l3)]) hx hb dX8_passesIn_59 hl (k := 3) rfl rfl (by decide) rfl (fun ls hl => ?_)
          refine lv_goto (tgt := 32) hx hb dX8_passesIn_62 (by decide) ?_
          exact ih vi vj vk vc va vpa vb vpb viT_14 vjT_15 vkT vcT vaT_16 vpaT vbT_17 vpbT l3 (l4 + (1 : Int32)) _ _ _ hP hD hS (lv_sub hl [1, 2, 3, 0] rfl) hm
        · replace hm := if_f hm c_19
          refine lv_iload hx hb dX8_passesIn_56 (lv_at hl 3 rfl) ?_
          cases hm
          exact vx_ret (W.widen (k := 1) (n := 6) (Nat.le_of_ble_eq_true rfl) (Nat.le_of_ble_eq_true rfl) (W.iret (v := l4) hx hb hr (fun t ht hW => ⟨_, _, rfl, ⟨rfl, by rw [ht]; exact hP⟩, hS.F ht⟩) hS.2.2 dX8_passesIn_58))
  have J_32_1 : ∀ n : Nat, ∀ (vi : Nat → Int32) (vj : Nat → Int64) (vk : Nat → Int32) (vc : Nat → Int32) (va : Nat → Int32) (vpa : Nat → Int32) (vb : Nat → Int32) (vpb : Nat → Int32) (viT : Nat → Int32) (vjT : Nat → Int64) (vkT : Nat → Int32) (vcT : Nat → Int32) (vaT : Nat → Int32) (vpaT : Nat → Int32) (vbT : Nat → Int32) (vpbT : Nat → Int32) (l3 : Int32) (l4 : Int32) (H : Heap) (locs : List Loc) (ls : Array Slot), va_P (my_D Γ) vwCl (wBF Γ q_bf q_tx q_fl q_flT q_hi q_s1 q_s2 q_fd q_kc q_kr  ++ wFloor Γ q_fl q_k q_c q_a q_pa q_b q_pb vi vj vk vc va vpa vb vpb ++ wFloor Γ q_flT q_kT q_cT q_aT q_paT q_bT q_pbT viT vjT vkT vcT vaT vpaT vbT vpbT) H → va_D A (wBF Γ q_bf q_tx q_fl q_flT q_hi q_s1 q_s2 q_fd q_kc q_kr  ++ wFloor Γ q_fl q_k q_c q_a q_pa q_b q_pb vi vj vk vc va vpa vb vpb ++ wFloor Γ q_flT q_kT q_cT q_aT q_paT q_bT q_pbT viT vjT vkT vcT vaT vpaT vbT vpbT) → va_S A s.heap H locs → lv_has ls 5 [(0, .ref q_bf), (2, .ref q_bT), (3, .int l3), (4, .int l4)] → mX8_passesIn_L32_1 n vi vj vk vc va vpa vb vpb viT vjT vkT vcT vaT vpaT vbT vpbT l3 l4 = (some mr) → W p l e (headSpec wsX8_passesIn ({ frames := 7, cells := 1, slots := 6, locals := 128 } : Room)).room s m ([.ref q_bf, .int x0] : List Value).toArray below meth c H locs 1 6 (vx_MQ below (my_QR Γ A (my_map (fun q : Int32 × (Nat → Int32) × (Nat → Int64) × (Nat → Int32) × (Nat → Int32) × (Nat → Int32) × (Nat → Int32) × (Nat → Int32) × (Nat → Int32) => ((some (.int (q.1))), (wBF Γ q_bf q_tx q_fl q_flT q_hi q_s1 q_s2 q_fd q_kc q_kr  ++ wFloor Γ q_fl q_k q_c q_a q_pa q_b q_pb vi vj vk vc va vpa vb vpb ++ wFloor Γ q_flT q_kT q_cT q_aT q_paT q_bT q_pbT (q.2.1) (q.2.2.1) (q.2.2.2.1) (q.2.2.2.2.1) (q.2.2.2.2.2.1) (q.2.2.2.2.2.2.1) (q.2.2.2.2.2.2.2.1) (q.2.2.2.2.2.2.2.2)))) mr)) (my_XC Γ A W0_ (my_map (fun q : Int32 × (Nat → Int32) × (Nat → Int64) × (Nat → Int32) × (Nat → Int32) × (Nat → Int32) × (Nat → Int32) × (Nat → Int32) × (Nat → Int32) => ((some (.int (q.1))), (wBF Γ q_bf q_tx q_fl q_flT q_hi q_s1 q_s2 q_fd q_kc q_kr  ++ wFloor Γ q_fl q_k q_c q_a q_pa q_b q_pb vi vj vk vc va vpa vb vpb ++ wFloor Γ q_flT q_kT q_cT q_aT q_paT q_bT q_pbT (q.2.1) (q.2.2.1) (q.2.2.2.1) (q.2.2.2.2.1) (q.2.2.2.2.2.1) (q.2.2.2.2.2.2.1) (q.2.2.2.2.2.2.2.1) (q.2.2.2.2.2.2.2.2)))) mr)) ([.ref q_bf, .int x0] : List Value).toArray s 1 6 A) (F0 m 32 ls []) := by
    intro  n
    induction n with
    | zero => intro vi vj vk vc va vpa vb vpb viT vjT vkT vcT vaT vpaT vbT vpbT l3 l4 H locs ls hP hD hS hl hm; cases hm
    | succ n ih =>
      intro vi vj vk vc va vpa vb vpb viT vjT vkT vcT vaT vpaT vbT vpbT l3 l4 H locs ls hP hD hS hl hm
      unfold mX8_passesIn_L32_1 at hm
      refine lv_iload hx hb dX8_passesIn_32 (lv_at hl 3 rfl) ?_
      refine lv_sipush (v := (150 : Int32)) hx hb dX8_passesIn_34 (by decide) ?_
      refine lv_icmp_gt (tgt := 65) hx hb dX8_passesIn_37 (by decide) (fun c_20 => ?_) (fun c_20 => ?_)
      · replace hm := if_s hm c_20
        refine lv_iconst (v := (-1 : Int32)) hx hb dX8_passesIn_65 (by decide) ?_
        cases hm
        exact vx_ret (W.widen (k := 1) (n := 6) (Nat.le_of_ble_eq_true rfl) (Nat.le_of_ble_eq_true rfl) (W.iret (v := (-1 : Int32)) hx hb hr (fun t ht hW => ⟨_, _, rfl, ⟨rfl, by rw [ht]; exact hP⟩, hS.F ht⟩) hS.2.2 dX8_passesIn_66))
      · replace hm := if_f hm c_20
        refine lv_aload_n hx hb dX8_passesIn_40 rfl (lv_at hl 0 rfl) ?_
        refine va_get (D := my_D Γ) (ci := 6) (v := .ref q_flT) (C := RX8) (T := TX8) (N := 9) hx hb hts hinX8 hown hK hP 0 rfl rfl 2 (by decide) (hts (.fieldLink RX8 23 "BeltFloor" "trial" "LBeltFloor$Floor;") (List.mem_of_getElem? (i := 1) rfl)) (fun _ h9 => h9) rfl dX8_passesIn_41 ?_
        obtain ⟨r_21, viT_22, vjT_23, vaT_24, vbT_25, hc_26, hm⟩ := bo5_s hm
        refine my_call1 (wc := (wFloor Γ q_flT q_kT q_cT q_aT q_paT q_bT q_pbT viT vjT vkT vcT vaT vpaT vbT vpbT)) (w1 := (wFloor Γ q_flT q_kT q_cT q_aT q_paT q_bT q_pbT viT_22 vjT_23 vkT vcT vaT_24 vpaT vbT_25 vpbT)) (ws1 := (wBF Γ q_bf q_tx q_fl q_flT q_hi q_s1 q_s2 q_fd q_kc q_kr  ++ wFloor Γ q_fl q_k q_c q_a q_pa q_b q_pb vi vj vk vc va vpa vb vpb ++ wFloor Γ q_flT q_kT q_cT q_aT q_paT q_bT q_pbT viT_22 vjT_23 vkT vcT vaT_24 vpaT vbT_25 vpbT)) hP hD hS hA [8, 9, 10, 11, 12, 13, 14] rfl rfl rfl (va_runS (As := [.ref q_flT]) (rest := []) ⟨hx, hb, hml, hown, hts⟩ (kX6_makeOne l Γ q_flT q_kT q_cT q_aT q_paT q_bT q_pbT viT vjT vkT vcT vaT vpaT vbT vpbT r_21 viT_22 vjT_23 vaT_24 vbT_25 hc_26 _) (va_cwS 1 hts gX8_passesIn_X6_makeOne rfl rfl rfl (by decide +kernel) ⟨Nat.le_of_ble_eq_true rfl, Nat.le_of_ble_eq_true rfl⟩) (my_preS (wc := (wFloor Γ q_flT q_kT q_cT q_aT q_paT q_bT q_pbT viT vjT vkT vcT vaT vpaT vbT vpbT)) [8, 9, 10, 11, 12, 13, 14] hK hP hD rfl rfl) rfl rfl hl.1 rfl (lv_room (Nat.le_of_ble_eq_true rfl)) dX8_passesIn_44 ⟨Nat.le_of_ble_eq_true rfl, Nat.le_of_ble_eq_true rfl⟩) (fun H locs hP hD hS => ?_)
        refine lv_pop hx hb dX8_passesIn_47 rfl ?_
        refine lv_aload_n hx hb dX8_passesIn_48 rfl (lv_at hl 1 rfl) ?_
        refine va_get (D := my_D Γ) (ci := 3) (v := .int (vbT_25 2)) (C := RX4) (T := TX4) (N := 10) hx hb hts hinX4 hown hK hP 13 rfl rfl 2 (by decide) (hts (.fieldLink RX8 152 "BeltFloor$Robot" "next" "I") (List.mem_of_getElem? (i := 3) rfl)) (fun _ h9 => h9) rfl dX8_passesIn_49 ?_
        refine lv_iload_n hx hb dX8_passesIn_52 rfl (lv_at hl 2 rfl) ?_
        refine lv_icmp_eq (tgt := 59) hx hb dX8_passesIn_53 (by decide) (fun c_27 => ?_) (fun c_27 => ?_)
        · replace hm := if_s hm c_27
          refine lv_iinc (v := (l4 + (1 : Int32))) (lv' := [(4, .int (l4 + (1 : Int32))), (0, .ref q_bf), (2, .ref q_bT), (3, .int l3)]) hx hb dX8_passesIn_59 hl (k := 3) rfl rfl (by decide) rfl (fun ls hl => ?_)
          refine lv_goto (tgt := 32) hx hb dX8_passesIn_62 (by decide) ?_
          exact ih vi vj vk vc va vpa vb vpb viT_22 vjT_23 vkT vcT vaT_24 vpaT vbT_25 vpbT l3 (l4 + (1 : Int32)) _ _ _ hP hD hS (lv_sub hl [1, 2, 3, 0] rfl) hm
        · replace hm := if_f hm c_27
          refine lv_iload hx hb dX8_passesIn_56 (lv_at hl 3 rfl) ?_
          cases hm
          exact vx_ret (W.widen (k := 1) (n := 6) (Nat.le_of_ble_eq_true rfl) (Nat.le_of_ble_eq_true rfl) (W.iret (v := l4) hx hb hr (fun t ht hW => ⟨_, _, rfl, ⟨rfl, by rw [ht]; exact hP⟩, hS.F ht⟩) hS.2.2 dX8_passesIn_58))
  unfold mX8_passesIn at hm
  refine lv_iload_n hx hb dX8_passesIn_0 rfl (lv_at hl 1 rfl) ?_
  refine my_callX (wc := []) hP hD hS hA [] rfl rfl (fun res w1 h9 => my_had h9) (vx_runS (As := [.int x0]) (rest := []) ⟨hx, hb, hml, hown, hts⟩ (kX8_checkRobot l Γ hfl x0 _ rfl _) (va_cwS 1 hts gX8_passesIn_X8_checkRobot rfl rfl rfl (by decide +kernel) ⟨Nat.le_of_ble_eq_true rfl, Nat.le_of_ble_eq_true rfl⟩) (my_preSX (wc := []) [] hK hP hD hS hA hZ hstr rfl rfl) rfl rfl hl.1 rfl (lv_room (Nat.le_of_ble_eq_true rfl)) dX8_passesIn_1 ⟨Nat.le_of_ble_eq_true rfl, Nat.le_of_ble_eq_true rfl⟩) (fun E_ H locs q9 ce hro hP hS h1_ h2_ h3_ => ?_) (fun res_ w1_ H locs hro hP hD hS => ?_)
  · rcases bx1_s hm with ⟨a_, hc_, hm⟩ | ⟨E2_, hc_, hm⟩
    · rw [hc_] at hro; exact (my_map_lr hro).elim
    · rw [hc_] at hro; obtain rfl := my_map_rr hro; subst hm
      exact vx_out (fun x hx9 => absurd (htab x hx9) id) hlocks h1_ h2_ h3_ (fun t ht ha => ⟨rfl, by rw [ht, ← hW0_]; exact hP, hS.F ht⟩) hS.2.2 (Nat.le_of_ble_eq_true rfl) (Nat.le_of_ble_eq_true rfl)
  rcases bx1_s hm with ⟨a_, hc_, hm⟩ | ⟨E2_, hc_, hm⟩
  rotate_left
  · rw [hc_] at hro; exact (my_map_rl hro).elim
  rw [hc_] at hro
  obtain ⟨rfl, rfl⟩ := my_map_ll hro
  replace hP : va_P (my_D Γ) vwCl (wBF Γ q_bf q_tx q_fl q_flT q_hi q_s1 q_s2 q_fd q_kc q_kr  ++ wFloor Γ q_fl q_k q_c q_a q_pa q_b q_pb vi vj vk vc va vpa vb vpb ++ wFloor Γ q_flT q_kT q_cT q_aT q_paT q_bT q_pbT viT vjT vkT vcT vaT vpaT vbT vpbT) H := hP
  replace hD : va_D A (wBF Γ q_bf q_tx q_fl q_flT q_hi q_s1 q_s2 q_fd q_kc q_kr  ++ wFloor Γ q_fl q_k q_c q_a q_pa q_b q_pb vi vj vk vc va vpa vb vpb ++ wFloor Γ q_flT q_kT q_cT q_aT q_paT q_bT q_pbT viT vjT vkT vcT vaT vpaT vbT vpbT) := hD
  refine lv_aload_n hx hb dX8_passesIn_4 rfl (lv_at hl 0 rfl) ?_
  refine va_get (D := my_D Γ) (ci := 6) (v := .ref q_flT) (C := RX8) (T := TX8) (N := 9) hx hb hts hinX8 hown hK hP 0 rfl rfl 2 (by decide) (hts (.fieldLink RX8 23 "BeltFloor" "trial" "LBeltFloor$Floor;") (List.mem_of_getElem? (i := 1) rfl)) (fun _ h9 => h9) rfl dX8_passesIn_5 ?_
  refine lv_aload_n hx hb dX8_passesIn_8 rfl (lv_at hl 0 rfl) ?_
  refine va_get (D := my_D Γ) (ci := 6) (v := .ref q_fl) (C := RX8) (T := TX8) (N := 9) hx hb hts hinX8 hown hK hP 0 rfl rfl 1 (by decide) (hts (.fieldLink RX8 19 "BeltFloor" "floor" "LBeltFloor$Floor;") (List.mem_of_getElem? (i := 2) rfl)) (fun _ h9 => h9) rfl dX8_passesIn_9 ?_
  obtain ⟨viT_2, vjT_3, vkT_4, vcT_5, vaT_6, vpaT_7, vbT_8, vpbT_9, hc_10, hm⟩ := bo8_s hm
  refine my_call0 (wc := (wFloor Γ q_flT q_kT q_cT q_aT q_paT q_bT q_pbT viT vjT vkT vcT vaT vpaT vbT vpbT ++ wFloor Γ q_fl q_k q_c q_a q_pa q_b q_pb vi vj vk vc va vpa vb vpb)) (w1 := (wFloor Γ q_flT q_kT q_cT q_aT q_paT q_bT q_pbT viT_2 vjT_3 vkT_4 vcT_5 vaT_6 vpaT_7 vbT_8 vpbT_9 ++ wFloor Γ q_fl q_k q_c q_a q_pa q_b q_pb vi vj vk vc va vpa vb vpb)) (ws1 := (wBF Γ q_bf q_tx q_fl q_flT q_hi q_s1 q_s2 q_fd q_kc q_kr  ++ wFloor Γ q_fl q_k q_c q_a q_pa q_b q_pb vi vj vk vc va vpa vb vpb ++ wFloor Γ q_flT q_kT q_cT q_aT q_paT q_bT q_pbT viT_2 vjT_3 vkT_4 vcT_5 vaT_6 vpaT_7 vbT_8 vpbT_9)) hP hD hS hA [8, 9, 10, 11, 12, 13, 14, 1, 2, 3, 4, 5, 6, 7] rfl rfl rfl (va_runV (As := [.ref q_fl]) (rest := []) ⟨hx, hb, hml, hown, hts⟩ (kX1_copyFrom l Γ q_flT q_kT q_cT q_aT q_paT q_bT q_pbT q_fl q_k q_c q_a q_pa q_b q_pb viT vjT vkT vcT vaT vpaT vbT vpbT vi vj vk vc va vpa vb vpb viT_2 vjT_3 vkT_4 vcT_5 vaT_6 vpaT_7 vbT_8 vpbT_9 hc_10 _) (cwV 1 hts gX8_passesIn_X1_copyFrom rfl rfl rfl (by decide +kernel) ⟨Nat.le_of_ble_eq_true rfl, Nat.le_of_ble_eq_true rfl⟩) (my_preV (wc := (wFloor Γ q_flT q_kT q_cT q_aT q_paT q_bT q_pbT viT vjT vkT vcT vaT vpaT vbT vpbT ++ wFloor Γ q_fl q_k q_c q_a q_pa q_b q_pb vi vj vk vc va vpa vb vpb)) (ci := 1) (q0 := 8) [8, 9, 10, 11, 12, 13, 14, 1, 2, 3, 4, 5, 6, 7] hK hP hD rfl rfl rfl rfl) rfl rfl hl.1 rfl (lv_room (Nat.le_of_ble_eq_true rfl)) dX8_passesIn_12 ⟨Nat.le_of_ble_eq_true rfl, Nat.le_of_ble_eq_true rfl⟩) (fun H locs hP hD hS => ?_)
  refine lv_aload_n hx hb dX8_passesIn_15 rfl (lv_at hl 0 rfl) ?_
  refine va_get (D := my_D Γ) (ci := 6) (v := .ref q_flT) (C := RX8) (T := TX8) (N := 9) hx hb hts hinX8 hown hK hP 0 rfl rfl 2 (by decide) (hts (.fieldLink RX8 23 "BeltFloor" "trial" "LBeltFloor$Floor;") (List.mem_of_getElem? (i := 1) rfl)) (fun _ h9 => h9) rfl dX8_passesIn_16 ?_
  refine lv_iload_n hx hb dX8_passesIn_19 rfl (lv_at hl 1 rfl) ?_
  by_cases c_11 : x0 = 0
  · replace hm := if_s hm c_11
    refine my_call1 (wc := (wFloor Γ q_flT q_kT q_cT q_aT q_paT q_bT q_pbT viT_2 vjT_3 vkT_4 vcT_5 vaT_6 vpaT_7 vbT_8 vpbT_9)) (w1 := (wFloor Γ q_flT q_kT q_cT q_aT q_paT q_bT q_pbT viT_2 vjT_3 vkT_4 vcT_5 vaT_6 vpaT_7 vbT_8 vpbT_9)) (ws1 := (wBF Γ q_bf q_tx q_fl q_flT q_hi q_s1 q_s2 q_fd q_kc q_kr  ++ wFloor Γ q_fl q_k q_c q_a q_pa q_b q_pb vi vj vk vc va vpa vb vpb ++ wFloor Γ q_flT q_kT q_cT q_aT q_paT q_bT q_pbT viT_2 vjT_3 vkT_4 vcT_5 vaT_6 vpaT_7 vbT_8 vpbT_9)) hP hD hS hA [8, 9, 10, 11, 12, 13, 14] rfl rfl rfl (va_runV (As := [.int x0]) (rest := []) ⟨hx, hb, hml, hown, hts⟩ (kX1_robot_0 l Γ q_flT q_kT q_cT q_aT q_paT q_bT q_pbT viT_2 vjT_3 vkT_4 vcT_5 vaT_6 vpaT_7 vbT_8 vpbT_9 x0 c_11 _) (cwV 1 hts gX8_passesIn_X1_robot rfl rfl rfl (by decide +kernel) ⟨Nat.le_of_ble_eq_true rfl, Nat.le_of_ble_eq_true rfl⟩) (my_preV (wc := (wFloor Γ q_flT q_kT q_cT q_aT q_paT q_bT q_pbT viT_2 vjT_3 vkT_4 vcT_5 vaT_6 vpaT_7 vbT_8 vpbT_9)) (ci := 1) (q0 := 8) [8, 9, 10, 11, 12, 13, 14] hK hP hD rfl rfl rfl rfl) rfl rfl hl.1 rfl (lv_room (Nat.le_of_ble_eq_true rfl)) dX8_passesIn_20 ⟨Nat.le_of_ble_eq_true rfl, Nat.le_of_ble_eq_true rfl⟩) (fun H locs hP hD hS => ?_)
    refine lv_astore_n (lv' := [(2, .ref q_aT), (0, .ref q_bf), (1, .int x0)]) hx hb dX8_passesIn_23 rfl hl (by decide) rfl (fun ls hl => ?_)
    refine lv_aload_n hx hb dX8_passesIn_24 rfl (lv_at hl 0 rfl) ?_
    refine va_get (D := my_D Γ) (ci := 3) (v := .int (vaT_6 2)) (C := RX4) (T := TX4) (N := 10) hx hb hts hinX4 hown hK hP 11 rfl rfl 2 (by decide) (hts (.fieldLink RX8 152 "BeltFloor$Robot" "next" "I") (List.mem_of_getElem? (i := 3) rfl)) (fun _ h9 => h9) rfl dX8_passesIn_25 ?_
    refine lv_istore_n (lv' := [(3, .int (vaT_6 2)), (2, .ref q_aT), (0, .ref q_bf), (1, .int x0)]) hx hb dX8_passesIn_28 rfl hl (by decide) rfl (fun ls hl => ?_)
    refine lv_iconst (v := (1 : Int32)) hx hb dX8_passesIn_29 (by decide) ?_
    refine lv_istore (lv' := [(4, .int (1 : Int32)), (3, .int (vaT_6 2)), (2, .ref q_aT), (0, .ref q_bf), (1, .int x0)]) hx hb dX8_passesIn_30 hl (by decide) rfl (fun ls hl => ?_)
    exact J_32 4096 vi vj vk vc va vpa vb vpb viT_2 vjT_3 vkT_4 vcT_5 vaT_6 vpaT_7 vbT_8 vpbT_9 (vaT_6 2) (1 : Int32) _ _ _ hP hD hS (lv_sub hl [3, 2, 1, 0] rfl) hm
  · replace hm := if_f hm c_11
    refine my_call1 (wc := (wFloor Γ q_flT q_kT q_cT q_aT q_paT q_bT q_pbT viT_2 vjT_3 vkT_4 vcT_5 vaT_6 vpaT_7 vbT_8 vpbT_9)) (w1 := (wFloor Γ q_flT q_kT q_cT q_aT q_paT q_bT q_pbT viT_2 vjT_3 vkT_4 vcT_5 vaT_6 vpaT_7 vbT_8 vpbT_9)) (ws1 := (wBF Γ q_bf q_tx q_fl q_flT q_hi q_s1 q_s2 q_fd q_kc q_kr  ++ wFloor Γ q_fl q_k q_c q_a q_pa q_b q_pb vi vj vk vc va vpa vb vpb ++ wFloor Γ q_flT q_kT q_cT q_aT q_paT q_bT q_pbT viT_2 vjT_3 vkT_4 vcT_5 vaT_6 vpaT_7 vbT_8 vpbT_9)) hP hD hS hA [8, 9, 10, 11, 12, 13, 14] rfl rfl rfl (va_runV (As := [.int x0]) (rest := []) ⟨hx, hb, hml, hown, hts⟩ (kX1_robot_1 l Γ q_flT q_kT q_cT q_aT q_paT q_bT q_pbT viT_2 vjT_3 vkT_4 vcT_5 vaT_6 vpaT_7 vbT_8 vpbT_9 x0 c_11 _) (cwV 1 hts gX8_passesIn_X1_robot rfl rfl rfl (by decide +kernel) ⟨Nat.le_of_ble_eq_true rfl, Nat.le_of_ble_eq_true rfl⟩) (my_preV (wc := (wFloor Γ q_flT q_kT q_cT q_aT q_paT q_bT q_pbT viT_2 vjT_3 vkT_4 vcT_5 vaT_6 vpaT_7 vbT_8 vpbT_9)) (ci := 1) (q0 := 8) [8, 9, 10, 11, 12, 13, 14] hK hP hD rfl rfl rfl rfl) rfl rfl hl.1 rfl (lv_room (Nat.le_of_ble_eq_true rfl)) dX8_passesIn_20 ⟨Nat.le_of_ble_eq_true rfl, Nat.le_of_ble_eq_true rfl⟩) (fun H locs hP hD hS => ?_)
    refine lv_astore_n (lv' := [(2, .ref q_bT), (0, .ref q_bf), (1, .int x0)]) hx hb dX8_passesIn_23 rfl hl (by decide) rfl (fun ls hl => ?_)
    refine lv_aload_n hx hb dX8_passesIn_24 rfl (lv_at hl 0 rfl) ?_
    refine va_get (D := my_D Γ) (ci := 3) (v := .int (vbT_8 2)) (C := RX4) (T := TX4) (N := 10) hx hb hts hinX4 hown hK hP 13 rfl rfl 2 (by decide) (hts (.fieldLink RX8 152 "BeltFloor$Robot" "next" "I") (List.mem_of_getElem? (i := 3) rfl)) (fun _ h9 => h9) rfl dX8_passesIn_25 ?_
    refine lv_istore_n (lv' := [(3, .int (vbT_8 2)), (2, .ref q_bT), (0, .ref q_bf), (1, .int x0)]) hx hb dX8_passesIn_28 rfl hl (by decide) rfl (fun ls hl => ?_)
    refine lv_iconst (v := (1 : Int32)) hx hb dX8_passesIn_29 (by decide) ?_
    refine lv_istore (lv' := [(4, .int (1 : Int32)), (3, .int (vbT_8 2)), (2, .ref q_bT), (0, .ref q_bf), (1, .int x0)]) hx hb dX8_passesIn_30 hl (by decide) rfl (fun ls hl => ?_)
    exact J_32_1 4096 vi vj vk vc va vpa vb vpb viT_2 vjT_3 vkT_4 vcT_5 vaT_6 vpaT_7 vbT_8 vpbT_9 (vbT_8 2) (1 : Int32) _ _ _ hP hD hS (lv_sub hl [3, 2, 1, 0] rfl) hm
def mX8_loopByWaiting_J82 (k40 : (Nat → Int32) → (Nat → Int64) → (Nat → Int32) → (Nat → Int32) → (Nat → Int32) → (Nat → Int32) → (Nat → Int32) → (Nat → Int32) → (Nat → Int32) → (Nat → Int64) → (Nat → Int32) → (Nat → Int32) → (Nat → Int32) → (Nat → Int32) → (Nat → Int32) → (Nat → Int32) → Int64 → Int64 → Int32 → Option (Int32 × (Nat → Int32) × (Nat → Int64) × (Nat → Int32) × (Nat → Int32) × (Nat → Int32) × (Nat → Int32) × (Nat → Int32) × (Nat → Int32))) (vi : Nat → Int32) (vj : Nat → Int64) (vk : Nat → Int32) (vc : Nat → Int32) (va : Nat → Int32) (vpa : Nat → Int32) (vb : Nat → Int32) (vpb : Nat → Int32) (viT : Nat → Int32) (vjT : Nat → Int64) (vkT : Nat → Int32) (vcT : Nat → Int32) (vaT : Nat → Int32) (vpaT : Nat → Int32) (vbT : Nat → Int32) (vpbT : Nat → Int32) (l1 : Int64) (l3 : Int64) (l5 : Int32) : Option (Int32 × (Nat → Int32) × (Nat → Int64) × (Nat → Int32) × (Nat → Int32) × (Nat → Int32) × (Nat → Int32) × (Nat → Int32) × (Nat → Int32)) := (k40 vi vj vk vc va vpa vb vpb viT vjT vkT vcT vaT vpaT vbT vpbT l1 l3 (l5 + (1 : Int32)))
def mX8_loopByWaiting_L40  : Nat → (Nat → Int32) → (Nat → Int64) → (Nat → Int32) → (Nat → Int32) → (Nat → Int32) → (Nat → Int32) → (Nat → Int32) → (Nat → Int32) → (Nat → Int32) → (Nat → Int64) → (Nat → Int32) → (Nat → Int32) → (Nat → Int32) → (Nat → Int32) → (Nat → Int32) → (Nat → Int32) → Int64 → Int64 → Int32 → Option (Int32 × (Nat → Int32) × (Nat → Int64) × (Nat → Int32) × (Nat → Int32) × (Nat → Int32) × (Nat → Int32) × (Nat → Int32) × (Nat → Int32))
  | 0, _, _, _, _, _, _, _, _, _, _, _, _, _, _, _, _, _, _, _ => none
  | n + 1, vi, vj, vk, vc, va, vpa, vb, vpb, viT, vjT, vkT, vcT, vaT, vpaT, vbT, vpbT, l1, l3, l5 => (if (120 : Int32) < l5 then (some ((-1 : Int32), viT, vjT, vkT, vcT, vaT, vpaT, vbT, vpbT)) else (bo5 (mX6_makeOne viT vjT vkT vcT vaT vpaT vbT vpbT) (fun r_17 viT_18 vjT_19 vaT_20 vbT_21 => (if (lg_cmp (vjT_19 4) l1) = 0 then (if (lg_cmp (mX1_robotsAsNumber vaT_20 vbT_21) l3) = 0 then (some (l5, viT_18, vjT_19, vkT, vcT, vaT_20, vpaT, vbT_21, vpbT)) else (mX8_loopByWaiting_J82 (fun vi vj vk vc va vpa vb vpb viT vjT vkT vcT vaT vpaT vbT vpbT l1 l3 l5 => mX8_loopByWaiting_L40 n vi vj vk vc va vpa vb vpb viT vjT vkT vcT vaT vpaT vbT vpbT l1 l3 l5) vi vj vk vc va vpa vb vpb viT_18 vjT_19 vkT vcT vaT_20 vpaT vbT_21 vpbT l1 l3 l5)) else (mX8_loopByWaiting_J82 (fun vi vj vk vc va vpa vb vpb viT vjT vkT vcT vaT vpaT vbT vpbT l1 l3 l5 => mX8_loopByWaiting_L40 n vi vj vk vc va vpa vb vpb viT vjT vkT vcT vaT vpaT vbT vpbT l1 l3 l5) vi vj vk vc va vpa vb vpb viT_18 vjT_19 vkT vcT vaT_20 vpaT vbT_21 vpbT l1 l3 l5)))))
def mX8_loopByWaiting (vi : Nat → Int32) (vj : Nat → Int64) (vk : Nat → Int32) (vc : Nat → Int32) (va : Nat → Int32) (vpa : Nat → Int32) (vb : Nat → Int32) (vpb : Nat → Int32) (viT : Nat → Int32) (vjT : Nat → Int64) (vkT : Nat → Int32) (vcT : Nat → Int32) (vaT : Nat → Int32) (vpaT : Nat → Int32) (vbT : Nat → Int32) (vpbT : Nat → Int32) : Option (Int32 × (Nat → Int32) × (Nat → Int64) × (Nat → Int32) × (Nat → Int32) × (Nat → Int32) × (Nat → Int32) × (Nat → Int32) × (Nat → Int32)) := (bo8 (mX1_copyFrom viT vjT vkT vcT vaT vpaT vbT vpbT vi vj vk vc va vpa vb vpb) (fun viT_1 vjT_2 vkT_3 vcT_4 vaT_5 vpaT_6 vbT_7 vpbT_8 => (bo5 (mX6_makeSome viT_1 vjT_2 vkT_3 vcT_4 vaT_5 vpaT_6 vbT_7 vpbT_8 (120 : Int32)) (fun r_10 viT_11 vjT_12 vaT_13 vbT_14 => (mX8_loopByWaiting_L40 4096 vi vj vk vc va vpa vb vpb viT_11 vjT_12 vkT_3 vcT_4 vaT_13 vpaT_6 vbT_14 vpbT_8 (vjT_12 4) (mX1_robotsAsNumber vaT_13 vbT_14) (1 : Int32))))))
set_option maxHeartbeats 4000000 in
set_option maxRecDepth 100000 in
theorem kX8_loopByWaiting (l : Launch) (Γ : my_G) (q_bf q_fl q_k q_c q_a q_pa q_b q_pb q_flT q_kT q_cT q_aT q_paT q_bT q_pbT q_tx q_hi q_s1 q_s2 q_fd q_kc q_kr : Nat) (vi : Nat → Int32) (vj : Nat → Int64) (vk : Nat → Int32) (vc : Nat → Int32) (va : Nat → Int32) (vpa : Nat → Int32) (vb : Nat → Int32) (vpb : Nat → Int32) (viT : Nat → Int32) (vjT : Nat → Int64) (vkT : Nat → Int32) (vcT : Nat → Int32) (vaT : Nat → Int32) (vpaT : Nat → Int32) (vbT : Nat → Int32) (vpbT : Nat → Int32)  (rr : Int32) (viT_z : Nat → Int32) (vjT_z : Nat → Int64) (vkT_z : Nat → Int32) (vcT_z : Nat → Int32) (vaT_z : Nat → Int32) (vpaT_z : Nat → Int32) (vbT_z : Nat → Int32) (vpbT_z : Nat → Int32) (hm : mX8_loopByWaiting vi vj vk vc va vpa vb vpb viT vjT vkT vcT vaT vpaT vbT vpbT = (some (rr, viT_z, vjT_z, vkT_z, vcT_z, vaT_z, vpaT_z, vbT_z, vpbT_z))) : Mn l yX8_loopByWaiting wsX8_loopByWaiting ({ frames := 6, cells := 0, slots := 0, locals := 151 } : Room) Γ [.ref q_bf] (wBF Γ q_bf q_tx q_fl q_flT q_hi q_s1 q_s2 q_fd q_kc q_kr  ++ wFloor Γ q_fl q_k q_c q_a q_pa q_b q_pb vi vj vk vc va vpa vb vpb ++ wFloor Γ q_flT q_kT q_cT q_aT q_paT q_bT q_pbT viT vjT vkT vcT vaT vpaT vbT vpbT) (some (.int rr)) (wBF Γ q_bf q_tx q_fl q_flT q_hi q_s1 q_s2 q_fd q_kc q_kr  ++ wFloor Γ q_fl q_k q_c q_a q_pa q_b q_pb vi vj vk vc va vpa vb vpb ++ wFloor Γ q_flT q_kT q_cT q_aT q_paT q_bT q_pbT viT_z vjT_z vkT_z vcT_z vaT_z vpaT_z vbT_z vpbT_z) := by
  intro sz
  refine Met.ofW (cc := cX8_loopByWaiting) (maxL := 6) (ret := (some .int)) (by decide) rfl ?_
  intro p e s m args below meth c s₁ B hml hv
  obtain ⟨rfl, hsz, hP, hK, hD0⟩ := hv
  have hx := B.exec
  have hb := B.bytes
  have hr := B.returns
  have hts := atoms_spec (ws := wsX8_loopByWaiting) B.pre
  have hown : s.vm.findClass RX8 = some m.cls := findClass_of_methodNamed B.named
  have hlocks := B.notSynchronized
  have hinX1 : ∀ w ∈ u_ws RX1 TX1 12, w ∈ wsX8_loopByWaiting := fun w h => List.mem_cons_of_mem _ (List.mem_append_left _ (List.mem_append_right _ h))
  have hinX4 : ∀ w ∈ u_ws RX4 TX4 10, w ∈ wsX8_loopByWaiting := fun w h => List.mem_cons_of_mem _ (List.mem_append_right _ h)
  have hinX8 : ∀ w ∈ u_ws RX8 TX8 9, w ∈ wsX8_loopByWaiting := fun w h => List.mem_cons_of_mem _ (List.mem_append_left _ (List.mem_append_left _ (List.mem_append_right _ h)))
  subst hsz
  have hD := hD0.self (sz := s.heap.size)
  have hA : ∀ q : Nat, s.heap.size ≤ q → va_A (wBF Γ q_bf q_tx q_fl q_flT q_hi q_s1 q_s2 q_fd q_kc q_kr  ++ wFloor Γ q_fl q_k q_c q_a q_pa q_b q_pb vi vj vk vc va vpa vb vpb ++ wFloor Γ q_flT q_kT q_cT q_aT q_paT q_bT q_pbT viT vjT vkT vcT vaT vpaT vbT vpbT) s.heap.size q := fun q h => Or.inr h
  generalize va_A (wBF Γ q_bf q_tx q_fl q_flT q_hi q_s1 q_s2 q_fd q_kc q_kr  ++ wFloor Γ q_fl q_k q_c q_a q_pa q_b q_pb vi vj vk vc va vpa vb vpb ++ wFloor Γ q_flT q_kT q_cT q_aT q_paT q_bT q_pbT viT vjT vkT vcT vaT vpaT vbT vpbT) s.heap.size = A at hD hA ⊢
  have hS : va_S A s.heap s.heap [] := va_S.rf
  have hl := lv_entry ([.ref q_bf]) (n := 6) (Nat.le_of_ble_eq_true rfl)
  rw [lg_entry_eq]
  generalize (lg_sl ([.ref q_bf]) ++ List.replicate (6 - (lg_sl ([.ref q_bf])).length) Slot.unset).toArray = ls at hl ⊢
  replace hl : lv_has ls 6 [(0, .ref q_bf)] := hl
  have J_82 : ∀ (k40 : (Nat → Int32) → (Nat → Int64) → (Nat → Int32) → (Nat → Int32) → (Nat → Int32) → (Nat → Int32) → (Nat → Int32) → (Nat → Int32) → (Nat → Int32) → (Nat → Int64) → (Nat → Int32) → (Nat → Int32) → (Nat → Int32) → (Nat → Int32) → (Nat → Int32) → (Nat → Int32) → Int64 → Int64 → Int32 → Option (Int32 × (Nat → Int32) × (Nat → Int64) × (Nat → Int32) × (Nat → Int32) × (Nat → Int32) × (Nat → Int32) × (Nat → Int32) × (Nat → Int32))), (∀ (vi : Nat → Int32) (vj : Nat → Int64) (vk : Nat → Int32) (vc : Nat → Int32) (va : Nat → Int32) (vpa : Nat → Int32) (vb : Nat → Int32) (vpb : Nat → Int32) (viT : Nat → Int32) (vjT : Nat → Int64) (vkT : Nat → Int32) (vcT : Nat → Int32) (vaT : Nat → Int32) (vpaT : Nat → Int32) (vbT : Nat → Int32) (vpbT : Nat → Int32) (l1 : Int64) (l3 : Int64) (l5 : Int32) (H : Heap) (locs : List Loc) (ls : Array Slot), va_P (my_D Γ) vwCl (wBF Γ q_bf q_tx q_fl q_flT q_hi q_s1 q_s2 q_fd q_kc q_kr  ++ wFloor Γ q_fl q_k q_c q_a q_pa q_b q_pb vi vj vk vc va vpa vb vpb ++ wFloor Γ q_flT q_kT q_cT q_aT q_paT q_bT q_pbT viT vjT vkT vcT vaT vpaT vbT vpbT) H → va_D A (wBF Γ q_bf q_tx q_fl q_flT q_hi q_s1 q_s2 q_fd q_kc q_kr  ++ wFloor Γ q_fl q_k q_c q_a q_pa q_b q_pb vi vj vk vc va vpa vb vpb ++ wFloor Γ q_flT q_kT q_cT q_aT q_paT q_bT q_pbT viT vjT vkT vcT vaT vpaT vbT vpbT) → va_S A s.heap H locs → lv_has ls 6 [(0, .ref q_bf), (1, .long l1), (3, .long l3), (5, .int l5)] → k40 vi vj vk vc va vpa vb vpb viT vjT vkT vcT vaT vpaT vbT vpbT l1 l3 l5 = (some (rr, viT_z, vjT_z, vkT_z, vcT_z, vaT_z, vpaT_z, vbT_z, vpbT_z)) → W p l e (headSpec wsX8_loopByWaiting ({ frames := 6, cells := 0, slots := 0, locals := 151 } : Room)).room s m ([.ref q_bf] : List Value).toArray below meth c H locs 0 0 (MQ below (my_Q Γ A (some (.int rr)) (wBF Γ q_bf q_tx q_fl q_flT q_hi q_s1 q_s2 q_fd q_kc q_kr  ++ wFloor Γ q_fl q_k q_c q_a q_pa q_b q_pb vi vj vk vc va vpa vb vpb ++ wFloor Γ q_flT q_kT q_cT q_aT q_paT q_bT q_pbT viT_z vjT_z vkT_z vcT_z vaT_z vpaT_z vbT_z vpbT_z)) ([.ref q_bf] : List Value).toArray s 0 0 A) (F0 m 40 ls [])) → ∀ (vi : Nat → Int32) (vj : Nat → Int64) (vk : Nat → Int32) (vc : Nat → Int32) (va : Nat → Int32) (vpa : Nat → Int32) (vb : Nat → Int32) (vpb : Nat → Int32) (viT : Nat → Int32) (vjT : Nat → Int64) (vkT : Nat → Int32) (vcT : Nat → Int32) (vaT : Nat → Int32) (vpaT : Nat → Int32) (vbT : Nat → Int32) (vpbT : Nat → Int32) (l1 : Int64) (l3 : Int64) (l5 : Int32) (H : Heap) (locs : List Loc) (ls : Array Slot), va_P (my_D Γ) vwCl (wBF Γ q_bf q_tx q_fl q_flT q_hi q_s1 q_s2 q_fd q_kc q_kr  ++ wFloor Γ q_fl q_k q_c q_a q_pa q_b q_pb vi vj vk vc va vpa vb vpb ++ wFloor Γ q_flT q_kT q_cT q_aT q_paT q_bT q_pbT viT vjT vkT vcT vaT vpaT vbT vpbT) H → va_D A (wBF Γ q_bf q_tx q_fl q_flT q_hi q_s1 q_s2 q_fd q_kc q_kr  ++ wFloor Γ q_fl q_k q_c q_a q_pa q_b q_pb vi vj vk vc va vpa vb vpb ++ wFloor Γ q_flT q_kT q_cT q_aT q_paT q_bT q_pbT viT vjT vkT vcT vaT vpaT vbT vpbT) → va_S A s.heap H locs → lv_has ls 6 [(0, .ref q_bf), (1, .long l1), (3, .long l3), (5, .int l5)] → mX8_loopByWaiting_J82 k40 vi vj vk vc va vpa vb vpb viT vjT vkT vcT vaT vpaT vbT vpbT l1 l3 l5 = (some (rr, viT_z, vjT_z, vkT_z, vcT_z, vaT_z, vpaT_z, vbT_z, vpbT_z)) → W p l e (headSpec wsX8_loopByWaiting ({ frames := 6, cells := 0, slots := 0, locals := 151 } : Room)).room s m ([.ref q_bf] : List Value).toArray below meth c H locs 0 0 (MQ below (my_Q Γ A (some (.int rr)) (wBF Γ q_bf q_tx q_fl q_flT q_hi q_s1 q_s2 q_fd q_kc q_kr  ++ wFloor Γ q_fl q_k q_c q_a q_pa q_b q_pb vi vj vk vc va vpa vb vpb ++ wFloor Γ q_flT q_kT q_cT q_aT q_paT q_bT q_pbT viT_z vjT_z vkT_z vcT_z vaT_z vpaT_z vbT_z vpbT_z)) ([.ref q_bf] : List Value).toArray s 0 0 A) (F0 m 82 ls []) := by
    intro k40 hk40 vi vj vk vc va vpa vb vpb viT vjT vkT vcT vaT vpaT vbT vpbT l1 l3 l5 H locs ls hP hD hS hl hm
    unfold mX8_loopByWaiting_J82 at hm
    refine lv_iinc (v := (l5 + (1 : Int32))) (lv' := [(5, .int (l5 + (1 : Int32))), (0, .ref q_bf), (1, .long l1), (3, .long l3)]) hx hb dX8_loopByWaiting_82 hl (k := 3) rfl rfl (by decide) rfl (fun ls hl => ?_)
    refine lv_goto (tgt := 40) hx hb dX8_loopByWaiting_85 (by decide) ?_
    exact hk40 vi vj vk vc va vpa vb vpb viT vjT vkT vcT vaT vpaT vbT vpbT l1 l3 (l5 + (1 : Int32)) _ _ _ hP hD hS (lv_sub hl [1, 2, 3, 0] rfl) hm
  have J_40 : ∀ n : Nat, ∀ (vi : Nat → Int32) (vj : Nat → Int64) (vk : Nat → Int32) (vc : Nat → Int32) (va : Nat → Int32) (vpa : Nat → Int32) (vb : Nat → Int32) (vpb : Nat → Int32) (viT : Nat → Int32) (vjT : Nat → Int64) (vkT : Nat → Int32) (vcT : Nat → Int32) (vaT : Nat → Int32) (vpaT : Nat → Int32) (vbT : Nat → Int32) (vpbT : Nat → Int32) (l1 : Int64) (l3 : Int64) (l5 : Int32) (H : Heap) (locs : List Loc) (ls : Array Slot), va_P (my_D Γ) vwCl (wBF Γ q_bf q_tx q_fl q_flT q_hi q_s1 q_s2 q_fd q_kc q_kr  ++ wFloor Γ q_fl q_k q_c q_a q_pa q_b q_pb vi vj vk vc va vpa vb vpb ++ wFloor Γ q_flT q_kT q_cT q_aT q_paT q_bT q_pbT viT vjT vkT vcT vaT vpaT vbT vpbT) H → va_D A (wBF Γ q_bf q_tx q_fl q_flT q_hi q_s1 q_s2 q_fd q_kc q_kr  ++ wFloor Γ q_fl q_k q_c q_a q_pa q_b q_pb vi vj vk vc va vpa vb vpb ++ wFloor Γ q_flT q_kT q_cT q_aT q_paT q_bT q_pbT viT vjT vkT vcT vaT vpaT vbT vpbT) → va_S A s.heap H locs → lv_has ls 6 [(0, .ref q_bf), (1, .long l1), (3, .long l3), (5, .int l5)] → mX8_loopByWaiting_L40 n vi vj vk vc va vpa vb vpb viT vjT vkT vcT vaT vpaT vbT vpbT l1 l3 l5 = (some (rr, viT_z, vjT_z, vkT_z, vcT_z, vaT_z, vpaT_z, vbT_z, vpbT_z)) → W p l e (headSpec wsX8_loopByWaiting ({ frames := 6, cells := 0, slots := 0, locals := 151 } : Room)).room s m ([.ref q_bf] : List Value).toArray below meth c H locs 0 0 (MQ below (my_Q Γ A (some (.int rr)) (wBF Γ q_bf q_tx q_fl q_flT q_hi q_s1 q_s2 q_fd q_kc q_kr  ++ wFloor Γ q_fl q_k q_c q_a q_pa q_b q_pb vi vj vk vc va vpa vb vpb ++ wFloor Γ q_flT q_kT q_cT q_aT q_paT q_bT q_pbT viT_z vjT_z vkT_z vcT_z vaT_z vpaT_z vbT_z vpbT_z)) ([.ref q_bf] : List Value).toArray s 0 0 A) (F0 m 40 ls []) := by
    intro  n
    induction n with
    | zero => intro vi vj vk vc va vpa vb vpb viT vjT vkT vcT vaT vpaT vbT vpbT l1 l3 l5 H locs ls hP hD hS hl hm; cases hm
    | succ n ih =>
      intro vi vj vk vc va vpa vb vpb viT vjT vkT vcT vaT vpaT vbT vpbT l1 l3 l5 H locs ls hP hD hS hl hm
      unfold mX8_loopByWaiting_L40 at hm
      refine lv_iload hx hb dX8_loopByWaiting_40 (lv_at hl 3 rfl) ?_
      refine lv_bipush (v := (120 : Int32)) hx hb dX8_loopByWaiting_42 (by decide) ?_
      refine lv_icmp_gt (tgt := 88) hx hb dX8_loopByWaiting_44 (by decide) (fun c_16 => ?_) (fun c_16 => ?_)
      · replace hm := if_s hm c_16
        refine lv_iconst (v := (-1 : Int32)) hx hb dX8_loopByWaiting_88 (by decide) ?_
        obtain ⟨hf0, hf1, hf2, hf3, hf4, hf5, hf6, hf7, hf8⟩ := si9 hm
        subst hf0
        subst hf1
        subst hf2
        subst hf3
        subst hf4
        subst hf5
        subst hf6
        subst hf7
        subst hf8
        exact W.iret (v := (-1 : Int32)) hx hb hr (fun t ht hW => ⟨⟨rfl, by rw [ht]; exact hP⟩, hS.F ht⟩) hS.2.2 dX8_loopByWaiting_89
      · replace hm := if_f hm c_16
        refine lv_aload_n hx hb dX8_loopByWaiting_47 rfl (lv_at hl 0 rfl) ?_
        refine va_get (D := my_D Γ) (ci := 6) (v := .ref q_flT) (C := RX8) (T := TX8) (N := 9) hx hb hts hinX8 hown hK hP 0 rfl rfl 2 (by decide) (hts (.fieldLink RX8 23 "BeltFloor" "trial" "LBeltFloor$Floor;") (List.mem_of_getElem? (i := 1) rfl)) (fun _ h9 => h9) rfl dX8_loopByWaiting_48 ?_
        obtain ⟨r_17, viT_18, vjT_19, vaT_20, vbT_21, hc_22, hm⟩ := bo5_s hm
        refine my_call1 (wc := (wFloor Γ q_flT q_kT q_cT q_aT q_paT q_bT q_pbT viT vjT vkT vcT vaT vpaT vbT vpbT)) (w1 := (wFloor Γ q_flT q_kT q_cT q_aT q_paT q_bT q_pbT viT_18 vjT_19 vkT vcT vaT_20 vpaT vbT_21 vpbT)) (ws1 := (wBF Γ q_bf q_tx q_fl q_flT q_hi q_s1 q_s2 q_fd q_kc q_kr  ++ wFloor Γ q_fl q_k q_c q_a q_pa q_b q_pb vi vj vk vc va vpa vb vpb ++ wFloor Γ q_flT q_kT q_cT q_aT q_paT q_bT q_pbT viT_18 vjT_19 vkT vcT vaT_20 vpaT vbT_21 vpbT)) hP hD hS hA [8, 9, 10, 11, 12, 13, 14] rfl rfl rfl (va_runS (As := [.ref q_flT]) (rest := []) ⟨hx, hb, hml, hown, hts⟩ (kX6_makeOne l Γ q_flT q_kT q_cT q_aT q_paT q_bT q_pbT viT vjT vkT vcT vaT vpaT vbT vpbT r_17 viT_18 vjT_19 vaT_20 vbT_21 hc_22 _) (va_cwS 1 hts gX8_loopByWaiting_X6_makeOne rfl rfl rfl (by decide +kernel) ⟨Nat.le_of_ble_eq_true rfl, Nat.le_of_ble_eq_true rfl⟩) (my_preS (wc := (wFloor Γ q_flT q_kT q_cT q_aT q_paT q_bT q_pbT viT vjT vkT vcT vaT vpaT vbT vpbT)) [8, 9, 10, 11, 12, 13, 14] hK hP hD rfl rfl) rfl rfl hl.1 rfl (lv_room (Nat.le_of_ble_eq_true rfl)) dX8_loopByWaiting_51 ⟨Nat.le_of_ble_eq_true rfl, Nat.le_of_ble_eq_true rfl⟩) (fun H locs hP hD hS => ?_)
        refine lv_pop hx hb dX8_loopByWaiting_54 rfl ?_
        refine lv_aload_n hx hb dX8_loopByWaiting_55 rfl (lv_at hl 0 rfl) ?_
        refine va_get (D := my_D Γ) (ci := 6) (v := .ref q_flT) (C := RX8) (T := TX8) (N := 9) hx hb hts hinX8 hown hK hP 0 rfl rfl 2 (by decide) (hts (.fieldLink RX8 23 "BeltFloor" "trial" "LBeltFloor$Floor;") (List.mem_of_getElem? (i := 1) rfl)) (fun _ h9 => h9) rfl dX8_loopByWaiting_56 ?_
        refine va_get (D := my_D Γ) (ci := 1) (v := .long (vjT_19 4)) (C := RX1) (T := TX1) (N := 12) hx hb hts hinX1 hown hK hP 8 rfl rfl 4 (by decide) (hts (.fieldLink RX8 104 "BeltFloor$Floor" "crates" "J") (List.mem_of_getElem? (i := 3) rfl)) (fun _ h9 => h9) rfl dX8_loopByWaiting_59 ?_
        refine lv_lload_n hx hb dX8_loopByWaiting_62 rfl (lv_at hl 1 rfl) ?_
        refine W.lcmp hx hb dX8_loopByWaiting_63 ?_
        refine lv_if_ne (tgt := 82) hx hb dX8_loopByWaiting_64 (by decide) (fun c_23 => ?_) (fun c_23 => ?_)
        · replace hm := if_f hm c_23
          exact J_82 (fun vi vj vk vc va vpa vb vpb viT vjT vkT vcT vaT vpaT vbT vpbT l1 l3 l5 => mX8_loopByWaiting_L40 n vi vj vk vc va vpa vb vpb viT vjT vkT vcT vaT vpaT vbT vpbT l1 l3 l5) ih vi vj vk vc va vpa vb vpb viT_18 vjT_19 vkT vcT vaT_20 vpaT vbT_21 vpbT l1 l3 l5 _ _ _ hP hD hS (lv_sub hl [0, 1, 2, 3] rfl) hm
        · replace hm := if_s hm c_23
          refine lv_aload_n hx hb dX8_loopByWaiting_67 rfl (lv_at hl 0 rfl) ?_
          refine va_get (D := my_D Γ) (ci := 6) (v := .ref q_flT) (C := RX8) (T := TX8) (N := 9) hx hb hts hinX8 hown hK hP 0 rfl rfl 2 (by decide) (hts (.fieldLink RX8 23 "BeltFloor" "trial" "LBeltFloor$Floor;") (List.mem_of_getElem? (i := 1) rfl)) (fun _ h9 => h9) rfl dX8_loopByWaiting_68 ?_
          refine my_call1 (wc := (wFloor Γ q_flT q_kT q_cT q_aT q_paT q_bT q_pbT viT_18 vjT_19 vkT vcT vaT_20 vpaT vbT_21 vpbT)) (w1 := (wFloor Γ q_flT q_kT q_cT q_aT q_paT q_bT q_pbT viT_18 vjT_19 vkT vcT vaT_20 vpaT vbT_21 vpbT)) (ws1 := (wBF Γ q_bf q_tx q_fl q_flT q_hi q_s1 q_s2 q_fd q_kc q_kr  ++ wFloor Γ q_fl q_k q_c q_a q_pa q_b q_pb vi vj vk vc va vpa vb vpb ++ wFloor Γ q_flT q_kT q_cT q_aT q_paT q_bT q_pbT viT_18 vjT_19 vkT vcT vaT_20 vpaT vbT_21 vpbT)) hP hD hS hA [8, 9, 10, 11, 12, 13, 14] rfl rfl rfl (va_runV (As := []) (rest := []) ⟨hx, hb, hml, hown, hts⟩ (kX1_robotsAsNumber l Γ q_flT q_kT q_cT q_aT q_paT q_bT q_pbT viT_18 vjT_19 vkT vcT vaT_20 vpaT vbT_21 vpbT (mX1_robotsAsNumber vaT_20 vbT_21) rfl _) (cwV 0 hts gX8_loopByWaiting_X1_robotsAsNumber rfl rfl rfl (by decide +kernel) ⟨Nat.le_of_ble_eq_true rfl, Nat.le_of_ble_eq_true rfl⟩) (my_preV (wc := (wFloor Γ q_flT q_kT q_cT q_aT q_paT q_bT q_pbT viT_18 vjT_19 vkT vcT vaT_20 vpaT vbT_21 vpbT)) (ci := 1) (q0 := 8) [8, 9, 10, 11, 12, 13, 14] hK hP hD rfl rfl rfl rfl) rfl rfl hl.1 rfl (lv_room (Nat.le_of_ble_eq_true rfl)) dX8_loopByWaiting_71 ⟨Nat.le_of_ble_eq_true rfl, Nat.le_of_ble_eq_true rfl⟩) (fun H locs hP hD hS => ?_)
          refine lv_lload_n hx hb dX8_loopByWaiting_74 rfl (lv_at hl 2 rfl) ?_
          refine W.lcmp hx hb dX8_loopByWaiting_75 ?_
          refine lv_if_ne (tgt := 82) hx hb dX8_loopByWaiting_76 (by decide) (fun c_24 => ?_) (fun c_24 => ?_)
          · replace hm := if_f hm c_24
            exact J_82 (fun vi vj vk vc va vpa vb vpb viT vjT vkT vcT vaT vpaT vbT vpbT l1 l3 l5 => mX8_loopByWaiting_L40 n vi vj vk vc va vpa vb vpb viT vjT vkT vcT vaT vpaT vbT vpbT l1 l3 l5) ih vi vj vk vc va vpa vb vpb viT_18 vjT_19 vkT vcT vaT_20 vpaT vbT_21 vpbT l1 l3 l5 _ _ _ hP hD hS (lv_sub hl [0, 1, 2, 3] rfl) hm
          · replace hm := if_s hm c_24
            refine lv_iload hx hb dX8_loopByWaiting_79 (lv_at hl 3 rfl) ?_
            obtain ⟨hf0, hf1, hf2, hf3, hf4, hf5, hf6, hf7, hf8⟩ := si9 hm
            subst hf0
            subst hf1
            subst hf2
            subst hf3
            subst hf4
            subst hf5
            subst hf6
            subst hf7
            subst hf8
            exact W.iret (v := l5) hx hb hr (fun t ht hW => ⟨⟨rfl, by rw [ht]; exact hP⟩, hS.F ht⟩) hS.2.2 dX8_loopByWaiting_81
  unfold mX8_loopByWaiting at hm
  refine lv_aload_n hx hb dX8_loopByWaiting_0 rfl (lv_at hl 0 rfl) ?_
  refine va_get (D := my_D Γ) (ci := 6) (v := .ref q_flT) (C := RX8) (T := TX8) (N := 9) hx hb hts hinX8 hown hK hP 0 rfl rfl 2 (by decide) (hts (.fieldLink RX8 23 "BeltFloor" "trial" "LBeltFloor$Floor;") (List.mem_of_getElem? (i := 1) rfl)) (fun _ h9 => h9) rfl dX8_loopByWaiting_1 ?_
  refine lv_aload_n hx hb dX8_loopByWaiting_4 rfl (lv_at hl 0 rfl) ?_
  refine va_get (D := my_D Γ) (ci := 6) (v := .ref q_fl) (C := RX8) (T := TX8) (N := 9) hx hb hts hinX8 hown hK hP 0 rfl rfl 1 (by decide) (hts (.fieldLink RX8 19 "BeltFloor" "floor" "LBeltFloor$Floor;") (List.mem_of_getElem? (i := 2) rfl)) (fun _ h9 => h9) rfl dX8_loopByWaiting_5 ?_
  obtain ⟨viT_1, vjT_2, vkT_3, vcT_4, vaT_5, vpaT_6, vbT_7, vpbT_8, hc_9, hm⟩ := bo8_s hm
  refine my_call0 (wc := (wFloor Γ q_flT q_kT q_cT q_aT q_paT q_bT q_pbT viT vjT vkT vcT vaT vpaT vbT vpbT ++ wFloor Γ q_fl q_k q_c q_a q_pa q_b q_pb vi vj vk vc va vpa vb vpb)) (w1 := (wFloor Γ q_flT q_kT q_cT q_aT q_paT q_bT q_pbT viT_1 vjT_2 vkT_3 vcT_4 vaT_5 vpaT_6 vbT_7 vpbT_8 ++ wFloor Γ q_fl q_k q_c q_a q_pa q_b q_pb vi vj vk vc va vpa vb vpb)) (ws1 := (wBF Γ q_bf q_tx q_fl q_flT q_hi q_s1 q_s2 q_fd q_kc q_kr  ++ wFloor Γ q_fl q_k q_c q_a q_pa q_b q_pb vi vj vk vc va vpa vb vpb ++ wFloor Γ q_flT q_kT q_cT q_aT q_paT q_bT q_pbT viT_1 vjT_2 vkT_3 vcT_4 vaT_5 vpaT_6 vbT_7 vpbT_8)) hP hD hS hA [8, 9, 10, 11, 12, 13, 14, 1, 2, 3, 4, 5, 6, 7] rfl rfl rfl (va_runV (As := [.ref q_fl]) (rest := []) ⟨hx, hb, hml, hown, hts⟩ (kX1_copyFrom l Γ q_flT q_kT q_cT q_aT q_paT q_bT q_pbT q_fl q_k q_c q_a q_pa q_b q_pb viT vjT vkT vcT vaT vpaT vbT vpbT vi vj vk vc va vpa vb vpb viT_1 vjT_2 vkT_3 vcT_4 vaT_5 vpaT_6 vbT_7 vpbT_8 hc_9 _) (cwV 1 hts gX8_loopByWaiting_X1_copyFrom rfl rfl rfl (by decide +kernel) ⟨Nat.le_of_ble_eq_true rfl, Nat.le_of_ble_eq_true rfl⟩) (my_preV (wc := (wFloor Γ q_flT q_kT q_cT q_aT q_paT q_bT q_pbT viT vjT vkT vcT vaT vpaT vbT vpbT ++ wFloor Γ q_fl q_k q_c q_a q_pa q_b q_pb vi vj vk vc va vpa vb vpb)) (ci := 1) (q0 := 8) [8, 9, 10, 11, 12, 13, 14, 1, 2, 3, 4, 5, 6, 7] hK hP hD rfl rfl rfl rfl) rfl rfl hl.1 rfl (lv_room (Nat.le_of_ble_eq_true rfl)) dX8_loopByWaiting_8 ⟨Nat.le_of_ble_eq_true rfl, Nat.le_of_ble_eq_true rfl⟩) (fun H locs hP hD hS => ?_)
  refine lv_aload_n hx hb dX8_loopByWaiting_11 rfl (lv_at hl 0 rfl) ?_
  refine va_get (D := my_D Γ) (ci := 6) (v := .ref q_flT) (C := RX8) (T := TX8) (N := 9) hx hb hts hinX8 hown hK hP 0 rfl rfl 2 (by decide) (hts (.fieldLink RX8 23 "BeltFloor" "trial" "LBeltFloor$Floor;") (List.mem_of_getElem? (i := 1) rfl)) (fun _ h9 => h9) rfl dX8_loopByWaiting_12 ?_
  refine lv_bipush (v := (120 : Int32)) hx hb dX8_loopByWaiting_15 (by decide) ?_
  obtain ⟨r_10, viT_11, vjT_12, vaT_13, vbT_14, hc_15, hm⟩ := bo5_s hm
  refine my_call1 (wc := (wFloor Γ q_flT q_kT q_cT q_aT q_paT q_bT q_pbT viT_1 vjT_2 vkT_3 vcT_4 vaT_5 vpaT_6 vbT_7 vpbT_8)) (w1 := (wFloor Γ q_flT q_kT q_cT q_aT q_paT q_bT q_pbT viT_11 vjT_12 vkT_3 vcT_4 vaT_13 vpaT_6 vbT_14 vpbT_8)) (ws1 := (wBF Γ q_bf q_tx q_fl q_flT q_hi q_s1 q_s2 q_fd q_kc q_kr  ++ wFloor Γ q_fl q_k q_c q_a q_pa q_b q_pb vi vj vk vc va vpa vb vpb ++ wFloor Γ q_flT q_kT q_cT q_aT q_paT q_bT q_pbT viT_11 vjT_12 vkT_3 vcT_4 vaT_13 vpaT_6 vbT_14 vpbT_8)) hP hD hS hA [8, 9, 10, 11, 12, 13, 14] rfl rfl rfl (va_runS (As := [.ref q_flT, .int (120 : Int32)]) (rest := []) ⟨hx, hb, hml, hown, hts⟩ (kX6_makeSome l Γ q_flT q_kT q_cT q_aT q_paT q_bT q_pbT viT_1 vjT_2 vkT_3 vcT_4 vaT_5 vpaT_6 vbT_7 vpbT_8 (120 : Int32) r_10 viT_11 vjT_12 vaT_13 vbT_14 hc_15 _) (va_cwS 2 hts gX8_loopByWaiting_X6_makeSome rfl rfl rfl (by decide +kernel) ⟨Nat.le_of_ble_eq_true rfl, Nat.le_of_ble_eq_true rfl⟩) (my_preS (wc := (wFloor Γ q_flT q_kT q_cT q_aT q_paT q_bT q_pbT viT_1 vjT_2 vkT_3 vcT_4 vaT_5 vpaT_6 vbT_7 vpbT_8)) [8, 9, 10, 11, 12, 13, 14] hK hP hD rfl rfl) rfl rfl hl.1 rfl (lv_room (Nat.le_of_ble_eq_true rfl)) dX8_loopByWaiting_17 ⟨Nat.le_of_ble_eq_true rfl, Nat.le_of_ble_eq_true rfl⟩) (fun H locs hP hD hS => ?_)
  refine lv_pop hx hb dX8_loopByWaiting_20 rfl ?_
  refine lv_aload_n hx hb dX8_loopByWaiting_21 rfl (lv_at hl 0 rfl) ?_
  refine va_get (D := my_D Γ) (ci := 6) (v := .ref q_flT) (C := RX8) (T := TX8) (N := 9) hx hb hts hinX8 hown hK hP 0 rfl rfl 2 (by decide) (hts (.fieldLink RX8 23 "BeltFloor" "trial" "LBeltFloor$Floor;") (List.mem_of_getElem? (i := 1) rfl)) (fun _ h9 => h9) rfl dX8_loopByWaiting_22 ?_
  refine va_get (D := my_D Γ) (ci := 1) (v := .long (vjT_12 4)) (C := RX1) (T := TX1) (N := 12) hx hb hts hinX1 hown hK hP 8 rfl rfl 4 (by decide) (hts (.fieldLink RX8 104 "BeltFloor$Floor" "crates" "J") (List.mem_of_getElem? (i := 3) rfl)) (fun _ h9 => h9) rfl dX8_loopByWaiting_25 ?_
  refine lv_lstore_n (lv' := [(1, .long (vjT_12 4)), (0, .ref q_bf)]) hx hb dX8_loopByWaiting_28 rfl hl (by decide) rfl (fun ls hl => ?_)
  refine lv_aload_n hx hb dX8_loopByWaiting_29 rfl (lv_at hl 1 rfl) ?_
  refine va_get (D := my_D Γ) (ci := 6) (v := .ref q_flT) (C := RX8) (T := TX8) (N := 9) hx hb hts hinX8 hown hK hP 0 rfl rfl 2 (by decide) (hts (.fieldLink RX8 23 "BeltFloor" "trial" "LBeltFloor$Floor;") (List.mem_of_getElem? (i := 1) rfl)) (fun _ h9 => h9) rfl dX8_loopByWaiting_30 ?_
  refine my_call1 (wc := (wFloor Γ q_flT q_kT q_cT q_aT q_paT q_bT q_pbT viT_11 vjT_12 vkT_3 vcT_4 vaT_13 vpaT_6 vbT_14 vpbT_8)) (w1 := (wFloor Γ q_flT q_kT q_cT q_aT q_paT q_bT q_pbT viT_11 vjT_12 vkT_3 vcT_4 vaT_13 vpaT_6 vbT_14 vpbT_8)) (ws1 := (wBF Γ q_bf q_tx q_fl q_flT q_hi q_s1 q_s2 q_fd q_kc q_kr  ++ wFloor Γ q_fl q_k q_c q_a q_pa q_b q_pb vi vj vk vc va vpa vb vpb ++ wFloor Γ q_flT q_kT q_cT q_aT q_paT q_bT q_pbT viT_11 vjT_12 vkT_3 vcT_4 vaT_13 vpaT_6 vbT_14 vpbT_8)) hP hD hS hA [8, 9, 10, 11, 12, 13, 14] rfl rfl rfl (va_runV (As := []) (rest := []) ⟨hx, hb, hml, hown, hts⟩ (kX1_robotsAsNumber l Γ q_flT q_kT q_cT q_aT q_paT q_bT q_pbT viT_11 vjT_12 vkT_3 vcT_4 vaT_13 vpaT_6 vbT_14 vpbT_8 (mX1_robotsAsNumber vaT_13 vbT_14) rfl _) (cwV 0 hts gX8_loopByWaiting_X1_robotsAsNumber rfl rfl rfl (by decide +kernel) ⟨Nat.le_of_ble_eq_true rfl, Nat.le_of_ble_eq_true rfl⟩) (my_preV (wc := (wFloor Γ q_flT q_kT q_cT q_aT q_paT q_bT q_pbT viT_11 vjT_12 vkT_3 vcT_4 vaT_13 vpaT_6 vbT_14 vpbT_8)) (ci := 1) (q0 := 8) [8, 9, 10, 11, 12, 13, 14] hK hP hD rfl rfl rfl rfl) rfl rfl hl.1 rfl (lv_room (Nat.le_of_ble_eq_true rfl)) dX8_loopByWaiting_33 ⟨Nat.le_of_ble_eq_true rfl, Nat.le_of_ble_eq_true rfl⟩) (fun H locs hP hD hS => ?_)
  refine lv_lstore_n (lv' := [(3, .long (mX1_robotsAsNumber vaT_13 vbT_14)), (1, .long (vjT_12 4)), (0, .ref q_bf)]) hx hb dX8_loopByWaiting_36 rfl hl (by decide) rfl (fun ls hl => ?_)
  refine lv_iconst (v := (1 : Int32)) hx hb dX8_loopByWaiting_37 (by decide) ?_
  refine lv_istore (lv' := [(5, .int (1 : Int32)), (3, .long (mX1_robotsAsNumber vaT_13 vbT_14)), (1, .long (vjT_12 4)), (0, .ref q_bf)]) hx hb dX8_loopByWaiting_38 hl (by decide) rfl (fun ls hl => ?_)
  exact J_40 4096 vi vj vk vc va vpa vb vpb viT_11 vjT_12 vkT_3 vcT_4 vaT_13 vpaT_6 vbT_14 vpbT_8 (vjT_12 4) (mX1_robotsAsNumber vaT_13 vbT_14) (1 : Int32) _ _ _ hP hD hS (lv_sub hl [3, 2, 1, 0] rfl) hm
def mX8_makeTurn (viT : Nat → Int32) (vjT : Nat → Int64) (vkT : Nat → Int32) (vcT : Nat → Int32) (vaT : Nat → Int32) (vpaT : Nat → Int32) (vbT : Nat → Int32) (vpbT : Nat → Int32) (x0 : Int32) : Option (Int32 × (Nat → Int32) × (Nat → Int64) × (Nat → Int32) × (Nat → Int32) × (Nat → Int32) × (Nat → Int32) × (Nat → Int32) × (Nat → Int32)) := (if (jrem x0 (16 : Int32)) = (0 : Int32) then (bo3 (mX1_giveKind viT vjT vkT vcT vaT vbT (jrem (x0 / (16 : Int32)) (36 : Int32)) (jrem ((x0 / (16 : Int32)) / (64 : Int32)) (7 : Int32))) (fun r_2 vjT_3 vkT_4 => (some ((0 : Int32), viT, vjT_3, vkT_4, vcT, vaT, vpaT, vbT, vpbT)))) else (if (jrem x0 (16 : Int32)) = (1 : Int32) then (bo3 (mX1_giveKind viT vjT vkT vcT vaT vbT (jrem (x0 / (16 : Int32)) (36 : Int32)) (jrem ((x0 / (16 : Int32)) / (64 : Int32)) (7 : Int32))) (fun r_7 vjT_8 vkT_9 => (some ((0 : Int32), viT, vjT_8, vkT_9, vcT, vaT, vpaT, vbT, vpbT)))) else (if (jrem x0 (16 : Int32)) = (2 : Int32) then (bo3 (mX1_giveKind viT vjT vkT vcT vaT vbT (jrem (x0 / (16 : Int32)) (36 : Int32)) (jrem ((x0 / (16 : Int32)) / (64 : Int32)) (7 : Int32))) (fun r_12 vjT_13 vkT_14 => (some ((0 : Int32), viT, vjT_13, vkT_14, vcT, vaT, vpaT, vbT, vpbT)))) else (if (jrem x0 (16 : Int32)) = (3 : Int32) then (bt3 (mX1_layCrate viT vjT vkT vaT vbT (jrem (x0 / (16 : Int32)) (36 : Int32))) (fun r_17 viT_18 vjT_19 => (some ((0 : Int32), viT_18, vjT_19, vkT, vcT, vaT, vpaT, vbT, vpbT)))) else (if (jrem x0 (16 : Int32)) = (4 : Int32) then (bt3 (mX1_layCrate viT vjT vkT vaT vbT (jrem (x0 / (16 : Int32)) (36 : Int32))) (fun r_22 viT_23 vjT_24 => (some ((0 : Int32), viT_23, vjT_24, vkT, vcT, vaT, vpaT, vbT, vpbT)))) else (if (jrem x0 (16 : Int32)) = (5 : Int32) then (bo3 (mX1_markCheckpoint viT vkT vcT (jrem (x0 / (16 : Int32)) (36 : Int32))) (fun r_27 viT_28 vcT_29 => (some ((0 : Int32), viT_28, vjT, vkT, vcT_29, vaT, vpaT, vbT, vpbT)))) else (if (jrem x0 (16 : Int32)) = (6 : Int32) then (bt3 (mX1_placeRobot vjT vkT vaT vbT (jrem (x0 / (16 : Int32)) (2 : Int32)) (jrem ((x0 / (16 : Int32)) / (2 : Int32)) (36 : Int32)) (jrem ((x0 / (16 : Int32)) / (128 : Int32)) (4 : Int32))) (fun r_32 vaT_33 vbT_34 => (some ((0 : Int32), viT, vjT, vkT, vcT, vaT_33, vpaT, vbT_34, vpbT)))) else (if (jrem x0 (16 : Int32)) = (7 : Int32) then (if (jrem (x0 / (16 : Int32)) (2 : Int32)) = 0 then (bt3 (mX4_learn vaT vpaT (jrem ((x0 / (16 : Int32)) / (2 : Int32)) (6 : Int32))) (fun r_38 vaT_39 vpaT_40 => (some ((0 : Int32), viT, vjT, vkT, vcT, vaT_39, vpaT_40, vbT, vpbT)))) else (bt3 (mX4_learn vbT vpbT (jrem ((x0 / (16 : Int32)) / (2 : Int32)) (6 : Int32))) (fun r_42 vbT_43 vpbT_44 => (some ((0 : Int32), viT, vjT, vkT, vcT, vaT, vpaT, vbT_43, vpbT_44))))) else (if (jrem x0 (16 : Int32)) = (8 : Int32) then (if (jrem (x0 / (16 : Int32)) (2 : Int32)) = 0 then (bt3 (mX4_learn vaT vpaT (jrem ((x0 / (16 : Int32)) / (2 : Int32)) (6 : Int32))) (fun r_48 vaT_49 vpaT_50 => (some ((0 : Int32), viT, vjT, vkT, vcT, vaT_49, vpaT_50, vbT, vpbT)))) else (bt3 (mX4_learn vbT vpbT (jrem ((x0 / (16 : Int32)) / (2 : Int32)) (6 : Int32))) (fun r_52 vbT_53 vpbT_54 => (some ((0 : Int32), viT, vjT, vkT, vcT, vaT, vpaT, vbT_53, vpbT_54))))) else (if (jrem x0 (16 : Int32)) = (9 : Int32) then (if (jrem (x0 / (16 : Int32)) (2 : Int32)) = 0 then (bt3 (mX4_learn vaT vpaT (jrem ((x0 / (16 : Int32)) / (2 : Int32)) (6 : Int32))) (fun r_58 vaT_59 vpaT_60 => (some ((0 : Int32), viT, vjT, vkT, vcT, vaT_59, vpaT_60, vbT, vpbT)))) else (bt3 (mX4_learn vbT vpbT (jrem ((x0 / (16 : Int32)) / (2 : Int32)) (6 : Int32))) (fun r_62 vbT_63 vpbT_64 => (some ((0 : Int32), viT, vjT, vkT, vcT, vaT, vpaT, vbT_63, vpbT_64))))) else (if (jrem x0 (16 : Int32)) = (10 : Int32) then (if (jrem (x0 / (16 : Int32)) (2 : Int32)) = 0 then (bt3 (mX4_learn vaT vpaT (jrem ((x0 / (16 : Int32)) / (2 : Int32)) (6 : Int32))) (fun r_68 vaT_69 vpaT_70 => (some ((0 : Int32), viT, vjT, vkT, vcT, vaT_69, vpaT_70, vbT, vpbT)))) else (bt3 (mX4_learn vbT vpbT (jrem ((x0 / (16 : Int32)) / (2 : Int32)) (6 : Int32))) (fun r_72 vbT_73 vpbT_74 => (some ((0 : Int32), viT, vjT, vkT, vcT, vaT, vpaT, vbT_73, vpbT_74))))) else (if (jrem x0 (16 : Int32)) = (11 : Int32) then (if (jrem ((x0 / (16 : Int32)) / (2 : Int32)) (4 : Int32)) = 0 then (if (jrem (x0 / (16 : Int32)) (2 : Int32)) = 0 then (bt1 (mX4_forgetProgram vaT) (fun vaT_79 => (some ((0 : Int32), viT, vjT, vkT, vcT, vaT_79, vpaT, vbT, vpbT)))) else (bt1 (mX4_forgetProgram vbT) (fun vbT_81 => (some ((0 : Int32), viT, vjT, vkT, vcT, vaT, vpaT, vbT_81, vpbT))))) else (some ((0 : Int32), viT, vjT, vkT, vcT, vaT, vpaT, vbT, vpbT))) else (some (((1 : Int32) + (jrem (x0 / (16 : Int32)) (4 : Int32))), viT, vjT, vkT, vcT, vaT, vpaT, vbT, vpbT))))))))))))))
set_option maxHeartbeats 4000000 in
set_option maxRecDepth 100000 in
theorem kX8_makeTurn (l : Launch) (Γ : my_G) (q_bf q_flT q_kT q_cT q_aT q_paT q_bT q_pbT q_tx q_fl q_hi q_s1 q_s2 q_fd q_kc q_kr : Nat) (viT : Nat → Int32) (vjT : Nat → Int64) (vkT : Nat → Int32) (vcT : Nat → Int32) (vaT : Nat → Int32) (vpaT : Nat → Int32) (vbT : Nat → Int32) (vpbT : Nat → Int32) (x0 : Int32) (rr : Int32) (viT_z : Nat → Int32) (vjT_z : Nat → Int64) (vkT_z : Nat → Int32) (vcT_z : Nat → Int32) (vaT_z : Nat → Int32) (vpaT_z : Nat → Int32) (vbT_z : Nat → Int32) (vpbT_z : Nat → Int32) (hm : mX8_makeTurn viT vjT vkT vcT vaT vpaT vbT vpbT x0 = (some (rr, viT_z, vjT_z, vkT_z, vcT_z, vaT_z, vpaT_z, vbT_z, vpbT_z))) : Mn l yX8_makeTurn wsX8_makeTurn ({ frames := 4, cells := 0, slots := 0, locals := 88 } : Room) Γ [.ref q_bf, .int x0] (wBF Γ q_bf q_tx q_fl q_flT q_hi q_s1 q_s2 q_fd q_kc q_kr  ++ wFloor Γ q_flT q_kT q_cT q_aT q_paT q_bT q_pbT viT vjT vkT vcT vaT vpaT vbT vpbT) (some (.int rr)) (wBF Γ q_bf q_tx q_fl q_flT q_hi q_s1 q_s2 q_fd q_kc q_kr  ++ wFloor Γ q_flT q_kT q_cT q_aT q_paT q_bT q_pbT viT_z vjT_z vkT_z vcT_z vaT_z vpaT_z vbT_z vpbT_z) := by
  intro sz
  refine Met.ofW (cc := cX8_makeTurn) (maxL := 3) (ret := (some .int)) (by decide) rfl ?_
  intro p e s m args below meth c s₁ B hml hv
  obtain ⟨rfl, hsz, hP, hK, hD0⟩ := hv
  have hx := B.exec
  have hb := B.bytes
  have hr := B.returns
  have hts := atoms_spec (ws := wsX8_makeTurn) B.pre
  have hown : s.vm.findClass RX8 = some m.cls := findClass_of_methodNamed B.named
  have hlocks := B.notSynchronized
  have hinX1 : ∀ w ∈ u_ws RX1 TX1 12, w ∈ wsX8_makeTurn := fun w h => List.mem_cons_of_mem _ (List.mem_append_left _ (List.mem_append_right _ h))
  have hinX4 : ∀ w ∈ u_ws RX4 TX4 10, w ∈ wsX8_makeTurn := fun w h => List.mem_cons_of_mem _ (List.mem_append_right _ h)
  have hinX8 : ∀ w ∈ u_ws RX8 TX8 9, w ∈ wsX8_makeTurn := fun w h => List.mem_cons_of_mem _ (List.mem_append_left _ (List.mem_append_left _ (List.mem_append_right _ h)))
  subst hsz
  have hD := hD0.self (sz := s.heap.size)
  have hA : ∀ q : Nat, s.heap.size ≤ q → va_A (wBF Γ q_bf q_tx q_fl q_flT q_hi q_s1 q_s2 q_fd q_kc q_kr  ++ wFloor Γ q_flT q_kT q_cT q_aT q_paT q_bT q_pbT viT vjT vkT vcT vaT vpaT vbT vpbT) s.heap.size q := fun q h => Or.inr h
  generalize va_A (wBF Γ q_bf q_tx q_fl q_flT q_hi q_s1 q_s2 q_fd q_kc q_kr  ++ wFloor Γ q_flT q_kT q_cT q_aT q_paT q_bT q_pbT viT vjT vkT vcT vaT vpaT vbT vpbT) s.heap.size = A at hD hA ⊢
  have hS : va_S A s.heap s.heap [] := va_S.rf
  have hl := lv_entry ([.ref q_bf, .int x0]) (n := 3) (Nat.le_of_ble_eq_true rfl)
  rw [lg_entry_eq]
  generalize (lg_sl ([.ref q_bf, .int x0]) ++ List.replicate (3 - (lg_sl ([.ref q_bf, .int x0])).length) Slot.unset).toArray = ls at hl ⊢
  replace hl : lv_has ls 3 [(0, .ref q_bf), (1, .int x0)] := hl
  unfold mX8_makeTurn at hm
  refine lv_iload_n hx hb dX8_makeTurn_0 rfl (lv_at hl 1 rfl) ?_
  refine lv_bipush (v := (16 : Int32)) hx hb dX8_makeTurn_1 (by decide) ?_
  refine lv_idiv hx hb dX8_makeTurn_3 (by decide) ?_
  refine lv_istore_n (lv' := [(2, .int (x0 / (16 : Int32))), (0, .ref q_bf), (1, .int x0)]) hx hb dX8_makeTurn_4 rfl hl (by decide) rfl (fun ls hl => ?_)
  refine lv_iload_n hx hb dX8_makeTurn_5 rfl (lv_at hl 2 rfl) ?_
  refine lv_bipush (v := (16 : Int32)) hx hb dX8_makeTurn_6 (by decide) ?_
  refine my_irem hx hb dX8_makeTurn_8 (by decide) ?_
  by_cases c_1 : (jrem x0 (16 : Int32)) = (0 : Int32)
  · replace hm := if_s hm c_1
    refine lv_tableIn (off := 63) (tgt := 72) hx hb dX8_makeTurn_9 (by rw [c_1]; decide) (by rw [c_1]; decide) (by rw [c_1]; rfl) (by decide) ?_
    refine lv_aload_n hx hb dX8_makeTurn_72 rfl (lv_at hl 1 rfl) ?_
    refine va_get (D := my_D Γ) (ci := 6) (v := .ref q_flT) (C := RX8) (T := TX8) (N := 9) hx hb hts hinX8 hown hK hP 0 rfl rfl 2 (by decide) (hts (.fieldLink RX8 23 "BeltFloor" "trial" "LBeltFloor$Floor;") (List.mem_of_getElem? (i := 1) rfl)) (fun _ h9 => h9) rfl dX8_makeTurn_73 ?_
    refine lv_iload_n hx hb dX8_makeTurn_76 rfl (lv_at hl 0 rfl) ?_
    refine lv_bipush (v := (36 : Int32)) hx hb dX8_makeTurn_77 (by decide) ?_
    refine my_irem hx hb dX8_makeTurn_79 (by decide) ?_
    refine lv_iload_n hx hb dX8_makeTurn_80 rfl (lv_at hl 0 rfl) ?_
    refine lv_bipush (v := (64 : Int32)) hx hb dX8_makeTurn_81 (by decide) ?_
    refine lv_idiv hx hb dX8_makeTurn_83 (by decide) ?_
    refine lv_bipush (v := (7 : Int32)) hx hb dX8_makeTurn_84 (by decide) ?_
    refine my_irem hx hb dX8_makeTurn_86 (by decide) ?_
    obtain ⟨r_2, vjT_3, vkT_4, hc_5, hm⟩ := bo3_s hm
    refine my_call1 (wc := (wFloor Γ q_flT q_kT q_cT q_aT q_paT q_bT q_pbT viT vjT vkT vcT vaT vpaT vbT vpbT)) (w1 := (wFloor Γ q_flT q_kT q_cT q_aT q_paT q_bT q_pbT viT vjT_3 vkT_4 vcT vaT vpaT vbT vpbT)) (ws1 := (wBF Γ q_bf q_tx q_fl q_flT q_hi q_s1 q_s2 q_fd q_kc q_kr  ++ wFloor Γ q_flT q_kT q_cT q_aT q_paT q_bT q_pbT viT vjT_3 vkT_4 vcT vaT vpaT vbT vpbT)) hP hD hS hA [1, 2, 3, 4, 5, 6, 7] rfl rfl rfl (va_runV (As := [.int (jrem (x0 / (16 : Int32)) (36 : Int32)), .int (jrem ((x0 / (16 : Int32)) / (64 : Int32)) (7 : Int32))]) (rest := []) ⟨hx, hb, hml, hown, hts⟩ (kX1_giveKind l Γ q_flT q_kT q_cT q_aT q_paT q_bT q_pbT viT vjT vkT vcT vaT vpaT vbT vpbT (jrem (x0 / (16 : Int32)) (36 : Int32)) (jrem ((x0 / (16 : Int32)) / (64 : Int32)) (7 : Int32)) r_2 vjT_3 vkT_4 hc_5 _) (cwV 2 hts gX8_makeTurn_X1_giveKind rfl rfl rfl (by decide +kernel) ⟨Nat.le_of_ble_eq_true rfl, Nat.le_of_ble_eq_true rfl⟩) (my_preV (wc := (wFloor Γ q_flT q_kT q_cT q_aT q_paT q_bT q_pbT viT vjT vkT vcT vaT vpaT vbT vpbT)) (ci := 1) (q0 := 1) [1, 2, 3, 4, 5, 6, 7] hK hP hD rfl rfl rfl rfl) rfl rfl hl.1 rfl (lv_room (Nat.le_of_ble_eq_true rfl)) dX8_makeTurn_87 ⟨Nat.le_of_ble_eq_true rfl, Nat.le_of_ble_eq_true rfl⟩) (fun H locs hP hD hS => ?_)
    refine lv_pop hx hb dX8_makeTurn_90 rfl ?_
    refine lv_iconst (v := (0 : Int32)) hx hb dX8_makeTurn_91 (by decide) ?_
    obtain ⟨hf0, hf1, hf2, hf3, hf4, hf5, hf6, hf7, hf8⟩ := si9 hm
    subst hf0
    subst hf1
    subst hf2
    subst hf3
    subst hf4
    subst hf5
    subst hf6
    subst hf7
    subst hf8
    exact W.iret (v := (0 : Int32)) hx hb hr (fun t ht hW => ⟨⟨rfl, by rw [ht]; exact hP⟩, hS.F ht⟩) hS.2.2 dX8_makeTurn_92
  · replace hm := if_f hm c_1
    by_cases c_6 : (jrem x0 (16 : Int32)) = (1 : Int32)
    · replace hm := if_s hm c_6
      refine lv_tableIn (off := 63) (tgt := 72) hx hb dX8_makeTurn_9 (by rw [c_6]; decide) (by rw [c_6]; decide) (by rw [c_6]; rfl) (by decide) ?_
      refine lv_aload_n hx hb dX8_makeTurn_72 rfl (lv_at hl 1 rfl) ?_
      refine va_get (D := my_D Γ) (ci := 6) (v := .ref q_flT) (C := RX8) (T := TX8) (N := 9) hx hb hts hinX8 hown hK hP 0 rfl rfl 2 (by decide) (hts (.fieldLink RX8 23 "BeltFloor" "trial" "LBeltFloor$Floor;") (List.mem_of_getElem? (i := 1) rfl)) (fun _ h9 => h9) rfl dX8_makeTurn_73 ?_
      refine lv_iload_n hx hb dX8_makeTurn_76 rfl (lv_at hl 0 rfl) ?_
      refine lv_bipush (v := (36 : Int32)) hx hb dX8_makeTurn_77 (by decide) ?_
      refine my_irem hx hb dX8_makeTurn_79 (by decide) ?_
      refine lv_iload_n hx hb dX8_makeTurn_80 rfl (lv_at hl 0 rfl) ?_
      refine lv_bipush (v := (64 : Int32)) hx hb dX8_makeTurn_81 (by decide) ?_
      refine lv_idiv hx hb dX8_makeTurn_83 (by decide) ?_
      refine lv_bipush (v := (7 : Int32)) hx hb dX8_makeTurn_84 (by decide) ?_
      refine my_irem hx hb dX8_makeTurn_86 (by decide) ?_
      obtain ⟨r_7, vjT_8, vkT_9, hc_10, hm⟩ := bo3_s hm
      refine my_call1 (wc := (wFloor Γ q_flT q_kT q_cT q_aT q_paT q_bT q_pbT viT vjT vkT vcT vaT vpaT vbT vpbT)) (w1 := (wFloor Γ q_flT q_kT q_cT q_aT q_paT q_bT q_pbT viT vjT_8 vkT_9 vcT vaT vpaT vbT vpbT)) (ws1 := (wBF Γ q_bf q_tx q_fl q_flT q_hi q_s1 q_s2 q_fd q_kc q_kr  ++ wFloor Γ q_flT q_kT q_cT q_aT q_paT q_bT q_pbT viT vjT_8 vkT_9 vcT vaT vpaT vbT vpbT)) hP hD hS hA [1, 2, 3, 4, 5, 6, 7] rfl rfl rfl (va_runV (As := [.int (jrem (x0 / (16 : Int32)) (36 : Int32)), .int (jrem ((x0 / (16 : Int32)) / (64 : Int32)) (7 : Int32))]) (rest := []) ⟨hx, hb, hml, hown, hts⟩ (kX1_giveKind l Γ q_flT q_kT q_cT q_aT q_paT q_bT q_pbT viT vjT vkT vcT vaT vpaT vbT vpbT (jrem (x0 / (16 : Int32)) (36 : Int32)) (jrem ((x0 / (16 : Int32)) / (64 : Int32)) (7 : Int32)) r_7 vjT_8 vkT_9 hc_10 _) (cwV 2 hts gX8_makeTurn_X1_giveKind rfl rfl rfl (by decide +kernel) ⟨Nat.le_of_ble_eq_true rfl, Nat.le_of_ble_eq_true rfl⟩) (my_preV (wc := (wFloor Γ q_flT q_kT q_cT q_aT q_paT q_bT q_pbT viT vjT vkT vcT vaT vpaT vbT vpbT)) (ci := 1) (q0 := 1) [1, 2, 3, 4, 5, 6, 7] hK hP hD rfl rfl rfl rfl) rfl rfl hl.1 rfl (lv_room (Nat.le_of_ble_eq_true rfl)) dX8_makeTurn_87 ⟨Nat.le_of_ble_eq_true rfl, Nat.le_of_ble_eq_true rfl⟩) (fun H locs hP hD hS => ?_)
      refine lv_pop hx hb dX8_makeTurn_90 rfl ?_
      refine lv_iconst (v := (0 : Int32)) hx hb dX8_makeTurn_91 (by decide) ?_
      obtain ⟨hf0, hf1, hf2, hf3, hf4, hf5, hf6, hf7, hf8⟩ := si9 hm
      subst hf0
      subst hf1
      subst hf2
      subst hf3
      subst hf4
      subst hf5
      subst hf6
      subst hf7
      subst hf8
      exact W.iret (v := (0 : Int32)) hx hb hr (fun t ht hW => ⟨⟨rfl, by rw [ht]; exact hP⟩, hS.F ht⟩) hS.2.2 dX8_makeTurn_92
    · replace hm := if_f hm c_6
      by_cases c_11 : (jrem x0 (16 : Int32)) = (2 : Int32)
      · replace hm := if_s hm c_11
        refine lv_tableIn (off := 63) (tgt := 72) hx hb dX8_makeTurn_9 (by rw [c_11]; decide) (by rw [c_11]; decide) (by rw [c_11]; rfl) (by decide) ?_
        refine lv_aload_n hx hb dX8_makeTurn_72 rfl (lv_at hl 1 rfl) ?_
        refine va_get (D := my_D Γ) (ci := 6) (v := .ref q_flT) (C := RX8) (T := TX8) (N := 9) hx hb hts hinX8 hown hK hP 0 rfl rfl 2 (by decide) (hts (.fieldLink RX8 23 "BeltFloor" "trial" "LBeltFloor$Floor;") (List.mem_of_getElem? (i := 1) rfl)) (fun _ h9 => h9) rfl dX8_makeTurn_73 ?_
        refine lv_iload_n hx hb dX8_makeTurn_76 rfl (lv_at hl 0 rfl) ?_
        refine lv_bipush (v := (36 : Int32)) hx hb dX8_makeTurn_77 (by decide) ?_
        refine my_irem hx hb dX8_makeTurn_79 (by decide) ?_
        refine lv_iload_n hx hb dX8_makeTurn_80 rfl (lv_at hl 0 rfl) ?_
        refine lv_bipush (v := (64 : Int32)) hx hb dX8_makeTurn_81 (by decide) ?_
        refine lv_idiv hx hb dX8_makeTurn_83 (by decide) ?_
        refine lv_bipush (v := (7 : Int32)) hx hb dX8_makeTurn_84 (by decide) ?_
        refine my_irem hx hb dX8_makeTurn_86 (by decide) ?_
        obtain ⟨r_12, vjT_13, vkT_14, hc_15, hm⟩ := bo3_s hm
        refine my_call1 (wc := (wFloor Γ q_flT q_kT q_cT q_aT q_paT q_bT q_pbT viT vjT vkT vcT vaT vpaT vbT vpbT)) (w1 := (wFloor Γ q_flT q_kT q_cT q_aT q_paT q_bT q_pbT viT vjT_13 vkT_14 vcT vaT vpaT vbT vpbT)) (ws1 := (wBF Γ q_bf q_tx q_fl q_flT q_hi q_s1 q_s2 q_fd q_kc q_kr  ++ wFloor Γ q_flT q_kT q_cT q_aT q_paT q_bT q_pbT viT vjT_13 vkT_14 vcT vaT vpaT vbT vpbT)) hP hD hS hA [1, 2, 3, 4, 5, 6, 7] rfl rfl rfl (va_runV (As := [.int (jrem (x0 / (16 : Int32)) (36 : Int32)), .int (jrem ((x0 / (16 : Int32)) / (64 : Int32)) (7 : Int32))]) (rest := []) ⟨hx, hb, hml, hown, hts⟩ (kX1_giveKind l Γ q_flT q_kT q_cT q_aT q_paT q_bT q_pbT viT vjT vkT vcT vaT vpaT vbT vpbT (jrem (x0 / (16 : Int32)) (36 : Int32)) (jrem ((x0 / (16 : Int32)) / (64 : Int32)) (7 : Int32)) r_12 vjT_13 vkT_14 hc_15 _) (cwV 2 hts gX8_makeTurn_X1_giveKind rfl rfl rfl (by decide +kernel) ⟨Nat.le_of_ble_eq_true rfl, Nat.le_of_ble_eq_true rfl⟩) (my_preV (wc := (wFloor Γ q_flT q_kT q_cT q_aT q_paT q_bT q_pbT viT vjT vkT vcT vaT vpaT vbT vpbT)) (ci := 1) (q0 := 1) [1, 2, 3, 4, 5, 6, 7] hK hP hD rfl rfl rfl rfl) rfl rfl hl.1 rfl (lv_room (Nat.le_of_ble_eq_true rfl)) dX8_makeTurn_87 ⟨Nat.le_of_ble_eq_true rfl, Nat.le_of_ble_eq_true rfl⟩) (fun H locs hP hD hS => ?_)
        refine lv_pop hx hb dX8_makeTurn_90 rfl ?_
        refine lv_iconst (v := (0 : Int32)) hx hb dX8_makeTurn_91 (by decide) ?_
        obtain ⟨hf0, hf1, hf2, hf3, hf4, hf5, hf6, hf7, hf8⟩ := si9 hm
        subst hf0
        subst hf1
        subst hf2
        subst hf3
        subst hf4
        subst hf5
        subst hf6
        subst hf7
        subst hf8
        exact W.iret (v := (0 : Int32)) hx hb hr (fun t ht hW => ⟨⟨rfl, by rw [ht]; exact hP⟩, hS.F ht⟩) hS.2.2 dX8_makeTurn_92
      · replace hm := if_f hm c_11
        by_cases c_16 : (jrem x0 (16 : Int32)) = (3 : Int32)
        · replace hm := if_s hm c_16
          refine lv_tableIn (off := 84) (tgt := 93) hx hb dX8_makeTurn_9 (by rw [c_16]; decide) (by rw [c_16]; decide) (by rw [c_16]; rfl) (by decide) ?_
          refine lv_aload_n hx hb dX8_makeTurn_93 rfl (lv_at hl 1 rfl) ?_
          refine va_get (D := my_D Γ) (ci := 6) (v := .ref q_flT) (C := RX8) (T := TX8) (N := 9) hx hb hts hinX8 hown hK hP 0 rfl rfl 2 (by decide) (hts (.fieldLink RX8 23 "BeltFloor" "trial" "LBeltFloor$Floor;") (List.mem_of_getElem? (i := 1) rfl)) (fun _ h9 => h9) rfl dX8_makeTurn_94 ?_
          refine lv_iload_n hx hb dX8_makeTurn_97 rfl (lv_at hl 0 rfl) ?_
          refine lv_bipush (v := (36 : Int32)) hx hb dX8_makeTurn_98 (by decide) ?_
          refine my_irem hx hb dX8_makeTurn_100 (by decide) ?_
          obtain ⟨r_17, viT_18, vjT_19, hc_20, hm⟩ := bt3_s hm
          refine my_call1 (wc := (wFloor Γ q_flT q_kT q_cT q_aT q_paT q_bT q_pbT viT vjT vkT vcT vaT vpaT vbT vpbT)) (w1 := (wFloor Γ q_flT q_kT q_cT q_aT q_paT q_bT q_pbT viT_18 vjT_19 vkT vcT vaT vpaT vbT vpbT)) (ws1 := (wBF Γ q_bf q_tx q_fl q_flT q_hi q_s1 q_s2 q_fd q_kc q_kr  ++ wFloor Γ q_flT q_kT q_cT q_aT q_paT q_bT q_pbT viT_18 vjT_19 vkT vcT vaT vpaT vbT vpbT)) hP hD hS hA [1, 2, 3, 4, 5, 6, 7] rfl rfl rfl (va_runV (As := [.int (jrem (x0 / (16 : Int32)) (36 : Int32))]) (rest := []) ⟨hx, hb, hml, hown, hts⟩ (kX1_layCrate l Γ q_flT q_kT q_cT q_aT q_paT q_bT q_pbT viT vjT vkT vcT vaT vpaT vbT vpbT (jrem (x0 / (16 : Int32)) (36 : Int32)) r_17 viT_18 vjT_19 hc_20 _) (cwV 1 hts gX8_makeTurn_X1_layCrate rfl rfl rfl (by decide +kernel) ⟨Nat.le_of_ble_eq_true rfl, Nat.le_of_ble_eq_true rfl⟩) (my_preV (wc := (wFloor Γ q_flT q_kT q_cT q_aT q_paT q_bT q_pbT viT vjT vkT vcT vaT vpaT vbT vpbT)) (ci := 1) (q0 := 1) [1, 2, 3, 4, 5, 6, 7] hK hP hD rfl rfl rfl rfl) rfl rfl hl.1 rfl (lv_room (Nat.le_of_ble_eq_true rfl)) dX8_makeTurn_101 ⟨Nat.le_of_ble_eq_true rfl, Nat.le_of_ble_eq_true rfl⟩) (fun H locs hP hD hS => ?_)
          refine lv_pop hx hb dX8_makeTurn_104 rfl ?_
          refine lv_iconst (v := (0 : Int32)) hx hb dX8_makeTurn_105 (by decide) ?_
          obtain ⟨hf0, hf1, hf2, hf3, hf4, hf5, hf6, hf7, hf8⟩ := si9 hm
          subst hf0
          subst hf1
          subst hf2
          subst hf3
          subst hf4
          subst hf5
          subst hf6
          subst hf7
          subst hf8
          exact W.iret (v := (0 : Int32)) hx hb hr (fun t ht hW => ⟨⟨rfl, by rw [ht]; exact hP⟩, hS.F ht⟩) hS.2.2 dX8_makeTurn_106
        · replace hm := if_f hm c_16
          by_cases c_21 : (jrem x0 (16 : Int32)) = (4 : Int32)
          · replace hm := if_s hm c_21
            refine lv_tableIn (off := 84) (tgt := 93) hx hb dX8_makeTurn_9 (by rw [c_21]; decide) (by rw [c_21]; decide) (by rw [c_21]; rfl) (by decide) ?_
            refine lv_aload_n hx hb dX8_makeTurn_93 rfl (lv_at hl 1 rfl) ?_
            refine va_get (D := my_D Γ) (ci := 6) (v := .ref q_flT) (C := RX8) (T := TX8) (N := 9) hx hb hts hinX8 hown hK hP 0 rfl rfl 2 (by decide) (hts (.fieldLink RX8 23 "BeltFloor" "trial" "LBeltFloor$Floor;") (List.mem_of_getElem? (i := 1) rfl)) (fun _ h9 => h9) rfl dX8_makeTurn_94 ?_
            refine lv_iload_n hx hb dX8_makeTurn_97 rfl (lv_at hl 0 rfl) ?_
            refine lv_bipush (v := (36 : Int32)) hx hb dX8_makeTurn_98 (by decide) ?_
            refine my_irem hx hb dX8_makeTurn_100 (by decide) ?_
            obtain ⟨r_22, viT_23, vjT_24, hc_25, hm⟩ := bt3_s hm
            refine my_call1 (wc := (wFloor Γ q_flT q_kT q_cT q_aT q_paT q_bT q_pbT viT vjT vkT vcT vaT vpaT vbT vpbT)) (w1 := (wFloor Γ q_flT q_kT q_cT q_aT q_paT q_bT q_pbT viT_23 vjT_24 vkT vcT vaT vpaT vbT vpbT)) (ws1 := (wBF Γ q_bf q_tx q_fl q_flT q_hi q_s1 q_s2 q_fd q_kc q_kr  ++ wFloor Γ q_flT q_kT q_cT q_aT q_paT q_bT q_pbT viT_23 vjT_24 vkT vcT vaT vpaT vbT vpbT)) hP hD hS hA [1, 2, 3, 4, 5, 6, 7] rfl rfl rfl (va_runV (As := [.int (jrem (x0 / (16 : Int32)) (36 : Int32))]) (rest := []) ⟨hx, hb, hml, hown, hts⟩ (kX1_layCrate l Γ q_flT q_kT q_cT q_aT q_paT q_bT q_pbT viT vjT vkT vcT vaT vpaT vbT vpbT (jrem (x0 / (16 : Int32)) (36 : Int32)) r_22 viT_23 vjT_24 hc_25 _) (cwV 1 hts gX8_makeTurn_X1_layCrate rfl rfl rfl (by decide +kernel) ⟨Nat.le_of_ble_eq_true rfl, Nat.le_of_ble_eq_true rfl⟩) (my_preV (wc := (wFloor Γ q_flT q_kT q_cT q_aT q_paT q_bT q_pbT viT vjT vkT vcT vaT vpaT vbT vpbT)) (ci := 1) (q0 := 1) [1, 2, 3, 4, 5, 6, 7] hK hP hD rfl rfl rfl rfl) rfl rfl hl.1 rfl (lv_room (Nat.le_of_ble_eq_true rfl)) dX8_makeTurn_101 ⟨Nat.le_of_ble_eq_true rfl, Nat.le_of_ble_eq_true rfl⟩) (fun H locs hP hD hS => ?_)
            refine lv_pop hx hb dX8_makeTurn_104 rfl ?_
            refine lv_iconst (v := (0 : Int32)) hx hb dX8_makeTurn_105 (by decide) ?_
            obtain ⟨hf0, hf1, hf2, hf3, hf4, hf5, hf6, hf7, hf8⟩ := si9 hm
            subst hf0
            subst hf1
            subst hf2
            subst hf3
            subst hf4
            subst hf5
            subst hf6
            subst hf7
            subst hf8
            exact W.iret (v := (0 : Int32)) hx hb hr (fun t ht hW => ⟨⟨rfl, by rw [ht]; exact hP⟩, hS.F ht⟩) hS.2.2 dX8_makeTurn_106
          · replace hm := if_f hm c_21
            by_cases c_26 : (jrem x0 (16 : Int32)) = (5 : Int32)
            · replace hm := if_s hm c_26
              refine lv_tableIn (off := 98) (tgt := 107) hx hb dX8_makeTurn_9 (by rw [c_26]; decide) (by rw [c_26]; decide) (by rw [c_26]; rfl) (by decide) ?_
              refine lv_aload_n hx hb dX8_makeTurn_107 rfl (lv_at hl 1 rfl) ?_
              refine va_get (D := my_D Γ) (ci := 6) (v := .ref q_flT) (C := RX8) (T := TX8) (N := 9) hx hb hts hinX8 hown hK hP 0 rfl rfl 2 (by decide) (hts (.fieldLink RX8 23 "BeltFloor" "trial" "LBeltFloor$Floor;") (List.mem_of_getElem? (i := 1) rfl)) (fun _ h9 => h9) rfl dX8_makeTurn_108 ?_
              refine lv_iload_n hx hb dX8_makeTurn_111 rfl (lv_at hl 0 rfl) ?_
              refine lv_bipush (v := (36 : Int32)) hx hb dX8_makeTurn_112 (by decide) ?_
              refine my_irem hx hb dX8_makeTurn_114 (by decide) ?_
              obtain ⟨r_27, viT_28, vcT_29, hc_30, hm⟩ := bo3_s hm
              refine my_call1 (wc := (wFloor Γ q_flT q_kT q_cT q_aT q_paT q_bT q_pbT viT vjT vkT vcT vaT vpaT vbT vpbT)) (w1 := (wFloor Γ q_flT q_kT q_cT q_aT q_paT q_bT q_pbT viT_28 vjT vkT vcT_29 vaT vpaT vbT vpbT)) (ws1 := (wBF Γ q_bf q_tx q_fl q_flT q_hi q_s1 q_s2 q_fd q_kc q_kr  ++ wFloor Γ q_flT q_kT q_cT q_aT q_paT q_bT q_pbT viT_28 vjT vkT vcT_29 vaT vpaT vbT vpbT)) hP hD hS hA [1, 2, 3, 4, 5, 6, 7] rfl rfl rfl (va_runV (As := [.int (jrem (x0 / (16 : Int32)) (36 : Int32))]) (rest := []) ⟨hx, hb, hml, hown, hts⟩ (kX1_markCheckpoint l Γ q_flT q_kT q_cT q_aT q_paT q_bT q_pbT viT vjT vkT vcT vaT vpaT vbT vpbT (jrem (x0 / (16 : Int32)) (36 : Int32)) r_27 viT_28 vcT_29 hc_30 _) (cwV 1 hts gX8_makeTurn_X1_markCheckpoint rfl rfl rfl (by decide +kernel) ⟨Nat.le_of_ble_eq_true rfl, Nat.le_of_ble_eq_true rfl⟩) (my_preV (wc := (wFloor Γ q_flT q_kT q_cT q_aT q_paT q_bT q_pbT viT vjT vkT vcT vaT vpaT vbT vpbT)) (ci := 1) (q0 := 1) [1, 2, 3, 4, 5, 6, 7] hK hP hD rfl rfl rfl rfl) rfl rfl hl.1 rfl (lv_room (Nat.le_of_ble_eq_true rfl)) dX8_makeTurn_115 ⟨Nat.le_of_ble_eq_true rfl, Nat.le_of_ble_eq_true rfl⟩) (fun H locs hP hD hS => ?_)
              refine lv_pop hx hb dX8_makeTurn_118 rfl ?_
              refine lv_iconst (v := (0 : Int32)) hx hb dX8_makeTurn_119 (by decide) ?_
              obtain ⟨hf0, hf1, hf2, hf3, hf4, hf5, hf6, hf7, hf8⟩ := si9 hm
              subst hf0
              subst hf1
              subst hf2
              subst hf3
              subst hf4
              subst hf5
              subst hf6
              subst hf7
              subst hf8
              exact W.iret (v := (0 : Int32)) hx hb hr (fun t ht hW => ⟨⟨rfl, by rw [ht]; exact hP⟩, hS.F ht⟩) hS.2.2 dX8_makeTurn_120
            · replace hm := if_f hm c_26
              by_cases c_31 : (jrem x0 (16 : Int32)) = (6 : Int32)
              · replace hm := if_s hm c_31
                refine lv_tableIn (off := 112) (tgt := 121) hx hb dX8_makeTurn_9 (by rw [c_31]; decide) (by rw [c_31]; decide) (by rw [c_31]; rfl) (by decide) ?_
                refine lv_aload_n hx hb dX8_makeTurn_121 rfl (lv_at hl 1 rfl) ?_
                refine va_get (D := my_D Γ) (ci := 6) (v := .ref q_flT) (C := RX8) (T := TX8) (N := 9) hx hb hts hinX8 hown hK hP 0 rfl rfl 2 (by decide) (hts (.fieldLink RX8 23 "BeltFloor" "trial" "LBeltFloor$Floor;") (List.mem_of_getElem? (i := 1) rfl)) (fun _ h9 => h9) rfl dX8_makeTurn_122 ?_
                refine lv_iload_n hx hb dX8_makeTurn_125 rfl (lv_at hl 0 rfl) ?_
                refine lv_iconst (v := (2 : Int32)) hx hb dX8_makeTurn_126 (by decide) ?_
                refine my_irem hx hb dX8_makeTurn_127 (by decide) ?_
                refine lv_iload_n hx hb dX8_makeTurn_128 rfl (lv_at hl 0 rfl) ?_
                refine lv_iconst (v := (2 : Int32)) hx hb dX8_makeTurn_129 (by decide) ?_
                refine lv_idiv hx hb dX8_makeTurn_130 (by decide) ?_
                refine lv_bipush (v := (36 : Int32)) hx hb dX8_makeTurn_131 (by decide) ?_
                refine my_irem hx hb dX8_makeTurn_133 (by decide) ?_
                refine lv_iload_n hx hb dX8_makeTurn_134 rfl (lv_at hl 0 rfl) ?_
                refine lv_sipush (v := (128 : Int32)) hx hb dX8_makeTurn_135 (by decide) ?_
                refine lv_idiv hx hb dX8_makeTurn_138 (by decide) ?_
                refine lv_iconst (v := (4 : Int32)) hx hb dX8_makeTurn_139 (by decide) ?_
                refine my_irem hx hb dX8_makeTurn_140 (by decide) ?_
                obtain ⟨r_32, vaT_33, vbT_34, hc_35, hm⟩ := bt3_s hm
                refine my_call1 (wc := (wFloor Γ q_flT q_kT q_cT q_aT q_paT q_bT q_pbT viT vjT vkT vcT vaT vpaT vbT vpbT)) (w1 := (wFloor Γ q_flT q_kT q_cT q_aT q_paT q_bT q_pbT viT vjT vkT vcT vaT_33 vpaT vbT_34 vpbT)) (ws1 := (wBF Γ q_bf q_tx q_fl q_flT q_hi q_s1 q_s2 q_fd q_kc q_kr  ++ wFloor Γ q_flT q_kT q_cT q_aT q_paT q_bT q_pbT viT vjT vkT vcT vaT_33 vpaT vbT_34 vpbT)) hP hD hS hA [1, 2, 3, 4, 5, 6, 7] rfl rfl rfl (va_runV (As := [.int (jrem (x0 / (16 : Int32)) (2 : Int32)), .int (jrem ((x0 / (16 : Int32)) / (2 : Int32)) (36 : Int32)), .int (jrem ((x0 / (16 : Int32)) / (128 : Int32)) (4 : Int32))]) (rest := []) ⟨hx, hb, hml, hown, hts⟩ (kX1_placeRobot l Γ q_flT q_kT q_cT q_aT q_paT q_bT q_pbT viT vjT vkT vcT vaT vpaT vbT vpbT (jrem (x0 / (16 : Int32)) (2 : Int32)) (jrem ((x0 / (16 : Int32)) / (2 : Int32)) (36 : Int32)) (jrem ((x0 / (16 : Int32)) / (128 : Int32)) (4 : Int32)) r_32 vaT_33 vbT_34 hc_35 _) (cwV 3 hts gX8_makeTurn_X1_placeRobot rfl rfl rfl (by decide +kernel) ⟨Nat.le_of_ble_eq_true rfl, Nat.le_of_ble_eq_true rfl⟩) (my_preV (wc := (wFloor Γ q_flT q_kT q_cT q_aT q_paT q_bT q_pbT viT vjT vkT vcT vaT vpaT vbT vpbT)) (ci := 1) (q0 := 1) [1, 2, 3, 4, 5, 6, 7] hK hP hD rfl rfl rfl rfl) rfl rfl hl.1 rfl (lv_room (Nat.le_of_ble_eq_true rfl)) dX8_makeTurn_141 ⟨Nat.le_of_ble_eq_true rfl, Nat.le_of_ble_eq_true rfl⟩) (fun H locs hP hD hS => ?_)
                refine lv_pop hx hb dX8_makeTurn_144 rfl ?_
                refine lv_iconst (v := (0 : Int32)) hx hb dX8_makeTurn_145 (by decide) ?_
                obtain ⟨hf0, hf1, hf2, hf3, hf4, hf5, hf6, hf7, hf8⟩ := si9 hm
                subst hf0
                subst hf1
                subst hf2
                subst hf3
                subst hf4
                subst hf5
                subst hf6
                subst hf7
                subst hf8
                exact W.iret (v := (0 : Int32)) hx hb hr (fun t ht hW => ⟨⟨rfl, by rw [ht]; exact hP⟩, hS.F ht⟩) hS.2.2 dX8_makeTurn_146
              · replace hm := if_f hm c_31
                by_cases c_36 : (jrem x0 (16 : Int32)) = (7 : Int32)
                · replace hm := if_s hm c_36
                  refine lv_tableIn (off := 138) (tgt := 147) hx hb dX8_makeTurn_9 (by rw [c_36]; decide) (by rw [c_36]; decide) (by rw [c_36]; rfl) (by decide) ?_
                  refine lv_aload_n hx hb dX8_makeTurn_147 rfl (lv_at hl 1 rfl) ?_
                  refine va_get (D := my_D Γ) (ci := 6) (v := .ref q_flT) (C := RX8) (T := TX8) (N := 9) hx hb hts hinX8 hown hK hP 0 rfl rfl 2 (by decide) (hts (.fieldLink RX8 23 "BeltFloor" "trial" "LBeltFloor$Floor;") (List.mem_of_getElem? (i := 1) rfl)) (fun _ h9 => h9) rfl dX8_makeTurn_148 ?_
                  refine lv_iload_n hx hb dX8_makeTurn_151 rfl (lv_at hl 0 rfl) ?_
                  refine lv_iconst (v := (2 : Int32)) hx hb dX8_makeTurn_152 (by decide) ?_
                  refine my_irem hx hb dX8_makeTurn_153 (by decide) ?_
                  by_cases c_37 : (jrem (x0 / (16 : Int32)) (2 : Int32)) = 0
                  · replace hm := if_s hm c_37
                    refine my_call1 (wc := (wFloor Γ q_flT q_kT q_cT q_aT q_paT q_bT q_pbT viT vjT vkT vcT vaT vpaT vbT vpbT)) (w1 := (wFloor Γ q_flT q_kT q_cT q_aT q_paT q_bT q_pbT viT vjT vkT vcT vaT vpaT vbT vpbT)) (ws1 := (wBF Γ q_bf q_tx q_fl q_flT q_hi q_s1 q_s2 q_fd q_kc q_kr  ++ wFloor Γ q_flT q_kT q_cT q_aT q_paT q_bT q_pbT viT vjT vkT vcT vaT vpaT vbT vpbT)) hP hD hS hA [1, 2, 3, 4, 5, 6, 7] rfl rfl rfl (va_runV (As := [.int (jrem (x0 / (16 : Int32)) (2 : Int32))]) (rest := []) ⟨hx, hb, hml, hown, hts⟩ (kX1_robot_0 l Γ q_flT q_kT q_cT q_aT q_paT q_bT q_pbT viT vjT vkT vcT vaT vpaT vbT vpbT (jrem (x0 / (16 : Int32)) (2 : Int32)) c_37 _) (cwV 1 hts gX8_makeTurn_X1_robot rfl rfl rfl (by decide +kernel) ⟨Nat.le_of_ble_eq_true rfl, Nat.le_of_ble_eq_true rfl⟩) (my_preV (wc := (wFloor Γ q_flT q_kT q_cT q_aT q_paT q_bT q_pbT viT vjT vkT vcT vaT vpaT vbT vpbT)) (ci := 1) (q0 := 1) [1, 2, 3, 4, 5, 6, 7] hK hP hD rfl rfl rfl rfl) rfl rfl hl.1 rfl (lv_room (Nat.le_of_ble_eq_true rfl)) dX8_makeTurn_154 ⟨Nat.le_of_ble_eq_true rfl, Nat.le_of_ble_eq_true rfl⟩) (fun H locs hP hD hS => ?_)
                    refine lv_iload_n hx hb dX8_makeTurn_157 rfl (lv_at hl 0 rfl) ?_
                    refine lv_iconst (v := (2 : Int32)) hx hb dX8_makeTurn_158 (by decide) ?_
                    refine lv_idiv hx hb dX8_makeTurn_159 (by decide) ?_
                    refine lv_bipush (v := (6 : Int32)) hx hb dX8_makeTurn_160 (by decide) ?_
                    refine my_irem hx hb dX8_makeTurn_162 (by decide) ?_
                    obtain ⟨r_38, vaT_39, vpaT_40, hc_41, hm⟩ := bt3_s hm
                    refine my_call1 (wc := (wRobot Γ q_aT q_paT vaT vpaT)) (w1 := (wRobot Γ q_aT q_paT vaT_39 vpaT_40)) (ws1 := (wBF Γ q_bf q_tx q_fl q_flT q_hi q_s1 q_s2 q_fd q_kc q_kr  ++ wFloor Γ q_flT q_kT q_cT q_aT q_paT q_bT q_pbT viT vjT vkT vcT vaT_39 vpaT_40 vbT vpbT)) hP hD hS hA [4, 5] rfl rfl rfl (va_runV (As := [.int (jrem ((x0 / (16 : Int32)) / (2 : Int32)) (6 : Int32))]) (rest := []) ⟨hx, hb, hml, hown, hts⟩ (kX4_learn l Γ q_aT q_paT vaT vpaT (jrem ((x0 / (16 : Int32)) / (2 : Int32)) (6 : Int32)) r_38 vaT_39 vpaT_40 hc_41 _) (cwV 1 hts gX8_makeTurn_X4_learn rfl rfl rfl (by decide +kernel) ⟨Nat.le_of_ble_eq_true rfl, Nat.le_of_ble_eq_true rfl⟩) (my_preV (wc := (wRobot Γ q_aT q_paT vaT vpaT)) (ci := 3) (q0 := 4) [4, 5] hK hP hD rfl rfl rfl rfl) rfl rfl hl.1 rfl (lv_room (Nat.le_of_ble_eq_true rfl)) dX8_makeTurn_163 ⟨Nat.le_of_ble_eq_true rfl, Nat.le_of_ble_eq_true rfl⟩) (fun H locs hP hD hS => ?_)
                    refine lv_pop hx hb dX8_makeTurn_166 rfl ?_
                    refine lv_iconst (v := (0 : Int32)) hx hb dX8_makeTurn_167 (by decide) ?_
                    obtain ⟨hf0, hf1, hf2, hf3, hf4, hf5, hf6, hf7, hf8⟩ := si9 hm
                    subst hf0
                    subst hf1
                    subst hf2
                    subst hf3
                    subst hf4
                    subst hf5
                    subst hf6
                    subst hf7
                    subst hf8
                    exact W.iret (v := (0 : Int32)) hx hb hr (fun t ht hW => ⟨⟨rfl, by rw [ht]; exact hP⟩, hS.F ht⟩) hS.2.2 dX8_makeTurn_168
                  · replace hm := if_f hm c_37
                    refine my_call1 (wc := (wFloor Γ q_flT q_kT q_cT q_aT q_paT q_bT q_pbT viT vjT vkT vcT vaT vpaT vbT vpbT)) (w1 := (wFloor Γ q_flT q_kT q_cT q_aT q_paT q_bT q_pbT viT vjT vkT vcT vaT vpaT vbT vpbT)) (ws1 := (wBF Γ q_bf q_tx q_fl q_flT q_hi q_s1 q_s2 q_fd q_kc q_kr  ++ wFloor Γ q_flT q_kT q_cT q_aT q_paT q_bT q_pbT viT vjT vkT vcT vaT vpaT vbT vpbT)) hP hD hS hA [1, 2, 3, 4, 5, 6, 7] rfl rfl rfl (va_runV (As := [.int (jrem (x0 / (16 : Int32)) (2 : Int32))]) (rest := []) ⟨hx, hb, hml, hown, hts⟩ (kX1_robot_1 l Γ q_flT q_kT q_cT q_aT q_paT q_bT q_pbT viT vjT vkT vcT vaT vpaT vbT vpbT (jrem (x0 / (16 : Int32)) (2 : Int32)) c_37 _) (cwV 1 hts gX8_makeTurn_X1_robot rfl rfl rfl (by decide +kernel) ⟨Nat.le_of_ble_eq_true rfl, Nat.le_of_ble_eq_true rfl⟩) (my_preV (wc := (wFloor Γ q_flT q_kT q_cT q_aT q_paT q_bT q_pbT viT vjT vkT vcT vaT vpaT vbT vpbT)) (ci := 1) (q0 := 1) [1, 2, 3, 4, 5, 6, 7] hK hP hD rfl rfl rfl rfl) rfl rfl hl.1 rfl (lv_room (Nat.le_of_ble_eq_true rfl)) dX8_makeTurn_154 ⟨Nat.le_of_ble_eq_true rfl, Nat.le_of_ble_eq_true rfl⟩) (fun H locs hP hD hS => ?_)
                    refine lv_iload_n hx hb dX8_makeTurn_157 rfl (lv_at hl 0 rfl) ?_
                    refine lv_iconst (v := (2 : Int32)) hx hb dX8_makeTurn_158 (by decide) ?_
                    refine lv_idiv hx hb dX8_makeTurn_159 (by decide) ?_
                    refine lv_bipush (v := (6 : Int32)) hx hb dX8_makeTurn_160 (by decide) ?_
                    refine my_irem hx hb dX8_makeTurn_162 (by decide) ?_
                    obtain ⟨r_42, vbT_43, vpbT_44, hc_45, hm⟩ := bt3_s hm
                    refine my_call1 (wc := (wRobot Γ q_bT q_pbT vbT vpbT)) (w1 := (wRobot Γ q_bT q_pbT vbT_43 vpbT_44)) (ws1 := (wBF Γ q_bf q_tx q_fl q_flT q_hi q_s1 q_s2 q_fd q_kc q_kr  ++ wFloor Γ q_flT q_kT q_cT q_aT q_paT q_bT q_pbT viT vjT vkT vcT vaT vpaT vbT_43 vpbT_44)) hP hD hS hA [6, 7] rfl rfl rfl (va_runV (As := [.int (jrem ((x0 / (16 : Int32)) / (2 : Int32)) (6 : Int32))]) (rest := []) ⟨hx, hb, hml, hown, hts⟩ (kX4_learn l Γ q_bT q_pbT vbT vpbT (jrem ((x0 / (16 : Int32)) / (2 : Int32)) (6 : Int32)) r_42 vbT_43 vpbT_44 hc_45 _) (cwV 1 hts gX8_makeTurn_X4_learn rfl rfl rfl (by decide +kernel) ⟨Nat.le_of_ble_eq_true rfl, Nat.le_of_ble_eq_true rfl⟩) (my_preV (wc := (wRobot Γ q_bT q_pbT vbT vpbT)) (ci := 3) (q0 := 6) [6, 7] hK hP hD rfl rfl rfl rfl) rfl rfl hl.1 rfl (lv_room (Nat.le_of_ble_eq_true rfl)) dX8_makeTurn_163 ⟨Nat.le_of_ble_eq_true rfl, Nat.le_of_ble_eq_true rfl⟩) (fun H locs hP hD hS => ?_)
                    refine lv_pop hx hb dX8_makeTurn_166 rfl ?_
                    refine lv_iconst (v := (0 : Int32)) hx hb dX8_makeTurn_167 (by decide) ?_
                    obtain ⟨hf0, hf1, hf2, hf3, hf4, hf5, hf6, hf7, hf8⟩ := si9 hm
                    subst hf0
                    subst hf1
                    subst hf2
                    subst hf3
                    subst hf4
                    subst hf5
                    subst hf6
                    subst hf7
                    subst hf8
                    exact W.iret (v := (0 : Int32)) hx hb hr (fun t ht hW => ⟨⟨rfl, by rw [ht]; exact hP⟩, hS.F ht⟩) hS.2.2 dX8_makeTurn_168
                · replace hm := if_f hm c_36
                  by_cases c_46 : (jrem x0 (16 : Int32)) = (8 : Int32)
                  · replace hm := if_s hm c_46
                    refine lv_tableIn (off := 138) (tgt := 147) hx hb dX8_makeTurn_9 (by rw [c_46]; decide) (by rw [c_46]; decide) (by rw [c_46]; rfl) (by decide) ?_
                    refine lv_aload_n hx hb dX8_makeTurn_147 rfl (lv_at hl 1 rfl) ?_
                    refine va_get (D := my_D Γ) (ci := 6) (v := .ref q_flT) (C := RX8) (T := TX8) (N := 9) hx hb hts hinX8 hown hK hP 0 rfl rfl 2 (by decide) (hts (.fieldLink RX8 23 "BeltFloor" "trial" "LBeltFloor$Floor;") (List.mem_of_getElem? (i := 1) rfl)) (fun _ h9 => h9) rfl dX8_makeTurn_148 ?_
                    refine lv_iload_n hx hb dX8_makeTurn_151 rfl (lv_at hl 0 rfl) ?_
                    refine lv_iconst (v := (2 : Int32)) hx hb dX8_makeTurn_152 (by decide) ?_
                    refine my_irem hx hb dX8_makeTurn_153 (by decide) ?_
                    by_cases c_47 : (jrem (x0 / (16 : Int32)) (2 : Int32)) = 0
                    · replace hm := if_s hm c_47
                      refine my_call1 (wc := (wFloor Γ q_flT q_kT q_cT q_aT q_paT q_bT q_pbT viT vjT vkT vcT vaT vpaT vbT vpbT)) (w1 := (wFloor Γ q_flT q_kT q_cT q_aT q_paT q_bT q_pbT viT vjT vkT vcT vaT vpaT vbT vpbT)) (ws1 := (wBF Γ q_bf q_tx q_fl q_flT q_hi q_s1 q_s2 q_fd q_kc q_kr  ++ wFloor Γ q_flT q_kT q_cT q_aT q_paT q_bT q_pbT viT vjT vkT vcT vaT vpaT vbT vpbT)) hP hD hS hA [1, 2, 3, 4, 5, 6, 7] rfl rfl rfl (va_runV (As := [.int (jrem (x0 / (16 : Int32)) (2 : Int32))]) (rest := []) ⟨hx, hb, hml, hown, hts⟩ (kX1_robot_0 l Γ q_flT q_kT q_cT q_aT q_paT q_bT q_pbT viT vjT vkT vcT vaT vpaT vbT vpbT (jrem (x0 / (16 : Int32)) (2 : Int32)) c_47 _) (cwV 1 hts gX8_makeTurn_X1_robot rfl rfl rfl (by decide +kernel) ⟨Nat.le_of_ble_eq_true rfl, Nat.le_of_ble_eq_true rfl⟩) (my_preV (wc := (wFloor Γ q_flT q_kT q_cT q_aT q_paT q_bT q_pbT viT vjT vkT vcT vaT vpaT vbT vpbT)) (ci := 1) (q0 := 1) [1, 2, 3, 4, 5, 6, 7] hK hP hD rfl rfl rfl rfl) rfl rfl hl.1 rfl (lv_room (Nat.le_of_ble_eq_true rfl)) dX8_makeTurn_154 ⟨Nat.le_of_ble_eq_true rfl, Nat.le_of_ble_eq_true rfl⟩) (fun H locs hP hD hS => ?_)
                      refine lv_iload_n hx hb dX8_makeTurn_157 rfl (lv_at hl 0 rfl) ?_
                      refine lv_iconst (v := (2 : Int32)) hx hb dX8_makeTurn_158 (by decide) ?_
                      refine lv_idiv hx hb dX8_makeTurn_159 (by decide) ?_
                      refine lv_bipush (v := (6 : Int32)) hx hb dX8_makeTurn_160 (by decide) ?_
                      refine my_irem hx hb dX8_makeTurn_162 (by decide) ?_
                      obtain ⟨r_48, vaT_49, vpaT_50, hc_51, hm⟩ := bt3_s hm
                      refine my_call1 (wc := (wRobot Γ q_aT q_paT vaT vpaT)) (w1 := (wRobot Γ q_aT q_paT vaT_49 vpaT_50)) (ws1 := (wBF Γ q_bf q_tx q_fl q_flT q_hi q_s1 q_s2 q_fd q_kc q_kr  ++ wFloor Γ q_flT q_kT q_cT q_aT q_paT q_bT q_pbT viT vjT vkT vcT vaT_49 vpaT_50 vbT vpbT)) hP hD hS hA [4, 5] rfl rfl rfl (va_runV (As := [.int (jrem ((x0 / (16 : Int32)) / (2 : Int32)) (6 : Int32))]) (rest := []) ⟨hx, hb, hml, hown, hts⟩ (kX4_learn l Γ q_aT q_paT vaT vpaT (jrem ((x0 / (16 : Int32)) / (2 : Int32)) (6 : Int32)) r_48 vaT_49 vpaT_50 hc_51 _) (cwV 1 hts gX8_makeTurn_X4_learn rfl rfl rfl (by decide +kernel) ⟨Nat.le_of_ble_eq_true rfl, Nat.le_of_ble_eq_true rfl⟩) (my_preV (wc := (wRobot Γ q_aT q_paT vaT vpaT)) (ci := 3) (q0 := 4) [4, 5] hK hP hD rfl rfl rfl rfl) rfl rfl hl.1 rfl (lv_room (Nat.le_of_ble_eq_true rfl)) dX8_makeTurn_163 ⟨Nat.le_of_ble_eq_true rfl, Nat.le_of_ble_eq_true rfl⟩) (fun H locs hP hD hS => ?_)
                      refine lv_pop hx hb dX8_makeTurn_166 rfl ?_
                      refine lv_iconst (v := (0 : Int32)) hx hb dX8_makeTurn_167 (by decide) ?_
                      obtain ⟨hf0, hf1, hf2, hf3, hf4, hf5, hf6, hf7, hf8⟩ := si9 hm
                      subst hf0
                      subst hf1
                      subst hf2
                      subst hf3
                      subst hf4
                      subst hf5
                      subst hf6
                      subst hf7
                      subst hf8
                      exact W.iret (v := (0 : Int32)) hx hb hr (fun t ht hW => ⟨⟨rfl, by rw [ht]; exact hP⟩, hS.F ht⟩) hS.2.2 dX8_makeTurn_168
                    · replace hm := if_f hm c_47
                      refine my_call1 (wc := (wFloor Γ q_flT q_kT q_cT q_aT q_paT q_bT q_pbT viT vjT vkT vcT vaT vpaT vbT vpbT)) (w1 := (wFloor Γ q_flT q_kT q_cT q_aT q_paT q_bT q_pbT viT vjT vkT vcT vaT vpaT vbT vpbT)) (ws1 := (wBF Γ q_bf q_tx q_fl q_flT q_hi q_s1 q_s2 q_fd q_kc q_kr  ++ wFloor Γ q_flT q_kT q_cT q_aT q_paT q_bT q_pbT viT vjT vkT vcT vaT vpaT vbT vpbT)) hP hD hS hA [1, 2, 3, 4, 5, 6, 7] rfl rfl rfl (va_runV (As := [.int (jrem (x0 / (16 : Int32)) (2 : Int32))]) (rest := []) ⟨hx, hb, hml, hown, hts⟩ (kX1_robot_1 l Γ q_flT q_kT q_cT q_aT q_paT q_bT q_pbT viT vjT vkT vcT vaT vpaT vbT vpbT (jrem (x0 / (16 : Int32)) (2 : Int32)) c_47 _) (cwV 1 hts gX8_makeTurn_X1_robot rfl rfl rfl (by decide +kernel) ⟨Nat.le_of_ble_eq_true rfl, Nat.le_of_ble_eq_true rfl⟩) (my_preV (wc := (wFloor Γ q_flT q_kT q_cT q_aT q_paT q_bT q_pbT viT vjT vkT vcT vaT vpaT vbT vpbT)) (ci := 1) (q0 := 1) [1, 2, 3, 4, 5, 6, 7] hK hP hD rfl rfl rfl rfl) rfl rfl hl.1 rfl (lv_room (Nat.le_of_ble_eq_true rfl)) dX8_makeTurn_154 ⟨Nat.le_of_ble_eq_true rfl, Nat.le_of_ble_eq_true rfl⟩) (fun H locs hP hD hS => ?_)
                      refine lv_iload_n hx hb dX8_makeTurn_157 rfl (lv_at hl 0 rfl) ?_
                      refine lv_iconst (v := (2 : Int32)) hx hb dX8_makeTurn_158 (by decide) ?_
                      refine lv_idiv hx hb dX8_makeTurn_159 (by decide) ?_
                      refine lv_bipush (v := (6 : Int32)) hx hb dX8_makeTurn_160 (by decide) ?_
                      refine my_irem hx hb dX8_makeTurn_162 (by decide) ?_
                      obtain ⟨r_52, vbT_53, vpbT_54, hc_55, hm⟩ := bt3_s hm
                      refine my_call1 (wc := (wRobot Γ q_bT q_pbT vbT vpbT)) (w1 := (wRobot Γ q_bT q_pbT vbT_53 vpbT_54)) (ws1 := (wBF Γ q_bf q_tx q_fl q_flT q_hi q_s1 q_s2 q_fd q_kc q_kr  ++ wFloor Γ q_flT q_kT q_cT q_aT q_paT q_bT q_pbT viT vjT vkT vcT vaT vpaT vbT_53 vpbT_54)) hP hD hS hA [6, 7] rfl rfl rfl (va_runV (As := [.int (jrem ((x0 / (16 : Int32)) / (2 : Int32)) (6 : Int32))]) (rest := []) ⟨hx, hb, hml, hown, hts⟩ (kX4_learn l Γ q_bT q_pbT vbT vpbT (jrem ((x0 / (16 : Int32)) / (2 : Int32)) (6 : Int32)) r_52 vbT_53 vpbT_54 hc_55 _) (cwV 1 hts gX8_makeTurn_X4_learn rfl rfl rfl (by decide +kernel) ⟨Nat.le_of_ble_eq_true rfl, Nat.le_of_ble_eq_true rfl⟩) (my_preV (wc := (wRobot Γ q_bT q_pbT vbT vpbT)) (ci := 3) (q0 := 6) [6, 7] hK hP hD rfl rfl rfl rfl) rfl rfl hl.1 rfl (lv_room (Nat.le_of_ble_eq_true rfl)) dX8_makeTurn_163 ⟨Nat.le_of_ble_eq_true rfl, Nat.le_of_ble_eq_true rfl⟩) (fun H locs hP hD hS => ?_)
                      refine lv_pop hx hb dX8_makeTurn_166 rfl ?_
                      refine lv_iconst (v := (0 : Int32)) hx hb dX8_makeTurn_167 (by decide) ?_
                      obtain ⟨hf0, hf1, hf2, hf3, hf4, hf5, hf6, hf7, hf8⟩ := si9 hm
                      subst hf0
                      subst hf1
                      subst hf2
                      subst hf3
                      subst hf4
                      subst hf5
                      subst hf6
                      subst hf7
                      subst hf8
                      exact W.iret (v := (0 : Int32)) hx hb hr (fun t ht hW => ⟨⟨rfl, by rw [ht]; exact hP⟩, hS.F ht⟩) hS.2.2 dX8_makeTurn_168
                  · replace hm := if_f hm c_46
                    by_cases c_56 : (jrem x0 (16 : Int32)) = (9 : Int32)
                    · replace hm := if_s hm c_56
                      refine lv_tableIn (off := 138) (tgt := 147) hx hb dX8_makeTurn_9 (by rw [c_56]; decide) (by rw [c_56]; decide) (by rw [c_56]; rfl) (by decide) ?_
                      refine lv_aload_n hx hb dX8_makeTurn_147 rfl (lv_at hl 1 rfl) ?_
                      refine va_get (D := my_D Γ) (ci := 6) (v := .ref q_flT) (C := RX8) (T := TX8) (N := 9) hx hb hts hinX8 hown hK hP 0 rfl rfl 2 (by decide) (hts (.fieldLink RX8 23 "BeltFloor" "trial" "LBeltFloor$Floor;") (List.mem_of_getElem? (i := 1) rfl)) (fun _ h9 => h9) rfl dX8_makeTurn_148 ?_
                      refine lv_iload_n hx hb dX8_makeTurn_151 rfl (lv_at hl 0 rfl) ?_
                      refine lv_iconst (v := (2 : Int32)) hx hb dX8_makeTurn_152 (by decide) ?_
                      refine my_irem hx hb dX8_makeTurn_153 (by decide) ?_
                      by_cases c_57 : (jrem (x0 / (16 : Int32)) (2 : Int32)) = 0
                      · replace hm := if_s hm c_57
                        refine my_call1 (wc := (wFloor Γ q_flT q_kT q_cT q_aT q_paT q_bT q_pbT viT vjT vkT vcT vaT vpaT vbT vpbT)) (w1 := (wFloor Γ q_flT q_kT q_cT q_aT q_paT q_bT q_pbT viT vjT vkT vcT vaT vpaT vbT vpbT)) (ws1 := (wBF Γ q_bf q_tx q_fl q_flT q_hi q_s1 q_s2 q_fd q_kc q_kr  ++ wFloor Γ q_flT q_kT q_cT q_aT q_paT q_bT q_pbT viT vjT vkT vcT vaT vpaT vbT vpbT)) hP hD hS hA [1, 2, 3, 4, 5, 6, 7] rfl rfl rfl (va_runV (As := [.int (jrem (x0 / (16 : Int32)) (2 : Int32))]) (rest := []) ⟨hx, hb, hml, hown, hts⟩ (kX1_robot_0 l Γ q_flT q_kT q_cT q_aT q_paT q_bT q_pbT viT vjT vkT vcT vaT vpaT vbT vpbT (jrem (x0 / (16 : Int32)) (2 : Int32)) c_57 _) (cwV 1 hts gX8_makeTurn_X1_robot rfl rfl rfl (by decide +kernel) ⟨Nat.le_of_ble_eq_true rfl, Nat.le_of_ble_eq_true rfl⟩) (my_preV (wc := (wFloor Γ q_flT q_kT q_cT q_aT q_paT q_bT q_pbT viT vjT vkT vcT vaT vpaT vbT vpbT)) (ci := 1) (q0 := 1) [1, 2, 3, 4, 5, 6, 7] hK hP hD rfl rfl rfl rfl) rfl rfl hl.1 rfl (lv_room (Nat.le_of_ble_eq_true rfl)) dX8_makeTurn_154 ⟨Nat.le_of_ble_eq_true rfl, Nat.le_of_ble_eq_true rfl⟩) (fun H locs hP hD hS => ?_)
                        refine lv_iload_n hx hb dX8_makeTurn_157 rfl (lv_at hl 0 rfl) ?_
                        refine lv_iconst (v := (2 : Int32)) hx hb dX8_makeTurn_158 (by decide) ?_
                        refine lv_idiv hx hb dX8_makeTurn_159 (by decide) ?_
                        refine lv_bipush (v := (6 : Int32)) hx hb dX8_makeTurn_160 (by decide) ?_
                        refine my_irem hx hb dX8_makeTurn_162 (by decide) ?_
                        obtain ⟨r_58, vaT_59, vpaT_60, hc_61, hm⟩ := bt3_s hm
                        refine my_call1 (wc := (wRobot Γ q_aT q_paT vaT vpaT)) (w1 := (wRobot Γ q_aT q_paT vaT_59 vpaT_60)) (ws1 := (wBF Γ q_bf q_tx q_fl q_flT q_hi q_s1 q_s2 q_fd q_kc q_kr  ++ wFloor Γ q_flT q_kT q_cT q_aT q_paT q_bT q_pbT viT vjT vkT vcT vaT_59 vpaT_60 vbT vpbT)) hP hD hS hA [4, 5] rfl rfl rfl (va_runV (As := [.int (jrem ((x0 / (16 : Int32)) / (2 : Int32)) (6 : Int32))]) (rest := []) ⟨hx, hb, hml, hown, hts⟩ (kX4_learn l Γ q_aT q_paT vaT vpaT (jrem ((x0 / (16 : Int32)) / (2 : Int32)) (6 : Int32)) r_58 vaT_59 vpaT_60 hc_61 _) (cwV 1 hts gX8_makeTurn_X4_learn rfl rfl rfl (by decide +kernel) ⟨Nat.le_of_ble_eq_true rfl, Nat.le_of_ble_eq_true rfl⟩) (my_preV (wc := (wRobot Γ q_aT q_paT vaT vpaT)) (ci := 3) (q0 := 4) [4, 5] hK hP hD rfl rfl rfl rfl) rfl rfl hl.1 rfl (lv_room (Nat.le_of_ble_eq_true rfl)) dX8_makeTurn_163 ⟨Nat.le_of_ble_eq_true rfl, Nat.le_of_ble_eq_true rfl⟩) (fun H locs hP hD hS => ?_)
                        refine lv_pop hx hb dX8_makeTurn_166 rfl ?_
                        refine lv_iconst (v := (0 : Int32)) hx hb dX8_makeTurn_167 (by decide) ?_
                        obtain ⟨hf0, hf1, hf2, hf3, hf4, hf5, hf6, hf7, hf8⟩ := si9 hm
                        subst hf0
                        subst hf1
                        subst hf2
                        subst hf3
                        subst hf4
                        subst hf5
                        subst hf6
                        subst hf7
                        subst hf8
                        exact W.iret (v := (0 : Int32)) hx hb hr (fun t ht hW => ⟨⟨rfl, by rw [ht]; exact hP⟩, hS.F ht⟩) hS.2.2 dX8_makeTurn_168
                      · replace hm := if_f hm c_57
                        refine my_call1 (wc := (wFloor Γ q_flT q_kT q_cT q_aT q_paT q_bT q_pbT viT vjT vkT vcT vaT vpaT vbT vpbT)) (w1 := (wFloor Γ q_flT q_kT q_cT q_aT q_paT q_bT q_pbT viT vjT vkT vcT vaT vpaT vbT vpbT)) (ws1 := (wBF Γ q_bf q_tx q_fl q_flT q_hi q_s1 q_s2 q_fd q_kc q_kr  ++ wFloor Γ q_flT q_kT q_cT q_aT q_paT q_bT q_pbT viT vjT vkT vcT vaT vpaT vbT vpbT)) hP hD hS hA [1, 2, 3, 4, 5, 6, 7] rfl rfl rfl (va_runV (As := [.int (jrem (x0 / (16 : Int32)) (2 : Int32))]) (rest := []) ⟨hx, hb, hml, hown, hts⟩ (kX1_robot_1 l Γ q_flT q_kT q_cT q_aT q_paT q_bT q_pbT viT vjT vkT vcT vaT vpaT vbT vpbT (jrem (x0 / (16 : Int32)) (2 : Int32)) c_57 _) (cwV 1 hts gX8_makeTurn_X1_robot rfl rfl rfl (by decide +kernel) ⟨Nat.le_of_ble_eq_true rfl, Nat.le_of_ble_eq_true rfl⟩) (my_preV (wc := (wFloor Γ q_flT q_kT q_cT q_aT q_paT q_bT q_pbT viT vjT vkT vcT vaT vpaT vbT vpbT)) (ci := 1) (q0 := 1) [1, 2, 3, 4, 5, 6, 7] hK hP hD rfl rfl rfl rfl) rfl rfl hl.1 rfl (lv_room (Nat.le_of_ble_eq_true rfl)) dX8_makeTurn_154 ⟨Nat.le_of_ble_eq_true rfl, Nat.le_of_ble_eq_true rfl⟩) (fun H locs hP hD hS => ?_)
                        refine lv_iload_n hx hb dX8_makeTurn_157 rfl (lv_at hl 0 rfl) ?_
                        refine lv_iconst (v := (2 : Int32)) hx hb dX8_makeTurn_158 (by decide) ?_
                        refine lv_idiv hx hb dX8_makeTurn_159 (by decide) ?_
                        refine lv_bipush (v := (6 : Int32)) hx hb dX8_makeTurn_160 (by decide) ?_
                        refine my_irem hx hb dX8_makeTurn_162 (by decide) ?_
                        obtain ⟨r_62, vbT_63, vpbT_64, hc_65, hm⟩ := bt3_s hm
                        refine my_call1 (wc := (wRobot Γ q_bT q_pbT vbT vpbT)) (w1 := (wRobot Γ q_bT q_pbT vbT_63 vpbT_64)) (ws1 := (wBF Γ q_bf q_tx q_fl q_flT q_hi q_s1 q_s2 q_fd q_kc q_kr  ++ wFloor Γ q_flT q_kT q_cT q_aT q_paT q_bT q_pbT viT vjT vkT vcT vaT vpaT vbT_63 vpbT_64)) hP hD hS hA [6, 7] rfl rfl rfl (va_runV (As := [.int (jrem ((x0 / (16 : Int32)) / (2 : Int32)) (6 : Int32))]) (rest := []) ⟨hx, hb, hml, hown, hts⟩ (kX4_learn l Γ q_bT q_pbT vbT vpbT (jrem ((x0 / (16 : Int32)) / (2 : Int32)) (6 : Int32)) r_62 vbT_63 vpbT_64 hc_65 _) (cwV 1 hts gX8_makeTurn_X4_learn rfl rfl rfl (by decide +kernel) ⟨Nat.le_of_ble_eq_true rfl, Nat.le_of_ble_eq_true rfl⟩) (my_preV (wc := (wRobot Γ q_bT q_pbT vbT vpbT)) (ci := 3) (q0 := 6) [6, 7] hK hP hD rfl rfl rfl rfl) rfl rfl hl.1 rfl (lv_room (Nat.le_of_ble_eq_true rfl)) dX8_makeTurn_163 ⟨Nat.le_of_ble_eq_true rfl, Nat.le_of_ble_eq_true rfl⟩) (fun H locs hP hD hS => ?_)
                        refine lv_pop hx hb dX8_makeTurn_166 rfl ?_
                        refine lv_iconst (v := (0 : Int32)) hx hb dX8_makeTurn_167 (by decide) ?_
                        obtain ⟨hf0, hf1, hf2, hf3, hf4, hf5, hf6, hf7, hf8⟩ := si9 hm
                        subst hf0
                        subst hf1
                        subst hf2
                        subst hf3
                        subst hf4
                        subst hf5
                        subst hf6
                        subst hf7
                        subst hf8
                        exact W.iret (v := (0 : Int32)) hx hb hr (fun t ht hW => ⟨⟨rfl, by rw [ht]; exact hP⟩, hS.F ht⟩) hS.2.2 dX8_makeTurn_168
                    · replace hm := if_f hm c_56
                      by_cases c_66 : (jrem x0 (16 : Int32)) = (10 : Int32)
                      · replace hm := if_s hm c_66
                        refine lv_tableIn (off := 138) (tgt := 147) hx hb dX8_makeTurn_9 (by rw [c_66]; decide) (by rw [c_66]; decide) (by rw [c_66]; rfl) (by decide) ?_
                        refine lv_aload_n hx hb dX8_makeTurn_147 rfl (lv_at hl 1 rfl) ?_
                        refine va_get (D := my_D Γ) (ci := 6) (v := .ref q_flT) (C := RX8) (T := TX8) (N := 9) hx hb hts hinX8 hown hK hP 0 rfl rfl 2 (by decide) (hts (.fieldLink RX8 23 "BeltFloor" "trial" "LBeltFloor$Floor;") (List.mem_of_getElem? (i := 1) rfl)) (fun _ h9 => h9) rfl dX8_makeTurn_148 ?_
                        refine lv_iload_n hx hb dX8_makeTurn_151 rfl (lv_at hl 0 rfl) ?_
                        refine lv_iconst (v := (2 : Int32)) hx hb dX8_makeTurn_152 (by decide) ?_
                        refine my_irem hx hb dX8_makeTurn_153 (by decide) ?_
                        by_cases c_67 : (jrem (x0 / (16 : Int32)) (2 : Int32)) = 0
                        · replace hm := if_s hm c_67
                          refine my_call1 (wc := (wFloor Γ q_flT q_kT q_cT q_aT q_paT q_bT q_pbT viT vjT vkT vcT vaT vpaT vbT vpbT)) (w1 := (wFloor Γ q_flT q_kT q_cT q_aT q_paT q_bT q_pbT viT vjT vkT vcT vaT vpaT vbT vpbT)) (ws1 := (wBF Γ q_bf q_tx q_fl q_flT q_hi q_s1 q_s2 q_fd q_kc q_kr  ++ wFloor Γ q_flT q_kT q_cT q_aT q_paT q_bT q_pbT viT vjT vkT vcT vaT vpaT vbT vpbT)) hP hD hS hA [1, 2, 3, 4, 5, 6, 7] rfl rfl rfl (va_runV (As := [.int (jrem (x0 / (16 : Int32)) (2 : Int32))]) (rest := []) ⟨hx, hb, hml, hown, hts⟩ (kX1_robot_0 l Γ q_flT q_kT q_cT q_aT q_paT q_bT q_pbT viT vjT vkT vcT vaT vpaT vbT vpbT (jrem (x0 / (16 : Int32)) (2 : Int32)) c_67 _) (cwV 1 hts gX8_makeTurn_X1_robot rfl rfl rfl (by decide +kernel) ⟨Nat.le_of_ble_eq_true rfl, Nat.le_of_ble_eq_true rfl⟩) (my_preV (wc := (wFloor Γ q_flT q_kT q_cT q_aT q_paT q_bT q_pbT viT vjT vkT vcT vaT vpaT vbT vpbT)) (ci := 1) (q0 := 1) [1, 2, 3, 4, 5, 6, 7] hK hP hD rfl rfl rfl rfl) rfl rfl hl.1 rfl (lv_room (Nat.le_of_ble_eq_true rfl)) dX8_makeTurn_154 ⟨Nat.le_of_ble_eq_true rfl, Nat.le_of_ble_eq_true rfl⟩) (fun H locs hP hD hS => ?_)
                          refine lv_iload_n hx hb dX8_makeTurn_157 rfl (lv_at hl 0 rfl) ?_
                          refine lv_iconst (v := (2 : Int32)) hx hb dX8_makeTurn_158 (by decide) ?_
                          refine lv_idiv hx hb dX8_makeTurn_159 (by decide) ?_
                          refine lv_bipush (v := (6 : Int32)) hx hb dX8_makeTurn_160 (by decide) ?_
                          refine my_irem hx hb dX8_makeTurn_162 (by decide) ?_
                          obtain ⟨r_68, vaT_69, vpaT_70, hc_71, hm⟩ := bt3_s hm
                          refine my_call1 (wc := (wRobot Γ q_aT q_paT vaT vpaT)) (w1 := (wRobot Γ q_aT q_paT vaT_69 vpaT_70)) (ws1 := (wBF Γ q_bf q_tx q_fl q_flT q_hi q_s1 q_s2 q_fd q_kc q_kr  ++ wFloor Γ q_flT q_kT q_cT q_aT q_paT q_bT q_pbT viT vjT vkT vcT vaT_69 vpaT_70 vbT vpbT)) hP hD hS hA [4, 5] rfl rfl rfl (va_runV (As := [.int (jrem ((x0 / (16 : Int32)) / (2 : Int32)) (6 : Int32))]) (rest := []) ⟨hx, hb, hml, hown, hts⟩ (kX4_learn l Γ q_aT q_paT vaT vpaT (jrem ((x0 / (16 : Int32)) / (2 : Int32)) (6 : Int32)) r_68 vaT_69 vpaT_70 hc_71 _) (cwV 1 hts gX8_makeTurn_X4_learn rfl rfl rfl (by decide +kernel) ⟨Nat.le_of_ble_eq_true rfl, Nat.le_of_ble_eq_true rfl⟩) (my_preV (wc := (wRobot Γ q_aT q_paT vaT vpaT)) (ci := 3) (q0 := 4) [4, 5] hK hP hD rfl rfl rfl rfl) rfl rfl hl.1 rfl (lv_room (Nat.le_of_ble_eq_true rfl)) dX8_makeTurn_163 ⟨Nat.le_of_ble_eq_true rfl, Nat.le_of_ble_eq_true rfl⟩) (fun H locs hP hD hS => ?_)
                          refine lv_pop hx hb dX8_makeTurn_166 rfl ?_
                          refine lv_iconst (v := (0 : Int32)) hx hb dX8_makeTurn_167 (by decide) ?_
                          obtain ⟨hf0, hf1, hf2, hf3, hf4, hf5, hf6, hf7, hf8⟩ := si9 hm
                          subst hf0
                          subst hf1
                          subst hf2
                          subst hf3
                          subst hf4
                          subst hf5
                          subst hf6
                          subst hf7
                          subst hf8
                          exact W.iret (v := (0 : Int32)) hx hb hr (fun t ht hW => ⟨⟨rfl, by rw [ht]; exact hP⟩, hS.F ht⟩) hS.2.2 dX8_makeTurn_168
                        · replace hm := if_f hm c_67
                          refine my_call1 (wc := (wFloor Γ q_flT q_kT q_cT q_aT q_paT q_bT q_pbT viT vjT vkT vcT vaT vpaT vbT vpbT)) (w1 := (wFloor Γ q_flT q_kT q_cT q_aT q_paT q_bT q_pbT viT vjT vkT vcT vaT vpaT vbT vpbT)) (ws1 := (wBF Γ q_bf q_tx q_fl q_flT q_hi q_s1 q_s2 q_fd q_kc q_kr  ++ wFloor Γ q_flT q_kT q_cT q_aT q_paT q_bT q_pbT viT vjT vkT vcT vaT vpaT vbT vpbT)) hP hD hS hA [1, 2, 3, 4, 5, 6, 7] rfl rfl rfl (va_runV (As := [.int (jrem (x0 / (16 : Int32)) (2 : Int32))]) (rest := []) ⟨hx, hb, hml, hown, hts⟩ (kX1_robot_1 l Γ q_flT q_kT q_cT q_aT q_paT q_bT q_pbT viT vjT vkT vcT vaT vpaT vbT vpbT (jrem (x0 / (16 : Int32)) (2 : Int32)) c_67 _) (cwV 1 hts gX8_makeTurn_X1_robot rfl rfl rfl (by decide +kernel) ⟨Nat.le_of_ble_eq_true rfl, Nat.le_of_ble_eq_true rfl⟩) (my_preV (wc := (wFloor Γ q_flT q_kT q_cT q_aT q_paT q_bT q_pbT viT vjT vkT vcT vaT vpaT vbT vpbT)) (ci := 1) (q0 := 1) [1, 2, 3, 4, 5, 6, 7] hK hP hD rfl rfl rfl rfl) rfl rfl hl.1 rfl (lv_room (Nat.le_of_ble_eq_true rfl)) dX8_makeTurn_154 ⟨Nat.le_of_ble_eq_true rfl, Nat.le_of_ble_eq_true rfl⟩) (fun H locs hP hD hS => ?_)
                          refine lv_iload_n hx hb dX8_makeTurn_157 rfl (lv_at hl 0 rfl) ?_
                          refine lv_iconst (v := (2 : Int32)) hx hb dX8_makeTurn_158 (by decide) ?_
                          refine lv_idiv hx hb dX8_makeTurn_159 (by decide) ?_
                          refine lv_bipush (v := (6 : Int32)) hx hb dX8_makeTurn_160 (by decide) ?_
                          refine my_irem hx hb dX8_makeTurn_162 (by decide) ?_
                          obtain ⟨r_72, vbT_73, vpbT_74, hc_75, hm⟩ := bt3_s hm
                          refine my_call1 (wc := (wRobot Γ q_bT q_pbT vbT vpbT)) (w1 := (wRobot Γ q_bT q_pbT vbT_73 vpbT_74)) (ws1 := (wBF Γ q_bf q_tx q_fl q_flT q_hi q_s1 q_s2 q_fd q_kc q_kr  ++ wFloor Γ q_flT q_kT q_cT q_aT q_paT q_bT q_pbT viT vjT vkT vcT vaT vpaT vbT_73 vpbT_74)) hP hD hS hA [6, 7] rfl rfl rfl (va_runV (As := [.int (jrem ((x0 / (16 : Int32)) / (2 : Int32)) (6 : Int32))]) (rest := []) ⟨hx, hb, hml, hown, hts⟩ (kX4_learn l Γ q_bT q_pbT vbT vpbT (jrem ((x0 / (16 : Int32)) / (2 : Int32)) (6 : Int32)) r_72 vbT_73 vpbT_74 hc_75 _) (cwV 1 hts gX8_makeTurn_X4_learn rfl rfl rfl (by decide +kernel) ⟨Nat.le_of_ble_eq_true rfl, Nat.le_of_ble_eq_true rfl⟩) (my_preV (wc := (wRobot Γ q_bT q_pbT vbT vpbT)) (ci := 3) (q0 := 6) [6, 7] hK hP hD rfl rfl rfl rfl) rfl rfl hl.1 rfl (lv_room (Nat.le_of_ble_eq_true rfl)) dX8_makeTurn_163 ⟨Nat.le_of_ble_eq_true rfl, Nat.le_of_ble_eq_true rfl⟩) (fun H locs hP hD hS => ?_)
                          refine lv_pop hx hb dX8_makeTurn_166 rfl ?_
                          refine lv_iconst (v := (0 : Int32)) hx hb dX8_makeTurn_167 (by decide) ?_
                          obtain ⟨hf0, hf1, hf2, hf3, hf4, hf5, hf6, hf7, hf8⟩ := si9 hm
                          subst hf0
                          subst hf1
                          subst hf2
                          subst hf3
                          subst hf4
                          subst hf5
                          subst hf6
                          subst hf7
                          subst hf8
                          exact W.iret (v := (0 : Int32)) hx hb hr (fun t ht hW => ⟨⟨rfl, by rw [ht]; exact hP⟩, hS.F ht⟩) hS.2.2 dX8_makeTurn_168
                      · replace hm := if_f hm c_66
                        by_cases c_76 : (jrem x0 (16 : Int32)) = (11 : Int32)
                        · replace hm := if_s hm c_76
                          refine lv_tableIn (off := 160) (tgt := 169) hx hb dX8_makeTurn_9 (by rw [c_76]; decide) (by rw [c_76]; decide) (by rw [c_76]; rfl) (by decide) ?_
                          refine lv_iload_n hx hb dX8_makeTurn_169 rfl (lv_at hl 0 rfl) ?_
                          refine lv_iconst (v := (2 : Int32)) hx hb dX8_makeTurn_170 (by decide) ?_
                          refine lv_idiv hx hb dX8_makeTurn_171 (by decide) ?_
                          refine lv_iconst (v := (4 : Int32)) hx hb dX8_makeTurn_172 (by decide) ?_
                          refine my_irem hx hb dX8_makeTurn_173 (by decide) ?_
                          refine lv_if_ne (tgt := 190) hx hb dX8_makeTurn_174 (by decide) (fun c_77 => ?_) (fun c_77 => ?_)
                          · replace hm := if_f hm c_77
                            refine lv_iconst (v := (0 : Int32)) hx hb dX8_makeTurn_190 (by decide) ?_
                            obtain ⟨hf0, hf1, hf2, hf3, hf4, hf5, hf6, hf7, hf8⟩ := si9 hm
                            subst hf0
                            subst hf1
                            subst hf2
                            subst hf3
                            subst hf4
                            subst hf5
                            subst hf6
                            subst hf7
                            subst hf8
                            exact W.iret (v := (0 : Int32)) hx hb hr (fun t ht hW => ⟨⟨rfl, by rw [ht]; exact hP⟩, hS.F ht⟩) hS.2.2 dX8_makeTurn_191
                          · replace hm := if_s hm c_77
                            refine lv_aload_n hx hb dX8_makeTurn_177 rfl (lv_at hl 1 rfl) ?_
                            refine va_get (D := my_D Γ) (ci := 6) (v := .ref q_flT) (C := RX8) (T := TX8) (N := 9) hx hb hts hinX8 hown hK hP 0 rfl rfl 2 (by decide) (hts (.fieldLink RX8 23 "BeltFloor" "trial" "LBeltFloor$Floor;") (List.mem_of_getElem? (i := 1) rfl)) (fun _ h9 => h9) rfl dX8_makeTurn_178 ?_
                            refine lv_iload_n hx hb dX8_makeTurn_181 rfl (lv_at hl 0 rfl) ?_
                            refine lv_iconst (v := (2 : Int32)) hx hb dX8_makeTurn_182 (by decide) ?_
                            refine my_irem hx hb dX8_makeTurn_183 (by decide) ?_
                            by_cases c_78 : (jrem (x0 / (16 : Int32)) (2 : Int32)) = 0
                            · replace hm := if_s hm c_78
                              refine my_call1 (wc := (wFloor Γ q_flT q_kT q_cT q_aT q_paT q_bT q_pbT viT vjT vkT vcT vaT vpaT vbT vpbT)) (w1 := (wFloor Γ q_flT q_kT q_cT q_aT q_paT q_bT q_pbT viT vjT vkT vcT vaT vpaT vbT vpbT)) (ws1 := (wBF Γ q_bf q_tx q_fl q_flT q_hi q_s1 q_s2 q_fd q_kc q_kr  ++ wFloor Γ q_flT q_kT q_cT q_aT q_paT q_bT q_pbT viT vjT vkT vcT vaT vpaT vbT vpbT)) hP hD hS hA [1, 2, 3, 4, 5, 6, 7] rfl rfl rfl (va_runV (As := [.int (jrem (x0 / (16 : Int32)) (2 : Int32))]) (rest := []) ⟨hx, hb, hml, hown, hts⟩ (kX1_robot_0 l Γ q_flT q_kT q_cT q_aT q_paT q_bT q_pbT viT vjT vkT vcT vaT vpaT vbT vpbT (jrem (x0 / (16 : Int32)) (2 : Int32)) c_78 _) (cwV 1 hts gX8_makeTurn_X1_robot rfl rfl rfl (by decide +kernel) ⟨Nat.le_of_ble_eq_true rfl, Nat.le_of_ble_eq_true rfl⟩) (my_preV (wc := (wFloor Γ q_flT q_kT q_cT q_aT q_paT q_bT q_pbT viT vjT vkT vcT vaT vpaT vbT vpbT)) (ci := 1) (q0 := 1) [1, 2, 3, 4, 5, 6, 7] hK hP hD rfl rfl rfl rfl) rfl rfl hl.1 rfl (lv_room (Nat.le_of_ble_eq_true rfl)) dX8_makeTurn_184 ⟨Nat.le_of_ble_eq_true rfl, Nat.le_of_ble_eq_true rfl⟩) (fun H locs hP hD hS => ?_)
                              obtain ⟨vaT_79, hc_80, hm⟩ := bt1_s hm
                              refine my_call0 (wc := (wRobot Γ q_aT q_paT vaT vpaT)) (w1 := (wRobot Γ q_aT q_paT vaT_79 vpaT)) (ws1 := (wBF Γ q_bf q_tx q_fl q_flT q_hi q_s1 q_s2 q_fd q_kc q_kr  ++ wFloor Γ q_flT q_kT q_cT q_aT q_paT q_bT q_pbT viT vjT vkT vcT vaT_79 vpaT vbT vpbT)) hP hD hS hA [4, 5] rfl rfl rfl (va_runV (As := []) (rest := []) ⟨hx, hb, hml, hown, hts⟩ (kX4_forgetProgram l Γ q_aT q_paT vaT vpaT vaT_79 hc_80 _) (cwV 0 hts gX8_makeTurn_X4_forgetProgram rfl rfl rfl (by decide +kernel) ⟨Nat.le_of_ble_eq_true rfl, Nat.le_of_ble_eq_true rfl⟩) (my_preV (wc := (wRobot Γ q_aT q_paT vaT vpaT)) (ci := 3) (q0 := 4) [4, 5] hK hP hD rfl rfl rfl rfl) rfl rfl hl.1 rfl (lv_room (Nat.le_of_ble_eq_true rfl)) dX8_makeTurn_187 ⟨Nat.le_of_ble_eq_true rfl, Nat.le_of_ble_eq_true rfl⟩) (fun H locs hP hD hS => ?_)
                              refine lv_iconst (v := (0 : Int32)) hx hb dX8_makeTurn_190 (by decide) ?_
                              obtain ⟨hf0, hf1, hf2, hf3, hf4, hf5, hf6, hf7, hf8⟩ := si9 hm
                              subst hf0
                              subst hf1
                              subst hf2
                              subst hf3
                              subst hf4
                              subst hf5
                              subst hf6
                              subst hf7
                              subst hf8
                              exact W.iret (v := (0 : Int32)) hx hb hr (fun t ht hW => ⟨⟨rfl, by rw [ht]; exact hP⟩, hS.F ht⟩) hS.2.2 dX8_makeTurn_191
                            · replace hm := if_f hm c_78
                              refine my_call1 (wc := (wFloor Γ q_flT q_kT q_cT q_aT q_paT q_bT q_pbT viT vjT vkT vcT vaT vpaT vbT vpbT)) (w1 := (wFloor Γ q_flT q_kT q_cT q_aT q_paT q_bT q_pbT viT vjT vkT vcT vaT vpaT vbT vpbT)) (ws1 := (wBF Γ q_bf q_tx q_fl q_flT q_hi q_s1 q_s2 q_fd q_kc q_kr  ++ wFloor Γ q_flT q_kT q_cT q_aT q_paT q_bT q_pbT viT vjT vkT vcT vaT vpaT vbT vpbT)) hP hD hS hA [1, 2, 3, 4, 5, 6, 7] rfl rfl rfl (va_runV (As := [.int (jrem (x0 / (16 : Int32)) (2 : Int32))]) (rest := []) ⟨hx, hb, hml, hown, hts⟩ (kX1_robot_1 l Γ q_flT q_kT q_cT q_aT q_paT q_bT q_pbT viT vjT vkT vcT vaT vpaT vbT vpbT (jrem (x0 / (16 : Int32)) (2 : Int32)) c_78 _) (cwV 1 hts gX8_makeTurn_X1_robot rfl rfl rfl (by decide +kernel) ⟨Nat.le_of_ble_eq_true rfl, Nat.le_of_ble_eq_true rfl⟩) (my_preV (wc := (wFloor Γ q_flT q_kT q_cT q_aT q_paT q_bT q_pbT viT vjT vkT vcT vaT vpaT vbT vpbT)) (ci := 1) (q0 := 1) [1, 2, 3, 4, 5, 6, 7] hK hP hD rfl rfl rfl rfl) rfl rfl hl.1 rfl (lv_room (Nat.le_of_ble_eq_true rfl)) dX8_makeTurn_184 ⟨Nat.le_of_ble_eq_true rfl, Nat.le_of_ble_eq_true rfl⟩) (fun H locs hP hD hS => ?_)
                              obtain ⟨vbT_81, hc_82, hm⟩ := bt1_s hm
                              refine my_call0 (wc := (wRobot Γ q_bT q_pbT vbT vpbT)) (w1 := (wRobot Γ q_bT q_pbT vbT_81 vpbT)) (ws1 := (wBF Γ q_bf q_tx q_fl q_flT q_hi q_s1 q_s2 q_fd q_kc q_kr  ++ wFloor Γ q_flT q_kT q_cT q_aT q_paT q_bT q_pbT viT vjT vkT vcT vaT vpaT vbT_81 vpbT)) hP hD hS hA [6, 7] rfl rfl rfl (va_runV (As := []) (rest := []) ⟨hx, hb, hml, hown, hts⟩ (kX4_forgetProgram l Γ q_bT q_pbT vbT vpbT vbT_81 hc_82 _) (cwV 0 hts gX8_makeTurn_X4_forgetProgram rfl rfl rfl (by decide +kernel) ⟨Nat.le_of_ble_eq_true rfl, Nat.le_of_ble_eq_true rfl⟩) (my_preV (wc := (wRobot Γ q_bT q_pbT vbT vpbT)) (ci := 3) (q0 := 6) [6, 7] hK hP hD rfl rfl rfl rfl) rfl rfl hl.1 rfl (lv_room (Nat.le_of_ble_eq_true rfl)) dX8_makeTurn_187 ⟨Nat.le_of_ble_eq_true rfl, Nat.le_of_ble_eq_true rfl⟩) (fun H locs hP hD hS => ?_)
                              refine lv_iconst (v := (0 : Int32)) hx hb dX8_makeTurn_190 (by decide) ?_
                              obtain ⟨hf0, hf1, hf2, hf3, hf4, hf5, hf6, hf7, hf8⟩ := si9 hm
                              subst hf0
                              subst hf1
                              subst hf2
                              subst hf3
                              subst hf4
                              subst hf5
                              subst hf6
                              subst hf7
                              subst hf8
                              exact W.iret (v := (0 : Int32)) hx hb hr (fun t ht hW => ⟨⟨rfl, by rw [ht]; exact hP⟩, hS.F ht⟩) hS.2.2 dX8_makeTurn_191
                        · replace hm := if_f hm c_76
                          have c_1_t := lv_neT (a := 0) c_1 rfl
                          have c_6_t := lv_neT (a := 1) c_6 rfl
                          have c_11_t := lv_neT (a := 2) c_11 rfl
                          have c_16_t := lv_neT (a := 3) c_16 rfl
                          have c_21_t := lv_neT (a := 4) c_21 rfl
                          have c_26_t := lv_neT (a := 5) c_26 rfl
                          have c_31_t := lv_neT (a := 6) c_31 rfl
                          have c_36_t := lv_neT (a := 7) c_36 rfl
                          have c_46_t := lv_neT (a := 8) c_46 rfl
                          have c_56_t := lv_neT (a := 9) c_56 rfl
                          have c_66_t := lv_neT (a := 10) c_66 rfl
                          have c_76_t := lv_neT (a := 11) c_76 rfl
                          refine lv_tableOut (tgt := 192) hx hb dX8_makeTurn_9 (by omega) (by decide) ?_
                          refine lv_iconst (v := (1 : Int32)) hx hb dX8_makeTurn_192 (by decide) ?_
                          refine lv_iload_n hx hb dX8_makeTurn_193 rfl (lv_at hl 0 rfl) ?_
                          refine lv_iconst (v := (4 : Int32)) hx hb dX8_makeTurn_194 (by decide) ?_
                          refine my_irem hx hb dX8_makeTurn_195 (by decide) ?_
                          refine lv_iadd hx hb dX8_makeTurn_196 ?_
                          obtain ⟨hf0, hf1, hf2, hf3, hf4, hf5, hf6, hf7, hf8⟩ := si9 hm
                          subst hf0
                          subst hf1
                          subst hf2
                          subst hf3
                          subst hf4
                          subst hf5
                          subst hf6
                          subst hf7
                          subst hf8
                          exact W.iret (v := ((1 : Int32) + (jrem (x0 / (16 : Int32)) (4 : Int32)))) hx hb hr (fun t ht hW => ⟨⟨rfl, by rw [ht]; exact hP⟩, hS.F ht⟩) hS.2.2 dX8_makeTurn_197
def mX8_simulate_L42  : Nat → (Nat → Int32) → (Nat → Int64) → (Nat → Int32) → (Nat → Int32) → (Nat → Int32) → (Nat → Int32) → (Nat → Int32) → (Nat → Int32) → (Nat → Int32) → (Nat → Int64) → (Nat → Int32) → (Nat → Int32) → (Nat → Int32) → (Nat → Int32) → (Nat → Int32) → (Nat → Int32) → Int32 → Int64 → Int32 → Int32 → Option ((Int32 × (Nat → Int32) × (Nat → Int64) × (Nat → Int32) × (Nat → Int32) × (Nat → Int32) × (Nat → Int32) × (Nat → Int32) × (Nat → Int32)) ⊕ String)
  | 0, _, _, _, _, _, _, _, _, _, _, _, _, _, _, _, _, _, _, _, _ => none
  | n + 1, vi, vj, vk, vc, va, vpa, vb, vpb, viT, vjT, vkT, vcT, vaT, vpaT, vbT, vpbT, l3, l4, l6, l7 => (if l3 ≤ l7 then (some (Sum.inl (((((10000 : Int32) * l6) + ((100 : Int32) * (vaT 0))) + (vbT 0)), viT, vjT, vkT, vcT, vaT, vpaT, vbT, vpbT))) else (bo9 (mX8_makeTurn viT vjT vkT vcT vaT vpaT vbT vpbT ((jushrl ((l4 * (6364136223846793005 : Int64)) + (1442695040888963407 : Int64)) (33 : Int32)).toInt32)) (fun r_13 viT_14 vjT_15 vkT_16 vcT_17 vaT_18 vpaT_19 vbT_20 vpbT_21 => (bo5 (mX6_makeSome viT_14 vjT_15 vkT_16 vcT_17 vaT_18 vpaT_19 vbT_20 vpbT_21 r_13) (fun r_23 viT_24 vjT_25 vaT_26 vbT_27 => (mX8_simulate_L42 n vi vj vk vc va vpa vb vpb viT_24 vjT_25 vkT_16 vcT_17 vaT_26 vpaT_19 vbT_27 vpbT_21 l3 ((l4 * (6364136223846793005 : Int64)) + (1442695040888963407 : Int64)) (l6 + r_23) (l7 + (1 : Int32))))))))
def mX8_simulate (vi : Nat → Int32) (vj : Nat → Int64) (vk : Nat → Int32) (vc : Nat → Int32) (va : Nat → Int32) (vpa : Nat → Int32) (vb : Nat → Int32) (vpb : Nat → Int32) (viT : Nat → Int32) (vjT : Nat → Int64) (vkT : Nat → Int32) (vcT : Nat → Int32) (vaT : Nat → Int32) (vpaT : Nat → Int32) (vbT : Nat → Int32) (vpbT : Nat → Int32) (x0 : Int64) (x1 : Int32) : Option ((Int32 × (Nat → Int32) × (Nat → Int64) × (Nat → Int32) × (Nat → Int32) × (Nat → Int32) × (Nat → Int32) × (Nat → Int32) × (Nat → Int32)) ⊕ String) := (if x1 < (1 : Int32) then (some (Sum.inr "java/lang/IllegalArgumentException")) else (if x1 ≤ (60 : Int32) then (bo8 (mX1_copyFrom viT vjT vkT vcT vaT vpaT vbT vpbT vi vj vk vc va vpa vb vpb) (fun viT_3 vjT_4 vkT_5 vcT_6 vaT_7 vpaT_8 vbT_9 vpbT_10 => (mX8_simulate_L42 4096 vi vj vk vc va vpa vb vpb viT_3 vjT_4 vkT_5 vcT_6 vaT_7 vpaT_8 vbT_9 vpbT_10 x1 x0 (0 : Int32) (0 : Int32)))) else (some (Sum.inr "java/lang/IllegalArgumentException"))))
set_option maxHeartbeats 4000000 in
set_option maxRecDepth 100000 in
theorem kX8_simulate (l : Launch) (Γ : my_G) (hfl : l.stackTraces = false) (q_bf q_fl q_k q_c q_a q_pa q_b q_pb q_flT q_kT q_cT q_aT q_paT q_bT q_pbT q_tx q_hi q_s1 q_s2 q_fd q_kc q_kr : Nat) (vi : Nat → Int32) (vj : Nat → Int64) (vk : Nat → Int32) (vc : Nat → Int32) (va : Nat → Int32) (vpa : Nat → Int32) (vb : Nat → Int32) (vpb : Nat → Int32) (viT : Nat → Int32) (vjT : Nat → Int64) (vkT : Nat → Int32) (vcT : Nat → Int32) (vaT : Nat → Int32) (vpaT : Nat → Int32) (vbT : Nat → Int32) (vpbT : Nat → Int32) (x0 : Int64) (x1 : Int32) (mr : (Int32 × (Nat → Int32) × (Nat → Int64) × (Nat → Int32) × (Nat → Int32) × (Nat → Int32) × (Nat → Int32) × (Nat → Int32) × (Nat → Int32)) ⊕ String) (hm : mX8_simulate vi vj vk vc va vpa vb vpb viT vjT vkT vcT vaT vpaT vbT vpbT x0 x1 = (some mr)) : MnX l yX8_simulate wsX8_simulate ({ frames := 6, cells := 1, slots := 6, locals := 151 } : Room) Γ [.ref q_bf, .long x0, .int x1] (wBF Γ q_bf q_tx q_fl q_flT q_hi q_s1 q_s2 q_fd q_kc q_kr  ++ wFloor Γ q_fl q_k q_c q_a q_pa q_b q_pb vi vj vk vc va vpa vb vpb ++ wFloor Γ q_flT q_kT q_cT q_aT q_paT q_bT q_pbT viT vjT vkT vcT vaT vpaT vbT vpbT) (my_map (fun q : Int32 × (Nat → Int32) × (Nat → Int64) × (Nat → Int32) × (Nat → Int32) × (Nat → Int32) × (Nat → Int32) × (Nat → Int32) × (Nat → Int32) => ((some (.int (q.1))), (wBF Γ q_bf q_tx q_fl q_flT q_hi q_s1 q_s2 q_fd q_kc q_kr  ++ wFloor Γ q_fl q_k q_c q_a q_pa q_b q_pb vi vj vk vc va vpa vb vpb ++ wFloor Γ q_flT q_kT q_cT q_aT q_paT q_bT q_pbT (q.2.1) (q.2.2.1) (q.2.2.2.1) (q.2.2.2.2.1) (q.2.2.2.2.2.1) (q.2.2.2.2.2.2.1) (q.2.2.2.2.2.2.2.1) (q.2.2.2.2.2.2.2.2)))) mr) 1 6 := by
  intro sz
  refine vx_ofW (cc := cX8_simulate) (maxL := 8) (ret := (some .int)) (by decide) rfl ?_
  intro p e s m args below meth c s₁ B hml htab hv
  obtain ⟨rfl, ⟨hsz, hP, hK, hD0⟩, hZ, hstr⟩ := hv
  have hx := B.exec
  have hb := B.bytes
  have hr := B.returns
  have hts := atoms_spec (ws := wsX8_simulate) B.pre
  have hown : s.vm.findClass RX8 = some m.cls := findClass_of_methodNamed B.named
  have hlocks := B.notSynchronized
  have hinX1 : ∀ w ∈ u_ws RX1 TX1 12, w ∈ wsX8_simulate := fun w h => List.mem_cons_of_mem _ (List.mem_append_left _ (List.mem_append_left _ (List.mem_append_right _ h)))
  have hinX4 : ∀ w ∈ u_ws RX4 TX4 10, w ∈ wsX8_simulate := fun w h => List.mem_cons_of_mem _ (List.mem_append_left _ (List.mem_append_right _ h))
  have hinX8 : ∀ w ∈ u_ws RX8 TX8 9, w ∈ wsX8_simulate := fun w h => List.mem_cons_of_mem _ (List.mem_append_left _ (List.mem_append_left _ (List.mem_append_left _ (List.mem_append_right _ h))))
  subst hsz
  have hD := hD0.self (sz := s.heap.size)
  have hA : ∀ q : Nat, s.heap.size ≤ q → va_A (wBF Γ q_bf q_tx q_fl q_flT q_hi q_s1 q_s2 q_fd q_kc q_kr  ++ wFloor Γ q_fl q_k q_c q_a q_pa q_b q_pb vi vj vk vc va vpa vb vpb ++ wFloor Γ q_flT q_kT q_cT q_aT q_paT q_bT q_pbT viT vjT vkT vcT vaT vpaT vbT vpbT) s.heap.size q := fun q h => Or.inr h
  generalize va_A (wBF Γ q_bf q_tx q_fl q_flT q_hi q_s1 q_s2 q_fd q_kc q_kr  ++ wFloor Γ q_fl q_k q_c q_a q_pa q_b q_pb vi vj vk vc va vpa vb vpb ++ wFloor Γ q_flT q_kT q_cT q_aT q_paT q_bT q_pbT viT vjT vkT vcT vaT vpaT vbT vpbT) s.heap.size = A at hD hA hZ ⊢
  obtain ⟨W0_, hW0_⟩ : ∃ w : va_W, (wBF Γ q_bf q_tx q_fl q_flT q_hi q_s1 q_s2 q_fd q_kc q_kr  ++ wFloor Γ q_fl q_k q_c q_a q_pa q_b q_pb vi vj vk vc va vpa vb vpb ++ wFloor Γ q_flT q_kT q_cT q_aT q_paT q_bT q_pbT viT vjT vkT vcT vaT vpaT vbT vpbT) = w := ⟨_, rfl⟩
  rw [show my_XC Γ A (wBF Γ q_bf q_tx q_fl q_flT q_hi q_s1 q_s2 q_fd q_kc q_kr  ++ wFloor Γ q_fl q_k q_c q_a q_pa q_b q_pb vi vj vk vc va vpa vb vpb ++ wFloor Γ q_flT q_kT q_cT q_aT q_paT q_bT q_pbT viT vjT vkT vcT vaT vpaT vbT vpbT) (my_map (fun q : Int32 × (Nat → Int32) × (Nat → Int64) × (Nat → Int32) × (Nat → Int32) × (Nat → Int32) × (Nat → Int32) × (Nat → Int32) × (Nat → Int32) => ((some (.int (q.1))), (wBF Γ q_bf q_tx q_fl q_flT q_hi q_s1 q_s2 q_fd q_kc q_kr  ++ wFloor Γ q_fl q_k q_c q_a q_pa q_b q_pb vi vj vk vc va vpa vb vpb ++ wFloor Γ q_flT q_kT q_cT q_aT q_paT q_bT q_pbT (q.2.1) (q.2.2.1) (q.2.2.2.1) (q.2.2.2.2.1) (q.2.2.2.2.2.1) (q.2.2.2.2.2.2.1) (q.2.2.2.2.2.2.2.1) (q.2.2.2.2.2.2.2.2)))) mr) = my_XC Γ A W0_ (my_map (fun q : Int32 × (Nat → Int32) × (Nat → Int64) × (Nat → Int32) × (Nat → Int32) × (Nat → Int32) × (Nat → Int32) × (Nat → Int32) × (Nat → Int32) => ((some (.int (q.1))), (wBF Γ q_bf q_tx q_fl q_flT q_hi q_s1 q_s2 q_fd q_kc q_kr  ++ wFloor Γ q_fl q_k q_c q_a q_pa q_b q_pb vi vj vk vc va vpa vb vpb ++ wFloor Γ q_flT q_kT q_cT q_aT q_paT q_bT q_pbT (q.2.1) (q.2.2.1) (q.2.2.2.1) (q.2.2.2.2.1) (q.2.2.2.2.2.1) (q.2.2.2.2.2.2.1) (q.2.2.2.2.2.2.2.1) (q.2.2.2.2.2.2.2.2)))) mr) from congrArg (fun w => my_XC Γ A w (my_map (fun q : Int32 × (Nat → Int32) × (Nat → Int64) × (Nat → Int32) × (Nat → Int32) × (Nat → Int32) × (Nat → Int32) × (Nat → Int32) × (Nat → Int32) => ((some (.int (q.1))), (wBF Γ q_bf q_tx q_fl q_flT q_hi q_s1 q_s2 q_fd q_kc q_kr  ++ wFloor Γ q_fl q_k q_c q_a q_pa q_b q_pb vi vj vk vc va vpa vb vpb ++ wFloor Γ q_flT q_kT q_cT q_aT q_paT q_bT q_pbT (q.2.1) (q.2.2.1) (q.2.2.2.1) (q.2.2.2.2.1) (q.2.2.2.2.2.1) (q.2.2.2.2.2.2.1) (q.2.2.2.2.2.2.2.1) (q.2.2.2.2.2.2.2.2)))) mr)) hW0_]
  have hS : va_S A s.heap s.heap [] := va_S.rf
  have hl := lv_entry ([.ref q_bf, .long x0, .int x1]) (n := 8) (Nat.le_of_ble_eq_true rfl)
  rw [lg_entry_eq]
  generalize (lg_sl ([.ref q_bf, .long x0, .int x1]) ++ List.replicate (8 - (lg_sl ([.ref q_bf, .long x0, .int x1])).length) Slot.unset).toArray = ls at hl ⊢
  replace hl : lv_has ls 8 [(0, .ref q_bf), (1, .long x0), (3, .int x1)] := hl
  have J_42 : ∀ n : Nat, ∀ (vi : Nat → Int32) (vj : Nat → Int64) (vk : Nat → Int32) (vc : Nat → Int32) (va : Nat → Int32) (vpa : Nat → Int32) (vb : Nat → Int32) (vpb : Nat → Int32) (viT : Nat → Int32) (vjT : Nat → Int64) (vkT : Nat → Int32) (vcT : Nat → Int32) (vaT : Nat → Int32) (vpaT : Nat → Int32) (vbT : Nat → Int32) (vpbT : Nat → Int32) (l3 : Int32) (l4 : Int64) (l6 : Int32) (l7 : Int32) (H : Heap) (locs : List Loc) (ls : Array Slot), va_P (my_D Γ) vwCl (wBF Γ q_bf q_tx q_fl q_flT q_hi q_s1 q_s2 q_fd q_kc q_kr  ++ wFloor Γ q_fl q_k q_c q_a q_pa q_b q_pb vi vj vk vc va vpa vb vpb ++ wFloor Γ q_flT q_kT q_cT q_aT q_paT q_bT q_pbT viT vjT vkT vcT vaT vpaT vbT vpbT) H → va_D A (wBF Γ q_bf q_tx q_fl q_flT q_hi q_s1 q_s2 q_fd q_kc q_kr  ++ wFloor Γ q_fl q_k q_c q_a q_pa q_b q_pb vi vj vk vc va vpa vb vpb ++ wFloor Γ q_flT q_kT q_cT q_aT q_paT q_bT q_pbT viT vjT vkT vcT vaT vpaT vbT vpbT) → va_S A s.heap H locs → lv_has ls 8 [(0, .ref q_bf), (3, .int l3), (4, .long l4), (6, .int l6), (7, .int l7)] → mX8_simulate_L42 n vi vj vk vc va vpa vb vpb viT vjT vkT vcT vaT vpaT vbT vpbT l3 l4 l6 l7 = (some mr) → W p l e (headSpec wsX8_simulate ({ frames := 6, cells := 1, slots := 6, locals := 151 } : Room)).room s m ([.ref q_bf, .long x0, .int x1] : List Value).toArray below meth c H locs 0 0 (vx_MQ below (my_QR Γ A (my_map (fun q : Int32 × (Nat → Int32) × (Nat → Int64) × (Nat → Int32) × (Nat → Int32) × (Nat → Int32) × (Nat → Int32) × (Nat → Int32) × (Nat → Int32) => ((some (.int (q.1))), (wBF Γ q_bf q_tx q_fl q_flT q_hi q_s1 q_s2 q_fd q_kc q_kr  ++ wFloor Γ q_fl q_k q_c q_a q_pa q_b q_pb vi vj vk vc va vpa vb vpb ++ wFloor Γ q_flT q_kT q_cT q_aT q_paT q_bT q_pbT (q.2.1) (q.2.2.1) (q.2.2.2.1) (q.2.2.2.2.1) (q.2.2.2.2.2.1) (q.2.2.2.2.2.2.1) (q.2.2.2.2.2.2.2.1) (q.2.2.2.2.2.2.2.2)))) mr)) (my_XC Γ A W0_ (my_map (fun q : Int32 × (Nat → Int32) × (Nat → Int64) × (Nat → Int32) × (Nat → Int32) × (Nat → Int32) × (Nat → Int32) × (Nat → Int32) × (Nat → Int32) => ((some (.int (q.1))), (wBF Γ q_bf q_tx q_fl q_flT q_hi q_s1 q_s2 q_fd q_kc q_kr  ++ wFloor Γ q_fl q_k q_c q_a q_pa q_b q_pb vi vj vk vc va vpa vb vpb ++ wFloor Γ q_flT q_kT q_cT q_aT q_paT q_bT q_pbT (q.2.1) (q.2.2.1) (q.2.2.2.1) (q.2.2.2.2.1) (q.2.2.2.2.2.1) (q.2.2.2.2.2.2.1) (q.2.2.2.2.2.2.2.1) (q.2.2.2.2.2.2.2.2)))) mr)) ([.ref q_bf, .long x0, .int x1] : List Value).toArray s 1 6 A) (F0 m 42 ls []) := by
    intro  n
    induction n with
    | zero => intro vi vj vk vc va vpa vb vpb viT vjT vkT vcT vaT vpaT vbT vpbT l3 l4 l6 l7 H locs ls hP hD hS hl hm; cases hm
    | succ n ih =>
      intro vi vj vk vc va vpa vb vpb viT vjT vkT vcT vaT vpaT vbT vpbT l3 l4 l6 l7 H locs ls hP hD hS hl hm
      unfold mX8_simulate_L42 at hm
      refine lv_iload hx hb dX8_simulate_42 (lv_at hl 4 rfl) ?_
      refine lv_iload_n hx hb dX8_simulate_44 rfl (lv_at hl 1 rfl) ?_
      refine lv_icmp_ge (tgt := 88) hx hb dX8_simulate_45 (by decide) (fun c_12 => ?_) (fun c_12 => ?_)
      · replace hm := if_s hm c_12
        refine lv_sipush (v := (10000 : Int32)) hx hb dX8_simulate_88 (by decide) ?_
        refine lv_iload hx hb dX8_simulate_91 (lv_at hl 3 rfl) ?_
        refine lv_imul hx hb dX8_simulate_93 ?_
        refine lv_bipush (v := (100 : Int32)) hx hb dX8_simulate_94 (by decide) ?_
        refine lv_aload_n hx hb dX8_simulate_96 rfl (lv_at hl 0 rfl) ?_
        refine va_get (D := my_D Γ) (ci := 6) (v := .ref q_flT) (C := RX8) (T := TX8) (N := 9) hx hb hts hinX8 hown hK hP 0 rfl rfl 2 (by decide) (hts (.fieldLink RX8 23 "BeltFloor" "trial" "LBeltFloor$Floor;") (List.mem_of_getElem? (i := 3) rfl)) (fun _ h9 => h9) rfl dX8_simulate_97 ?_
        refine va_get (D := my_D Γ) (ci := 1) (v := .ref q_aT) (C := RX1) (T := TX1) (N := 12) hx hb hts hinX1 hown hK hP 8 rfl rfl 2 (by decide) (hts (.fieldLink RX8 264 "BeltFloor$Floor" "first" "LBeltFloor$Robot;") (List.mem_of_getElem? (i := 7) rfl)) (fun _ h9 => h9) rfl dX8_simulate_100 ?_
        refine va_get (D := my_D Γ) (ci := 3) (v := .int (vaT 0)) (C := RX4) (T := TX4) (N := 10) hx hb hts hinX4 hown hK hP 11 rfl rfl 0 (by decide) (hts (.fieldLink RX8 144 "BeltFloor$Robot" "cell" "I") (List.mem_of_getElem? (i := 8) rfl)) (fun _ h9 => h9) rfl dX8_simulate_103 ?_
        refine lv_imul hx hb dX8_simulate_106 ?_
        refine lv_iadd hx hb dX8_simulate_107 ?_
        refine lv_aload_n hx hb dX8_simulate_108 rfl (lv_at hl 0 rfl) ?_
        refine va_get (D := my_D Γ) (ci := 6) (v := .ref q_flT) (C := RX8) (T := TX8) (N := 9) hx hb hts hinX8 hown hK hP 0 rfl rfl 2 (by decide) (hts (.fieldLink RX8 23 "BeltFloor" "trial" "LBeltFloor$Floor;") (List.mem_of_getElem? (i := 3) rfl)) (fun _ h9 => h9) rfl dX8_simulate_109 ?_
        refine va_get (D := my_D Γ) (ci := 1) (v := .ref q_bT) (C := RX1) (T := TX1) (N := 12) hx hb hts hinX1 hown hK hP 8 rfl rfl 3 (by decide) (hts (.fieldLink RX8 272 "BeltFloor$Floor" "second" "LBeltFloor$Robot;") (List.mem_of_getElem? (i := 9) rfl)) (fun _ h9 => h9) rfl dX8_simulate_112 ?_
        refine va_get (D := my_D Γ) (ci := 3) (v := .int (vbT 0)) (C := RX4) (T := TX4) (N := 10) hx hb hts hinX4 hown hK hP 13 rfl rfl 0 (by decide) (hts (.fieldLink RX8 144 "BeltFloor$Robot" "cell" "I") (List.mem_of_getElem? (i := 8) rfl)) (fun _ h9 => h9) rfl dX8_simulate_115 ?_
        refine lv_iadd hx hb dX8_simulate_118 ?_
        cases hm
        exact vx_ret (W.widen (k := 1) (n := 6) (Nat.le_of_ble_eq_true rfl) (Nat.le_of_ble_eq_true rfl) (W.iret (v := ((((10000 : Int32) * l6) + ((100 : Int32) * (vaT 0))) + (vbT 0))) hx hb hr (fun t ht hW => ⟨_, _, rfl, ⟨rfl, by rw [ht]; exact hP⟩, hS.F ht⟩) hS.2.2 dX8_simulate_119))
      · replace hm := if_f hm c_12
        refine lv_lload hx hb dX8_simulate_48 (lv_at hl 2 rfl) ?_
        refine lv_ldc2 (v := (6364136223846793005 : Int64)) hx hb hown (hts (.constantLong RX8 305 (6364136223846793005)) (List.mem_of_getElem? (i := 5) rfl)) dX8_simulate_50 ?_
        refine lv_lmul hx hb dX8_simulate_53 ?_
        refine lv_ldc2 (v := (1442695040888963407 : Int64)) hx hb hown (hts (.constantLong RX8 307 (1442695040888963407)) (List.mem_of_getElem? (i := 6) rfl)) dX8_simulate_54 ?_
        refine lv_ladd hx hb dX8_simulate_57 ?_
        refine lv_lstore (lv' := [(4, .long ((l4 * (6364136223846793005 : Int64)) + (1442695040888963407 : Int64))), (0, .ref q_bf), (3, .int l3), (6, .int l6), (7, .int l7)]) hx hb dX8_simulate_58 hl (by decide) rfl (fun ls hl => ?_)
        refine lv_iload hx hb dX8_simulate_60 (lv_at hl 3 rfl) ?_
        refine lv_aload_n hx hb dX8_simulate_62 rfl (lv_at hl 1 rfl) ?_
        refine va_get (D := my_D Γ) (ci := 6) (v := .ref q_flT) (C := RX8) (T := TX8) (N := 9) hx hb hts hinX8 hown hK hP 0 rfl rfl 2 (by decide) (hts (.fieldLink RX8 23 "BeltFloor" "trial" "LBeltFloor$Floor;") (List.mem_of_getElem? (i := 3) rfl)) (fun _ h9 => h9) rfl dX8_simulate_63 ?_
        refine lv_aload_n hx hb dX8_simulate_66 rfl (lv_at hl 1 rfl) ?_
        refine lv_lload hx hb dX8_simulate_67 (lv_at hl 0 rfl) ?_
        refine lv_bipush (v := (33 : Int32)) hx hb dX8_simulate_69 (by decide) ?_
        refine my_lushr hx hb dX8_simulate_71 ?_
        refine lv_l2i (v := (jushrl ((l4 * (6364136223846793005 : Int64)) + (1442695040888963407 : Int64)) (33 : Int32)).toInt32) hx hb dX8_simulate_72 rfl ?_
        obtain ⟨r_13, viT_14, vjT_15, vkT_16, vcT_17, vaT_18, vpaT_19, vbT_20, vpbT_21, hc_22, hm⟩ := bo9_s hm
        refine my_call1 (wc := (wBF Γ q_bf q_tx q_fl q_flT q_hi q_s1 q_s2 q_fd q_kc q_kr  ++ wFloor Γ q_flT q_kT q_cT q_aT q_paT q_bT q_pbT viT vjT vkT vcT vaT vpaT vbT vpbT)) (w1 := (wBF Γ q_bf q_tx q_fl q_flT q_hi q_s1 q_s2 q_fd q_kc q_kr  ++ wFloor Γ q_flT q_kT q_cT q_aT q_paT q_bT q_pbT viT_14 vjT_15 vkT_16 vcT_17 vaT_18 vpaT_19 vbT_20 vpbT_21)) (ws1 := (wBF Γ q_bf q_tx q_fl q_flT q_hi q_s1 q_s2 q_fd q_kc q_kr  ++ wFloor Γ q_fl q_k q_c q_a q_pa q_b q_pb vi vj vk vc va vpa vb vpb ++ wFloor Γ q_flT q_kT q_cT q_aT q_paT q_bT q_pbT viT_14 vjT_15 vkT_16 vcT_17 vaT_18 vpaT_19 vbT_20 vpbT_21)) hP hD hS hA [0, 8, 9, 10, 11, 12, 13, 14] rfl rfl rfl (va_runV (As := [.int ((jushrl ((l4 * (6364136223846793005 : Int64)) + (1442695040888963407 : Int64)) (33 : Int32)).toInt32)]) (rest := [.ref q_flT, .int l6]) ⟨hx, hb, hml, hown, hts⟩ (kX8_makeTurn l Γ q_bf q_flT q_kT q_cT q_aT q_paT q_bT q_pbT q_tx q_fl q_hi q_s1 q_s2 q_fd q_kc q_kr viT vjT vkT vcT vaT vpaT vbT vpbT ((jushrl ((l4 * (6364136223846793005 : Int64)) + (1442695040888963407 : Int64)) (33 : Int32)).toInt32) r_13 viT_14 vjT_15 vkT_16 vcT_17 vaT_18 vpaT_19 vbT_20 vpbT_21 hc_22 _) (cwV 1 hts gX8_simulate_X8_makeTurn rfl rfl rfl (by decide +kernel) ⟨Nat.le_of_ble_eq_true rfl, Nat.le_of_ble_eq_true rfl⟩) (my_preV (wc := (wBF Γ q_bf q_tx q_fl q_flT q_hi q_s1 q_s2 q_fd q_kc q_kr  ++ wFloor Γ q_flT q_kT q_cT q_aT q_paT q_bT q_pbT viT vjT vkT vcT vaT vpaT vbT vpbT)) (ci := 6) (q0 := 0) [0, 8, 9, 10, 11, 12, 13, 14] hK hP hD rfl rfl rfl rfl) rfl rfl hl.1 rfl (lv_room (Nat.le_of_ble_eq_true rfl)) dX8_simulate_73 ⟨Nat.le_of_ble_eq_true rfl, Nat.le_of_ble_eq_true rfl⟩) (fun H locs hP hD hS => ?_)
        obtain ⟨r_23, viT_24, vjT_25, vaT_26, vbT_27, hc_28, hm⟩ := bo5_s hm
        refine my_call1 (wc := (wFloor Γ q_flT q_kT q_cT q_aT q_paT q_bT q_pbT viT_14 vjT_15 vkT_16 vcT_17 vaT_18 vpaT_19 vbT_20 vpbT_21)) (w1 := (wFloor Γ q_flT q_kT q_cT q_aT q_paT q_bT q_pbT viT_24 vjT_25 vkT_16 vcT_17 vaT_26 vpaT_19 vbT_27 vpbT_21)) (ws1 := (wBF Γ q_bf q_tx q_fl q_flT q_hi q_s1 q_s2 q_fd q_kc q_kr  ++ wFloor Γ q_fl q_k q_c q_a q_pa q_b q_pb vi vj vk vc va vpa vb vpb ++ wFloor Γ q_flT q_kT q_cT q_aT q_paT q_bT q_pbT viT_24 vjT_25 vkT_16 vcT_17 vaT_26 vpaT_19 vbT_27 vpbT_21)) hP hD hS hA [8, 9, 10, 11, 12, 13, 14] rfl rfl rfl (va_runS (As := [.ref q_flT, .int r_13]) (rest := [.int l6]) ⟨hx, hb, hml, hown, hts⟩ (kX6_makeSome l Γ q_flT q_kT q_cT q_aT q_paT q_bT q_pbT viT_14 vjT_15 vkT_16 vcT_17 vaT_18 vpaT_19 vbT_20 vpbT_21 r_13 r_23 viT_24 vjT_25 vaT_26 vbT_27 hc_28 _) (va_cwS 2 hts gX8_simulate_X6_makeSome rfl rfl rfl (by decide +kernel) ⟨Nat.le_of_ble_eq_true rfl, Nat.le_of_ble_eq_true rfl⟩) (my_preS (wc := (wFloor Γ q_flT q_kT q_cT q_aT q_paT q_bT q_pbT viT_14 vjT_15 vkT_16 vcT_17 vaT_18 vpaT_19 vbT_20 vpbT_21)) [8, 9, 10, 11, 12, 13, 14] hK hP hD rfl rfl) rfl rfl hl.1 rfl (lv_room (Nat.le_of_ble_eq_true rfl)) dX8_simulate_76 ⟨Nat.le_of_ble_eq_true rfl, Nat.le_of_ble_eq_true rfl⟩) (fun H locs hP hD hS => ?_)
        refine lv_iadd hx hb dX8_simulate_79 ?_
        refine lv_istore (lv' := [(6, .int (l6 + r_23)), (4, .long ((l4 * (6364136223846793005 : Int64)) + (1442695040888963407 : Int64))), (0, .ref q_bf), (3, .int l3), (7, .int l7)]) hx hb dX8_simulate_80 hl (by decide) rfl (fun ls hl => ?_)
        refine lv_iinc (v := (l7 + (1 : Int32))) (lv' := [(7, .int (l7 + (1 : Int32))), (6, .int (l6 + r_23)), (4, .long ((l4 * (6364136223846793005 : Int64)) + (1442695040888963407 : Int64))), (0, .ref q_bf), (3, .int l3)]) hx hb dX8_simulate_82 hl (k := 4) rfl rfl (by decide) rfl (fun ls hl => ?_)
        refine lv_goto (tgt := 42) hx hb dX8_simulate_85 (by decide) ?_
        exact ih vi vj vk vc va vpa vb vpb viT_24 vjT_25 vkT_16 vcT_17 vaT_26 vpaT_19 vbT_27 vpbT_21 l3 ((l4 * (6364136223846793005 : Int64)) + (1442695040888963407 : Int64)) (l6 + r_23) (l7 + (1 : Int32)) _ _ _ hP hD hS (lv_sub hl [3, 4, 2, 1, 0] rfl) hm
  unfold mX8_simulate at hm
  refine lv_iload_n hx hb dX8_simulate_0 rfl (lv_at hl 2 rfl) ?_
  refine lv_iconst (v := (1 : Int32)) hx hb dX8_simulate_1 (by decide) ?_
  refine lv_icmp_lt (tgt := 11) hx hb dX8_simulate_2 (by decide) (fun c_1 => ?_) (fun c_1 => ?_)
  · replace hm := if_s hm c_1
    obtain ⟨sa_, hsa_⟩ := hstr.1 (303, "no such number of turns") (List.mem_of_getElem? (i := 13) rfl)
    cases hm
    exact vx_throwSW (cls := "java/lang/IllegalArgumentException") (names := ["java/lang/RuntimeException", "java/lang/Exception"]) hx hb hfl hown my_fitA my_fitN (hts (.classLink RX8 57 "java/lang/IllegalArgumentException") (List.mem_of_getElem? (i := 1) rfl)) (hts (.initialized "java/lang/IllegalArgumentException") (List.mem_of_getElem? (i := 2) rfl)) hsa_ (vx_hat (fun w h => hts w (List.mem_cons_of_mem _ (List.mem_append_right _ h))) my_ngA (vx_c (va_Nw.use rfl hstr.2.2.1) (vx_c (va_Nw.use rfl hstr.2.2.2.2.1) (vx_c (va_Nw.use rfl hstr.2.2.2.2.2.1) (vx_c (va_Nw.use rfl hstr.2.2.2.2.2.2) vx_n))))) my_gdA hZ.1 hZ.2 hS (hl.1.trans hml.symm) dX8_simulate_11 dX8_simulate_14 dX8_simulate_15 dX8_simulate_18 dX8_simulate_21 (fun x hx9 => absurd (htab x hx9) id) (Nat.le_of_ble_eq_true rfl) (Nat.le_of_ble_eq_true rfl) (Nat.le_of_ble_eq_true rfl) (Nat.le_of_ble_eq_true rfl) hlocks (fun t ha hz hk => ⟨rfl, by rw [← hW0_]; exact my_thr hP hS hz hk⟩) hS.2.2 (Nat.le_of_ble_eq_true rfl) (Nat.le_of_ble_eq_true rfl)
  · replace hm := if_f hm c_1
    refine lv_iload_n hx hb dX8_simulate_5 rfl (lv_at hl 2 rfl) ?_
    refine lv_bipush (v := (60 : Int32)) hx hb dX8_simulate_6 (by decide) ?_
    refine lv_icmp_le (tgt := 22) hx hb dX8_simulate_8 (by decide) (fun c_2 => ?_) (fun c_2 => ?_)
    · replace hm := if_s hm c_2
      refine lv_aload_n hx hb dX8_simulate_22 rfl (lv_at hl 0 rfl) ?_
      refine va_get (D := my_D Γ) (ci := 6) (v := .ref q_flT) (C := RX8) (T := TX8) (N := 9) hx hb hts hinX8 hown hK hP 0 rfl rfl 2 (by decide) (hts (.fieldLink RX8 23 "BeltFloor" "trial" "LBeltFloor$Floor;") (List.mem_of_getElem? (i := 3) rfl)) (fun _ h9 => h9) rfl dX8_simulate_23 ?_
      refine lv_aload_n hx hb dX8_simulate_26 rfl (lv_at hl 0 rfl) ?_
      refine va_get (D := my_D Γ) (ci := 6) (v := .ref q_fl) (C := RX8) (T := TX8) (N := 9) hx hb hts hinX8 hown hK hP 0 rfl rfl 1 (by decide) (hts (.fieldLink RX8 19 "BeltFloor" "floor" "LBeltFloor$Floor;") (List.mem_of_getElem? (i := 4) rfl)) (fun _ h9 => h9) rfl dX8_simulate_27 ?_
      obtain ⟨viT_3, vjT_4, vkT_5, vcT_6, vaT_7, vpaT_8, vbT_9, vpbT_10, hc_11, hm⟩ := bo8_s hm
      refine my_call0 (wc := (wFloor Γ q_flT q_kT q_cT q_aT q_paT q_bT q_pbT viT vjT vkT vcT vaT vpaT vbT vpbT ++ wFloor Γ q_fl q_k q_c q_a q_pa q_b q_pb vi vj vk vc va vpa vb vpb)) (w1 := (wFloor Γ q_flT q_kT q_cT q_aT q_paT q_bT q_pbT viT_3 vjT_4 vkT_5 vcT_6 vaT_7 vpaT_8 vbT_9 vpbT_10 ++ wFloor Γ q_fl q_k q_c q_a q_pa q_b q_pb vi vj vk vc va vpa vb vpb)) (ws1 := (wBF Γ q_bf q_tx q_fl q_flT q_hi q_s1 q_s2 q_fd q_kc q_kr  ++ wFloor Γ q_fl q_k q_c q_a q_pa q_b q_pb vi vj vk vc va vpa vb vpb ++ wFloor Γ q_flT q_kT q_cT q_aT q_paT q_bT q_pbT viT_3 vjT_4 vkT_5 vcT_6 vaT_7 vpaT_8 vbT_9 vpbT_10)) hP hD hS hA [8, 9, 10, 11, 12, 13, 14, 1, 2, 3, 4, 5, 6, 7] rfl rfl rfl (va_runV (As := [.ref q_fl]) (rest := []) ⟨hx, hb, hml, hown, hts⟩ (kX1_copyFrom l Γ q_flT q_kT q_cT q_aT q_paT q_bT q_pbT q_fl q_k q_c q_a q_pa q_b q_pb viT vjT vkT vcT vaT vpaT vbT vpbT vi vj vk vc va vpa vb vpb viT_3 vjT_4 vkT_5 vcT_6 vaT_7 vpaT_8 vbT_9 vpbT_10 hc_11 _) (cwV 1 hts gX8_simulate_X1_copyFrom rfl rfl rfl (by decide +kernel) ⟨Nat.le_of_ble_eq_true rfl, Nat.le_of_ble_eq_true rfl⟩) (my_preV (wc := (wFloor Γ q_flT q_kT q_cT q_aT q_paT q_bT q_pbT viT vjT vkT vcT vaT vpaT vbT vpbT ++ wFloor Γ q_fl q_k q_c q_a q_pa q_b q_pb vi vj vk vc va vpa vb vpb)) (ci := 1) (q0 := 8) [8, 9, 10, 11, 12, 13, 14, 1, 2, 3, 4, 5, 6, 7] hK hP hD rfl rfl rfl rfl) rfl rfl hl.1 rfl (lv_room (Nat.le_of_ble_eq_true rfl)) dX8_simulate_30 ⟨Nat.le_of_ble_eq_true rfl, Nat.le_of_ble_eq_true rfl⟩) (fun H locs hP hD hS => ?_)
      refine lv_lload_n hx hb dX8_simulate_33 rfl (lv_at hl 1 rfl) ?_
      refine lv_lstore (lv' := [(4, .long x0), (0, .ref q_bf), (1, .long x0), (3, .int x1)]) hx hb dX8_simulate_34 hl (by decide) rfl (fun ls hl => ?_)
      refine lv_iconst (v := (0 : Int32)) hx hb dX8_simulate_36 (by decide) ?_
      refine lv_istore (lv' := [(6, .int (0 : Int32)), (4, .long x0), (0, .ref q_bf), (1, .long x0), (3, .int x1)]) hx hb dX8_simulate_37 hl (by decide) rfl (fun ls hl => ?_)
      refine lv_iconst (v := (0 : Int32)) hx hb dX8_simulate_39 (by decide) ?_
      refine lv_istore (lv' := [(7, .int (0 : Int32)), (6, .int (0 : Int32)), (4, .long x0), (0, .ref q_bf), (1, .long x0), (3, .int x1)]) hx hb dX8_simulate_40 hl (by decide) rfl (fun ls hl => ?_)
      exact J_42 4096 vi vj vk vc va vpa vb vpb viT_3 vjT_4 vkT_5 vcT_6 vaT_7 vpaT_8 vbT_9 vpbT_10 x1 x0 (0 : Int32) (0 : Int32) _ _ _ hP hD hS (lv_sub hl [3, 5, 2, 1, 0] rfl) hm
    · replace hm := if_f hm c_2
      obtain ⟨sa_, hsa_⟩ := hstr.1 (303, "no such number of turns") (List.mem_of_getElem? (i := 13) rfl)
      cases hm
      exact vx_throwSW (cls := "java/lang/IllegalArgumentException") (names := ["java/lang/RuntimeException", "java/lang/Exception"]) hx hb hfl hown my_fitA my_fitN (hts (.classLink RX8 57 "java/lang/IllegalArgumentException") (List.mem_of_getElem? (i := 1) rfl)) (hts (.initialized "java/lang/IllegalArgumentException") (List.mem_of_getElem? (i := 2) rfl)) hsa_ (vx_hat (fun w h => hts w (List.mem_cons_of_mem _ (List.mem_append_right _ h))) my_ngA (vx_c (va_Nw.use rfl hstr.2.2.1) (vx_c (va_Nw.use rfl hstr.2.2.2.2.1) (vx_c (va_Nw.use rfl hstr.2.2.2.2.2.1) (vx_c (va_Nw.use rfl hstr.2.2.2.2.2.2) vx_n))))) my_gdA hZ.1 hZ.2 hS (hl.1.trans hml.symm) dX8_simulate_11 dX8_simulate_14 dX8_simulate_15 dX8_simulate_18 dX8_simulate_21 (fun x hx9 => absurd (htab x hx9) id) (Nat.le_of_ble_eq_true rfl) (Nat.le_of_ble_eq_true rfl) (Nat.le_of_ble_eq_true rfl) (Nat.le_of_ble_eq_true rfl) hlocks (fun t ha hz hk => ⟨rfl, by rw [← hW0_]; exact my_thr hP hS hz hk⟩) hS.2.2 (Nat.le_of_ble_eq_true rfl) (Nat.le_of_ble_eq_true rfl)
def mX8_keptAlike (vkc : Nat → Int64) (vkr : Nat → Int64) (x0 : Int32) (x1 : Int32) : Option (Int32) := (if x0 < 0 then (some (0 : Int32)) else (if (jmin (241 : Int32) (241 : Int32)) ≤ x0 then (some (0 : Int32)) else (if x1 < 0 then (some (0 : Int32)) else (if x1 < (jmin (241 : Int32) (241 : Int32)) then (if ¬ (x0 < 0 ∨ 241 ≤ x0.toNatClampNeg) then (if ¬ (x1 < 0 ∨ 241 ≤ x1.toNatClampNeg) then (if (lg_cmp (vkc x0.toNatClampNeg) (vkc x1.toNatClampNeg)) = 0 then (if (lg_cmp (vkr x0.toNatClampNeg) (vkr x1.toNatClampNeg)) = 0 then (some (1 : Int32)) else (some (0 : Int32))) else (some (0 : Int32))) else none) else none) else (some (0 : Int32))))))
set_option maxHeartbeats 4000000 in
set_option maxRecDepth 100000 in
theorem kX8_keptAlike (l : Launch) (Γ : my_G) (q_bf q_kc q_kr q_tx q_fl q_flT q_hi q_s1 q_s2 q_fd : Nat) (vkc : Nat → Int64) (vkr : Nat → Int64) (x0 : Int32) (x1 : Int32) (rr : Int32) (hm : mX8_keptAlike vkc vkr x0 x1 = (some rr)) : Mn l yX8_keptAlike wsX8_keptAlike ({ frames := 1, cells := 0, slots := 0, locals := 24 } : Room) Γ [.ref q_bf, .int x0, .int x1] (wBF Γ q_bf q_tx q_fl q_flT q_hi q_s1 q_s2 q_fd q_kc q_kr  ++ wKept Γ q_kc q_kr vkc vkr) (some (.int rr)) (wBF Γ q_bf q_tx q_fl q_flT q_hi q_s1 q_s2 q_fd q_kc q_kr  ++ wKept Γ q_kc q_kr vkc vkr) := by
  intro sz
  refine Met.ofW (cc := cX8_keptAlike) (maxL := 4) (ret := (some .boolean)) (by decide) rfl ?_
  intro p e s m args below meth c s₁ B hml hv
  obtain ⟨rfl, hsz, hP, hK, hD0⟩ := hv
  have hx := B.exec
  have hb := B.bytes
  have hr := B.returns
  have hts := atoms_spec (ws := wsX8_keptAlike) B.pre
  have hown : s.vm.findClass RX8 = some m.cls := findClass_of_methodNamed B.named
  have hlocks := B.notSynchronized
  have hinX8 : ∀ w ∈ u_ws RX8 TX8 9, w ∈ wsX8_keptAlike := fun w h => List.mem_cons_of_mem _ (List.mem_append_right _ h)
  subst hsz
  have hD := hD0.self (sz := s.heap.size)
  have hA : ∀ q : Nat, s.heap.size ≤ q → va_A (wBF Γ q_bf q_tx q_fl q_flT q_hi q_s1 q_s2 q_fd q_kc q_kr  ++ wKept Γ q_kc q_kr vkc vkr) s.heap.size q := fun q h => Or.inr h
  generalize va_A (wBF Γ q_bf q_tx q_fl q_flT q_hi q_s1 q_s2 q_fd q_kc q_kr  ++ wKept Γ q_kc q_kr vkc vkr) s.heap.size = A at hD hA ⊢
  have hS : va_S A s.heap s.heap [] := va_S.rf
  have hl := lv_entry ([.ref q_bf, .int x0, .int x1]) (n := 4) (Nat.le_of_ble_eq_true rfl)
  rw [lg_entry_eq]
  generalize (lg_sl ([.ref q_bf, .int x0, .int x1]) ++ List.replicate (4 - (lg_sl ([.ref q_bf, .int x0, .int x1])).length) Slot.unset).toArray = ls at hl ⊢
  replace hl : lv_has ls 4 [(0, .ref q_bf), (1, .int x0), (2, .int x1)] := hl
  unfold mX8_keptAlike at hm
  refine lv_aload_n hx hb dX8_keptAlike_0 rfl (lv_at hl 0 rfl) ?_
  refine va_get (D := my_D Γ) (ci := 6) (v := .ref q_kc) (C := RX8) (T := TX8) (N := 9) hx hb hts hinX8 hown hK hP 0 rfl rfl 7 (by decide) (hts (.fieldLink RX8 50 "BeltFloor" "keptCrates" "[J") (List.mem_of_getElem? (i := 1) rfl)) (fun _ h9 => h9) rfl dX8_keptAlike_1 ?_
  refine va_alen hx hb hK hP 1 1 rfl rfl (v := (241 : Int32)) rfl dX8_keptAlike_4 ?_
  refine lv_aload_n hx hb dX8_keptAlike_5 rfl (lv_at hl 0 rfl) ?_
  refine va_get (D := my_D Γ) (ci := 6) (v := .ref q_kr) (C := RX8) (T := TX8) (N := 9) hx hb hts hinX8 hown hK hP 0 rfl rfl 8 (by decide) (hts (.fieldLink RX8 54 "BeltFloor" "keptRobots" "[J") (List.mem_of_getElem? (i := 2) rfl)) (fun _ h9 => h9) rfl dX8_keptAlike_6 ?_
  refine va_alen hx hb hK hP 2 1 rfl rfl (v := (241 : Int32)) rfl dX8_keptAlike_9 ?_
  refine my_mmin hx hb (hml.trans hl.1.symm) hown (hts (.methodLink RX8 328 Lib.Math.min.name) (List.mem_of_getElem? (i := 3) rfl)) (hts (.static Lib.Math.min.name) (List.mem_of_getElem? (i := 4) rfl)) (hts (.initialized "java/lang/Math") (List.mem_of_getElem? (i := 5) rfl)) (hts (.code Lib.Math.min.name Lib.Math.min.code 2 (some .int)) (List.mem_of_getElem? (i := 6) rfl)) (Nat.le_of_ble_eq_true rfl) (Nat.le_of_ble_eq_true rfl) (Nat.le_of_ble_eq_true rfl) (Nat.le_of_ble_eq_true rfl) dX8_keptAlike_10 ?_
  refine lv_istore_n (lv' := [(3, .int (jmin (241 : Int32) (241 : Int32))), (0, .ref q_bf), (1, .int x0), (2, .int x1)]) hx hb dX8_keptAlike_13 rfl hl (by decide) rfl (fun ls hl => ?_)
  refine lv_iload_n hx hb dX8_keptAlike_14 rfl (lv_at hl 2 rfl) ?_
  refine lv_if_lt (tgt := 32) hx hb dX8_keptAlike_15 (by decide) (fun c_1 => ?_) (fun c_1 => ?_)
  · replace hm := if_s hm c_1
    refine lv_iconst (v := (0 : Int32)) hx hb dX8_keptAlike_32 (by decide) ?_
    obtain hf0 := Option.some.inj hm
    subst hf0
    exact W.zret (v := (0 : Int32)) hx hb hr rfl (fun t ht hW => ⟨⟨rfl, by rw [ht]; exact hP⟩, hS.F ht⟩) hS.2.2 dX8_keptAlike_33
  · replace hm := if_f hm c_1
    refine lv_iload_n hx hb dX8_keptAlike_18 rfl (lv_at hl 2 rfl) ?_
    refine lv_iload_n hx hb dX8_keptAlike_19 rfl (lv_at hl 0 rfl) ?_
    refine lv_icmp_ge (tgt := 32) hx hb dX8_keptAlike_20 (by decide) (fun c_2 => ?_) (fun c_2 => ?_)
    · replace hm := if_s hm c_2
      refine lv_iconst (v := (0 : Int32)) hx hb dX8_keptAlike_32 (by decide) ?_
      obtain hf0 := Option.some.inj hm
      subst hf0
      exact W.zret (v := (0 : Int32)) hx hb hr rfl (fun t ht hW => ⟨⟨rfl, by rw [ht]; exact hP⟩, hS.F ht⟩) hS.2.2 dX8_keptAlike_33
    · replace hm := if_f hm c_2
      refine lv_iload_n hx hb dX8_keptAlike_23 rfl (lv_at hl 3 rfl) ?_
      refine lv_if_lt (tgt := 32) hx hb dX8_keptAlike_24 (by decide) (fun c_3 => ?_) (fun c_3 => ?_)
      · replace hm := if_s hm c_3
        refine lv_iconst (v := (0 : Int32)) hx hb dX8_keptAlike_32 (by decide) ?_
        obtain hf0 := Option.some.inj hm
        subst hf0
        exact W.zret (v := (0 : Int32)) hx hb hr rfl (fun t ht hW => ⟨⟨rfl, by rw [ht]; exact hP⟩, hS.F ht⟩) hS.2.2 dX8_keptAlike_33
      · replace hm := if_f hm c_3
        refine lv_iload_n hx hb dX8_keptAlike_27 rfl (lv_at hl 3 rfl) ?_
        refine lv_iload_n hx hb dX8_keptAlike_28 rfl (lv_at hl 0 rfl) ?_
        refine lv_icmp_lt (tgt := 34) hx hb dX8_keptAlike_29 (by decide) (fun c_4 => ?_) (fun c_4 => ?_)
        · replace hm := if_s hm c_4
          refine lv_aload_n hx hb dX8_keptAlike_34 rfl (lv_at hl 1 rfl) ?_
          refine va_get (D := my_D Γ) (ci := 6) (v := .ref q_kc) (C := RX8) (T := TX8) (N := 9) hx hb hts hinX8 hown hK hP 0 rfl rfl 7 (by decide) (hts (.fieldLink RX8 50 "BeltFloor" "keptCrates" "[J") (List.mem_of_getElem? (i := 1) rfl)) (fun _ h9 => h9) rfl dX8_keptAlike_35 ?_
          refine lv_iload_n hx hb dX8_keptAlike_38 rfl (lv_at hl 2 rfl) ?_
          obtain ⟨hi_5, hm⟩ := if_in hm
          refine va_lald hx hb hK hP 1 1 rfl rfl hi_5 dX8_keptAlike_39 ?_
          refine lv_aload_n hx hb dX8_keptAlike_40 rfl (lv_at hl 1 rfl) ?_
          refine va_get (D := my_D Γ) (ci := 6) (v := .ref q_kc) (C := RX8) (T := TX8) (N := 9) hx hb hts hinX8 hown hK hP 0 rfl rfl 7 (by decide) (hts (.fieldLink RX8 50 "BeltFloor" "keptCrates" "[J") (List.mem_of_getElem? (i := 1) rfl)) (fun _ h9 => h9) rfl dX8_keptAlike_41 ?_
          refine lv_iload_n hx hb dX8_keptAlike_44 rfl (lv_at hl 3 rfl) ?_
          obtain ⟨hi_6, hm⟩ := if_in hm
          refine va_lald hx hb hK hP 1 1 rfl rfl hi_6 dX8_keptAlike_45 ?_
          refine W.lcmp hx hb dX8_keptAlike_46 ?_
          refine lv_if_ne (tgt := 70) hx hb dX8_keptAlike_47 (by decide) (fun c_7 => ?_) (fun c_7 => ?_)
          · replace hm := if_f hm c_7
            refine lv_iconst (v := (0 : Int32)) hx hb dX8_keptAlike_70 (by decide) ?_
            obtain hf0 := Option.some.inj hm
            subst hf0
            exact W.zret (v := (0 : Int32)) hx hb hr rfl (fun t ht hW => ⟨⟨rfl, by rw [ht]; exact hP⟩, hS.F ht⟩) hS.2.2 dX8_keptAlike_71
          · replace hm := if_s hm c_7
            refine lv_aload_n hx hb dX8_keptAlike_50 rfl (lv_at hl 1 rfl) ?_
            refine va_get (D := my_D Γ) (ci := 6) (v := .ref q_kr) (C := RX8) (T := TX8) (N := 9) hx hb hts hinX8 hown hK hP 0 rfl rfl 8 (by decide) (hts (.fieldLink RX8 54 "BeltFloor" "keptRobots" "[J") (List.mem_of_getElem? (i := 2) rfl)) (fun _ h9 => h9) rfl dX8_keptAlike_51 ?_
            refine lv_iload_n hx hb dX8_keptAlike_54 rfl (lv_at hl 2 rfl) ?_
            refine va_lald hx hb hK hP 2 1 rfl rfl hi_5 dX8_keptAlike_55 ?_
            refine lv_aload_n hx hb dX8_keptAlike_56 rfl (lv_at hl 1 rfl) ?_
            refine va_get (D := my_D Γ) (ci := 6) (v := .ref q_kr) (C := RX8) (T := TX8) (N := 9) hx hb hts hinX8 hown hK hP 0 rfl rfl 8 (by decide) (hts (.fieldLink RX8 54 "BeltFloor" "keptRobots" "[J") (List.mem_of_getElem? (i := 2) rfl)) (fun _ h9 => h9) rfl dX8_keptAlike_57 ?_
            refine lv_iload_n hx hb dX8_keptAlike_60 rfl (lv_at hl 3 rfl) ?_
            refine va_lald hx hb hK hP 2 1 rfl rfl hi_6 dX8_keptAlike_61 ?_
            refine W.lcmp hx hb dX8_keptAlike_62 ?_
            refine lv_if_ne (tgt := 70) hx hb dX8_keptAlike_63 (by decide) (fun c_8 => ?_) (fun c_8 => ?_)
            · replace hm := if_f hm c_8
              refine lv_iconst (v := (0 : Int32)) hx hb dX8_keptAlike_70 (by decide) ?_
              obtain hf0 := Option.some.inj hm
              subst hf0
              exact W.zret (v := (0 : Int32)) hx hb hr rfl (fun t ht hW => ⟨⟨rfl, by rw [ht]; exact hP⟩, hS.F ht⟩) hS.2.2 dX8_keptAlike_71
            · replace hm := if_s hm c_8
              refine lv_iconst (v := (1 : Int32)) hx hb dX8_keptAlike_66 (by decide) ?_
              refine lv_goto (tgt := 71) hx hb dX8_keptAlike_67 (by decide) ?_
              obtain hf0 := Option.some.inj hm
              subst hf0
              exact W.zret (v := (1 : Int32)) hx hb hr rfl (fun t ht hW => ⟨⟨rfl, by rw [ht]; exact hP⟩, hS.F ht⟩) hS.2.2 dX8_keptAlike_71
        · replace hm := if_f hm c_4
          refine lv_iconst (v := (0 : Int32)) hx hb dX8_keptAlike_32 (by decide) ?_
          obtain hf0 := Option.some.inj hm
          subst hf0
          exact W.zret (v := (0 : Int32)) hx hb hr rfl (fun t ht hW => ⟨⟨rfl, by rw [ht]; exact hP⟩, hS.F ht⟩) hS.2.2 dX8_keptAlike_33
def mX8_loopByKeeping_L73  : Nat → (Nat → Int32) → (Nat → Int64) → (Nat → Int32) → (Nat → Int32) → (Nat → Int32) → (Nat → Int32) → (Nat → Int32) → (Nat → Int32) → (Nat → Int32) → (Nat → Int64) → (Nat → Int32) → (Nat → Int32) → (Nat → Int32) → (Nat → Int32) → (Nat → Int32) → (Nat → Int32) → (Nat → Int64) → (Nat → Int64) → Int32 → Option (Int32 × (Nat → Int32) × (Nat → Int64) × (Nat → Int32) × (Nat → Int32) × (Nat → Int32) × (Nat → Int32) × (Nat → Int32) × (Nat → Int32) × (Nat → Int64) × (Nat → Int64))
  | 0, _, _, _, _, _, _, _, _, _, _, _, _, _, _, _, _, _, _, _ => none
  | n + 1, vi, vj, vk, vc, va, vpa, vb, vpb, viT, vjT, vkT, vcT, vaT, vpaT, vbT, vpbT, vkc, vkr, l1 => (if (120 : Int32) < l1 then (some ((-1 : Int32), viT, vjT, vkT, vcT, vaT, vpaT, vbT, vpbT, vkc, vkr)) else (bo1 (mX8_keptAlike vkc vkr (120 : Int32) ((120 : Int32) + l1)) (fun r_12 => (if r_12 = 0 then (mX8_loopByKeeping_L73 n vi vj vk vc va vpa vb vpb viT vjT vkT vcT vaT vpaT vbT vpbT vkc vkr (l1 + (1 : Int32))) else (some (l1, viT, vjT, vkT, vcT, vaT, vpaT, vbT, vpbT, vkc, vkr))))))
def mX8_loopByKeeping_J71  (vi : Nat → Int32) (vj : Nat → Int64) (vk : Nat → Int32) (vc : Nat → Int32) (va : Nat → Int32) (vpa : Nat → Int32) (vb : Nat → Int32) (vpb : Nat → Int32) (viT : Nat → Int32) (vjT : Nat → Int64) (vkT : Nat → Int32) (vcT : Nat → Int32) (vaT : Nat → Int32) (vpaT : Nat → Int32) (vbT : Nat → Int32) (vpbT : Nat → Int32) (vkc : Nat → Int64) (vkr : Nat → Int64)  : Option (Int32 × (Nat → Int32) × (Nat → Int64) × (Nat → Int32) × (Nat → Int32) × (Nat → Int32) × (Nat → Int32) × (Nat → Int32) × (Nat → Int32) × (Nat → Int64) × (Nat → Int64)) := (mX8_loopByKeeping_L73 4096 vi vj vk vc va vpa vb vpb viT vjT vkT vcT vaT vpaT vbT vpbT vkc vkr (1 : Int32))
def mX8_loopByKeeping_L13  : Nat → (Nat → Int32) → (Nat → Int64) → (Nat → Int32) → (Nat → Int32) → (Nat → Int32) → (Nat → Int32) → (Nat → Int32) → (Nat → Int32) → (Nat → Int32) → (Nat → Int64) → (Nat → Int32) → (Nat → Int32) → (Nat → Int32) → (Nat → Int32) → (Nat → Int32) → (Nat → Int32) → (Nat → Int64) → (Nat → Int64) → Int32 → Option (Int32 × (Nat → Int32) × (Nat → Int64) × (Nat → Int32) × (Nat → Int32) × (Nat → Int32) × (Nat → Int32) × (Nat → Int32) × (Nat → Int32) × (Nat → Int64) × (Nat → Int64))
  | 0, _, _, _, _, _, _, _, _, _, _, _, _, _, _, _, _, _, _, _ => none
  | n + 1, vi, vj, vk, vc, va, vpa, vb, vpb, viT, vjT, vkT, vcT, vaT, vpaT, vbT, vpbT, vkc, vkr, l1 => (if (241 : Int32) ≤ l1 then (mX8_loopByKeeping_J71 vi vj vk vc va vpa vb vpb viT vjT vkT vcT vaT vpaT vbT vpbT vkc vkr) else (if (241 : Int32) ≤ l1 then (mX8_loopByKeeping_J71 vi vj vk vc va vpa vb vpb viT vjT vkT vcT vaT vpaT vbT vpbT vkc vkr) else (if ¬ (l1 < 0 ∨ 241 ≤ l1.toNatClampNeg) then (bo5 (mX6_makeOne viT vjT vkT vcT vaT vpaT vbT vpbT) (fun r_19 viT_20 vjT_21 vaT_22 vbT_23 => (mX8_loopByKeeping_L13 n vi vj vk vc va vpa vb vpb viT_20 vjT_21 vkT vcT vaT_22 vpaT vbT_23 vpbT (vp_updL vkc l1.toNatClampNeg (vjT 4)) (vp_updL vkr l1.toNatClampNeg (mX1_robotsAsNumber vaT vbT)) (l1 + (1 : Int32))))) else none)))
def mX8_loopByKeeping (vi : Nat → Int32) (vj : Nat → Int64) (vk : Nat → Int32) (vc : Nat → Int32) (va : Nat → Int32) (vpa : Nat → Int32) (vb : Nat → Int32) (vpb : Nat → Int32) (viT : Nat → Int32) (vjT : Nat → Int64) (vkT : Nat → Int32) (vcT : Nat → Int32) (vaT : Nat → Int32) (vpaT : Nat → Int32) (vbT : Nat → Int32) (vpbT : Nat → Int32) (vkc : Nat → Int64) (vkr : Nat → Int64) : Option (Int32 × (Nat → Int32) × (Nat → Int64) × (Nat → Int32) × (Nat → Int32) × (Nat → Int32) × (Nat → Int32) × (Nat → Int32) × (Nat → Int32) × (Nat → Int64) × (Nat → Int64)) := (bo8 (mX1_copyFrom viT vjT vkT vcT vaT vpaT vbT vpbT vi vj vk vc va vpa vb vpb) (fun viT_1 vjT_2 vkT_3 vcT_4 vaT_5 vpaT_6 vbT_7 vpbT_8 => (mX8_loopByKeeping_L13 4096 vi vj vk vc va vpa vb vpb viT_1 vjT_2 vkT_3 vcT_4 vaT_5 vpaT_6 vbT_7 vpbT_8 vkc vkr (0 : Int32))))
set_option maxHeartbeats 4000000 in
set_option maxRecDepth 100000 in
theorem kX8_loopByKeeping (l : Launch) (Γ : my_G) (q_bf q_fl q_k q_c q_a q_pa q_b q_pb q_flT q_kT q_cT q_aT q_paT q_bT q_pbT q_kc q_kr q_tx q_hi q_s1 q_s2 q_fd : Nat) (vi : Nat → Int32) (vj : Nat → Int64) (vk : Nat → Int32) (vc : Nat → Int32) (va : Nat → Int32) (vpa : Nat → Int32) (vb : Nat → Int32) (vpb : Nat → Int32) (viT : Nat → Int32) (vjT : Nat → Int64) (vkT : Nat → Int32) (vcT : Nat → Int32) (vaT : Nat → Int32) (vpaT : Nat → Int32) (vbT : Nat → Int32) (vpbT : Nat → Int32) (vkc : Nat → Int64) (vkr : Nat → Int64)  (rr : Int32) (viT_z : Nat → Int32) (vjT_z : Nat → Int64) (vkT_z : Nat → Int32) (vcT_z : Nat → Int32) (vaT_z : Nat → Int32) (vpaT_z : Nat → Int32) (vbT_z : Nat → Int32) (vpbT_z : Nat → Int32) (vkc_z : Nat → Int64) (vkr_z : Nat → Int64) (hm : mX8_loopByKeeping vi vj vk vc va vpa vb vpb viT vjT vkT vcT vaT vpaT vbT vpbT vkc vkr = (some (rr, viT_z, vjT_z, vkT_z, vcT_z, vaT_z, vpaT_z, vbT_z, vpbT_z, vkc_z, vkr_z))) : Mn l yX8_loopByKeeping wsX8_loopByKeeping ({ frames := 5, cells := 0, slots := 0, locals := 128 } : Room) Γ [.ref q_bf] (wBF Γ q_bf q_tx q_fl q_flT q_hi q_s1 q_s2 q_fd q_kc q_kr  ++ wFloor Γ q_fl q_k q_c q_a q_pa q_b q_pb vi vj vk vc va vpa vb vpb ++ wFloor Γ q_flT q_kT q_cT q_aT q_paT q_bT q_pbT viT vjT vkT vcT vaT vpaT vbT vpbT ++ wKept Γ q_kc q_kr vkc vkr) (some (.int rr)) (wBF Γ q_bf q_tx q_fl q_flT q_hi q_s1 q_s2 q_fd q_kc q_kr  ++ wFloor Γ q_fl q_k q_c q_a q_pa q_b q_pb vi vj vk vc va vpa vb vpb ++ wFloor Γ q_flT q_kT q_cT q_aT q_paT q_bT q_pbT viT_z vjT_z vkT_z vcT_z vaT_z vpaT_z vbT_z vpbT_z ++ wKept Γ q_kc q_kr vkc_z vkr_z) := by
  intro sz
  refine Met.ofW (cc := cX8_loopByKeeping) (maxL := 2) (ret := (some .int)) (by decide) rfl ?_
  intro p e s m args below meth c s₁ B hml hv
  obtain ⟨rfl, hsz, hP, hK, hD0⟩ := hv
  have hx := B.exec
  have hb := B.bytes
  have hr := B.returns
  have hts := atoms_spec (ws := wsX8_loopByKeeping) B.pre
  have hown : s.vm.findClass RX8 = some m.cls := findClass_of_methodNamed B.named
  have hlocks := B.notSynchronized
  have hinX1 : ∀ w ∈ u_ws RX1 TX1 12, w ∈ wsX8_loopByKeeping := fun w h => List.mem_cons_of_mem _ (List.mem_append_left _ (List.mem_append_right _ h))
  have hinX4 : ∀ w ∈ u_ws RX4 TX4 10, w ∈ wsX8_loopByKeeping := fun w h => List.mem_cons_of_mem _ (List.mem_append_right _ h)
  have hinX8 : ∀ w ∈ u_ws RX8 TX8 9, w ∈ wsX8_loopByKeeping := fun w h => List.mem_cons_of_mem _ (List.mem_append_left _ (List.mem_append_left _ (List.mem_append_right _ h)))
  subst hsz
  have hD := hD0.self (sz := s.heap.size)
  have hA : ∀ q : Nat, s.heap.size ≤ q → va_A (wBF Γ q_bf q_tx q_fl q_flT q_hi q_s1 q_s2 q_fd q_kc q_kr  ++ wFloor Γ q_fl q_k q_c q_a q_pa q_b q_pb vi vj vk vc va vpa vb vpb ++ wFloor Γ q_flT q_kT q_cT q_aT q_paT q_bT q_pbT viT vjT vkT vcT vaT vpaT vbT vpbT ++ wKept Γ q_kc q_kr vkc vkr) s.heap.size q := fun q h => Or.inr h
  generalize va_A (wBF Γ q_bf q_tx q_fl q_flT q_hi q_s1 q_s2 q_fd q_kc q_kr  ++ wFloor Γ q_fl q_k q_c q_a q_pa q_b q_pb vi vj vk vc va vpa vb vpb ++ wFloor Γ q_flT q_kT q_cT q_aT q_paT q_bT q_pbT viT vjT vkT vcT vaT vpaT vbT vpbT ++ wKept Γ q_kc q_kr vkc vkr) s.heap.size = A at hD hA ⊢
  have hS : va_S A s.heap s.heap [] := va_S.rf
  have hl := lv_entry ([.ref q_bf]) (n := 2) (Nat.le_of_ble_eq_true rfl)
  rw [lg_entry_eq]
  generalize (lg_sl ([.ref q_bf]) ++ List.replicate (2 - (lg_sl ([.ref q_bf])).length) Slot.unset).toArray = ls at hl ⊢
  replace hl : lv_has ls 2 [(0, .ref q_bf)] := hl
  have J_73 : ∀ n : Nat, ∀ (vi : Nat → Int32) (vj : Nat → Int64) (vk : Nat → Int32) (vc : Nat → Int32) (va : Nat → Int32) (vpa : Nat → Int32) (vb : Nat → Int32) (vpb : Nat → Int32) (viT : Nat → Int32) (vjT : Nat → Int64) (vkT : Nat → Int32) (vcT : Nat → Int32) (vaT : Nat → Int32) (vpaT : Nat → Int32) (vbT : Nat → Int32) (vpbT : Nat → Int32) (vkc : Nat → Int64) (vkr : Nat → Int64) (l1 : Int32) (H : Heap) (locs : List Loc) (ls : Array Slot), va_P (my_D Γ) vwCl (wBF Γ q_bf q_tx q_fl q_flT q_hi q_s1 q_s2 q_fd q_kc q_kr  ++ wFloor Γ q_fl q_k q_c q_a q_pa q_b q_pb vi vj vk vc va vpa vb vpb ++ wFloor Γ q_flT q_kT q_cT q_aT q_paT q_bT q_pbT viT vjT vkT vcT vaT vpaT vbT vpbT ++ wKept Γ q_kc q_kr vkc vkr) H → va_D A (wBF Γ q_bf q_tx q_fl q_flT q_hi q_s1 q_s2 q_fd q_kc q_kr  ++ wFloor Γ q_fl q_k q_c q_a q_pa q_b q_pb vi vj vk vc va vpa vb vpb ++ wFloor Γ q_flT q_kT q_cT q_aT q_paT q_bT q_pbT viT vjT vkT vcT vaT vpaT vbT vpbT ++ wKept Γ q_kc q_kr vkc vkr) → va_S A s.heap H locs → lv_has ls 2 [(0, .ref q_bf), (1, .int l1)] → mX8_loopByKeeping_L73 n vi vj vk vc va vpa vb vpb viT vjT vkT vcT vaT vpaT vbT vpbT vkc vkr l1 = (some (rr, viT_z, vjT_z, vkT_z, vcT_z, vaT_z, vpaT_z, vbT_z, vpbT_z, vkc_z, vkr_z)) → W p l e (headSpec wsX8_loopByKeeping ({ frames := 5, cells := 0, slots := 0, locals := 128 } : Room)).room s m ([.ref q_bf] : List Value).toArray below meth c H locs 0 0 (MQ below (my_Q Γ A (some (.int rr)) (wBF Γ q_bf q_tx q_fl q_flT q_hi q_s1 q_s2 q_fd q_kc q_kr  ++ wFloor Γ q_fl q_k q_c q_a q_pa q_b q_pb vi vj vk vc va vpa vb vpb ++ wFloor Γ q_flT q_kT q_cT q_aT q_paT q_bT q_pbT viT_z vjT_z vkT_z vcT_z vaT_z vpaT_z vbT_z vpbT_z ++ wKept Γ q_kc q_kr vkc_z vkr_z)) ([.ref q_bf] : List Value).toArray s 0 0 A) (F0 m 73 ls []) := by
    intro  n
    induction n with
    | zero => intro vi vj vk vc va vpa vb vpb viT vjT vkT vcT vaT vpaT vbT vpbT vkc vkr l1 H locs ls hP hD hS hl hm; cases hm
    | succ n ih =>
      intro vi vj vk vc va vpa vb vpb viT vjT vkT vcT vaT vpaT vbT vpbT vkc vkr l1 H locs ls hP hD hS hl hm
      unfold mX8_loopByKeeping_L73 at hm
      refine lv_iload_n hx hb dX8_loopByKeeping_73 rfl (lv_at hl 1 rfl) ?_
      refine lv_bipush (v := (120 : Int32)) hx hb dX8_loopByKeeping_74 (by decide) ?_
      refine lv_icmp_gt (tgt := 100) hx hb dX8_loopByKeeping_76 (by decide) (fun c_11 => ?_) (fun c_11 => ?_)
      · replace hm := if_s hm c_11
        refine lv_iconst (v := (-1 : Int32)) hx hb dX8_loopByKeeping_100 (by decide) ?_
        obtain ⟨hf0, hf1, hf2, hf3, hf4, hf5, hf6, hf7, hf8, hf9, hf10⟩ := si11 hm
        subst hf0
        subst hf1
        subst hf2
        subst hf3
        subst hf4
        subst hf5
        subst hf6
        subst hf7
        subst hf8
        subst hf9
        subst hf10
        exact W.iret (v := (-1 : Int32)) hx hb hr (fun t ht hW => ⟨⟨rfl, by rw [ht]; exact hP⟩, hS.F ht⟩) hS.2.2 dX8_loopByKeeping_101
      · replace hm := if_f hm c_11
        refine lv_aload_n hx hb dX8_loopByKeeping_79 rfl (lv_at hl 0 rfl) ?_
        refine lv_bipush (v := (120 : Int32)) hx hb dX8_loopByKeeping_80 (by decide) ?_
        refine lv_bipush (v := (120 : Int32)) hx hb dX8_loopByKeeping_82 (by decide) ?_
        refine lv_iload_n hx hb dX8_loopByKeeping_84 rfl (lv_at hl 1 rfl) ?_
        refine lv_iadd hx hb dX8_loopByKeeping_85 ?_
        obtain ⟨r_12, hc_13, hm⟩ := bo1_s hm
        refine my_call1 (wc := (wBF Γ q_bf q_tx q_fl q_flT q_hi q_s1 q_s2 q_fd q_kc q_kr  ++ wKept Γ q_kc q_kr vkc vkr)) (w1 := (wBF Γ q_bf q_tx q_fl q_flT q_hi q_s1 q_s2 q_fd q_kc q_kr  ++ wKept Γ q_kc q_kr vkc vkr)) (ws1 := (wBF Γ q_bf q_tx q_fl q_flT q_hi q_s1 q_s2 q_fd q_kc q_kr  ++ wFloor Γ q_fl q_k q_c q_a q_pa q_b q_pb vi vj vk vc va vpa vb vpb ++ wFloor Γ q_flT q_kT q_cT q_aT q_paT q_bT q_pbT viT vjT vkT vcT vaT vpaT vbT vpbT ++ wKept Γ q_kc q_kr vkc vkr)) hP hD hS hA [0, 15, 16] rfl rfl rfl (va_runV (As := [.int (120 : Int32), .int ((120 : Int32) + l1)]) (rest := []) ⟨hx, hb, hml, hown, hts⟩ (kX8_keptAlike l Γ q_bf q_kc q_kr q_tx q_fl q_flT q_hi q_s1 q_s2 q_fd vkc vkr (120 : Int32) ((120 : Int32) + l1) r_12 hc_13 _) (cwV 2 hts gX8_loopByKeeping_X8_keptAlike rfl rfl rfl (by decide +kernel) ⟨Nat.le_of_ble_eq_true rfl, Nat.le_of_ble_eq_true rfl⟩) (my_preV (wc := (wBF Γ q_bf q_tx q_fl q_flT q_hi q_s1 q_s2 q_fd q_kc q_kr  ++ wKept Γ q_kc q_kr vkc vkr)) (ci := 6) (q0 := 0) [0, 15, 16] hK hP hD rfl rfl rfl rfl) rfl rfl hl.1 rfl (lv_room (Nat.le_of_ble_eq_true rfl)) dX8_loopByKeeping_86 ⟨Nat.le_of_ble_eq_true rfl, Nat.le_of_ble_eq_true rfl⟩) (fun H locs hP hD hS => ?_)
        refine lv_if_eq (tgt := 94) hx hb dX8_loopByKeeping_89 (by decide) (fun c_14 => ?_) (fun c_14 => ?_)
        · replace hm := if_s hm c_14
          refine lv_iinc (v := (l1 + (1 : Int32))) (lv' := [(1, .int (l1 + (1 : Int32))), (0, .ref q_bf)]) hx hb dX8_loopByKeeping_94 hl (k := 1) rfl rfl (by decide) rfl (fun ls hl => ?_)
          refine lv_goto (tgt := 73) hx hb dX8_loopByKeeping_97 (by decide) ?_
          exact ih vi vj vk vc va vpa vb vpb viT vjT vkT vcT vaT vpaT vbT vpbT vkc vkr (l1 + (1 : Int32)) _ _ _ hP hD hS (lv_sub hl [1, 0] rfl) hm
        · replace hm := if_f hm c_14
          refine lv_iload_n hx hb dX8_loopByKeeping_92 rfl (lv_at hl 1 rfl) ?_
          obtain ⟨hf0, hf1, hf2, hf3, hf4, hf5, hf6, hf7, hf8, hf9, hf10⟩ := si11 hm
          subst hf0
          subst hf1
          subst hf2
          subst hf3
          subst hf4
          subst hf5
          subst hf6
          subst hf7
          subst hf8
          subst hf9
          subst hf10
          exact W.iret (v := l1) hx hb hr (fun t ht hW => ⟨⟨rfl, by rw [ht]; exact hP⟩, hS.F ht⟩) hS.2.2 dX8_loopByKeeping_93
  have J_71 : ∀ (vi : Nat → Int32) (vj : Nat → Int64) (vk : Nat → Int32) (vc : Nat → Int32) (va : Nat → Int32) (vpa : Nat → Int32) (vb : Nat → Int32) (vpb : Nat → Int32) (viT : Nat → Int32) (vjT : Nat → Int64) (vkT : Nat → Int32) (vcT : Nat → Int32) (vaT : Nat → Int32) (vpaT : Nat → Int32) (vbT : Nat → Int32) (vpbT : Nat → Int32) (vkc : Nat → Int64) (vkr : Nat → Int64)  (H : Heap) (locs : List Loc) (ls : Array Slot), va_P (my_D Γ) vwCl (wBF Γ q_bf q_tx q_fl q_flT q_hi q_s1 q_s2 q_fd q_kc q_kr  ++ wFloor Γ q_fl q_k q_c q_a q_pa q_b q_pb vi vj vk vc va vpa vb vpb ++ wFloor Γ q_flT q_kT q_cT q_aT q_paT q_bT q_pbT viT vjT vkT vcT vaT vpaT vbT vpbT ++ wKept Γ q_kc q_kr vkc vkr) H → va_D A (wBF Γ q_bf q_tx q_fl q_flT q_hi q_s1 q_s2 q_fd q_kc q_kr  ++ wFloor Γ q_fl q_k q_c q_a q_pa q_b q_pb vi vj vk vc va vpa vb vpb ++ wFloor Γ q_flT q_kT q_cT q_aT q_paT q_bT q_pbT viT vjT vkT vcT vaT vpaT vbT vpbT ++ wKept Γ q_kc q_kr vkc vkr) → va_S A s.heap H locs → lv_has ls 2 [(0, .ref q_bf)] → mX8_loopByKeeping_J71 vi vj vk vc va vpa vb vpb viT vjT vkT vcT vaT vpaT vbT vpbT vkc vkr = (some (rr, viT_z, vjT_z, vkT_z, vcT_z, vaT_z, vpaT_z, vbT_z, vpbT_z, vkc_z, vkr_z)) → W p l e (headSpec wsX8_loopByKeeping ({ frames := 5, cells := 0, slots := 0, locals := 128 } : Room)).room s m ([.ref q_bf] : List Value).toArray below meth c H locs 0 0 (MQ below (my_Q Γ A (some (.int rr)) (wBF Γ q_bf q_tx q_fl q_flT q_hi q_s1 q_s2 q_fd q_kc q_kr  ++ wFloor Γ q_fl q_k q_c q_a q_pa q_b q_pb vi vj vk vc va vpa vb vpb ++ wFloor Γ q_flT q_kT q_cT q_aT q_paT q_bT q_pbT viT_z vjT_z vkT_z vcT_z vaT_z vpaT_z vbT_z vpbT_z ++ wKept Γ q_kc q_kr vkc_z vkr_z)) ([.ref q_bf] : List Value).toArray s 0 0 A) (F0 m 71 ls []) := by
    intro  vi vj vk vc va vpa vb vpb viT vjT vkT vcT vaT vpaT vbT vpbT vkc vkr H locs ls hP hD hS hl hm
    unfold mX8_loopByKeeping_J71 at hm
    refine lv_iconst (v := (1 : Int32)) hx hb dX8_loopByKeeping_71 (by decide) ?_
    refine lv_istore_n (lv' := [(1, .int (1 : Int32)), (0, .ref q_bf)]) hx hb dX8_loopByKeeping_72 rfl hl (by decide) rfl (fun ls hl => ?_)
    exact J_73 4096 vi vj vk vc va vpa vb vpb viT vjT vkT vcT vaT vpaT vbT vpbT vkc vkr (1 : Int32) _ _ _ hP hD hS (lv_sub hl [1, 0] rfl) hm
  have J_13 : ∀ n : Nat, ∀ (vi : Nat → Int32) (vj : Nat → Int64) (vk : Nat → Int32) (vc : Nat → Int32) (va : Nat → Int32) (vpa : Nat → Int32) (vb : Nat → Int32) (vpb : Nat → Int32) (viT : Nat → Int32) (vjT : Nat → Int64) (vkT : Nat → Int32) (vcT : Nat → Int32) (vaT : Nat → Int32) (vpaT : Nat → Int32) (vbT : Nat → Int32) (vpbT : Nat → Int32) (vkc : Nat → Int64) (vkr : Nat → Int64) (l1 : Int32) (H : Heap) (locs : List Loc) (ls : Array Slot), va_P (my_D Γ) vwCl (wBF Γ q_bf q_tx q_fl q_flT q_hi q_s1 q_s2 q_fd q_kc q_kr  ++ wFloor Γ q_fl q_k q_c q_a q_pa q_b q_pb vi vj vk vc va vpa vb vpb ++ wFloor Γ q_flT q_kT q_cT q_aT q_paT q_bT q_pbT viT vjT vkT vcT vaT vpaT vbT vpbT ++ wKept Γ q_kc q_kr vkc vkr) H → va_D A (wBF Γ q_bf q_tx q_fl q_flT q_hi q_s1 q_s2 q_fd q_kc q_kr  ++ wFloor Γ q_fl q_k q_c q_a q_pa q_b q_pb vi vj vk vc va vpa vb vpb ++ wFloor Γ q_flT q_kT q_cT q_aT q_paT q_bT q_pbT viT vjT vkT vcT vaT vpaT vbT vpbT ++ wKept Γ q_kc q_kr vkc vkr) → va_S A s.heap H locs → lv_has ls 2 [(0, .ref q_bf), (1, .int l1)] → mX8_loopByKeeping_L13 n vi vj vk vc va vpa vb vpb viT vjT vkT vcT vaT vpaT vbT vpbT vkc vkr l1 = (some (rr, viT_z, vjT_z, vkT_z, vcT_z, vaT_z, vpaT_z, vbT_z, vpbT_z, vkc_z, vkr_z)) → W p l e (headSpec wsX8_loopByKeeping ({ frames := 5, cells := 0, slots := 0, locals := 128 } : Room)).room s m ([.ref q_bf] : List Value).toArray below meth c H locs 0 0 (MQ below (my_Q Γ A (some (.int rr)) (wBF Γ q_bf q_tx q_fl q_flT q_hi q_s1 q_s2 q_fd q_kc q_kr  ++ wFloor Γ q_fl q_k q_c q_a q_pa q_b q_pb vi vj vk vc va vpa vb vpb ++ wFloor Γ q_flT q_kT q_cT q_aT q_paT q_bT q_pbT viT_z vjT_z vkT_z vcT_z vaT_z vpaT_z vbT_z vpbT_z ++ wKept Γ q_kc q_kr vkc_z vkr_z)) ([.ref q_bf] : List Value).toArray s 0 0 A) (F0 m 13 ls []) := by
    intro  n
    induction n with
    | zero => intro vi vj vk vc va vpa vb vpb viT vjT vkT vcT vaT vpaT vbT vpbT vkc vkr l1 H locs ls hP hD hS hl hm; cases hm
    | succ n ih =>
      intro vi vj vk vc va vpa vb vpb viT vjT vkT vcT vaT vpaT vbT vpbT vkc vkr l1 H locs ls hP hD hS hl hm
      unfold mX8_loopByKeeping_L13 at hm
      refine lv_iload_n hx hb dX8_loopByKeeping_13 rfl (lv_at hl 1 rfl) ?_
      refine lv_aload_n hx hb dX8_loopByKeeping_14 rfl (lv_at hl 0 rfl) ?_
      refine va_get (D := my_D Γ) (ci := 6) (v := .ref q_kc) (C := RX8) (T := TX8) (N := 9) hx hb hts hinX8 hown hK hP 0 rfl rfl 7 (by decide) (hts (.fieldLink RX8 50 "BeltFloor" "keptCrates" "[J") (List.mem_of_getElem? (i := 3) rfl)) (fun _ h9 => h9) rfl dX8_loopByKeeping_15 ?_
      refine va_alen hx hb hK hP 15 1 rfl rfl (v := (241 : Int32)) rfl dX8_loopByKeeping_18 ?_
      refine lv_icmp_ge (tgt := 71) hx hb dX8_loopByKeeping_19 (by decide) (fun c_10 => ?_) (fun c_10 => ?_)
      · replace hm := if_s hm c_10
        exact J_71 vi vj vk vc va vpa vb vpb viT vjT vkT vcT vaT vpaT vbT vpbT vkc vkr _ _ _ hP hD hS (lv_sub hl [0] rfl) hm
      · replace hm := if_f hm c_10
        refine lv_iload_n hx hb dX8_loopByKeeping_22 rfl (lv_at hl 1 rfl) ?_
        refine lv_aload_n hx hb dX8_loopByKeeping_23 rfl (lv_at hl 0 rfl) ?_
        refine va_get (D := my_D Γ) (ci := 6) (v := .ref q_kr) (C := RX8) (T := TX8) (N := 9) hx hb hts hinX8 hown hK hP 0 rfl rfl 8 (by decide) (hts (.fieldLink RX8 54 "BeltFloor" "keptRobots" "[J") (List.mem_of_getElem? (i := 4) rfl)) (fun _ h9 => h9) rfl dX8_loopByKeeping_24 ?_
        refine va_alen hx hb hK hP 16 1 rfl rfl (v := (241 : Int32)) rfl dX8_loopByKeeping_27 ?_
        refine lv_icmp_ge (tgt := 71) hx hb dX8_loopByKeeping_28 (by decide) (fun c_15 => ?_) (fun c_15 => ?_)
        · replace hm := if_s hm c_15
          exact J_71 vi vj vk vc va vpa vb vpb viT vjT vkT vcT vaT vpaT vbT vpbT vkc vkr _ _ _ hP hD hS (lv_sub hl [0] rfl) hm
        · replace hm := if_f hm c_15
          refine lv_aload_n hx hb dX8_loopByKeeping_31 rfl (lv_at hl 0 rfl) ?_
          refine va_get (D := my_D Γ) (ci := 6) (v := .ref q_kc) (C := RX8) (T := TX8) (N := 9) hx hb hts hinX8 hown hK hP 0 rfl rfl 7 (by decide) (hts (.fieldLink RX8 50 "BeltFloor" "keptCrates" "[J") (List.mem_of_getElem? (i := 3) rfl)) (fun _ h9 => h9) rfl dX8_loopByKeeping_32 ?_
          refine lv_iload_n hx hb dX8_loopByKeeping_35 rfl (lv_at hl 1 rfl) ?_
          refine lv_aload_n hx hb dX8_loopByKeeping_36 rfl (lv_at hl 0 rfl) ?_
          refine va_get (D := my_D Γ) (ci := 6) (v := .ref q_flT) (C := RX8) (T := TX8) (N := 9) hx hb hts hinX8 hown hK hP 0 rfl rfl 2 (by decide) (hts (.fieldLink RX8 23 "BeltFloor" "trial" "LBeltFloor$Floor;") (List.mem_of_getElem? (i := 1) rfl)) (fun _ h9 => h9) rfl dX8_loopByKeeping_37 ?_
          refine va_get (D := my_D Γ) (ci := 1) (v := .long (vjT 4)) (C := RX1) (T := TX1) (N := 12) hx hb hts hinX1 hown hK hP 8 rfl rfl 4 (by decide) (hts (.fieldLink RX8 104 "BeltFloor$Floor" "crates" "J") (List.mem_of_getElem? (i := 5) rfl)) (fun _ h9 => h9) rfl dX8_loopByKeeping_40 ?_
          obtain ⟨hi_16, hm⟩ := if_in hm
          refine lv_topl (fun y_17 ey_17 => ?_)
          refine va_last hx hb hK hP hD hS 15 1 rfl rfl hi_16 dX8_loopByKeeping_43 (fun H locs hP hD hS => ?_)
          replace hP : va_P (my_D Γ) vwCl (wBF Γ q_bf q_tx q_fl q_flT q_hi q_s1 q_s2 q_fd q_kc q_kr  ++ wFloor Γ q_fl q_k q_c q_a q_pa q_b q_pb vi vj vk vc va vpa vb vpb ++ wFloor Γ q_flT q_kT q_cT q_aT q_paT q_bT q_pbT viT vjT vkT vcT vaT vpaT vbT vpbT ++ wKept Γ q_kc q_kr (vp_updL vkc l1.toNatClampNeg y_17) vkr) H := hP
          replace hD : va_D A (wBF Γ q_bf q_tx q_fl q_flT q_hi q_s1 q_s2 q_fd q_kc q_kr  ++ wFloor Γ q_fl q_k q_c q_a q_pa q_b q_pb vi vj vk vc va vpa vb vpb ++ wFloor Γ q_flT q_kT q_cT q_aT q_paT q_bT q_pbT viT vjT vkT vcT vaT vpaT vbT vpbT ++ wKept Γ q_kc q_kr (vp_updL vkc l1.toNatClampNeg y_17) vkr) := hD
          subst ey_17
          refine lv_aload_n hx hb dX8_loopByKeeping_44 rfl (lv_at hl 0 rfl) ?_
          refine va_get (D := my_D Γ) (ci := 6) (v := .ref q_kr) (C := RX8) (T := TX8) (N := 9) hx hb hts hinX8 hown hK hP 0 rfl rfl 8 (by decide) (hts (.fieldLink RX8 54 "BeltFloor" "keptRobots" "[J") (List.mem_of_getElem? (i := 4) rfl)) (fun _ h9 => h9) rfl dX8_loopByKeeping_45 ?_
          refine lv_iload_n hx hb dX8_loopByKeeping_48 rfl (lv_at hl 1 rfl) ?_
          refine lv_aload_n hx hb dX8_loopByKeeping_49 rfl (lv_at hl 0 rfl) ?_
          refine va_get (D := my_D Γ) (ci := 6) (v := .ref q_flT) (C := RX8) (T := TX8) (N := 9) hx hb hts hinX8 hown hK hP 0 rfl rfl 2 (by decide) (hts (.fieldLink RX8 23 "BeltFloor" "trial" "LBeltFloor$Floor;") (List.mem_of_getElem? (i := 1) rfl)) (fun _ h9 => h9) rfl dX8_loopByKeeping_50 ?_
          refine my_call1 (wc := (wFloor Γ q_flT q_kT q_cT q_aT q_paT q_bT q_pbT viT vjT vkT vcT vaT vpaT vbT vpbT)) (w1 := (wFloor Γ q_flT q_kT q_cT q_aT q_paT q_bT q_pbT viT vjT vkT vcT vaT vpaT vbT vpbT)) (ws1 := (wBF Γ q_bf q_tx q_fl q_flT q_hi q_s1 q_s2 q_fd q_kc q_kr  ++ wFloor Γ q_fl q_k q_c q_a q_pa q_b q_pb vi vj vk vc va vpa vb vpb ++ wFloor Γ q_flT q_kT q_cT q_aT q_paT q_bT q_pbT viT vjT vkT vcT vaT vpaT vbT vpbT ++ wKept Γ q_kc q_kr (vp_updL vkc l1.toNatClampNeg (vjT 4)) vkr)) hP hD hS hA [8, 9, 10, 11, 12, 13, 14] rfl rfl rfl (va_runV (As := []) (rest := [.int l1, .ref q_kr]) ⟨hx, hb, hml, hown, hts⟩ (kX1_robotsAsNumber l Γ q_flT q_kT q_cT q_aT q_paT q_bT q_pbT viT vjT vkT vcT vaT vpaT vbT vpbT (mX1_robotsAsNumber vaT vbT) rfl _) (cwV 0 hts gX8_loopByKeeping_X1_robotsAsNumber rfl rfl rfl (by decide +kernel) ⟨Nat.le_of_ble_eq_true rfl, Nat.le_of_ble_eq_true rfl⟩) (my_preV (wc := (wFloor Γ q_flT q_kT q_cT q_aT q_paT q_bT q_pbT viT vjT vkT vcT vaT vpaT vbT vpbT)) (ci := 1) (q0 := 8) [8, 9, 10, 11, 12, 13, 14] hK hP hD rfl rfl rfl rfl) rfl rfl hl.1 rfl (lv_room (Nat.le_of_ble_eq_true rfl)) dX8_loopByKeeping_53 ⟨Nat.le_of_ble_eq_true rfl, Nat.le_of_ble_eq_true rfl⟩) (fun H locs hP hD hS => ?_)
          refine lv_topl (fun y_18 ey_18 => ?_)
          refine va_last hx hb hK hP hD hS 16 1 rfl rfl hi_16 dX8_loopByKeeping_56 (fun H locs hP hD hS => ?_)
          replace hP : va_P (my_D Γ) vwCl (wBF Γ q_bf q_tx q_fl q_flT q_hi q_s1 q_s2 q_fd q_kc q_kr  ++ wFloor Γ q_fl q_k q_c q_a q_pa q_b q_pb vi vj vk vc va vpa vb vpb ++ wFloor Γ q_flT q_kT q_cT q_aT q_paT q_bT q_pbT viT vjT vkT vcT vaT vpaT vbT vpbT ++ wKept Γ q_kc q_kr (vp_updL vkc l1.toNatClampNeg (vjT 4)) (vp_updL vkr l1.toNatClampNeg y_18)) H := hP
          replace hD : va_D A (wBF Γ q_bf q_tx q_fl q_flT q_hi q_s1 q_s2 q_fd q_kc q_kr  ++ wFloor Γ q_fl q_k q_c q_a q_pa q_b q_pb vi vj vk vc va vpa vb vpb ++ wFloor Γ q_flT q_kT q_cT q_aT q_paT q_bT q_pbT viT vjT vkT vcT vaT vpaT vbT vpbT ++ wKept Γ q_kc q_kr (vp_updL vkc l1.toNatClampNeg (vjT 4)) (vp_updL vkr l1.toNatClampNeg y_18)) := hD
          subst ey_18
          refine lv_aload_n hx hb dX8_loopByKeeping_57 rfl (lv_at hl 0 rfl) ?_
          refine va_get (D := my_D Γ) (ci := 6) (v := .ref q_flT) (C := RX8) (T := TX8) (N := 9) hx hb hts hinX8 hown hK hP 0 rfl rfl 2 (by decide) (hts (.fieldLink RX8 23 "BeltFloor" "trial" "LBeltFloor$Floor;") (List.mem_of_getElem? (i := 1) rfl)) (fun _ h9 => h9) rfl dX8_loopByKeeping_58 ?_
          obtain ⟨r_19, viT_20, vjT_21, vaT_22, vbT_23, hc_24, hm⟩ := bo5_s hm
          refine my_call1 (wc := (wFloor Γ q_flT q_kT q_cT q_aT q_paT q_bT q_pbT viT vjT vkT vcT vaT vpaT vbT vpbT)) (w1 := (wFloor Γ q_flT q_kT q_cT q_aT q_paT q_bT q_pbT viT_20 vjT_21 vkT vcT vaT_22 vpaT vbT_23 vpbT)) (ws1 := (wBF Γ q_bf q_tx q_fl q_flT q_hi q_s1 q_s2 q_fd q_kc q_kr  ++ wFloor Γ q_fl q_k q_c q_a q_pa q_b q_pb vi vj vk vc va vpa vb vpb ++ wFloor Γ q_flT q_kT q_cT q_aT q_paT q_bT q_pbT viT_20 vjT_21 vkT vcT vaT_22 vpaT vbT_23 vpbT ++ wKept Γ q_kc q_kr (vp_updL vkc l1.toNatClampNeg (vjT 4)) (vp_updL vkr l1.toNatClampNeg (mX1_robotsAsNumber vaT vbT)))) hP hD hS hA [8, 9, 10, 11, 12, 13, 14] rfl rfl rfl (va_runS (As := [.ref q_flT]) (rest := []) ⟨hx, hb, hml, hown, hts⟩ (kX6_makeOne l Γ q_flT q_kT q_cT q_aT q_paT q_bT q_pbT viT vjT vkT vcT vaT vpaT vbT vpbT r_19 viT_20 vjT_21 vaT_22 vbT_23 hc_24 _) (va_cwS 1 hts gX8_loopByKeeping_X6_makeOne rfl rfl rfl (by decide +kernel) ⟨Nat.le_of_ble_eq_true rfl, Nat.le_of_ble_eq_true rfl⟩) (my_preS (wc := (wFloor Γ q_flT q_kT q_cT q_aT q_paT q_bT q_pbT viT vjT vkT vcT vaT vpaT vbT vpbT)) [8, 9, 10, 11, 12, 13, 14] hK hP hD rfl rfl) rfl rfl hl.1 rfl (lv_room (Nat.le_of_ble_eq_true rfl)) dX8_loopByKeeping_61 ⟨Nat.le_of_ble_eq_true rfl, Nat.le_of_ble_eq_true rfl⟩) (fun H locs hP hD hS => ?_)
          refine lv_pop hx hb dX8_loopByKeeping_64 rfl ?_
          refine lv_iinc (v := (l1 + (1 : Int32))) (lv' := [(1, .int (l1 + (1 : Int32))), (0, .ref q_bf)]) hx hb dX8_loopByKeeping_65 hl (k := 1) rfl rfl (by decide) rfl (fun ls hl => ?_)
          refine lv_goto (tgt := 13) hx hb dX8_loopByKeeping_68 (by decide) ?_
          exact ih vi vj vk vc va vpa vb vpb viT_20 vjT_21 vkT vcT vaT_22 vpaT vbT_23 vpbT (vp_updL vkc l1.toNatClampNeg (vjT 4)) (vp_updL vkr l1.toNatClampNeg (mX1_robotsAsNumber vaT vbT)) (l1 + (1 : Int32)) _ _ _ hP hD hS (lv_sub hl [1, 0] rfl) hm
  unfold mX8_loopByKeeping at hm
  refine lv_aload_n hx hb dX8_loopByKeeping_0 rfl (lv_at hl 0 rfl) ?_
  refine va_get (D := my_D Γ) (ci := 6) (v := .ref q_flT) (C := RX8) (T := TX8) (N := 9) hx hb hts hinX8 hown hK hP 0 rfl rfl 2 (by decide) (hts (.fieldLink RX8 23 "BeltFloor" "trial" "LBeltFloor$Floor;") (List.mem_of_getElem? (i := 1) rfl)) (fun _ h9 => h9) rfl dX8_loopByKeeping_1 ?_
  refine lv_aload_n hx hb dX8_loopByKeeping_4 rfl (lv_at hl 0 rfl) ?_
  refine va_get (D := my_D Γ) (ci := 6) (v := .ref q_fl) (C := RX8) (T := TX8) (N := 9) hx hb hts hinX8 hown hK hP 0 rfl rfl 1 (by decide) (hts (.fieldLink RX8 19 "BeltFloor" "floor" "LBeltFloor$Floor;") (List.mem_of_getElem? (i := 2) rfl)) (fun _ h9 => h9) rfl dX8_loopByKeeping_5 ?_
  obtain ⟨viT_1, vjT_2, vkT_3, vcT_4, vaT_5, vpaT_6, vbT_7, vpbT_8, hc_9, hm⟩ := bo8_s hm
  refine my_call0 (wc := (wFloor Γ q_flT q_kT q_cT q_aT q_paT q_bT q_pbT viT vjT vkT vcT vaT vpaT vbT vpbT ++ wFloor Γ q_fl q_k q_c q_a q_pa q_b q_pb vi vj vk vc va vpa vb vpb)) (w1 := (wFloor Γ q_flT q_kT q_cT q_aT q_paT q_bT q_pbT viT_1 vjT_2 vkT_3 vcT_4 vaT_5 vpaT_6 vbT_7 vpbT_8 ++ wFloor Γ q_fl q_k q_c q_a q_pa q_b q_pb vi vj vk vc va vpa vb vpb)) (ws1 := (wBF Γ q_bf q_tx q_fl q_flT q_hi q_s1 q_s2 q_fd q_kc q_kr  ++ wFloor Γ q_fl q_k q_c q_a q_pa q_b q_pb vi vj vk vc va vpa vb vpb ++ wFloor Γ q_flT q_kT q_cT q_aT q_paT q_bT q_pbT viT_1 vjT_2 vkT_3 vcT_4 vaT_5 vpaT_6 vbT_7 vpbT_8 ++ wKept Γ q_kc q_kr vkc vkr)) hP hD hS hA [8, 9, 10, 11, 12, 13, 14, 1, 2, 3, 4, 5, 6, 7] rfl rfl rfl (va_runV (As := [.ref q_fl]) (rest := []) ⟨hx, hb, hml, hown, hts⟩ (kX1_copyFrom l Γ q_flT q_kT q_cT q_aT q_paT q_bT q_pbT q_fl q_k q_c q_a q_pa q_b q_pb viT vjT vkT vcT vaT vpaT vbT vpbT vi vj vk vc va vpa vb vpb viT_1 vjT_2 vkT_3 vcT_4 vaT_5 vpaT_6 vbT_7 vpbT_8 hc_9 _) (cwV 1 hts gX8_loopByKeeping_X1_copyFrom rfl rfl rfl (by decide +kernel) ⟨Nat.le_of_ble_eq_true rfl, Nat.le_of_ble_eq_true rfl⟩) (my_preV (wc := (wFloor Γ q_flT q_kT q_cT q_aT q_paT q_bT q_pbT viT vjT vkT vcT vaT vpaT vbT vpbT ++ wFloor Γ q_fl q_k q_c q_a q_pa q_b q_pb vi vj vk vc va vpa vb vpb)) (ci := 1) (q0 := 8) [8, 9, 10, 11, 12, 13, 14, 1, 2, 3, 4, 5, 6, 7] hK hP hD rfl rfl rfl rfl) rfl rfl hl.1 rfl (lv_room (Nat.le_of_ble_eq_true rfl)) dX8_loopByKeeping_8 ⟨Nat.le_of_ble_eq_true rfl, Nat.le_of_ble_eq_true rfl⟩) (fun H locs hP hD hS => ?_)
  refine lv_iconst (v := (0 : Int32)) hx hb dX8_loopByKeeping_11 (by decide) ?_
  refine lv_istore_n (lv' := [(1, .int (0 : Int32)), (0, .ref q_bf)]) hx hb dX8_loopByKeeping_12 rfl hl (by decide) rfl (fun ls hl => ?_)
  exact J_13 4096 vi vj vk vc va vpa vb vpb viT_1 vjT_2 vkT_3 vcT_4 vaT_5 vpaT_6 vbT_7 vpbT_8 vkc vkr (0 : Int32) _ _ _ hP hD hS (lv_sub hl [1, 0] rfl) hm
def mX8_fewestBySpreading (vk : Nat → Int32) (va : Nat → Int32) (vb : Nat → Int32) (ds : Nat → Int32) (rc : Nat → Int32) (x0 : Int32) (x1 : Int32) : Option ((Int32 × (Nat → Int32) × (Nat → Int32)) ⊕ String) := (bx1 (mX8_checkRobot x0) (fun _ => (bx1 (mX8_checkCell x1) (fun _ => (if x0 = 0 then (bo3 (mX0_spread ds rc vk (mX0_standOf (va 0) (va 1)) x1) (fun r_4 ds_5 rc_6 => (some (Sum.inl (r_4, ds_5, rc_6))))) else (bo3 (mX0_spread ds rc vk (mX0_standOf (vb 0) (vb 1)) x1) (fun r_8 ds_9 rc_10 => (some (Sum.inl (r_8, ds_9, rc_10))))))))))
set_option maxHeartbeats 4000000 in
set_option maxRecDepth 100000 in
theorem kX8_fewestBySpreading (l : Launch) (Γ : my_G) (hfl : l.stackTraces = false) (q_bf q_fl q_k q_c q_a q_pa q_b q_pb q_fd q_ds q_rc q_tx q_flT q_hi q_s1 q_s2 q_kc q_kr : Nat) (vi : Nat → Int32) (vj : Nat → Int64) (vk : Nat → Int32) (vc : Nat → Int32) (va : Nat → Int32) (vpa : Nat → Int32) (vb : Nat → Int32) (vpb : Nat → Int32) (ds : Nat → Int32) (rc : Nat → Int32) (x0 : Int32) (x1 : Int32) (mr : (Int32 × (Nat → Int32) × (Nat → Int32)) ⊕ String) (hm : mX8_fewestBySpreading vk va vb ds rc x0 x1 = (some mr)) : MnX l yX8_fewestBySpreading wsX8_fewestBySpreading ({ frames := 7, cells := 2, slots := 12, locals := 116 } : Room) Γ [.ref q_bf, .int x0, .int x1] (wBF Γ q_bf q_tx q_fl q_flT q_hi q_s1 q_s2 q_fd q_kc q_kr  ++ wFloor Γ q_fl q_k q_c q_a q_pa q_b q_pb vi vj vk vc va vpa vb vpb ++ wFinder Γ q_fd q_ds q_rc ds rc) (my_map (fun q : Int32 × (Nat → Int32) × (Nat → Int32) => ((some (.int (q.1))), (wBF Γ q_bf q_tx q_fl q_flT q_hi q_s1 q_s2 q_fd q_kc q_kr  ++ wFloor Γ q_fl q_k q_c q_a q_pa q_b q_pb vi vj vk vc va vpa vb vpb ++ wFinder Γ q_fd q_ds q_rc (q.2.1) (q.2.2)))) mr) 2 12 := by
  intro sz
  refine vx_ofW (cc := cX8_fewestBySpreading) (maxL := 4) (ret := (some .int)) (by decide) rfl ?_
  intro p e s m args below meth c s₁ B hml htab hv
  obtain ⟨rfl, ⟨hsz, hP, hK, hD0⟩, hZ, hstr⟩ := hv
  have hx := B.exec
  have hb := B.bytes
  have hr := B.returns
  have hts := atoms_spec (ws := wsX8_fewestBySpreading) B.pre
  have hown : s.vm.findClass RX8 = some m.cls := findClass_of_methodNamed B.named
  have hlocks := B.notSynchronized
  have hinX0 : ∀ w ∈ u_ws RX0 TX0 2, w ∈ wsX8_fewestBySpreading := fun w h => List.mem_cons_of_mem _ (List.mem_append_left _ (List.mem_append_right _ h))
  have hinX1 : ∀ w ∈ u_ws RX1 TX1 12, w ∈ wsX8_fewestBySpreading := fun w h => List.mem_cons_of_mem _ (List.mem_append_left _ (List.mem_append_left _ (List.mem_append_right _ h)))
  have hinX4 : ∀ w ∈ u_ws RX4 TX4 10, w ∈ wsX8_fewestBySpreading := fun w h => List.mem_cons_of_mem _ (List.mem_append_left _ (List.mem_append_left _ (List.mem_append_left _ (List.mem_append_right _ h))))
  have hinX8 : ∀ w ∈ u_ws RX8 TX8 9, w ∈ wsX8_fewestBySpreading := fun w h => List.mem_cons_of_mem _ (List.mem_append_left _ (List.mem_append_left _ (List.mem_append_left _ (List.mem_append_left _ (List.mem_append_right _ h)))))
  subst hsz
  have hD := hD0.self (sz := s.heap.size)
  have hA : ∀ q : Nat, s.heap.size ≤ q → va_A (wBF Γ q_bf q_tx q_fl q_flT q_hi q_s1 q_s2 q_fd q_kc q_kr  ++ wFloor Γ q_fl q_k q_c q_a q_pa q_b q_pb vi vj vk vc va vpa vb vpb ++ wFinder Γ q_fd q_ds q_rc ds rc) s.heap.size q := fun q h => Or.inr h
  generalize va_A (wBF Γ q_bf q_tx q_fl q_flT q_hi q_s1 q_s2 q_fd q_kc q_kr  ++ wFloor Γ q_fl q_k q_c q_a q_pa q_b q_pb vi vj vk vc va vpa vb vpb ++ wFinder Γ q_fd q_ds q_rc ds rc) s.heap.size = A at hD hA hZ ⊢
  obtain ⟨W0_, hW0_⟩ : ∃ w : va_W, (wBF Γ q_bf q_tx q_fl q_flT q_hi q_s1 q_s2 q_fd q_kc q_kr  ++ wFloor Γ q_fl q_k q_c q_a q_pa q_b q_pb vi vj vk vc va vpa vb vpb ++ wFinder Γ q_fd q_ds q_rc ds rc) = w := ⟨_, rfl⟩
  rw [show my_XC Γ A (wBF Γ q_bf q_tx q_fl q_flT q_hi q_s1 q_s2 q_fd q_kc q_kr  ++ wFloor Γ q_fl q_k q_c q_a q_pa q_b q_pb vi vj vk vc va vpa vb vpb ++ wFinder Γ q_fd q_ds q_rc ds rc) (my_map (fun q : Int32 × (Nat → Int32) × (Nat → Int32) => ((some (.int (q.1))), (wBF Γ q_bf q_tx q_fl q_flT q_hi q_s1 q_s2 q_fd q_kc q_kr  ++ wFloor Γ q_fl q_k q_c q_a q_pa q_b q_pb vi vj vk vc va vpa vb vpb ++ wFinder Γ q_fd q_ds q_rc (q.2.1) (q.2.2)))) mr) = my_XC Γ A W0_ (my_map (fun q : Int32 × (Nat → Int32) × (Nat → Int32) => ((some (.int (q.1))), (wBF Γ q_bf q_tx q_fl q_flT q_hi q_s1 q_s2 q_fd q_kc q_kr  ++ wFloor Γ q_fl q_k q_c q_a q_pa q_b q_pb vi vj vk vc va vpa vb vpb ++ wFinder Γ q_fd q_ds q_rc (q.2.1) (q.2.2)))) mr) from congrArg (fun w => my_XC Γ A w (my_map (fun q : Int32 × (Nat → Int32) × (Nat → Int32) => ((some (.int (q.1))), (wBF Γ q_bf q_tx q_fl q_flT q_hi q_s1 q_s2 q_fd q_kc q_kr  ++ wFloor Γ q_fl q_k q_c q_a q_pa q_b q_pb vi vj vk vc va vpa vb vpb ++ wFinder Γ q_fd q_ds q_rc (q.2.1) (q.2.2)))) mr)) hW0_]
  have hS : va_S A s.heap s.heap [] := va_S.rf
  have hl := lv_entry ([.ref q_bf, .int x0, .int x1]) (n := 4) (Nat.le_of_ble_eq_true rfl)
  rw [lg_entry_eq]
  generalize (lg_sl ([.ref q_bf, .int x0, .int x1]) ++ List.replicate (4 - (lg_sl ([.ref q_bf, .int x0, .int x1])).length) Slot.unset).toArray = ls at hl ⊢
  replace hl : lv_has ls 4 [(0, .ref q_bf), (1, .int x0), (2, .int x1)] := hl
  unfold mX8_fewestBySpreading at hm
  refine lv_iload_n hx hb dX8_fewestBySpreading_0 rfl (lv_at hl 1 rfl) ?_
  refine my_callX (wc := []) hP hD hS hA [] rfl rfl (fun res w1 h9 => my_had h9) (vx_runS (As := [.int x0]) (rest := []) ⟨hx, hb, hml, hown, hts⟩ (kX8_checkRobot l Γ hfl x0 _ rfl _) (va_cwS 1 hts gX8_fewestBySpreading_X8_checkRobot rfl rfl rfl (by decide +kernel) ⟨Nat.le_of_ble_eq_true rfl, Nat.le_of_ble_eq_true rfl⟩) (my_preSX (wc := []) [] hK hP hD hS hA hZ hstr rfl rfl) rfl rfl hl.1 rfl (lv_room (Nat.le_of_ble_eq_true rfl)) dX8_fewestBySpreading_1 ⟨Nat.le_of_ble_eq_true rfl, Nat.le_of_ble_eq_true rfl⟩) (fun E_ H locs q9 ce hro hP hS h1_ h2_ h3_ => ?_) (fun res_ w1_ H locs hro hP hD hS => ?_)
  · rcases bx1_s hm with ⟨a_, hc_, hm⟩ | ⟨E2_, hc_, hm⟩
    · rw [hc_] at hro; exact (my_map_lr hro).elim
    · rw [hc_] at hro; obtain rfl := my_map_rr hro; subst hm
      exact vx_out (fun x hx9 => absurd (htab x hx9) id) hlocks h1_ h2_ h3_ (fun t ht ha => ⟨rfl, by rw [ht, ← hW0_]; exact hP, hS.F ht⟩) hS.2.2 (Nat.le_of_ble_eq_true rfl) (Nat.le_of_ble_eq_true rfl)
  rcases bx1_s hm with ⟨a_, hc_, hm⟩ | ⟨E2_, hc_, hm⟩
  rotate_left
  · rw [hc_] at hro; exact (my_map_rl hro).elim
  rw [hc_] at hro
  obtain ⟨rfl, rfl⟩ := my_map_ll hro
  replace hP : va_P (my_D Γ) vwCl (wBF Γ q_bf q_tx q_fl q_flT q_hi q_s1 q_s2 q_fd q_kc q_kr  ++ wFloor Γ q_fl q_k q_c q_a q_pa q_b q_pb vi vj vk vc va vpa vb vpb ++ wFinder Γ q_fd q_ds q_rc ds rc) H := hP
  replace hD : va_D A (wBF Γ q_bf q_tx q_fl q_flT q_hi q_s1 q_s2 q_fd q_kc q_kr  ++ wFloor Γ q_fl q_k q_c q_a q_pa q_b q_pb vi vj vk vc va vpa vb vpb ++ wFinder Γ q_fd q_ds q_rc ds rc) := hD
  refine lv_iload_n hx hb dX8_fewestBySpreading_4 rfl (lv_at hl 2 rfl) ?_
  refine my_callX (wc := []) hP hD hS hA [] rfl rfl (fun res w1 h9 => my_had h9) (vx_runS (As := [.int x1]) (rest := []) ⟨hx, hb, hml, hown, hts⟩ (kX8_checkCell l Γ hfl x1 _ rfl _) (va_cwS 1 hts gX8_fewestBySpreading_X8_checkCell rfl rfl rfl (by decide +kernel) ⟨Nat.le_of_ble_eq_true rfl, Nat.le_of_ble_eq_true rfl⟩) (my_preSX (wc := []) [] hK hP hD hS hA hZ hstr rfl rfl) rfl rfl hl.1 rfl (lv_room (Nat.le_of_ble_eq_true rfl)) dX8_fewestBySpreading_5 ⟨Nat.le_of_ble_eq_true rfl, Nat.le_of_ble_eq_true rfl⟩) (fun E_ H locs q9 ce hro hP hS h1_ h2_ h3_ => ?_) (fun res_ w1_ H locs hro hP hD hS => ?_)
  · rcases bx1_s hm with ⟨a_, hc_, hm⟩ | ⟨E2_, hc_, hm⟩
    · rw [hc_] at hro; exact (my_map_lr hro).elim
    · rw [hc_] at hro; obtain rfl := my_map_rr hro; subst hm
      exact vx_out (fun x hx9 => absurd (htab x hx9) id) hlocks h1_ h2_ h3_ (fun t ht ha => ⟨rfl, by rw [ht, ← hW0_]; exact hP, hS.F ht⟩) hS.2.2 (Nat.le_of_ble_eq_true rfl) (Nat.le_of_ble_eq_true rfl)
  rcases bx1_s hm with ⟨a_, hc_, hm⟩ | ⟨E2_, hc_, hm⟩
  rotate_left
  · rw [hc_] at hro; exact (my_map_rl hro).elim
  rw [hc_] at hro
  obtain ⟨rfl, rfl⟩ := my_map_ll hro
  replace hP : va_P (my_D Γ) vwCl (wBF Γ q_bf q_tx q_fl q_flT q_hi q_s1 q_s2 q_fd q_kc q_kr  ++ wFloor Γ q_fl q_k q_c q_a q_pa q_b q_pb vi vj vk vc va vpa vb vpb ++ wFinder Γ q_fd q_ds q_rc ds rc) H := hP
  replace hD : va_D A (wBF Γ q_bf q_tx q_fl q_flT q_hi q_s1 q_s2 q_fd q_kc q_kr  ++ wFloor Γ q_fl q_k q_c q_a q_pa q_b q_pb vi vj vk vc va vpa vb vpb ++ wFinder Γ q_fd q_ds q_rc ds rc) := hD
  refine lv_aload_n hx hb dX8_fewestBySpreading_8 rfl (lv_at hl 0 rfl) ?_
  refine va_get (D := my_D Γ) (ci := 6) (v := .ref q_fl) (C := RX8) (T := TX8) (N := 9) hx hb hts hinX8 hown hK hP 0 rfl rfl 1 (by decide) (hts (.fieldLink RX8 19 "BeltFloor" "floor" "LBeltFloor$Floor;") (List.mem_of_getElem? (i := 1) rfl)) (fun _ h9 => h9) rfl dX8_fewestBySpreading_9 ?_
  refine lv_iload_n hx hb dX8_fewestBySpreading_12 rfl (lv_at hl 1 rfl) ?_
  by_cases c_3 : x0 = 0
  · replace hm := if_s hm c_3
    refine my_call1 (wc := (wFloor Γ q_fl q_k q_c q_a q_pa q_b q_pb vi vj vk vc va vpa vb vpb)) (w1 := (wFloor Γ q_fl q_k q_c q_a q_pa q_b q_pb vi vj vk vc va vpa vb vpb)) (ws1 := (wBF Γ q_bf q_tx q_fl q_flT q_hi q_s1 q_s2 q_fd q_kc q_kr  ++ wFloor Γ q_fl q_k q_c q_a q_pa q_b q_pb vi vj vk vc va vpa vb vpb ++ wFinder Γ q_fd q_ds q_rc ds rc)) hP hD hS hA [1, 2, 3, 4, 5, 6, 7] rfl rfl rfl (va_runV (As := [.int x0]) (rest := []) ⟨hx, hb, hml, hown, hts⟩ (kX1_robot_0 l Γ q_fl q_k q_c q_a q_pa q_b q_pb vi vj vk vc va vpa vb vpb x0 c_3 _) (cwV 1 hts gX8_fewestBySpreading_X1_robot rfl rfl rfl (by decide +kernel) ⟨Nat.le_of_ble_eq_true rfl, Nat.le_of_ble_eq_true rfl⟩) (my_preV (wc := (wFloor Γ q_fl q_k q_c q_a q_pa q_b q_pb vi vj vk vc va vpa vb vpb)) (ci := 1) (q0 := 1) [1, 2, 3, 4, 5, 6, 7] hK hP hD rfl rfl rfl rfl) rfl rfl hl.1 rfl (lv_room (Nat.le_of_ble_eq_true rfl)) dX8_fewestBySpreading_13 ⟨Nat.le_of_ble_eq_true rfl, Nat.le_of_ble_eq_true rfl⟩) (fun H locs hP hD hS => ?_)
    refine lv_astore_n (lv' := [(3, .ref q_a), (0, .ref q_bf), (1, .int x0), (2, .int x1)]) hx hb dX8_fewestBySpreading_16 rfl hl (by decide) rfl (fun ls hl => ?_)
    refine lv_aload_n hx hb dX8_fewestBySpreading_17 rfl (lv_at hl 1 rfl) ?_
    refine va_get (D := my_D Γ) (ci := 6) (v := .ref q_fd) (C := RX8) (T := TX8) (N := 9) hx hb hts hinX8 hown hK hP 0 rfl rfl 6 (by decide) (hts (.fieldLink RX8 46 "BeltFloor" "finder" "LBeltFloor$Finder;") (List.mem_of_getElem? (i := 2) rfl)) (fun _ h9 => h9) rfl dX8_fewestBySpreading_18 ?_
    refine lv_aload_n hx hb dX8_fewestBySpreading_21 rfl (lv_at hl 1 rfl) ?_
    refine va_get (D := my_D Γ) (ci := 6) (v := .ref q_fl) (C := RX8) (T := TX8) (N := 9) hx hb hts hinX8 hown hK hP 0 rfl rfl 1 (by decide) (hts (.fieldLink RX8 19 "BeltFloor" "floor" "LBeltFloor$Floor;") (List.mem_of_getElem? (i := 1) rfl)) (fun _ h9 => h9) rfl dX8_fewestBySpreading_22 ?_
    refine lv_aload_n hx hb dX8_fewestBySpreading_25 rfl (lv_at hl 0 rfl) ?_
    refine va_get (D := my_D Γ) (ci := 3) (v := .int (va 0)) (C := RX4) (T := TX4) (N := 10) hx hb hts hinX4 hown hK hP 4 rfl rfl 0 (by decide) (hts (.fieldLink RX8 144 "BeltFloor$Robot" "cell" "I") (List.mem_of_getElem? (i := 3) rfl)) (fun _ h9 => h9) rfl dX8_fewestBySpreading_26 ?_
    refine lv_aload_n hx hb dX8_fewestBySpreading_29 rfl (lv_at hl 0 rfl) ?_
    refine va_get (D := my_D Γ) (ci := 3) (v := .int (va 1)) (C := RX4) (T := TX4) (N := 10) hx hb hts hinX4 hown hK hP 4 rfl rfl 1 (by decide) (hts (.fieldLink RX8 149 "BeltFloor$Robot" "facing" "I") (List.mem_of_getElem? (i := 4) rfl)) (fun _ h9 => h9) rfl dX8_fewestBySpreading_30 ?_
    refine my_call1 (wc := ([] : va_W)) (w1 := ([] : va_W)) (ws1 := (wBF Γ q_bf q_tx q_fl q_flT q_hi q_s1 q_s2 q_fd q_kc q_kr  ++ wFloor Γ q_fl q_k q_c q_a q_pa q_b q_pb vi vj vk vc va vpa vb vpb ++ wFinder Γ q_fd q_ds q_rc ds rc)) hP hD hS hA [] rfl rfl rfl (va_runS (As := [.int (va 0), .int (va 1)]) (rest := [.ref q_fl, .ref q_fd]) ⟨hx, hb, hml, hown, hts⟩ (kX0_standOf l Γ (va 0) (va 1) (mX0_standOf (va 0) (va 1)) rfl _) (va_cwS 2 hts gX8_fewestBySpreading_X0_standOf rfl rfl rfl (by decide +kernel) ⟨Nat.le_of_ble_eq_true rfl, Nat.le_of_ble_eq_true rfl⟩) (my_preS (wc := ([] : va_W)) [] hK hP hD rfl rfl) rfl rfl hl.1 rfl (lv_room (Nat.le_of_ble_eq_true rfl)) dX8_fewestBySpreading_33 ⟨Nat.le_of_ble_eq_true rfl, Nat.le_of_ble_eq_true rfl⟩) (fun H locs hP hD hS => ?_)
    refine lv_iload_n hx hb dX8_fewestBySpreading_36 rfl (lv_at hl 3 rfl) ?_
    obtain ⟨r_4, ds_5, rc_6, hc_7, hm⟩ := bo3_s hm
    refine my_call1 (wc := (wFinder Γ q_fd q_ds q_rc ds rc ++ wFloor Γ q_fl q_k q_c q_a q_pa q_b q_pb vi vj vk vc va vpa vb vpb)) (w1 := (wFinder Γ q_fd q_ds q_rc ds_5 rc_6 ++ wFloor Γ q_fl q_k q_c q_a q_pa q_b q_pb vi vj vk vc va vpa vb vpb)) (ws1 := (wBF Γ q_bf q_tx q_fl q_flT q_hi q_s1 q_s2 q_fd q_kc q_kr  ++ wFloor Γ q_fl q_k q_c q_a q_pa q_b q_pb vi vj vk vc va vpa vb vpb ++ wFinder Γ q_fd q_ds q_rc ds_5 rc_6)) hP hD hS hA [8, 9, 10, 1, 2, 3, 4, 5, 6, 7] rfl rfl rfl (va_runV (As := [.ref q_fl, .int (mX0_standOf (va 0) (va 1)), .int x1]) (rest := []) ⟨hx, hb, hml, hown, hts⟩ (kX0_spread l Γ q_fd q_ds q_rc q_fl q_k q_c q_a q_pa q_b q_pb ds rc vi vj vk vc va vpa vb vpb (mX0_standOf (va 0) (va 1)) x1 r_4 ds_5 rc_6 hc_7 _) (cwV 3 hts gX8_fewestBySpreading_X0_spread rfl rfl rfl (by decide +kernel) ⟨Nat.le_of_ble_eq_true rfl, Nat.le_of_ble_eq_true rfl⟩) (my_preV (wc := (wFinder Γ q_fd q_ds q_rc ds rc ++ wFloor Γ q_fl q_k q_c q_a q_pa q_b q_pb vi vj vk vc va vpa vb vpb)) (ci := 0) (q0 := 8) [8, 9, 10, 1, 2, 3, 4, 5, 6, 7] hK hP hD rfl rfl rfl rfl) rfl rfl hl.1 rfl (lv_room (Nat.le_of_ble_eq_true rfl)) dX8_fewestBySpreading_37 ⟨Nat.le_of_ble_eq_true rfl, Nat.le_of_ble_eq_true rfl⟩) (fun H locs hP hD hS => ?_)
    cases hm
    exact vx_ret (W.widen (k := 2) (n := 12) (Nat.le_of_ble_eq_true rfl) (Nat.le_of_ble_eq_true rfl) (W.iret (v := r_4) hx hb hr (fun t ht hW => ⟨_, _, rfl, ⟨rfl, by rw [ht]; exact hP⟩, hS.F ht⟩) hS.2.2 dX8_fewestBySpreading_40))
  · replace hm := if_f hm c_3
    refine my_call1 (wc := (wFloor Γ q_fl q_k q_c q_a q_pa q_b q_pb vi vj vk vc va vpa vb vpb)) (w1 := (wFloor Γ q_fl q_k q_c q_a q_pa q_b q_pb vi vj vk vc va vpa vb vpb)) (ws1 := (wBF Γ q_bf q_tx q_fl q_flT q_hi q_s1 q_s2 q_fd q_kc q_kr  ++ wFloor Γ q_fl q_k q_c q_a q_pa q_b q_pb vi vj vk vc va vpa vb vpb ++ wFinder Γ q_fd q_ds q_rc ds rc)) hP hD hS hA [1, 2, 3, 4, 5, 6, 7] rfl rfl rfl (va_runV (As := [.int x0]) (rest := []) ⟨hx, hb, hml, hown, hts⟩ (kX1_robot_1 l Γ q_fl q_k q_c q_a q_pa q_b q_pb vi vj vk vc va vpa vb vpb x0 c_3 _) (cwV 1 hts gX8_fewestBySpreading_X1_robot rfl rfl rfl (by decide +kernel) ⟨Nat.le_of_ble_eq_true rfl, Nat.le_of_ble_eq_true rfl⟩) (my_preV (wc := (wFloor Γ q_fl q_k q_c q_a q_pa q_b q_pb vi vj vk vc va vpa vb vpb)) (ci := 1) (q0 := 1) [1, 2, 3, 4, 5, 6, 7] hK hP hD rfl rfl rfl rfl) rfl rfl hl.1 rfl (lv_room (Nat.le_of_ble_eq_true rfl)) dX8_fewestBySpreading_13 ⟨Nat.le_of_ble_eq_true rfl, Nat.le_of_ble_eq_true rfl⟩) (fun H locs hP hD hS => ?_)
    refine lv_astore_n (lv' := [(3, .ref q_b), (0, .ref q_bf), (1, .int x0), (2, .int x1)]) hx hb dX8_fewestBySpreading_16 rfl hl (by decide) rfl (fun ls hl => ?_)
    refine lv_aload_n hx hb dX8_fewestBySpreading_17 rfl (lv_at hl 1 rfl) ?_
    refine va_get (D := my_D Γ) (ci := 6) (v := .ref q_fd) (C := RX8) (T := TX8) (N := 9) hx hb hts hinX8 hown hK hP 0 rfl rfl 6 (by decide) (hts (.fieldLink RX8 46 "BeltFloor" "finder" "LBeltFloor$Finder;") (List.mem_of_getElem? (i := 2) rfl)) (fun _ h9 => h9) rfl dX8_fewestBySpreading_18 ?_
    refine lv_aload_n hx hb dX8_fewestBySpreading_21 rfl (lv_at hl 1 rfl) ?_
    refine va_get (D := my_D Γ) (ci := 6) (v := .ref q_fl) (C := RX8) (T := TX8) (N := 9) hx hb hts hinX8 hown hK hP 0 rfl rfl 1 (by decide) (hts (.fieldLink RX8 19 "BeltFloor" "floor" "LBeltFloor$Floor;") (List.mem_of_getElem? (i := 1) rfl)) (fun _ h9 => h9) rfl dX8_fewestBySpreading_22 ?_
    refine lv_aload_n hx hb dX8_fewestBySpreading_25 rfl (lv_at hl 0 rfl) ?_
    refine va_get (D := my_D Γ) (ci := 3) (v := .int (vb 0)) (C := RX4) (T := TX4) (N := 10) hx hb hts hinX4 hown hK hP 6 rfl rfl 0 (by decide) (hts (.fieldLink RX8 144 "BeltFloor$Robot" "cell" "I") (List.mem_of_getElem? (i := 3) rfl)) (fun _ h9 => h9) rfl dX8_fewestBySpreading_26 ?_
    refine lv_aload_n hx hb dX8_fewestBySpreading_29 rfl (lv_at hl 0 rfl) ?_
    refine va_get (D := my_D Γ) (ci := 3) (v := .int (vb 1)) (C := RX4) (T := TX4) (N := 10) hx hb hts hinX4 hown hK hP 6 rfl rfl 1 (by decide) (hts (.fieldLink RX8 149 "BeltFloor$Robot" "facing" "I") (List.mem_of_getElem? (i := 4) rfl)) (fun _ h9 => h9) rfl dX8_fewestBySpreading_30 ?_
    refine my_call1 (wc := ([] : va_W)) (w1 := ([] : va_W)) (ws1 := (wBF Γ q_bf q_tx q_fl q_flT q_hi q_s1 q_s2 q_fd q_kc q_kr  ++ wFloor Γ q_fl q_k q_c q_a q_pa q_b q_pb vi vj vk vc va vpa vb vpb ++ wFinder Γ q_fd q_ds q_rc ds rc)) hP hD hS hA [] rfl rfl rfl (va_runS (As := [.int (vb 0), .int (vb 1)]) (rest := [.ref q_fl, .ref q_fd]) ⟨hx, hb, hml, hown, hts⟩ (kX0_standOf l Γ (vb 0) (vb 1) (mX0_standOf (vb 0) (vb 1)) rfl _) (va_cwS 2 hts gX8_fewestBySpreading_X0_standOf rfl rfl rfl (by decide +kernel) ⟨Nat.le_of_ble_eq_true rfl, Nat.le_of_ble_eq_true rfl⟩) (my_preS (wc := ([] : va_W)) [] hK hP hD rfl rfl) rfl rfl hl.1 rfl (lv_room (Nat.le_of_ble_eq_true rfl)) dX8_fewestBySpreading_33 ⟨Nat.le_of_ble_eq_true rfl, Nat.le_of_ble_eq_true rfl⟩) (fun H locs hP hD hS => ?_)
    refine lv_iload_n hx hb dX8_fewestBySpreading_36 rfl (lv_at hl 3 rfl) ?_
    obtain ⟨r_8, ds_9, rc_10, hc_11, hm⟩ := bo3_s hm
    refine my_call1 (wc := (wFinder Γ q_fd q_ds q_rc ds rc ++ wFloor Γ q_fl q_k q_c q_a q_pa q_b q_pb vi vj vk vc va vpa vb vpb)) (w1 := (wFinder Γ q_fd q_ds q_rc ds_9 rc_10 ++ wFloor Γ q_fl q_k q_c q_a q_pa q_b q_pb vi vj vk vc va vpa vb vpb)) (ws1 := (wBF Γ q_bf q_tx q_fl q_flT q_hi q_s1 q_s2 q_fd q_kc q_kr  ++ wFloor Γ q_fl q_k q_c q_a q_pa q_b q_pb vi vj vk vc va vpa vb vpb ++ wFinder Γ q_fd q_ds q_rc ds_9 rc_10)) hP hD hS hA [8, 9, 10, 1, 2, 3, 4, 5, 6, 7] rfl rfl rfl (va_runV (As := [.ref q_fl, .int (mX0_standOf (vb 0) (vb 1)), .int x1]) (rest := []) ⟨hx, hb, hml, hown, hts⟩ (kX0_spread l Γ q_fd q_ds q_rc q_fl q_k q_c q_a q_pa q_b q_pb ds rc vi vj vk vc va vpa vb vpb (mX0_standOf (vb 0) (vb 1)) x1 r_8 ds_9 rc_10 hc_11 _) (cwV 3 hts gX8_fewestBySpreading_X0_spread rfl rfl rfl (by decide +kernel) ⟨Nat.le_of_ble_eq_true rfl, Nat.le_of_ble_eq_true rfl⟩) (my_preV (wc := (wFinder Γ q_fd q_ds q_rc ds rc ++ wFloor Γ q_fl q_k q_c q_a q_pa q_b q_pb vi vj vk vc va vpa vb vpb)) (ci := 0) (q0 := 8) [8, 9, 10, 1, 2, 3, 4, 5, 6, 7] hK hP hD rfl rfl rfl rfl) rfl rfl hl.1 rfl (lv_room (Nat.le_of_ble_eq_true rfl)) dX8_fewestBySpreading_37 ⟨Nat.le_of_ble_eq_true rfl, Nat.le_of_ble_eq_true rfl⟩) (fun H locs hP hD hS => ?_)
    cases hm
    exact vx_ret (W.widen (k := 2) (n := 12) (Nat.le_of_ble_eq_true rfl) (Nat.le_of_ble_eq_true rfl) (W.iret (v := r_8) hx hb hr (fun t ht hW => ⟨_, _, rfl, ⟨rfl, by rw [ht]; exact hP⟩, hS.F ht⟩) hS.2.2 dX8_fewestBySpreading_40))
def mX8_fewestBySweeping (vk : Nat → Int32) (va : Nat → Int32) (vb : Nat → Int32) (ds : Nat → Int32) (x0 : Int32) (x1 : Int32) : Option ((Int32 × (Nat → Int32)) ⊕ String) := (bx1 (mX8_checkRobot x0) (fun _ => (bx1 (mX8_checkCell x1) (fun _ => (if x0 = 0 then (bo2 (mX0_sweep ds vk (mX0_standOf (va 0) (va 1)) x1) (fun r_4 ds_5 => (some (Sum.inl (r_4, ds_5))))) else (bo2 (mX0_sweep ds vk (mX0_standOf (vb 0) (vb 1)) x1) (fun r_7 ds_8 => (some (Sum.inl (r_7, ds_8))))))))))
set_option maxHeartbeats 4000000 in
set_option maxRecDepth 100000 in
theorem kX8_fewestBySweeping (l : Launch) (Γ : my_G) (hfl : l.stackTraces = false) (q_bf q_fl q_k q_c q_a q_pa q_b q_pb q_fd q_ds q_rc q_tx q_flT q_hi q_s1 q_s2 q_kc q_kr : Nat) (vi : Nat → Int32) (vj : Nat → Int64) (vk : Nat → Int32) (vc : Nat → Int32) (va : Nat → Int32) (vpa : Nat → Int32) (vb : Nat → Int32) (vpb : Nat → Int32) (ds : Nat → Int32) (rc : Nat → Int32) (x0 : Int32) (x1 : Int32) (mr : (Int32 × (Nat → Int32)) ⊕ String) (hm : mX8_fewestBySweeping vk va vb ds x0 x1 = (some mr)) : MnX l yX8_fewestBySweeping wsX8_fewestBySweeping ({ frames := 7, cells := 2, slots := 12, locals := 138 } : Room) Γ [.ref q_bf, .int x0, .int x1] (wBF Γ q_bf q_tx q_fl q_flT q_hi q_s1 q_s2 q_fd q_kc q_kr  ++ wFloor Γ q_fl q_k q_c q_a q_pa q_b q_pb vi vj vk vc va vpa vb vpb ++ wFinder Γ q_fd q_ds q_rc ds rc) (my_map (fun q : Int32 × (Nat → Int32) => ((some (.int (q.1))), (wBF Γ q_bf q_tx q_fl q_flT q_hi q_s1 q_s2 q_fd q_kc q_kr  ++ wFloor Γ q_fl q_k q_c q_a q_pa q_b q_pb vi vj vk vc va vpa vb vpb ++ wFinder Γ q_fd q_ds q_rc (q.2) rc))) mr) 2 12 := by
  intro sz
  refine vx_ofW (cc := cX8_fewestBySweeping) (maxL := 4) (ret := (some .int)) (by decide) rfl ?_
  intro p e s m args below meth c s₁ B hml htab hv
  obtain ⟨rfl, ⟨hsz, hP, hK, hD0⟩, hZ, hstr⟩ := hv
  have hx := B.exec
  have hb := B.bytes
  have hr := B.returns
  have hts := atoms_spec (ws := wsX8_fewestBySweeping) B.pre
  have hown : s.vm.findClass RX8 = some m.cls := findClass_of_methodNamed B.named
  have hlocks := B.notSynchronized
  have hinX0 : ∀ w ∈ u_ws RX0 TX0 2, w ∈ wsX8_fewestBySweeping := fun w h => List.mem_cons_of_mem _ (List.mem_append_left _ (List.mem_append_right _ h))
  have hinX1 : ∀ w ∈ u_ws RX1 TX1 12, w ∈ wsX8_fewestBySweeping := fun w h => List.mem_cons_of_mem _ (List.mem_append_left _ (List.mem_append_left _ (List.mem_append_right _ h)))
  have hinX4 : ∀ w ∈ u_ws RX4 TX4 10, w ∈ wsX8_fewestBySweeping := fun w h => List.mem_cons_of_mem _ (List.mem_append_left _ (List.mem_append_left _ (List.mem_append_left _ (List.mem_append_right _ h))))
  have hinX8 : ∀ w ∈ u_ws RX8 TX8 9, w ∈ wsX8_fewestBySweeping := fun w h => List.mem_cons_of_mem _ (List.mem_append_left _ (List.mem_append_left _ (List.mem_append_left _ (List.mem_append_left _ (List.mem_append_right _ h)))))
  subst hsz
  have hD := hD0.self (sz := s.heap.size)
  have hA : ∀ q : Nat, s.heap.size ≤ q → va_A (wBF Γ q_bf q_tx q_fl q_flT q_hi q_s1 q_s2 q_fd q_kc q_kr  ++ wFloor Γ q_fl q_k q_c q_a q_pa q_b q_pb vi vj vk vc va vpa vb vpb ++ wFinder Γ q_fd q_ds q_rc ds rc) s.heap.size q := fun q h => Or.inr h
  generalize va_A (wBF Γ q_bf q_tx q_fl q_flT q_hi q_s1 q_s2 q_fd q_kc q_kr  ++ wFloor Γ q_fl q_k q_c q_a q_pa q_b q_pb vi vj vk vc va vpa vb vpb ++ wFinder Γ q_fd q_ds q_rc ds rc) s.heap.size = A at hD hA hZ ⊢
  obtain ⟨W0_, hW0_⟩ : ∃ w : va_W, (wBF Γ q_bf q_tx q_fl q_flT q_hi q_s1 q_s2 q_fd q_kc q_kr  ++ wFloor Γ q_fl q_k q_c q_a q_pa q_b q_pb vi vj vk vc va vpa vb vpb ++ wFinder Γ q_fd q_ds q_rc ds rc) = w := ⟨_, rfl⟩
  rw [show my_XC Γ A (wBF Γ q_bf q_tx q_fl q_flT q_hi q_s1 q_s2 q_fd q_kc q_kr  ++ wFloor Γ q_fl q_k q_c q_a q_pa q_b q_pb vi vj vk vc va vpa vb vpb ++ wFinder Γ q_fd q_ds q_rc ds rc) (my_map (fun q : Int32 × (Nat → Int32) => ((some (.int (q.1))), (wBF Γ q_bf q_tx q_fl q_flT q_hi q_s1 q_s2 q_fd q_kc q_kr  ++ wFloor Γ q_fl q_k q_c q_a q_pa q_b q_pb vi vj vk vc va vpa vb vpb ++ wFinder Γ q_fd q_ds q_rc (q.2) rc))) mr) = my_XC Γ A W0_ (my_map (fun q : Int32 × (Nat → Int32) => ((some (.int (q.1))), (wBF Γ q_bf q_tx q_fl q_flT q_hi q_s1 q_s2 q_fd q_kc q_kr  ++ wFloor Γ q_fl q_k q_c q_a q_pa q_b q_pb vi vj vk vc va vpa vb vpb ++ wFinder Γ q_fd q_ds q_rc (q.2) rc))) mr) from congrArg (fun w => my_XC Γ A w (my_map (fun q : Int32 × (Nat → Int32) => ((some (.int (q.1))), (wBF Γ q_bf q_tx q_fl q_flT q_hi q_s1 q_s2 q_fd q_kc q_kr  ++ wFloor Γ q_fl q_k q_c q_a q_pa q_b q_pb vi vj vk vc va vpa vb vpb ++ wFinder Γ q_fd q_ds q_rc (q.2) rc))) mr)) hW0_]
  have hS : va_S A s.heap s.heap [] := va_S.rf
  have hl := lv_entry ([.ref q_bf, .int x0, .int x1]) (n := 4) (Nat.le_of_ble_eq_true rfl)
  rw [lg_entry_eq]
  generalize (lg_sl ([.ref q_bf, .int x0, .int x1]) ++ List.replicate (4 - (lg_sl ([.ref q_bf, .int x0, .int x1])).length) Slot.unset).toArray = ls at hl ⊢
  replace hl : lv_has ls 4 [(0, .ref q_bf), (1, .int x0), (2, .int x1)] := hl
  unfold mX8_fewestBySweeping at hm
  refine lv_iload_n hx hb dX8_fewestBySweeping_0 rfl (lv_at hl 1 rfl) ?_
  refine my_callX (wc := []) hP hD hS hA [] rfl rfl (fun res w1 h9 => my_had h9) (vx_runS (As := [.int x0]) (rest := []) ⟨hx, hb, hml, hown, hts⟩ (kX8_checkRobot l Γ hfl x0 _ rfl _) (va_cwS 1 hts gX8_fewestBySweeping_X8_checkRobot rfl rfl rfl (by decide +kernel) ⟨Nat.le_of_ble_eq_true rfl, Nat.le_of_ble_eq_true rfl⟩) (my_preSX (wc := []) [] hK hP hD hS hA hZ hstr rfl rfl) rfl rfl hl.1 rfl (lv_room (Nat.le_of_ble_eq_true rfl)) dX8_fewestBySweeping_1 ⟨Nat.le_of_ble_eq_true rfl, Nat.le_of_ble_eq_true rfl⟩) (fun E_ H locs q9 ce hro hP hS h1_ h2_ h3_ => ?_) (fun res_ w1_ H locs hro hP hD hS => ?_)
  · rcases bx1_s hm with ⟨a_, hc_, hm⟩ | ⟨E2_, hc_, hm⟩
    · rw [hc_] at hro; exact (my_map_lr hro).elim
    · rw [hc_] at hro; obtain rfl := my_map_rr hro; subst hm
      exact vx_out (fun x hx9 => absurd (htab x hx9) id) hlocks h1_ h2_ h3_ (fun t ht ha => ⟨rfl, by rw [ht, ← hW0_]; exact hP, hS.F ht⟩) hS.2.2 (Nat.le_of_ble_eq_true rfl) (Nat.le_of_ble_eq_true rfl)
  rcases bx1_s hm with ⟨a_, hc_, hm⟩ | ⟨E2_, hc_, hm⟩
  rotate_left
  · rw [hc_] at hro; exact (my_map_rl hro).elim
  rw [hc_] at hro
  obtain ⟨rfl, rfl⟩ := my_map_ll hro
  replace hP : va_P (my_D Γ) vwCl (wBF Γ q_bf q_tx q_fl q_flT q_hi q_s1 q_s2 q_fd q_kc q_kr  ++ wFloor Γ q_fl q_k q_c q_a q_pa q_b q_pb vi vj vk vc va vpa vb vpb ++ wFinder Γ q_fd q_ds q_rc ds rc) H := hP
  replace hD : va_D A (wBF Γ q_bf q_tx q_fl q_flT q_hi q_s1 q_s2 q_fd q_kc q_kr  ++ wFloor Γ q_fl q_k q_c q_a q_pa q_b q_pb vi vj vk vc va vpa vb vpb ++ wFinder Γ q_fd q_ds q_rc ds rc) := hD
  refine lv_iload_n hx hb dX8_fewestBySweeping_4 rfl (lv_at hl 2 rfl) ?_
  refine my_callX (wc := []) hP hD hS hA [] rfl rfl (fun res w1 h9 => my_had h9) (vx_runS (As := [.int x1]) (rest := []) ⟨hx, hb, hml, hown, hts⟩ (kX8_checkCell l Γ hfl x1 _ rfl _) (va_cwS 1 hts gX8_fewestBySweeping_X8_checkCell rfl rfl rfl (by decide +kernel) ⟨Nat.le_of_ble_eq_true rfl, Nat.le_of_ble_eq_true rfl⟩) (my_preSX (wc := []) [] hK hP hD hS hA hZ hstr rfl rfl) rfl rfl hl.1 rfl (lv_room (Nat.le_of_ble_eq_true rfl)) dX8_fewestBySweeping_5 ⟨Nat.le_of_ble_eq_true rfl, Nat.le_of_ble_eq_true rfl⟩) (fun E_ H locs q9 ce hro hP hS h1_ h2_ h3_ => ?_) (fun res_ w1_ H locs hro hP hD hS => ?_)
  · rcases bx1_s hm with ⟨a_, hc_, hm⟩ | ⟨E2_, hc_, hm⟩
    · rw [hc_] at hro; exact (my_map_lr hro).elim
    · rw [hc_] at hro; obtain rfl := my_map_rr hro; subst hm
      exact vx_out (fun x hx9 => absurd (htab x hx9) id) hlocks h1_ h2_ h3_ (fun t ht ha => ⟨rfl, by rw [ht, ← hW0_]; exact hP, hS.F ht⟩) hS.2.2 (Nat.le_of_ble_eq_true rfl) (Nat.le_of_ble_eq_true rfl)
  rcases bx1_s hm with ⟨a_, hc_, hm⟩ | ⟨E2_, hc_, hm⟩
  rotate_left
  · rw [hc_] at hro; exact (my_map_rl hro).elim
  rw [hc_] at hro
  obtain ⟨rfl, rfl⟩ := my_map_ll hro
  replace hP : va_P (my_D Γ) vwCl (wBF Γ q_bf q_tx q_fl q_flT q_hi q_s1 q_s2 q_fd q_kc q_kr  ++ wFloor Γ q_fl q_k q_c q_a q_pa q_b q_pb vi vj vk vc va vpa vb vpb ++ wFinder Γ q_fd q_ds q_rc ds rc) H := hP
  replace hD : va_D A (wBF Γ q_bf q_tx q_fl q_flT q_hi q_s1 q_s2 q_fd q_kc q_kr  ++ wFloor Γ q_fl q_k q_c q_a q_pa q_b q_pb vi vj vk vc va vpa vb vpb ++ wFinder Γ q_fd q_ds q_rc ds rc) := hD
  refine lv_aload_n hx hb dX8_fewestBySweeping_8 rfl (lv_at hl 0 rfl) ?_
  refine va_get (D := my_D Γ) (ci := 6) (v := .ref q_fl) (C := RX8) (T := TX8) (N := 9) hx hb hts hinX8 hown hK hP 0 rfl rfl 1 (by decide) (hts (.fieldLink RX8 19 "BeltFloor" "floor" "LBeltFloor$Floor;") (List.mem_of_getElem? (i := 1) rfl)) (fun _ h9 => h9) rfl dX8_fewestBySweeping_9 ?_
  refine lv_iload_n hx hb dX8_fewestBySweeping_12 rfl (lv_at hl 1 rfl) ?_
  by_cases c_3 : x0 = 0
  · replace hm := if_s hm c_3
    refine my_call1 (wc := (wFloor Γ q_fl q_k q_c q_a q_pa q_b q_pb vi vj vk vc va vpa vb vpb)) (w1 := (wFloor Γ q_fl q_k q_c q_a q_pa q_b q_pb vi vj vk vc va vpa vb vpb)) (ws1 := (wBF Γ q_bf q_tx q_fl q_flT q_hi q_s1 q_s2 q_fd q_kc q_kr  ++ wFloor Γ q_fl q_k q_c q_a q_pa q_b q_pb vi vj vk vc va vpa vb vpb ++ wFinder Γ q_fd q_ds q_rc ds rc)) hP hD hS hA [1, 2, 3, 4, 5, 6, 7] rfl rfl rfl (va_runV (As := [.int x0]) (rest := []) ⟨hx, hb, hml, hown, hts⟩ (kX1_robot_0 l Γ q_fl q_k q_c q_a q_pa q_b q_pb vi vj vk vc va vpa vb vpb x0 c_3 _) (cwV 1 hts gX8_fewestBySweeping_X1_robot rfl rfl rfl (by decide +kernel) ⟨Nat.le_of_ble_eq_true rfl, Nat.le_of_ble_eq_true rfl⟩) (my_preV (wc := (wFloor Γ q_fl q_k q_c q_a q_pa q_b q_pb vi vj vk vc va vpa vb vpb)) (ci := 1) (q0 := 1) [1, 2, 3, 4, 5, 6, 7] hK hP hD rfl rfl rfl rfl) rfl rfl hl.1 rfl (lv_room (Nat.le_of_ble_eq_true rfl)) dX8_fewestBySweeping_13 ⟨Nat.le_of_ble_eq_true rfl, Nat.le_of_ble_eq_true rfl⟩) (fun H locs hP hD hS => ?_)
    refine lv_astore_n (lv' := [(3, .ref q_a), (0, .ref q_bf), (1, .int x0), (2, .int x1)]) hx hb dX8_fewestBySweeping_16 rfl hl (by decide) rfl (fun ls hl => ?_)
    refine lv_aload_n hx hb dX8_fewestBySweeping_17 rfl (lv_at hl 1 rfl) ?_
    refine va_get (D := my_D Γ) (ci := 6) (v := .ref q_fd) (C := RX8) (T := TX8) (N := 9) hx hb hts hinX8 hown hK hP 0 rfl rfl 6 (by decide) (hts (.fieldLink RX8 46 "BeltFloor" "finder" "LBeltFloor$Finder;") (List.mem_of_getElem? (i := 2) rfl)) (fun _ h9 => h9) rfl dX8_fewestBySweeping_18 ?_
    refine lv_aload_n hx hb dX8_fewestBySweeping_21 rfl (lv_at hl 1 rfl) ?_
    refine va_get (D := my_D Γ) (ci := 6) (v := .ref q_fl) (C := RX8) (T := TX8) (N := 9) hx hb hts hinX8 hown hK hP 0 rfl rfl 1 (by decide) (hts (.fieldLink RX8 19 "BeltFloor" "floor" "LBeltFloor$Floor;") (List.mem_of_getElem? (i := 1) rfl)) (fun _ h9 => h9) rfl dX8_fewestBySweeping_22 ?_
    refine lv_aload_n hx hb dX8_fewestBySweeping_25 rfl (lv_at hl 0 rfl) ?_
    refine va_get (D := my_D Γ) (ci := 3) (v := .int (va 0)) (C := RX4) (T := TX4) (N := 10) hx hb hts hinX4 hown hK hP 4 rfl rfl 0 (by decide) (hts (.fieldLink RX8 144 "BeltFloor$Robot" "cell" "I") (List.mem_of_getElem? (i := 3) rfl)) (fun _ h9 => h9) rfl dX8_fewestBySweeping_26 ?_
    refine lv_aload_n hx hb dX8_fewestBySweeping_29 rfl (lv_at hl 0 rfl) ?_
    refine va_get (D := my_D Γ) (ci := 3) (v := .int (va 1)) (C := RX4) (T := TX4) (N := 10) hx hb hts hinX4 hown hK hP 4 rfl rfl 1 (by decide) (hts (.fieldLink RX8 149 "BeltFloor$Robot" "facing" "I") (List.mem_of_getElem? (i := 4) rfl)) (fun _ h9 => h9) rfl dX8_fewestBySweeping_30 ?_
    refine my_call1 (wc := ([] : va_W)) (w1 := ([] : va_W)) (ws1 := (wBF Γ q_bf q_tx q_fl q_flT q_hi q_s1 q_s2 q_fd q_kc q_kr  ++ wFloor Γ q_fl q_k q_c q_a q_pa q_b q_pb vi vj vk vc va vpa vb vpb ++ wFinder Γ q_fd q_ds q_rc ds rc)) hP hD hS hA [] rfl rfl rfl (va_runS (As := [.int (va 0), .int (va 1)]) (rest := [.ref q_fl, .ref q_fd]) ⟨hx, hb, hml, hown, hts⟩ (kX0_standOf l Γ (va 0) (va 1) (mX0_standOf (va 0) (va 1)) rfl _) (va_cwS 2 hts gX8_fewestBySweeping_X0_standOf rfl rfl rfl (by decide +kernel) ⟨Nat.le_of_ble_eq_true rfl, Nat.le_of_ble_eq_true rfl⟩) (my_preS (wc := ([] : va_W)) [] hK hP hD rfl rfl) rfl rfl hl.1 rfl (lv_room (Nat.le_of_ble_eq_true rfl)) dX8_fewestBySweeping_33 ⟨Nat.le_of_ble_eq_true rfl, Nat.le_of_ble_eq_true rfl⟩) (fun H locs hP hD hS => ?_)
    refine lv_iload_n hx hb dX8_fewestBySweeping_36 rfl (lv_at hl 3 rfl) ?_
    obtain ⟨r_4, ds_5, hc_6, hm⟩ := bo2_s hm
    refine my_call1 (wc := (wFinder Γ q_fd q_ds q_rc ds rc ++ wFloor Γ q_fl q_k q_c q_a q_pa q_b q_pb vi vj vk vc va vpa vb vpb)) (w1 := (wFinder Γ q_fd q_ds q_rc ds_5 rc ++ wFloor Γ q_fl q_k q_c q_a q_pa q_b q_pb vi vj vk vc va vpa vb vpb)) (ws1 := (wBF Γ q_bf q_tx q_fl q_flT q_hi q_s1 q_s2 q_fd q_kc q_kr  ++ wFloor Γ q_fl q_k q_c q_a q_pa q_b q_pb vi vj vk vc va vpa vb vpb ++ wFinder Γ q_fd q_ds q_rc ds_5 rc)) hP hD hS hA [8, 9, 10, 1, 2, 3, 4, 5, 6, 7] rfl rfl rfl (va_runV (As := [.ref q_fl, .int (mX0_standOf (va 0) (va 1)), .int x1]) (rest := []) ⟨hx, hb, hml, hown, hts⟩ (kX0_sweep l Γ q_fd q_ds q_rc q_fl q_k q_c q_a q_pa q_b q_pb ds rc vi vj vk vc va vpa vb vpb (mX0_standOf (va 0) (va 1)) x1 r_4 ds_5 hc_6 _) (cwV 3 hts gX8_fewestBySweeping_X0_sweep rfl rfl rfl (by decide +kernel) ⟨Nat.le_of_ble_eq_true rfl, Nat.le_of_ble_eq_true rfl⟩) (my_preV (wc := (wFinder Γ q_fd q_ds q_rc ds rc ++ wFloor Γ q_fl q_k q_c q_a q_pa q_b q_pb vi vj vk vc va vpa vb vpb)) (ci := 0) (q0 := 8) [8, 9, 10, 1, 2, 3, 4, 5, 6, 7] hK hP hD rfl rfl rfl rfl) rfl rfl hl.1 rfl (lv_room (Nat.le_of_ble_eq_true rfl)) dX8_fewestBySweeping_37 ⟨Nat.le_of_ble_eq_true rfl, Nat.le_of_ble_eq_true rfl⟩) (fun H locs hP hD hS => ?_)
    cases hm
    exact vx_ret (W.widen (k := 2) (n := 12) (Nat.le_of_ble_eq_true rfl) (Nat.le_of_ble_eq_true rfl) (W.iret (v := r_4) hx hb hr (fun t ht hW => ⟨_, _, rfl, ⟨rfl, by rw [ht]; exact hP⟩, hS.F ht⟩) hS.2.2 dX8_fewestBySweeping_40))
  · replace hm := if_f hm c_3
    refine my_call1 (wc := (wFloor Γ q_fl q_k q_c q_a q_pa q_b q_pb vi vj vk vc va vpa vb vpb)) (w1 := (wFloor Γ q_fl q_k q_c q_a q_pa q_b q_pb vi vj vk vc va vpa vb vpb)) (ws1 := (wBF Γ q_bf q_tx q_fl q_flT q_hi q_s1 q_s2 q_fd q_kc q_kr  ++ wFloor Γ q_fl q_k q_c q_a q_pa q_b q_pb vi vj vk vc va vpa vb vpb ++ wFinder Γ q_fd q_ds q_rc ds rc)) hP hD hS hA [1, 2, 3, 4, 5, 6, 7] rfl rfl rfl (va_runV (As := [.int x0]) (rest := []) ⟨hx, hb, hml, hown, hts⟩ (kX1_robot_1 l Γ q_fl q_k q_c q_a q_pa q_b q_pb vi vj vk vc va vpa vb vpb x0 c_3 _) (cwV 1 hts gX8_fewestBySweeping_X1_robot rfl rfl rfl (by decide +kernel) ⟨Nat.le_of_ble_eq_true rfl, Nat.le_of_ble_eq_true rfl⟩) (my_preV (wc := (wFloor Γ q_fl q_k q_c q_a q_pa q_b q_pb vi vj vk vc va vpa vb vpb)) (ci := 1) (q0 := 1) [1, 2, 3, 4, 5, 6, 7] hK hP hD rfl rfl rfl rfl) rfl rfl hl.1 rfl (lv_room (Nat.le_of_ble_eq_true rfl)) dX8_fewestBySweeping_13 ⟨Nat.le_of_ble_eq_true rfl, Nat.le_of_ble_eq_true rfl⟩) (fun H locs hP hD hS => ?_)
    refine lv_astore_n (lv' := [(3, .ref q_b), (0, .ref q_bf), (1, .int x0), (2, .int x1)]) hx hb dX8_fewestBySweeping_16 rfl hl (by decide) rfl (fun ls hl => ?_)
    refine lv_aload_n hx hb dX8_fewestBySweeping_17 rfl (lv_at hl 1 rfl) ?_
    refine va_get (D := my_D Γ) (ci := 6) (v := .ref q_fd) (C := RX8) (T := TX8) (N := 9) hx hb hts hinX8 hown hK hP 0 rfl rfl 6 (by decide) (hts (.fieldLink RX8 46 "BeltFloor" "finder" "LBeltFloor$Finder;") (List.mem_of_getElem? (i := 2) rfl)) (fun _ h9 => h9) rfl dX8_fewestBySweeping_18 ?_
    refine lv_aload_n hx hb dX8_fewestBySweeping_21 rfl (lv_at hl 1 rfl) ?_
    refine va_get (D := my_D Γ) (ci := 6) (v := .ref q_fl) (C := RX8) (T := TX8) (N := 9) hx hb hts hinX8 hown hK hP 0 rfl rfl 1 (by decide) (hts (.fieldLink RX8 19 "BeltFloor" "floor" "LBeltFloor$Floor;") (List.mem_of_getElem? (i := 1) rfl)) (fun _ h9 => h9) rfl dX8_fewestBySweeping_22 ?_
    refine lv_aload_n hx hb dX8_fewestBySweeping_25 rfl (lv_at hl 0 rfl) ?_
    refine va_get (D := my_D Γ) (ci := 3) (v := .int (vb 0)) (C := RX4) (T := TX4) (N := 10) hx hb hts hinX4 hown hK hP 6 rfl rfl 0 (by decide) (hts (.fieldLink RX8 144 "BeltFloor$Robot" "cell" "I") (List.mem_of_getElem? (i := 3) rfl)) (fun _ h9 => h9) rfl dX8_fewestBySweeping_26 ?_
    refine lv_aload_n hx hb dX8_fewestBySweeping_29 rfl (lv_at hl 0 rfl) ?_
    refine va_get (D := my_D Γ) (ci := 3) (v := .int (vb 1)) (C := RX4) (T := TX4) (N := 10) hx hb hts hinX4 hown hK hP 6 rfl rfl 1 (by decide) (hts (.fieldLink RX8 149 "BeltFloor$Robot" "facing" "I") (List.mem_of_getElem? (i := 4) rfl)) (fun _ h9 => h9) rfl dX8_fewestBySweeping_30 ?_
    refine my_call1 (wc := ([] : va_W)) (w1 := ([] : va_W)) (ws1 := (wBF Γ q_bf q_tx q_fl q_flT q_hi q_s1 q_s2 q_fd q_kc q_kr  ++ wFloor Γ q_fl q_k q_c q_a q_pa q_b q_pb vi vj vk vc va vpa vb vpb ++ wFinder Γ q_fd q_ds q_rc ds rc)) hP hD hS hA [] rfl rfl rfl (va_runS (As := [.int (vb 0), .int (vb 1)]) (rest := [.ref q_fl, .ref q_fd]) ⟨hx, hb, hml, hown, hts⟩ (kX0_standOf l Γ (vb 0) (vb 1) (mX0_standOf (vb 0) (vb 1)) rfl _) (va_cwS 2 hts gX8_fewestBySweeping_X0_standOf rfl rfl rfl (by decide +kernel) ⟨Nat.le_of_ble_eq_true rfl, Nat.le_of_ble_eq_true rfl⟩) (my_preS (wc := ([] : va_W)) [] hK hP hD rfl rfl) rfl rfl hl.1 rfl (lv_room (Nat.le_of_ble_eq_true rfl)) dX8_fewestBySweeping_33 ⟨Nat.le_of_ble_eq_true rfl, Nat.le_of_ble_eq_true rfl⟩) (fun H locs hP hD hS => ?_)
    refine lv_iload_n hx hb dX8_fewestBySweeping_36 rfl (lv_at hl 3 rfl) ?_
    obtain ⟨r_7, ds_8, hc_9, hm⟩ := bo2_s hm
    refine my_call1 (wc := (wFinder Γ q_fd q_ds q_rc ds rc ++ wFloor Γ q_fl q_k q_c q_a q_pa q_b q_pb vi vj vk vc va vpa vb vpb)) (w1 := (wFinder Γ q_fd q_ds q_rc ds_8 rc ++ wFloor Γ q_fl q_k q_c q_a q_pa q_b q_pb vi vj vk vc va vpa vb vpb)) (ws1 := (wBF Γ q_bf q_tx q_fl q_flT q_hi q_s1 q_s2 q_fd q_kc q_kr  ++ wFloor Γ q_fl q_k q_c q_a q_pa q_b q_pb vi vj vk vc va vpa vb vpb ++ wFinder Γ q_fd q_ds q_rc ds_8 rc)) hP hD hS hA [8, 9, 10, 1, 2, 3, 4, 5, 6, 7] rfl rfl rfl (va_runV (As := [.ref q_fl, .int (mX0_standOf (vb 0) (vb 1)), .int x1]) (rest := []) ⟨hx, hb, hml, hown, hts⟩ (kX0_sweep l Γ q_fd q_ds q_rc q_fl q_k q_c q_a q_pa q_b q_pb ds rc vi vj vk vc va vpa vb vpb (mX0_standOf (vb 0) (vb 1)) x1 r_7 ds_8 hc_9 _) (cwV 3 hts gX8_fewestBySweeping_X0_sweep rfl rfl rfl (by decide +kernel) ⟨Nat.le_of_ble_eq_true rfl, Nat.le_of_ble_eq_true rfl⟩) (my_preV (wc := (wFinder Γ q_fd q_ds q_rc ds rc ++ wFloor Γ q_fl q_k q_c q_a q_pa q_b q_pb vi vj vk vc va vpa vb vpb)) (ci := 0) (q0 := 8) [8, 9, 10, 1, 2, 3, 4, 5, 6, 7] hK hP hD rfl rfl rfl rfl) rfl rfl hl.1 rfl (lv_room (Nat.le_of_ble_eq_true rfl)) dX8_fewestBySweeping_37 ⟨Nat.le_of_ble_eq_true rfl, Nat.le_of_ble_eq_true rfl⟩) (fun H locs hP hD hS => ?_)
    cases hm
    exact vx_ret (W.widen (k := 2) (n := 12) (Nat.le_of_ble_eq_true rfl) (Nat.le_of_ble_eq_true rfl) (W.iret (v := r_7) hx hb hr (fun t ht hW => ⟨_, _, rfl, ⟨rfl, by rw [ht]; exact hP⟩, hS.F ht⟩) hS.2.2 dX8_fewestBySweeping_40))
