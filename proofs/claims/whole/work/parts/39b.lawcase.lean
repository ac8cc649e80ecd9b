def mLaw_isHome (vi : Nat → Int32) (va : Nat → Int32) (vb : Nat → Int32) (vou : Nat → Int64) (mi : Nat → Int32) (vnw : Nat → Int32) (xs : Nat → Int32) (i : Int32) : Option ((Nat → Int64) × (Nat → Int32)) := (bo2 (mL_isHome vi va vb vou (xs (i + (1 : Int32)).toNatClampNeg)) (fun r_1 vou_2 => (bo2 (mX9_isHome mi vnw (xs (i + (1 : Int32)).toNatClampNeg)) (fun r_4 mi_5 => (if (mX9_thrown mi_5) = r_1 then (if r_1 = 0 then (if r_4 = 0 then (if (lg_cmp (vou_2 (0 : Int32).toNatClampNeg) (0 : Int64)) = 0 then (some (vou_2, mi_5)) else none) else (if (lg_cmp (vou_2 (0 : Int32).toNatClampNeg) (1 : Int64)) = 0 then (some (vou_2, mi_5)) else none)) else (some (vou_2, mi_5))) else none)))))
set_option maxHeartbeats 4000000 in
set_option maxRecDepth 100000 in
theorem kLaw_isHome (l : Launch) (Γ : my_G) (hfl : l.stackTraces = false) {p : Program} {e : Env} {s : State} {m : MethodId} {below : List Frame} {meth : Method} {c : Code} {b L : Nat} {xs : Nat → Int32} {Q : State → Prop} (hx : p.tables.exec = Jvm.exec) (hb : c.code = cL_law) (hml : c.maxLocals = 7) (hown : s.vm.findClass RL = some m.cls) (hts : ∀ w ∈ wsL_law, w.before #[Value.ref b] s = true) (hX : va_X b L xs s s.heap) (hbl : b < s.heap.size) (hK : my_K Γ s) (hZ : my_ZZ (fun q : Nat => s.heap.size ≤ q) s s.heap) (hstr : my_str s) (hnc : my_nc s) (q_bf q_fl q_k q_c q_a q_pa q_b q_pb q_ou q_mo q_tt q_nw q_tr q_ot q_di q_kp q_ik q_wy q_ah q_tg q_ws q_fr q_rw q_tx q_flT q_hi q_s1 q_s2 q_fd q_kc q_kr : Nat) (vi : Nat → Int32) (vj : Nat → Int64) (vk : Nat → Int32) (vc : Nat → Int32) (va : Nat → Int32) (vpa : Nat → Int32) (vb : Nat → Int32) (vpb : Nat → Int32) (vou : Nat → Int64) (mi : Nat → Int32) (vtt : Nat → Int32) (vnw : Nat → Int32) (vtr : Nat → Int32) (vot : Nat → Int32) (vdi : Nat → Int32) (vkp : Nat → Int32) (vik : Nat → Int32) (vwy : Nat → Int32) (vah : Nat → Int32) (vtg : Nat → Int32) (vws : Nat → Int32) (vfr : Nat → Int32) (vrw : Nat → Int32) (i : Int32) (hi1 : vp_in (i + (1 : Int32)) L) (hi2 : vp_in (i + (2 : Int32)) L) (hi3 : vp_in (i + (3 : Int32)) L) (vou_z : Nat → Int64) (mi_z : Nat → Int32) (hm : mLaw_isHome vi va vb vou mi vnw xs i = (some (vou_z, mi_z))) (R_ : va_W) (nc ns : Nat) (hn : nc + 3 ≤ room_1.cells) (hk : ns + 18 ≤ room_1.slots) (H : Heap) (locs : List Loc) (ls : Array Slot) (hP : va_P (my_D Γ) vwCl ((wBF Γ q_bf q_tx q_fl q_flT q_hi q_s1 q_s2 q_fd q_kc q_kr  ++ wFloor Γ q_fl q_k q_c q_a q_pa q_b q_pb vi vj vk vc va vpa vb vpb ++ wOut Γ q_ou vou ++ wModel Γ q_mo q_tt q_nw q_tr q_ot q_di q_kp q_ik q_wy q_ah q_tg q_ws q_fr q_rw mi vtt vnw vtr vot vdi vkp vik vwy vah vtg vws vfr vrw) ++ R_) H) (hD : va_D (fun q : Nat => s.heap.size ≤ q) ((wBF Γ q_bf q_tx q_fl q_flT q_hi q_s1 q_s2 q_fd q_kc q_kr  ++ wFloor Γ q_fl q_k q_c q_a q_pa q_b q_pb vi vj vk vc va vpa vb vpb ++ wOut Γ q_ou vou ++ wModel Γ q_mo q_tt q_nw q_tr q_ot q_di q_kp q_ik q_wy q_ah q_tg q_ws q_fr q_rw mi vtt vnw vtr vot vdi vkp vik vwy vah vtg vws vfr vrw) ++ R_)) (hS : va_S (fun q : Nat => s.heap.size ≤ q) s.heap H locs) (hl : lv_has ls 7 [(0, .ref b), (1, .ref q_bf), (2, .ref q_mo), (3, .ref q_ou), (4, .int i)]) (kk : ∀ (H : Heap) (locs : List Loc) (ls : Array Slot), va_P (my_D Γ) vwCl ((wBF Γ q_bf q_tx q_fl q_flT q_hi q_s1 q_s2 q_fd q_kc q_kr  ++ wFloor Γ q_fl q_k q_c q_a q_pa q_b q_pb vi vj vk vc va vpa vb vpb ++ wOut Γ q_ou vou_z ++ wModel Γ q_mo q_tt q_nw q_tr q_ot q_di q_kp q_ik q_wy q_ah q_tg q_ws q_fr q_rw mi_z vtt vnw vtr vot vdi vkp vik vwy vah vtg vws vfr vrw) ++ R_) H → va_D (fun q : Nat => s.heap.size ≤ q) ((wBF Γ q_bf q_tx q_fl q_flT q_hi q_s1 q_s2 q_fd q_kc q_kr  ++ wFloor Γ q_fl q_k q_c q_a q_pa q_b q_pb vi vj vk vc va vpa vb vpb ++ wOut Γ q_ou vou_z ++ wModel Γ q_mo q_tt q_nw q_tr q_ot q_di q_kp q_ik q_wy q_ah q_tg q_ws q_fr q_rw mi_z vtt vnw vtr vot vdi vkp vik vwy vah vtg vws vfr vrw) ++ R_) → va_S (fun q : Nat => s.heap.size ≤ q) s.heap H locs → lv_has ls 7 [(0, .ref b), (1, .ref q_bf), (2, .ref q_mo), (3, .ref q_ou), (4, .int i)] → W p l e room_1 s m #[Value.ref b] below meth c H locs (nc + 3) (ns + 18) Q (F0 m 2260 ls [])) : W p l e room_1 s m #[Value.ref b] below meth c H locs nc ns Q (F0 m 741 ls []) := by
  have hA : ∀ q : Nat, s.heap.size ≤ q → (fun q : Nat => s.heap.size ≤ q) q := fun _ h => h
  have hbA : ¬ (fun q : Nat => s.heap.size ≤ q) b := Nat.not_le.mpr hbl
  unfold mLaw_isHome at hm
  refine lv_aload_n hx hb dL_law_741 rfl (lv_at hl 1 rfl) ?_
  refine lv_aload_n hx hb dL_law_742 rfl (lv_at hl 0 rfl) ?_
  refine lv_iload hx hb dL_law_743 (lv_at hl 4 rfl) ?_
  refine lv_iconst (v := (1 : Int32)) hx hb dL_law_745 (by decide) ?_
  refine lv_iadd hx hb dL_law_746 ?_
  refine va_sld hx hb hX hbl hbA hS hi1 dL_law_747 ?_
  refine lv_aload_n hx hb dL_law_748 rfl (lv_at hl 3 rfl) ?_
  obtain ⟨r_1, vou_2, hc_3, hm⟩ := bo2_s hm
  refine my_callRW1 (wc := (wBF Γ q_bf q_tx q_fl q_flT q_hi q_s1 q_s2 q_fd q_kc q_kr  ++ wFloor Γ q_fl q_k q_c q_a q_pa q_b q_pb vi vj vk vc va vpa vb vpb ++ wOut Γ q_ou vou)) (w1 := (wBF Γ q_bf q_tx q_fl q_flT q_hi q_s1 q_s2 q_fd q_kc q_kr  ++ wFloor Γ q_fl q_k q_c q_a q_pa q_b q_pb vi vj vk vc va vpa vb vpb ++ wOut Γ q_ou vou_2)) (wa1 := (wBF Γ q_bf q_tx q_fl q_flT q_hi q_s1 q_s2 q_fd q_kc q_kr  ++ wFloor Γ q_fl q_k q_c q_a q_pa q_b q_pb vi vj vk vc va vpa vb vpb ++ wOut Γ q_ou vou_2 ++ wModel Γ q_mo q_tt q_nw q_tr q_ot q_di q_kp q_ik q_wy q_ah q_tg q_ws q_fr q_rw mi vtt vnw vtr vot vdi vkp vik vwy vah vtg vws vfr vrw)) hP hD hS hA [0, 1, 2, 3, 4, 5, 6, 7, 8] rfl rfl rfl rfl (vx_runSW (As := [.ref q_bf, .int (xs (i + (1 : Int32)).toNatClampNeg), .ref q_ou]) (rest := []) ⟨hx, hb, hml, hown, hts⟩ (kL_isHome l Γ hfl q_bf q_fl q_k q_c q_a q_pa q_b q_pb q_ou q_tx q_flT q_hi q_s1 q_s2 q_fd q_kc q_kr vi vj vk vc va vpa vb vpb vou (xs (i + (1 : Int32)).toNatClampNeg) r_1 vou_2 hc_3 _) (vx_cwSW 3 hts gL_law_L_isHome rfl rfl rfl (by decide +kernel) ⟨Nat.le_of_ble_eq_true rfl, Nat.le_of_ble_eq_true rfl⟩) (my_preSW (wc := (wBF Γ q_bf q_tx q_fl q_flT q_hi q_s1 q_s2 q_fd q_kc q_kr  ++ wFloor Γ q_fl q_k q_c q_a q_pa q_b q_pb vi vj vk vc va vpa vb vpb ++ wOut Γ q_ou vou)) [0, 1, 2, 3, 4, 5, 6, 7, 8] hK hP hD hS hA hZ hstr hnc rfl rfl) rfl rfl hl.1 rfl (lv_room (Nat.le_of_ble_eq_true rfl)) dL_law_749 ⟨Nat.le_trans (Nat.add_le_add_left (Nat.le_of_ble_eq_true rfl) nc) hn, Nat.le_trans (Nat.add_le_add_left (Nat.le_of_ble_eq_true rfl) ns) hk⟩) (fun H locs hP hD hS => ?_)
  refine W.widen (k := nc + 3) (n := ns + 18) (Nat.add_le_add_left (Nat.le_of_ble_eq_true rfl) nc) (Nat.add_le_add_left (Nat.le_of_ble_eq_true rfl) ns) ?_
  refine lv_istore (lv' := [(5, .int r_1), (0, .ref b), (1, .ref q_bf), (2, .ref q_mo), (3, .ref q_ou), (4, .int i)]) hx hb dL_law_752 hl (by decide) rfl (fun ls hl => ?_)
  refine lv_aload_n hx hb dL_law_754 rfl (lv_at hl 3 rfl) ?_
  refine lv_aload_n hx hb dL_law_755 rfl (lv_at hl 1 rfl) ?_
  refine lv_iload hx hb dL_law_756 (lv_at hl 5 rfl) ?_
  refine lv_iconst (v := (1 : Int32)) hx hb dL_law_758 (by decide) ?_
  refine lv_iadd hx hb dL_law_759 ?_
  refine va_sld hx hb hX hbl hbA hS hi1 dL_law_760 ?_
  obtain ⟨r_4, mi_5, hc_6, hm⟩ := bo2_s hm
  refine my_callR1 (wc := (wModel Γ q_mo q_tt q_nw q_tr q_ot q_di q_kp q_ik q_wy q_ah q_tg q_ws q_fr q_rw mi vtt vnw vtr vot vdi vkp vik vwy vah vtg vws vfr vrw)) (w1 := (wModel Γ q_mo q_tt q_nw q_tr q_ot q_di q_kp q_ik q_wy q_ah q_tg q_ws q_fr q_rw mi_5 vtt vnw vtr vot vdi vkp vik vwy vah vtg vws vfr vrw)) (wa1 := (wBF Γ q_bf q_tx q_fl q_flT q_hi q_s1 q_s2 q_fd q_kc q_kr  ++ wFloor Γ q_fl q_k q_c q_a q_pa q_b q_pb vi vj vk vc va vpa vb vpb ++ wOut Γ q_ou vou_2 ++ wModel Γ q_mo q_tt q_nw q_tr q_ot q_di q_kp q_ik q_wy q_ah q_tg q_ws q_fr q_rw mi_5 vtt vnw vtr vot vdi vkp vik vwy vah vtg vws vfr vrw)) hP hD hS hA [9, 10, 11, 12, 13, 14, 15, 16, 17, 18, 19, 20, 21, 22] rfl rfl rfl rfl (va_runV (As := [.int (xs (i + (1 : Int32)).toNatClampNeg)]) (rest := []) ⟨hx, hb, hml, hown, hts⟩ (kX9_isHome l Γ q_mo q_tt q_nw q_tr q_ot q_di q_kp q_ik q_wy q_ah q_tg q_ws q_fr q_rw mi vtt vnw vtr vot vdi vkp vik vwy vah vtg vws vfr vrw (xs (i + (1 : Int32)).toNatClampNeg) r_4 mi_5 hc_6 _) (cwV 1 hts gL_law_X9_isHome rfl rfl rfl (by decide +kernel) ⟨Nat.le_of_ble_eq_true rfl, Nat.le_of_ble_eq_true rfl⟩) (my_preV (wc := (wModel Γ q_mo q_tt q_nw q_tr q_ot q_di q_kp q_ik q_wy q_ah q_tg q_ws q_fr q_rw mi vtt vnw vtr vot vdi vkp vik vwy vah vtg vws vfr vrw)) (ci := 7) (q0 := 9) [9, 10, 11, 12, 13, 14, 15, 16, 17, 18, 19, 20, 21, 22] hK hP hD rfl rfl rfl rfl) rfl rfl hl.1 rfl (lv_room (Nat.le_of_ble_eq_true rfl)) dL_law_761 ⟨hn, hk⟩) (fun H locs hP hD hS => ?_)
  refine lv_istore (lv' := [(6, .int r_4), (5, .int r_1), (0, .ref b), (1, .ref q_bf), (2, .ref q_mo), (3, .ref q_ou), (4, .int i)]) hx hb dL_law_764 hl (by decide) rfl (fun ls hl => ?_)
  refine lv_aload_n hx hb dL_law_766 rfl (lv_at hl 4 rfl) ?_
  refine my_callR1 (wc := (wMo Γ q_mo q_tt q_nw q_tr q_ot q_di q_kp q_ik q_wy q_ah q_tg q_ws q_fr q_rw mi_5)) (w1 := (wMo Γ q_mo q_tt q_nw q_tr q_ot q_di q_kp q_ik q_wy q_ah q_tg q_ws q_fr q_rw mi_5)) (wa1 := (wBF Γ q_bf q_tx q_fl q_flT q_hi q_s1 q_s2 q_fd q_kc q_kr  ++ wFloor Γ q_fl q_k q_c q_a q_pa q_b q_pb vi vj vk vc va vpa vb vpb ++ wOut Γ q_ou vou_2 ++ wModel Γ q_mo q_tt q_nw q_tr q_ot q_di q_kp q_ik q_wy q_ah q_tg q_ws q_fr q_rw mi_5 vtt vnw vtr vot vdi vkp vik vwy vah vtg vws vfr vrw)) hP hD hS hA [9] rfl rfl rfl rfl (va_runV (As := []) (rest := []) ⟨hx, hb, hml, hown, hts⟩ (kX9_thrown l Γ q_mo q_tt q_nw q_tr q_ot q_di q_kp q_ik q_wy q_ah q_tg q_ws q_fr q_rw mi_5 (mX9_thrown mi_5) rfl _) (cwV 0 hts gL_law_X9_thrown rfl rfl rfl (by decide +kernel) ⟨Nat.le_of_ble_eq_true rfl, Nat.le_of_ble_eq_true rfl⟩) (my_preV (wc := (wMo Γ q_mo q_tt q_nw q_tr q_ot q_di q_kp q_ik q_wy q_ah q_tg q_ws q_fr q_rw mi_5)) (ci := 7) (q0 := 9) [9] hK hP hD rfl rfl rfl rfl) rfl rfl hl.1 rfl (lv_room (Nat.le_of_ble_eq_true rfl)) dL_law_767 ⟨hn, hk⟩) (fun H locs hP hD hS => ?_)
  refine lv_iload hx hb dL_law_770 (lv_at hl 1 rfl) ?_
  refine lv_icmp_eq (tgt := 777) hx hb dL_law_772 (by decide) (fun c_7 => ?_) (fun c_7 => ?_)
  · replace hm := if_s hm c_7
    refine lv_iload hx hb dL_law_777 (lv_at hl 1 rfl) ?_
    refine lv_if_ne (tgt := 801) hx hb dL_law_779 (by decide) (fun c_8 => ?_) (fun c_8 => ?_)
    · replace hm := if_f hm c_8
      refine lv_goto (tgt := 2260) hx hb dL_law_801 (by decide) ?_
      obtain ⟨hf0, hf1⟩ := si2 hm
      subst hf0
      subst hf1
      exact kk _ _ _ hP hD hS (lv_sub hl [2, 3, 4, 5, 6] rfl)
    · replace hm := if_s hm c_8
      refine lv_aload_n hx hb dL_law_782 rfl (lv_at hl 5 rfl) ?_
      refine lv_iconst (v := (0 : Int32)) hx hb dL_law_783 (by decide) ?_
      refine va_lald hx hb hK hP 8 1 rfl rfl (show vp_in (0 : Int32) 1 from (by decide : ¬ ((0 : Int32) < 0 ∨ 1 ≤ (0 : Int32).toNatClampNeg))) dL_law_784 ?_
      refine lv_iload hx hb dL_law_785 (lv_at hl 0 rfl) ?_
      refine lv_if_eq (tgt := 794) hx hb dL_law_787 (by decide) (fun c_9 => ?_) (fun c_9 => ?_)
      · replace hm := if_s hm c_9
        refine lv_lconst (v := (0 : Int64)) hx hb dL_law_794 (by decide) ?_
        refine W.lcmp hx hb dL_law_795 ?_
        refine lv_if_eq (tgt := 801) hx hb dL_law_796 (by decide) (fun c_10 => ?_) (fun c_10 => ?_)
        · replace hm := if_s hm c_10
          refine lv_goto (tgt := 2260) hx hb dL_law_801 (by decide) ?_
          obtain ⟨hf0, hf1⟩ := si2 hm
          subst hf0
          subst hf1
          exact kk _ _ _ hP hD hS (lv_sub hl [2, 3, 4, 5, 6] rfl)
        · replace hm := if_f hm c_10
          refine lv_iconst (v := (0 : Int32)) hx hb dL_law_799 (by decide) ?_
          cases hm
      · replace hm := if_f hm c_9
        refine lv_lconst (v := (1 : Int64)) hx hb dL_law_790 (by decide) ?_
        refine lv_goto (tgt := 795) hx hb dL_law_791 (by decide) ?_
        refine W.lcmp hx hb dL_law_795 ?_
        refine lv_if_eq (tgt := 801) hx hb dL_law_796 (by decide) (fun c_11 => ?_) (fun c_11 => ?_)
        · replace hm := if_s hm c_11
          refine lv_goto (tgt := 2260) hx hb dL_law_801 (by decide) ?_
          obtain ⟨hf0, hf1⟩ := si2 hm
          subst hf0
          subst hf1
          exact kk _ _ _ hP hD hS (lv_sub hl [2, 3, 4, 5, 6] rfl)
        · replace hm := if_f hm c_11
          refine lv_iconst (v := (0 : Int32)) hx hb dL_law_799 (by decide) ?_
          cases hm
  · replace hm := if_f hm c_7
    refine lv_iconst (v := (0 : Int32)) hx hb dL_law_775 (by decide) ?_
    cases hm
def mLaw_movesOf (va : Nat → Int32) (vb : Nat → Int32) (vou : Nat → Int64) (mi : Nat → Int32) (vnw : Nat → Int32) (xs : Nat → Int32) (i : Int32) : Option ((Nat → Int64) × (Nat → Int32)) := (bo2 (mL_movesOf va vb vou (xs (i + (1 : Int32)).toNatClampNeg)) (fun r_1 vou_2 => (bo2 (mX9_movesOf mi vnw (xs (i + (1 : Int32)).toNatClampNeg)) (fun r_4 mi_5 => (if (mX9_thrown mi_5) = r_1 then (if r_1 = 0 then (if (lg_cmp (vou_2 (0 : Int32).toNatClampNeg) (r_4.toInt64)) = 0 then (some (vou_2, mi_5)) else none) else (some (vou_2, mi_5))) else none)))))
set_option maxHeartbeats 4000000 in
set_option maxRecDepth 100000 in
theorem kLaw_movesOf (l : Launch) (Γ : my_G) (hfl : l.stackTraces = false) {p : Program} {e : Env} {s : State} {m : MethodId} {below : List Frame} {meth : Method} {c : Code} {b L : Nat} {xs : Nat → Int32} {Q : State → Prop} (hx : p.tables.exec = Jvm.exec) (hb : c.code = cL_law) (hml : c.maxLocals = 7) (hown : s.vm.findClass RL = some m.cls) (hts : ∀ w ∈ wsL_law, w.before #[Value.ref b] s = true) (hX : va_X b L xs s s.heap) (hbl : b < s.heap.size) (hK : my_K Γ s) (hZ : my_ZZ (fun q : Nat => s.heap.size ≤ q) s s.heap) (hstr : my_str s) (hnc : my_nc s) (q_bf q_fl q_k q_c q_a q_pa q_b q_pb q_ou q_mo q_tt q_nw q_tr q_ot q_di q_kp q_ik q_wy q_ah q_tg q_ws q_fr q_rw q_tx q_flT q_hi q_s1 q_s2 q_fd q_kc q_kr : Nat) (vi : Nat → Int32) (vj : Nat → Int64) (vk : Nat → Int32) (vc : Nat → Int32) (va : Nat → Int32) (vpa : Nat → Int32) (vb : Nat → Int32) (vpb : Nat → Int32) (vou : Nat → Int64) (mi : Nat → Int32) (vtt : Nat → Int32) (vnw : Nat → Int32) (vtr : Nat → Int32) (vot : Nat → Int32) (vdi : Nat → Int32) (vkp : Nat → Int32) (vik : Nat → Int32) (vwy : Nat → Int32) (vah : Nat → Int32) (vtg : Nat → Int32) (vws : Nat → Int32) (vfr : Nat → Int32) (vrw : Nat → Int32) (i : Int32) (hi1 : vp_in (i + (1 : Int32)) L) (hi2 : vp_in (i + (2 : Int32)) L) (hi3 : vp_in (i + (3 : Int32)) L) (vou_z : Nat → Int64) (mi_z : Nat → Int32) (hm : mLaw_movesOf va vb vou mi vnw xs i = (some (vou_z, mi_z))) (R_ : va_W) (nc ns : Nat) (hn : nc + 3 ≤ room_1.cells) (hk : ns + 18 ≤ room_1.slots) (H : Heap) (locs : List Loc) (ls : Array Slot) (hP : va_P (my_D Γ) vwCl ((wBF Γ q_bf q_tx q_fl q_flT q_hi q_s1 q_s2 q_fd q_kc q_kr  ++ wFloor Γ q_fl q_k q_c q_a q_pa q_b q_pb vi vj vk vc va vpa vb vpb ++ wOut Γ q_ou vou ++ wModel Γ q_mo q_tt q_nw q_tr q_ot q_di q_kp q_ik q_wy q_ah q_tg q_ws q_fr q_rw mi vtt vnw vtr vot vdi vkp vik vwy vah vtg vws vfr vrw) ++ R_) H) (hD : va_D (fun q : Nat => s.heap.size ≤ q) ((wBF Γ q_bf q_tx q_fl q_flT q_hi q_s1 q_s2 q_fd q_kc q_kr  ++ wFloor Γ q_fl q_k q_c q_a q_pa q_b q_pb vi vj vk vc va vpa vb vpb ++ wOut Γ q_ou vou ++ wModel Γ q_mo q_tt q_nw q_tr q_ot q_di q_kp q_ik q_wy q_ah q_tg q_ws q_fr q_rw mi vtt vnw vtr vot vdi vkp vik vwy vah vtg vws vfr vrw) ++ R_)) (hS : va_S (fun q : Nat => s.heap.size ≤ q) s.heap H locs) (hl : lv_has ls 7 [(0, .ref b), (1, .ref q_bf), (2, .ref q_mo), (3, .ref q_ou), (4, .int i)]) (kk : ∀ (H : Heap) (locs : List Loc) (ls : Array Slot), va_P (my_D Γ) vwCl ((wBF Γ q_bf q_tx q_fl q_flT q_hi q_s1 q_s2 q_fd q_kc q_kr  ++ wFloor Γ q_fl q_k q_c q_a q_pa q_b q_pb vi vj vk vc va vpa vb vpb ++ wOut Γ q_ou vou_z ++ wModel Γ q_mo q_tt q_nw q_tr q_ot q_di q_kp q_ik q_wy q_ah q_tg q_ws q_fr q_rw mi_z vtt vnw vtr vot vdi vkp vik vwy vah vtg vws vfr vrw) ++ R_) H → va_D (fun q : Nat => s.heap.size ≤ q) ((wBF Γ q_bf q_tx q_fl q_flT q_hi q_s1 q_s2 q_fd q_kc q_kr  ++ wFloor Γ q_fl q_k q_c q_a q_pa q_b q_pb vi vj vk vc va vpa vb vpb ++ wOut Γ q_ou vou_z ++ wModel Γ q_mo q_tt q_nw q_tr q_ot q_di q_kp q_ik q_wy q_ah q_tg q_ws q_fr q_rw mi_z vtt vnw vtr vot vdi vkp vik vwy vah vtg vws vfr vrw) ++ R_) → va_S (fun q : Nat => s.heap.size ≤ q) s.heap H locs → lv_has ls 7 [(0, .ref b), (1, .ref q_bf), (2, .ref q_mo), (3, .ref q_ou), (4, .int i)] → W p l e room_1 s m #[Value.ref b] below meth c H locs (nc + 3) (ns + 18) Q (F0 m 2260 ls [])) : W p l e room_1 s m #[Value.ref b] below meth c H locs nc ns Q (F0 m 804 ls []) := by
  have hA : ∀ q : Nat, s.heap.size ≤ q → (fun q : Nat => s.heap.size ≤ q) q := fun _ h => h
  have hbA : ¬ (fun q : Nat => s.heap.size ≤ q) b := Nat.not_le.mpr hbl
  unfold mLaw_movesOf at hm
  refine lv_aload_n hx hb dL_law_804 rfl (lv_at hl 1 rfl) ?_
  refine lv_aload_n hx hb dL_law_805 rfl (lv_at hl 0 rfl) ?_
  refine lv_iload hx hb dL_law_806 (lv_at hl 4 rfl) ?_
  refine lv_iconst (v := (1 : Int32)) hx hb dL_law_808 (by decide) ?_
  refine lv_iadd hx hb dL_law_809 ?_
  refine va_sld hx hb hX hbl hbA hS hi1 dL_law_810 ?_
  refine lv_aload_n hx hb dL_law_811 rfl (lv_at hl 3 rfl) ?_
  obtain ⟨r_1, vou_2, hc_3, hm⟩ := bo2_s hm
  refine my_callRW1 (wc := (wBF Γ q_bf q_tx q_fl q_flT q_hi q_s1 q_s2 q_fd q_kc q_kr  ++ wFloor Γ q_fl q_k q_c q_a q_pa q_b q_pb vi vj vk vc va vpa vb vpb ++ wOut Γ q_ou vou)) (w1 := (wBF Γ q_bf q_tx q_fl q_flT q_hi q_s1 q_s2 q_fd q_kc q_kr  ++ wFloor Γ q_fl q_k q_c q_a q_pa q_b q_pb vi vj vk vc va vpa vb vpb ++ wOut Γ q_ou vou_2)) (wa1 := (wBF Γ q_bf q_tx q_fl q_flT q_hi q_s1 q_s2 q_fd q_kc q_kr  ++ wFloor Γ q_fl q_k q_c q_a q_pa q_b q_pb vi vj vk vc va vpa vb vpb ++ wOut Γ q_ou vou_2 ++ wModel Γ q_mo q_tt q_nw q_tr q_ot q_di q_kp q_ik q_wy q_ah q_tg q_ws q_fr q_rw mi vtt vnw vtr vot vdi vkp vik vwy vah vtg vws vfr vrw)) hP hD hS hA [0, 1, 2, 3, 4, 5, 6, 7, 8] rfl rfl rfl rfl (vx_runSW (As := [.ref q_bf, .int (xs (i + (1 : Int32)).toNatClampNeg), .ref q_ou]) (rest := []) ⟨hx, hb, hml, hown, hts⟩ (kL_movesOf l Γ hfl q_bf q_fl q_k q_c q_a q_pa q_b q_pb q_ou q_tx q_flT q_hi q_s1 q_s2 q_fd q_kc q_kr vi vj vk vc va vpa vb vpb vou (xs (i + (1 : Int32)).toNatClampNeg) r_1 vou_2 hc_3 _) (vx_cwSW 3 hts gL_law_L_movesOf rfl rfl rfl (by decide +kernel) ⟨Nat.le_of_ble_eq_true rfl, Nat.le_of_ble_eq_true rfl⟩) (my_preSW (wc := (wBF Γ q_bf q_tx q_fl q_flT q_hi q_s1 q_s2 q_fd q_kc q_kr  ++ wFloor Γ q_fl q_k q_c q_a q_pa q_b q_pb vi vj vk vc va vpa vb vpb ++ wOut Γ q_ou vou)) [0, 1, 2, 3, 4, 5, 6, 7, 8] hK hP hD hS hA hZ hstr hnc rfl rfl) rfl rfl hl.1 rfl (lv_room (Nat.le_of_ble_eq_true rfl)) dL_law_812 ⟨Nat.le_trans (Nat.add_le_add_left (Nat.le_of_ble_eq_true rfl) nc) hn, Nat.le_trans (Nat.add_le_add_left (Nat.le_of_ble_eq_true rfl) ns) hk⟩) (fun H locs hP hD hS => ?_)
  refine W.widen (k := nc + 3) (n := ns + 18) (Nat.add_le_add_left (Nat.le_of_ble_eq_true rfl) nc) (Nat.add_le_add_left (Nat.le_of_ble_eq_true rfl) ns) ?_
  refine lv_istore (lv' := [(5, .int r_1), (0, .ref b), (1, .ref q_bf), (2, .ref q_mo), (3, .ref q_ou), (4, .int i)]) hx hb dL_law_815 hl (by decide) rfl (fun ls hl => ?_)
  refine lv_aload_n hx hb dL_law_817 rfl (lv_at hl 3 rfl) ?_
  refine lv_aload_n hx hb dL_law_818 rfl (lv_at hl 1 rfl) ?_
  refine lv_iload hx hb dL_law_819 (lv_at hl 5 rfl) ?_
  refine lv_iconst (v := (1 : Int32)) hx hb dL_law_821 (by decide) ?_
  refine lv_iadd hx hb dL_law_822 ?_
  refine va_sld hx hb hX hbl hbA hS hi1 dL_law_823 ?_
  obtain ⟨r_4, mi_5, hc_6, hm⟩ := bo2_s hm
  refine my_callR1 (wc := (wModel Γ q_mo q_tt q_nw q_tr q_ot q_di q_kp q_ik q_wy q_ah q_tg q_ws q_fr q_rw mi vtt vnw vtr vot vdi vkp vik vwy vah vtg vws vfr vrw)) (w1 := (wModel Γ q_mo q_tt q_nw q_tr q_ot q_di q_kp q_ik q_wy q_ah q_tg q_ws q_fr q_rw mi_5 vtt vnw vtr vot vdi vkp vik vwy vah vtg vws vfr vrw)) (wa1 := (wBF Γ q_bf q_tx q_fl q_flT q_hi q_s1 q_s2 q_fd q_kc q_kr  ++ wFloor Γ q_fl q_k q_c q_a q_pa q_b q_pb vi vj vk vc va vpa vb vpb ++ wOut Γ q_ou vou_2 ++ wModel Γ q_mo q_tt q_nw q_tr q_ot q_di q_kp q_ik q_wy q_ah q_tg q_ws q_fr q_rw mi_5 vtt vnw vtr vot vdi vkp vik vwy vah vtg vws vfr vrw)) hP hD hS hA [9, 10, 11, 12, 13, 14, 15, 16, 17, 18, 19, 20, 21, 22] rfl rfl rfl rfl (va_runV (As := [.int (xs (i + (1 : Int32)).toNatClampNeg)]) (rest := []) ⟨hx, hb, hml, hown, hts⟩ (kX9_movesOf l Γ q_mo q_tt q_nw q_tr q_ot q_di q_kp q_ik q_wy q_ah q_tg q_ws q_fr q_rw mi vtt vnw vtr vot vdi vkp vik vwy vah vtg vws vfr vrw (xs (i + (1 : Int32)).toNatClampNeg) r_4 mi_5 hc_6 _) (cwV 1 hts gL_law_X9_movesOf rfl rfl rfl (by decide +kernel) ⟨Nat.le_of_ble_eq_true rfl, Nat.le_of_ble_eq_true rfl⟩) (my_preV (wc := (wModel Γ q_mo q_tt q_nw q_tr q_ot q_di q_kp q_ik q_wy q_ah q_tg q_ws q_fr q_rw mi vtt vnw vtr vot vdi vkp vik vwy vah vtg vws vfr vrw)) (ci := 7) (q0 := 9) [9, 10, 11, 12, 13, 14, 15, 16, 17, 18, 19, 20, 21, 22] hK hP hD rfl rfl rfl rfl) rfl rfl hl.1 rfl (lv_room (Nat.le_of_ble_eq_true rfl)) dL_law_824 ⟨hn, hk⟩) (fun H locs hP hD hS => ?_)
  refine lv_istore (lv' := [(6, .int r_4), (5, .int r_1), (0, .ref b), (1, .ref q_bf), (2, .ref q_mo), (3, .ref q_ou), (4, .int i)]) hx hb dL_law_827 hl (by decide) rfl (fun ls hl => ?_)
  refine lv_aload_n hx hb dL_law_829 rfl (lv_at hl 4 rfl) ?_
  refine my_callR1 (wc := (wMo Γ q_mo q_tt q_nw q_tr q_ot q_di q_kp q_ik q_wy q_ah q_tg q_ws q_fr q_rw mi_5)) (w1 := (wMo Γ q_mo q_tt q_nw q_tr q_ot q_di q_kp q_ik q_wy q_ah q_tg q_ws q_fr q_rw mi_5)) (wa1 := (wBF Γ q_bf q_tx q_fl q_flT q_hi q_s1 q_s2 q_fd q_kc q_kr  ++ wFloor Γ q_fl q_k q_c q_a q_pa q_b q_pb vi vj vk vc va vpa vb vpb ++ wOut Γ q_ou vou_2 ++ wModel Γ q_mo q_tt q_nw q_tr q_ot q_di q_kp q_ik q_wy q_ah q_tg q_ws q_fr q_rw mi_5 vtt vnw vtr vot vdi vkp vik vwy vah vtg vws vfr vrw)) hP hD hS hA [9] rfl rfl rfl rfl (va_runV (As := []) (rest := []) ⟨hx, hb, hml, hown, hts⟩ (kX9_thrown l Γ q_mo q_tt q_nw q_tr q_ot q_di q_kp q_ik q_wy q_ah q_tg q_ws q_fr q_rw mi_5 (mX9_thrown mi_5) rfl _) (cwV 0 hts gL_law_X9_thrown rfl rfl rfl (by decide +kernel) ⟨Nat.le_of_ble_eq_true rfl, Nat.le_of_ble_eq_true rfl⟩) (my_preV (wc := (wMo Γ q_mo q_tt q_nw q_tr q_ot q_di q_kp q_ik q_wy q_ah q_tg q_ws q_fr q_rw mi_5)) (ci := 7) (q0 := 9) [9] hK hP hD rfl rfl rfl rfl) rfl rfl hl.1 rfl (lv_room (Nat.le_of_ble_eq_true rfl)) dL_law_830 ⟨hn, hk⟩) (fun H locs hP hD hS => ?_)
  refine lv_iload hx hb dL_law_833 (lv_at hl 1 rfl) ?_
  refine lv_icmp_eq (tgt := 840) hx hb dL_law_835 (by decide) (fun c_7 => ?_) (fun c_7 => ?_)
  · replace hm := if_s hm c_7
    refine lv_iload hx hb dL_law_840 (lv_at hl 1 rfl) ?_
    refine lv_if_ne (tgt := 857) hx hb dL_law_842 (by decide) (fun c_8 => ?_) (fun c_8 => ?_)
    · replace hm := if_f hm c_8
      refine lv_goto (tgt := 2260) hx hb dL_law_857 (by decide) ?_
      obtain ⟨hf0, hf1⟩ := si2 hm
      subst hf0
      subst hf1
      exact kk _ _ _ hP hD hS (lv_sub hl [2, 3, 4, 5, 6] rfl)
    · replace hm := if_s hm c_8
      refine lv_aload_n hx hb dL_law_845 rfl (lv_at hl 5 rfl) ?_
      refine lv_iconst (v := (0 : Int32)) hx hb dL_law_846 (by decide) ?_
      refine va_lald hx hb hK hP 8 1 rfl rfl (show vp_in (0 : Int32) 1 from (by decide : ¬ ((0 : Int32) < 0 ∨ 1 ≤ (0 : Int32).toNatClampNeg))) dL_law_847 ?_
      refine lv_iload hx hb dL_law_848 (lv_at hl 0 rfl) ?_
      refine lv_i2l (v := r_4.toInt64) hx hb dL_law_850 rfl ?_
      refine W.lcmp hx hb dL_law_851 ?_
      refine lv_if_eq (tgt := 857) hx hb dL_law_852 (by decide) (fun c_9 => ?_) (fun c_9 => ?_)
      · replace hm := if_s hm c_9
        refine lv_goto (tgt := 2260) hx hb dL_law_857 (by decide) ?_
        obtain ⟨hf0, hf1⟩ := si2 hm
        subst hf0
        subst hf1
        exact kk _ _ _ hP hD hS (lv_sub hl [2, 3, 4, 5, 6] rfl)
      · replace hm := if_f hm c_9
        refine lv_iconst (v := (0 : Int32)) hx hb dL_law_855 (by decide) ?_
        cases hm
  · replace hm := if_f hm c_7
    refine lv_iconst (v := (0 : Int32)) hx hb dL_law_838 (by decide) ?_
    cases hm
def mLaw_bumpsOf (va : Nat → Int32) (vb : Nat → Int32) (vou : Nat → Int64) (mi : Nat → Int32) (vnw : Nat → Int32) (xs : Nat → Int32) (i : Int32) : Option ((Nat → Int64) × (Nat → Int32)) := (bo2 (mL_bumpsOf va vb vou (xs (i + (1 : Int32)).toNatClampNeg)) (fun r_1 vou_2 => (bo2 (mX9_bumpsOf mi vnw (xs (i + (1 : Int32)).toNatClampNeg)) (fun r_4 mi_5 => (if (mX9_thrown mi_5) = r_1 then (if r_1 = 0 then (if (lg_cmp (vou_2 (0 : Int32).toNatClampNeg) (r_4.toInt64)) = 0 then (some (vou_2, mi_5)) else none) else (some (vou_2, mi_5))) else none)))))
set_option maxHeartbeats 4000000 in
set_option maxRecDepth 100000 in
theorem kLaw_bumpsOf (l : Launch) (Γ : my_G) (hfl : l.stackTraces = false) {p : Program} {e : Env} {s : State} {m : MethodId} {below : List Frame} {meth : Method} {c : Code} {b L : Nat} {xs : Nat → Int32} {Q : State → Prop} (hx : p.tables.exec = Jvm.exec) (hb : c.code = cL_law) (hml : c.maxLocals = 7) (hown : s.vm.findClass RL = some m.cls) (hts : ∀ w ∈ wsL_law, w.before #[Value.ref b] s = true) (hX : va_X b L xs s s.heap) (hbl : b < s.heap.size) (hK : my_K Γ s) (hZ : my_ZZ (fun q : Nat => s.heap.size ≤ q) s s.heap) (hstr : my_str s) (hnc : my_nc s) (q_bf q_fl q_k q_c q_a q_pa q_b q_pb q_ou q_mo q_tt q_nw q_tr q_ot q_di q_kp q_ik q_wy q_ah q_tg q_ws q_fr q_rw q_tx q_flT q_hi q_s1 q_s2 q_fd q_kc q_kr : Nat) (vi : Nat → Int32) (vj : Nat → Int64) (vk : Nat → Int32) (vc : Nat → Int32) (va : Nat → Int32) (vpa : Nat → Int32) (vb : Nat → Int32) (vpb : Nat → Int32) (vou : Nat → Int64) (mi : Nat → Int32) (vtt : Nat → Int32) (vnw : Nat → Int32) (vtr : Nat → Int32) (vot : Nat → Int32) (vdi : Nat → Int32) (vkp : Nat → Int32) (vik : Nat → Int32) (vwy : Nat → Int32) (vah : Nat → Int32) (vtg : Nat → Int32) (vws : Nat → Int32) (vfr : Nat → Int32) (vrw : Nat → Int32) (i : Int32) (hi1 : vp_in (i + (1 : Int32)) L) (hi2 : vp_in (i + (2 : Int32)) L) (hi3 : vp_in (i + (3 : Int32)) L) (vou_z : Nat → Int64) (mi_z : Nat → Int32) (hm : mLaw_bumpsOf va vb vou mi vnw xs i = (some (vou_z, mi_z))) (R_ : va_W) (nc ns : Nat) (hn : nc + 3 ≤ room_1.cells) (hk : ns + 18 ≤ room_1.slots) (H : Heap) (locs : List Loc) (ls : Array Slot) (hP : va_P (my_D Γ) vwCl ((wBF Γ q_bf q_tx q_fl q_flT q_hi q_s1 q_s2 q_fd q_kc q_kr  ++ wFloor Γ q_fl q_k q_c q_a q_pa q_b q_pb vi vj vk vc va vpa vb vpb ++ wOut Γ q_ou vou ++ wModel Γ q_mo q_tt q_nw q_tr q_ot q_di q_kp q_ik q_wy q_ah q_tg q_ws q_fr q_rw mi vtt vnw vtr vot vdi vkp vik vwy vah vtg vws vfr vrw) ++ R_) H) (hD : va_D (fun q : Nat => s.heap.size ≤ q) ((wBF Γ q_bf q_tx q_fl q_flT q_hi q_s1 q_s2 q_fd q_kc q_kr  ++ wFloor Γ q_fl q_k q_c q_a q_pa q_b q_pb vi vj vk vc va vpa vb vpb ++ wOut Γ q_ou vou ++ wModel Γ q_mo q_tt q_nw q_tr q_ot q_di q_kp q_ik q_wy q_ah q_tg q_ws q_fr q_rw mi vtt vnw vtr vot vdi vkp vik vwy vah vtg vws vfr vrw) ++ R_)) (hS : va_S (fun q : Nat => s.heap.size ≤ q) s.heap H locs) (hl : lv_has ls 7 [(0, .ref b), (1, .ref q_bf), (2, .ref q_mo), (3, .ref q_ou), (4, .int i)]) (kk : ∀ (H : Heap) (locs : List Loc) (ls : Array Slot), va_P (my_D Γ) vwCl ((wBF Γ q_bf q_tx q_fl q_flT q_hi q_s1 q_s2 q_fd q_kc q_kr  ++ wFloor Γ q_fl q_k q_c q_a q_pa q_b q_pb vi vj vk vc va vpa vb vpb ++ wOut Γ q_ou vou_z ++ wModel Γ q_mo q_tt q_nw q_tr q_ot q_di q_kp q_ik q_wy q_ah q_tg q_ws q_fr q_rw mi_z vtt vnw vtr vot vdi vkp vik vwy vah vtg vws vfr vrw) ++ R_) H → va_D (fun q : Nat => s.heap.size ≤ q) ((wBF Γ q_bf q_tx q_fl q_flT q_hi q_s1 q_s2 q_fd q_kc q_kr  ++ wFloor Γ q_fl q_k q_c q_a q_pa q_b q_pb vi vj vk vc va vpa vb vpb ++ wOut Γ q_ou vou_z ++ wModel Γ q_mo q_tt q_nw q_tr q_ot q_di q_kp q_ik q_wy q_ah q_tg q_ws q_fr q_rw mi_z vtt vnw vtr vot vdi vkp vik vwy vah vtg vws vfr vrw) ++ R_) → va_S (fun q : Nat => s.heap.size ≤ q) s.heap H locs → lv_has ls 7 [(0, .ref b), (1, .ref q_bf), (2, .ref q_mo), (3, .ref q_ou), (4, .int i)] → W p l e room_1 s m #[Value.ref b] below meth c H locs (nc + 3) (ns + 18) Q (F0 m 2260 ls [])) : W p l e room_1 s m #[Value.ref b] below meth c H locs nc ns Q (F0 m 860 ls []) := by
  have hA : ∀ q : Nat, s.heap.size ≤ q → (fun q : Nat => s.heap.size ≤ q) q := fun _ h => h
  have hbA : ¬ (fun q : Nat => s.heap.size ≤ q) b := Nat.not_le.mpr hbl
  unfold mLaw_bumpsOf at hm
  refine lv_aload_n hx hb dL_law_860 rfl (lv_at hl 1 rfl) ?_
  refine lv_aload_n hx hb dL_law_861 rfl (lv_at hl 0 rfl) ?_
  refine lv_iload hx hb dL_law_862 (lv_at hl 4 rfl) ?_
  refine lv_iconst (v := (1 : Int32)) hx hb dL_law_864 (by decide) ?_
  refine lv_iadd hx hb dL_law_865 ?_
  refine va_sld hx hb hX hbl hbA hS hi1 dL_law_866 ?_
  refine lv_aload_n hx hb dL_law_867 rfl (lv_at hl 3 rfl) ?_
  obtain ⟨r_1, vou_2, hc_3, hm⟩ := bo2_s hm
  refine my_callRW1 (wc := (wBF Γ q_bf q_tx q_fl q_flT q_hi q_s1 q_s2 q_fd q_kc q_kr  ++ wFloor Γ q_fl q_k q_c q_a q_pa q_b q_pb vi vj vk vc va vpa vb vpb ++ wOut Γ q_ou vou)) (w1 := (wBF Γ q_bf q_tx q_fl q_flT q_hi q_s1 q_s2 q_fd q_kc q_kr  ++ wFloor Γ q_fl q_k q_c q_a q_pa q_b q_pb vi vj vk vc va vpa vb vpb ++ wOut Γ q_ou vou_2)) (wa1 := (wBF Γ q_bf q_tx q_fl q_flT q_hi q_s1 q_s2 q_fd q_kc q_kr  ++ wFloor Γ q_fl q_k q_c q_a q_pa q_b q_pb vi vj vk vc va vpa vb vpb ++ wOut Γ q_ou vou_2 ++ wModel Γ q_mo q_tt q_nw q_tr q_ot q_di q_kp q_ik q_wy q_ah q_tg q_ws q_fr q_rw mi vtt vnw vtr vot vdi vkp vik vwy vah vtg vws vfr vrw)) hP hD hS hA [0, 1, 2, 3, 4, 5, 6, 7, 8] rfl rfl rfl rfl (vx_runSW (As := [.ref q_bf, .int (xs (i + (1 : Int32)).toNatClampNeg), .ref q_ou]) (rest := []) ⟨hx, hb, hml, hown, hts⟩ (kL_bumpsOf l Γ hfl q_bf q_fl q_k q_c q_a q_pa q_b q_pb q_ou q_tx q_flT q_hi q_s1 q_s2 q_fd q_kc q_kr vi vj vk vc va vpa vb vpb vou (xs (i + (1 : Int32)).toNatClampNeg) r_1 vou_2 hc_3 _) (vx_cwSW 3 hts gL_law_L_bumpsOf rfl rfl rfl (by decide +kernel) ⟨Nat.le_of_ble_eq_true rfl, Nat.le_of_ble_eq_true rfl⟩) (my_preSW (wc := (wBF Γ q_bf q_tx q_fl q_flT q_hi q_s1 q_s2 q_fd q_kc q_kr  ++ wFloor Γ q_fl q_k q_c q_a q_pa q_b q_pb vi vj vk vc va vpa vb vpb ++ wOut Γ q_ou vou)) [0, 1, 2, 3, 4, 5, 6, 7, 8] hK hP hD hS hA hZ hstr hnc rfl rfl) rfl rfl hl.1 rfl (lv_room (Nat.le_of_ble_eq_true rfl)) dL_law_868 ⟨Nat.le_trans (Nat.add_le_add_left (Nat.le_of_ble_eq_true rfl) nc) hn, Nat.le_trans (Nat.add_le_add_left (Nat.le_of_ble_eq_true rfl) ns) hk⟩) (fun H locs hP hD hS => ?_)
  refine W.widen (k := nc + 3) (n := ns + 18) (Nat.add_le_add_left (Nat.le_of_ble_eq_true rfl) nc) (Nat.add_le_add_left (Nat.le_of_ble_eq_true rfl) ns) ?_
  refine lv_istore (lv' := [(5, .int r_1), (0, .ref b), (1, .ref q_bf), (2, .ref q_mo), (3, .ref q_ou), (4, .int i)]) hx hb dL_law_871 hl (by decide) rfl (fun ls hl => ?_)
  refine lv_aload_n hx hb dL_law_873 rfl (lv_at hl 3 rfl) ?_
  refine lv_aload_n hx hb dL_law_874 rfl (lv_at hl 1 rfl) ?_
  refine lv_iload hx hb dL_law_875 (lv_at hl 5 rfl) ?_
  refine lv_iconst (v := (1 : Int32)) hx hb dL_law_877 (by decide) ?_
  refine lv_iadd hx hb dL_law_878 ?_
  refine va_sld hx hb hX hbl hbA hS hi1 dL_law_879 ?_
  obtain ⟨r_4, mi_5, hc_6, hm⟩ := bo2_s hm
  refine my_callR1 (wc := (wModel Γ q_mo q_tt q_nw q_tr q_ot q_di q_kp q_ik q_wy q_ah q_tg q_ws q_fr q_rw mi vtt vnw vtr vot vdi vkp vik vwy vah vtg vws vfr vrw)) (w1 := (wModel Γ q_mo q_tt q_nw q_tr q_ot q_di q_kp q_ik q_wy q_ah q_tg q_ws q_fr q_rw mi_5 vtt vnw vtr vot vdi vkp vik vwy vah vtg vws vfr vrw)) (wa1 := (wBF Γ q_bf q_tx q_fl q_flT q_hi q_s1 q_s2 q_fd q_kc q_kr  ++ wFloor Γ q_fl q_k q_c q_a q_pa q_b q_pb vi vj vk vc va vpa vb vpb ++ wOut Γ q_ou vou_2 ++ wModel Γ q_mo q_tt q_nw q_tr q_ot q_di q_kp q_ik q_wy q_ah q_tg q_ws q_fr q_rw mi_5 vtt vnw vtr vot vdi vkp vik vwy vah vtg vws vfr vrw)) hP hD hS hA [9, 10, 11, 12, 13, 14, 15, 16, 17, 18, 19, 20, 21, 22] rfl rfl rfl rfl (va_runV (As := [.int (xs (i + (1 : Int32)).toNatClampNeg)]) (rest := []) ⟨hx, hb, hml, hown, hts⟩ (kX9_bumpsOf l Γ q_mo q_tt q_nw q_tr q_ot q_di q_kp q_ik q_wy q_ah q_tg q_ws q_fr q_rw mi vtt vnw vtr vot vdi vkp vik vwy vah vtg vws vfr vrw (xs (i + (1 : Int32)).toNatClampNeg) r_4 mi_5 hc_6 _) (cwV 1 hts gL_law_X9_bumpsOf rfl rfl rfl (by decide +kernel) ⟨Nat.le_of_ble_eq_true rfl, Nat.le_of_ble_eq_true rfl⟩) (my_preV (wc := (wModel Γ q_mo q_tt q_nw q_tr q_ot q_di q_kp q_ik q_wy q_ah q_tg q_ws q_fr q_rw mi vtt vnw vtr vot vdi vkp vik vwy vah vtg vws vfr vrw)) (ci := 7) (q0 := 9) [9, 10, 11, 12, 13, 14, 15, 16, 17, 18, 19, 20, 21, 22] hK hP hD rfl rfl rfl rfl) rfl rfl hl.1 rfl (lv_room (Nat.le_of_ble_eq_true rfl)) dL_law_880 ⟨hn, hk⟩) (fun H locs hP hD hS => ?_)
  refine lv_istore (lv' := [(6, .int r_4), (5, .int r_1), (0, .ref b), (1, .ref q_bf), (2, .ref q_mo), (3, .ref q_ou), (4, .int i)]) hx hb dL_law_883 hl (by decide) rfl (fun ls hl => ?_)
  refine lv_aload_n hx hb dL_law_885 rfl (lv_at hl 4 rfl) ?_
  refine my_callR1 (wc := (wMo Γ q_mo q_tt q_nw q_tr q_ot q_di q_kp q_ik q_wy q_ah q_tg q_ws q_fr q_rw mi_5)) (w1 := (wMo Γ q_mo q_tt q_nw q_tr q_ot q_di q_kp q_ik q_wy q_ah q_tg q_ws q_fr q_rw mi_5)) (wa1 := (wBF Γ q_bf q_tx q_fl q_flT q_hi q_s1 q_s2 q_fd q_kc q_kr  ++ wFloor Γ q_fl q_k q_c q_a q_pa q_b q_pb vi vj vk vc va vpa vb vpb ++ wOut Γ q_ou vou_2 ++ wModel Γ q_mo q_tt q_nw q_tr q_ot q_di q_kp q_ik q_wy q_ah q_tg q_ws q_fr q_rw mi_5 vtt vnw vtr vot vdi vkp vik vwy vah vtg vws vfr vrw)) hP hD hS hA [9] rfl rfl rfl rfl (va_runV (As := []) (rest := []) ⟨hx, hb, hml, hown, hts⟩ (kX9_thrown l Γ q_mo q_tt q_nw q_tr q_ot q_di q_kp q_ik q_wy q_ah q_tg q_ws q_fr q_rw mi_5 (mX9_thrown mi_5) rfl _) (cwV 0 hts gL_law_X9_thrown rfl rfl rfl (by decide +kernel) ⟨Nat.le_of_ble_eq_true rfl, Nat.le_of_ble_eq_true rfl⟩) (my_preV (wc := (wMo Γ q_mo q_tt q_nw q_tr q_ot q_di q_kp q_ik q_wy q_ah q_tg q_ws q_fr q_rw mi_5)) (ci := 7) (q0 := 9) [9] hK hP hD rfl rfl rfl rfl) rfl rfl hl.1 rfl (lv_room (Nat.le_of_ble_eq_true rfl)) dL_law_886 ⟨hn, hk⟩) (fun H locs hP hD hS => ?_)
  refine lv_iload hx hb dL_law_889 (lv_at hl 1 rfl) ?_
  refine lv_icmp_eq (tgt := 896) hx hb dL_law_891 (by decide) (fun c_7 => ?_) (fun c_7 => ?_)
  · replace hm := if_s hm c_7
    refine lv_iload hx hb dL_law_896 (lv_at hl 1 rfl) ?_
    refine lv_if_ne (tgt := 913) hx hb dL_law_898 (by decide) (fun c_8 => ?_) (fun c_8 => ?_)
    · replace hm := if_f hm c_8
      refine lv_goto (tgt := 2260) hx hb dL_law_913 (by decide) ?_
      obtain ⟨hf0, hf1⟩ := si2 hm
      subst hf0
      subst hf1
      exact kk _ _ _ hP hD hS (lv_sub hl [2, 3, 4, 5, 6] rfl)
    · replace hm := if_s hm c_8
      refine lv_aload_n hx hb dL_law_901 rfl (lv_at hl 5 rfl) ?_
      refine lv_iconst (v := (0 : Int32)) hx hb dL_law_902 (by decide) ?_
      refine va_lald hx hb hK hP 8 1 rfl rfl (show vp_in (0 : Int32) 1 from (by decide : ¬ ((0 : Int32) < 0 ∨ 1 ≤ (0 : Int32).toNatClampNeg))) dL_law_903 ?_
      refine lv_iload hx hb dL_law_904 (lv_at hl 0 rfl) ?_
      refine lv_i2l (v := r_4.toInt64) hx hb dL_law_906 rfl ?_
      refine W.lcmp hx hb dL_law_907 ?_
      refine lv_if_eq (tgt := 913) hx hb dL_law_908 (by decide) (fun c_9 => ?_) (fun c_9 => ?_)
      · replace hm := if_s hm c_9
        refine lv_goto (tgt := 2260) hx hb dL_law_913 (by decide) ?_
        obtain ⟨hf0, hf1⟩ := si2 hm
        subst hf0
        subst hf1
        exact kk _ _ _ hP hD hS (lv_sub hl [2, 3, 4, 5, 6] rfl)
      · replace hm := if_f hm c_9
        refine lv_iconst (v := (0 : Int32)) hx hb dL_law_911 (by decide) ?_
        cases hm
  · replace hm := if_f hm c_7
    refine lv_iconst (v := (0 : Int32)) hx hb dL_law_894 (by decide) ?_
    cases hm
def mLaw_pushesOf (va : Nat → Int32) (vb : Nat → Int32) (vou : Nat → Int64) (mi : Nat → Int32) (vnw : Nat → Int32) (xs : Nat → Int32) (i : Int32) : Option ((Nat → Int64) × (Nat → Int32)) := (bo2 (mL_pushesOf va vb vou (xs (i + (1 : Int32)).toNatClampNeg)) (fun r_1 vou_2 => (bo2 (mX9_pushesOf mi vnw (xs (i + (1 : Int32)).toNatClampNeg)) (fun r_4 mi_5 => (if (mX9_thrown mi_5) = r_1 then (if r_1 = 0 then (if (lg_cmp (vou_2 (0 : Int32).toNatClampNeg) (r_4.toInt64)) = 0 then (some (vou_2, mi_5)) else none) else (some (vou_2, mi_5))) else none)))))
set_option maxHeartbeats 4000000 in
set_option maxRecDepth 100000 in
theorem kLaw_pushesOf (l : Launch) (Γ : my_G) (hfl : l.stackTraces = false) {p : Program} {e : Env} {s : State} {m : MethodId} {below : List Frame} {meth : Method} {c : Code} {b L : Nat} {xs : Nat → Int32} {Q : State → Prop} (hx : p.tables.exec = Jvm.exec) (hb : c.code = cL_law) (hml : c.maxLocals = 7) (hown : s.vm.findClass RL = some m.cls) (hts : ∀ w ∈ wsL_law, w.before #[Value.ref b] s = true) (hX : va_X b L xs s s.heap) (hbl : b < s.heap.size) (hK : my_K Γ s) (hZ : my_ZZ (fun q : Nat => s.heap.size ≤ q) s s.heap) (hstr : my_str s) (hnc : my_nc s) (q_bf q_fl q_k q_c q_a q_pa q_b q_pb q_ou q_mo q_tt q_nw q_tr q_ot q_di q_kp q_ik q_wy q_ah q_tg q_ws q_fr q_rw q_tx q_flT q_hi q_s1 q_s2 q_fd q_kc q_kr : Nat) (vi : Nat → Int32) (vj : Nat → Int64) (vk : Nat → Int32) (vc : Nat → Int32) (va : Nat → Int32) (vpa : Nat → Int32) (vb : Nat → Int32) (vpb : Nat → Int32) (vou : Nat → Int64) (mi : Nat → Int32) (vtt : Nat → Int32) (vnw : Nat → Int32) (vtr : Nat → Int32) (vot : Nat → Int32) (vdi : Nat → Int32) (vkp : Nat → Int32) (vik : Nat → Int32) (vwy : Nat → Int32) (vah : Nat → Int32) (vtg : Nat → Int32) (vws : Nat → Int32) (vfr : Nat → Int32) (vrw : Nat → Int32) (i : Int32) (hi1 : vp_in (i + (1 : Int32)) L) (hi2 : vp_in (i + (2 : Int32)) L) (hi3 : vp_in (i + (3 : Int32)) L) (vou_z : Nat → Int64) (mi_z : Nat → Int32) (hm : mLaw_pushesOf va vb vou mi vnw xs i = (some (vou_z, mi_z))) (R_ : va_W) (nc ns : Nat) (hn : nc + 3 ≤ room_1.cells) (hk : ns + 18 ≤ room_1.slots) (H : Heap) (locs : List Loc) (ls : Array Slot) (hP : va_P (my_D Γ) vwCl ((wBF Γ q_bf q_tx q_fl q_flT q_hi q_s1 q_s2 q_fd q_kc q_kr  ++ wFloor Γ q_fl q_k q_c q_a q_pa q_b q_pb vi vj vk vc va vpa vb vpb ++ wOut Γ q_ou vou ++ wModel Γ q_mo q_tt q_nw q_tr q_ot q_di q_kp q_ik q_wy q_ah q_tg q_ws q_fr q_rw mi vtt vnw vtr vot vdi vkp vik vwy vah vtg vws vfr vrw) ++ R_) H) (hD : va_D (fun q : Nat => s.heap.size ≤ q) ((wBF Γ q_bf q_tx q_fl q_flT q_hi q_s1 q_s2 q_fd q_kc q_kr  ++ wFloor Γ q_fl q_k q_c q_a q_pa q_b q_pb vi vj vk vc va vpa vb vpb ++ wOut Γ q_ou vou ++ wModel Γ q_mo q_tt q_nw q_tr q_ot q_di q_kp q_ik q_wy q_ah q_tg q_ws q_fr q_rw mi vtt vnw vtr vot vdi vkp vik vwy vah vtg vws vfr vrw) ++ R_)) (hS : va_S (fun q : Nat => s.heap.size ≤ q) s.heap H locs) (hl : lv_has ls 7 [(0, .ref b), (1, .ref q_bf), (2, .ref q_mo), (3, .ref q_ou), (4, .int i)]) (kk : ∀ (H : Heap) (locs : List Loc) (ls : Array Slot), va_P (my_D Γ) vwCl ((wBF Γ q_bf q_tx q_fl q_flT q_hi q_s1 q_s2 q_fd q_kc q_kr  ++ wFloor Γ q_fl q_k q_c q_a q_pa q_b q_pb vi vj vk vc va vpa vb vpb ++ wOut Γ q_ou vou_z ++ wModel Γ q_mo q_tt q_nw q_tr q_ot q_di q_kp q_ik q_wy q_ah q_tg q_ws q_fr q_rw mi_z vtt vnw vtr vot vdi vkp vik vwy vah vtg vws vfr vrw) ++ R_) H → va_D (fun q : Nat => s.heap.size ≤ q) ((wBF Γ q_bf q_tx q_fl q_flT q_hi q_s1 q_s2 q_fd q_kc q_kr  ++ wFloor Γ q_fl q_k q_c q_a q_pa q_b q_pb vi vj vk vc va vpa vb vpb ++ wOut Γ q_ou vou_z ++ wModel Γ q_mo q_tt q_nw q_tr q_ot q_di q_kp q_ik q_wy q_ah q_tg q_ws q_fr q_rw mi_z vtt vnw vtr vot vdi vkp vik vwy vah vtg vws vfr vrw) ++ R_) → va_S (fun q : Nat => s.heap.size ≤ q) s.heap H locs → lv_has ls 7 [(0, .ref b), (1, .ref q_bf), (2, .ref q_mo), (3, .ref q_ou), (4, .int i)] → W p l e room_1 s m #[Value.ref b] below meth c H locs (nc + 3) (ns + 18) Q (F0 m 2260 ls [])) : W p l e room_1 s m #[Value.ref b] below meth c H locs nc ns Q (F0 m 916 ls []) := by
  have hA : ∀ q : Nat, s.heap.size ≤ q → (fun q : Nat => s.heap.size ≤ q) q := fun _ h => h
  have hbA : ¬ (fun q : Nat => s.heap.size ≤ q) b := Nat.not_le.mpr hbl
  unfold mLaw_pushesOf at hm
  refine lv_aload_n hx hb dL_law_916 rfl (lv_at hl 1 rfl) ?_
  refine lv_aload_n hx hb dL_law_917 rfl (lv_at hl 0 rfl) ?_
  refine lv_iload hx hb dL_law_918 (lv_at hl 4 rfl) ?_
  refine lv_iconst (v := (1 : Int32)) hx hb dL_law_920 (by decide) ?_
  refine lv_iadd hx hb dL_law_921 ?_
  refine va_sld hx hb hX hbl hbA hS hi1 dL_law_922 ?_
  refine lv_aload_n hx hb dL_law_923 rfl (lv_at hl 3 rfl) ?_
  obtain ⟨r_1, vou_2, hc_3, hm⟩ := bo2_s hm
  refine my_callRW1 (wc := (wBF Γ q_bf q_tx q_fl q_flT q_hi q_s1 q_s2 q_fd q_kc q_kr  ++ wFloor Γ q_fl q_k q_c q_a q_pa q_b q_pb vi vj vk vc va vpa vb vpb ++ wOut Γ q_ou vou)) (w1 := (wBF Γ q_bf q_tx q_fl q_flT q_hi q_s1 q_s2 q_fd q_kc q_kr  ++ wFloor Γ q_fl q_k q_c q_a q_pa q_b q_pb vi vj vk vc va vpa vb vpb ++ wOut Γ q_ou vou_2)) (wa1 := (wBF Γ q_bf q_tx q_fl q_flT q_hi q_s1 q_s2 q_fd q_kc q_kr  ++ wFloor Γ q_fl q_k q_c q_a q_pa q_b q_pb vi vj vk vc va vpa vb vpb ++ wOut Γ q_ou vou_2 ++ wModel Γ q_mo q_tt q_nw q_tr q_ot q_di q_kp q_ik q_wy q_ah q_tg q_ws q_fr q_rw mi vtt vnw vtr vot vdi vkp vik vwy vah vtg vws vfr vrw)) hP hD hS hA [0, 1, 2, 3, 4, 5, 6, 7, 8] rfl rfl rfl rfl (vx_runSW (As := [.ref q_bf, .int (xs (i + (1 : Int32)).toNatClampNeg), .ref q_ou]) (rest := []) ⟨hx, hb, hml, hown, hts⟩ (kL_pushesOf l Γ hfl q_bf q_fl q_k q_c q_a q_pa q_b q_pb q_ou q_tx q_flT q_hi q_s1 q_s2 q_fd q_kc q_kr vi vj vk vc va vpa vb vpb vou (xs (i + (1 : Int32)).toNatClampNeg) r_1 vou_2 hc_3 _) (vx_cwSW 3 hts gL_law_L_pushesOf rfl rfl rfl (by decide +kernel) ⟨Nat.le_of_ble_eq_true rfl, Nat.le_of_ble_eq_true rfl⟩) (my_preSW (wc := (wBF Γ q_bf q_tx q_fl q_flT q_hi q_s1 q_s2 q_fd q_kc q_kr  ++ wFloor Γ q_fl q_k q_c q_a q_pa q_b q_pb vi vj vk vc va vpa vb vpb ++ wOut Γ q_ou vou)) [0, 1, 2, 3, 4, 5, 6, 7, 8] hK hP hD hS hA hZ hstr hnc rfl rfl) rfl rfl hl.1 rfl (lv_room (Nat.le_of_ble_eq_true rfl)) dL_law_924 ⟨Nat.le_trans (Nat.add_le_add_left (Nat.le_of_ble_eq_true rfl) nc) hn, Nat.le_trans (Nat.add_le_add_left (Nat.le_of_ble_eq_true rfl) ns) hk⟩) (fun H locs hP hD hS => ?_)
  refine W.widen (k := nc + 3) (n := ns + 18) (Nat.add_le_add_left (Nat.le_of_ble_eq_true rfl) nc) (Nat.add_le_add_left (Nat.le_of_ble_eq_true rfl) ns) ?_
  refine lv_istore (lv' := [(5, .int r_1), (0, .ref b), (1, .ref q_bf), (2, .ref q_mo), (3, .ref q_ou), (4, .int i)]) hx hb dL_law_927 hl (by decide) rfl (fun ls hl => ?_)
  refine lv_aload_n hx hb dL_law_929 rfl (lv_at hl 3 rfl) ?_
  refine lv_aload_n hx hb dL_law_930 rfl (lv_at hl 1 rfl) ?_
  refine lv_iload hx hb dL_law_931 (lv_at hl 5 rfl) ?_
  refine lv_iconst (v := (1 : Int32)) hx hb dL_law_933 (by decide) ?_
  refine lv_iadd hx hb dL_law_934 ?_
  refine va_sld hx hb hX hbl hbA hS hi1 dL_law_935 ?_
  obtain ⟨r_4, mi_5, hc_6, hm⟩ := bo2_s hm
  refine my_callR1 (wc := (wModel Γ q_mo q_tt q_nw q_tr q_ot q_di q_kp q_ik q_wy q_ah q_tg q_ws q_fr q_rw mi vtt vnw vtr vot vdi vkp vik vwy vah vtg vws vfr vrw)) (w1 := (wModel Γ q_mo q_tt q_nw q_tr q_ot q_di q_kp q_ik q_wy q_ah q_tg q_ws q_fr q_rw mi_5 vtt vnw vtr vot vdi vkp vik vwy vah vtg vws vfr vrw)) (wa1 := (wBF Γ q_bf q_tx q_fl q_flT q_hi q_s1 q_s2 q_fd q_kc q_kr  ++ wFloor Γ q_fl q_k q_c q_a q_pa q_b q_pb vi vj vk vc va vpa vb vpb ++ wOut Γ q_ou vou_2 ++ wModel Γ q_mo q_tt q_nw q_tr q_ot q_di q_kp q_ik q_wy q_ah q_tg q_ws q_fr q_rw mi_5 vtt vnw vtr vot vdi vkp vik vwy vah vtg vws vfr vrw)) hP hD hS hA [9, 10, 11, 12, 13, 14, 15, 16, 17, 18, 19, 20, 21, 22] rfl rfl rfl rfl (va_runV (As := [.int (xs (i + (1 : Int32)).toNatClampNeg)]) (rest := []) ⟨hx, hb, hml, hown, hts⟩ (kX9_pushesOf l Γ q_mo q_tt q_nw q_tr q_ot q_di q_kp q_ik q_wy q_ah q_tg q_ws q_fr q_rw mi vtt vnw vtr vot vdi vkp vik vwy vah vtg vws vfr vrw (xs (i + (1 : Int32)).toNatClampNeg) r_4 mi_5 hc_6 _) (cwV 1 hts gL_law_X9_pushesOf rfl rfl rfl (by decide +kernel) ⟨Nat.le_of_ble_eq_true rfl, Nat.le_of_ble_eq_true rfl⟩) (my_preV (wc := (wModel Γ q_mo q_tt q_nw q_tr q_ot q_di q_kp q_ik q_wy q_ah q_tg q_ws q_fr q_rw mi vtt vnw vtr vot vdi vkp vik vwy vah vtg vws vfr vrw)) (ci := 7) (q0 := 9) [9, 10, 11, 12, 13, 14, 15, 16, 17, 18, 19, 20, 21, 22] hK hP hD rfl rfl rfl rfl) rfl rfl hl.1 rfl (lv_room (Nat.le_of_ble_eq_true rfl)) dL_law_936 ⟨hn, hk⟩) (fun H locs hP hD hS => ?_)
  refine lv_istore (lv' := [(6, .int r_4), (5, .int r_1), (0, .ref b), (1, .ref q_bf), (2, .ref q_mo), (3, .ref q_ou), (4, .int i)]) hx hb dL_law_939 hl (by decide) rfl (fun ls hl => ?_)
  refine lv_aload_n hx hb dL_law_941 rfl (lv_at hl 4 rfl) ?_
  refine my_callR1 (wc := (wMo Γ q_mo q_tt q_nw q_tr q_ot q_di q_kp q_ik q_wy q_ah q_tg q_ws q_fr q_rw mi_5)) (w1 := (wMo Γ q_mo q_tt q_nw q_tr q_ot q_di q_kp q_ik q_wy q_ah q_tg q_ws q_fr q_rw mi_5)) (wa1 := (wBF Γ q_bf q_tx q_fl q_flT q_hi q_s1 q_s2 q_fd q_kc q_kr  ++ wFloor Γ q_fl q_k q_c q_a q_pa q_b q_pb vi vj vk vc va vpa vb vpb ++ wOut Γ q_ou vou_2 ++ wModel Γ q_mo q_tt q_nw q_tr q_ot q_di q_kp q_ik q_wy q_ah q_tg q_ws q_fr q_rw mi_5 vtt vnw vtr vot vdi vkp vik vwy vah vtg vws vfr vrw)) hP hD hS hA [9] rfl rfl rfl rfl (va_runV (As := []) (rest := []) ⟨hx, hb, hml, hown, hts⟩ (kX9_thrown l Γ q_mo q_tt q_nw q_tr q_ot q_di q_kp q_ik q_wy q_ah q_tg q_ws q_fr q_rw mi_5 (mX9_thrown mi_5) rfl _) (cwV 0 hts gL_law_X9_thrown rfl rfl rfl (by decide +kernel) ⟨Nat.le_of_ble_eq_true rfl, Nat.le_of_ble_eq_true rfl⟩) (my_preV (wc := (wMo Γ q_mo q_tt q_nw q_tr q_ot q_di q_kp q_ik q_wy q_ah q_tg q_ws q_fr q_rw mi_5)) (ci := 7) (q0 := 9) [9] hK hP hD rfl rfl rfl rfl) rfl rfl hl.1 rfl (lv_room (Nat.le_of_ble_eq_true rfl)) dL_law_942 ⟨hn, hk⟩) (fun H locs hP hD hS => ?_)
  refine lv_iload hx hb dL_law_945 (lv_at hl 1 rfl) ?_
  refine lv_icmp_eq (tgt := 952) hx hb dL_law_947 (by decide) (fun c_7 => ?_) (fun c_7 => ?_)
  · replace hm := if_s hm c_7
    refine lv_iload hx hb dL_law_952 (lv_at hl 1 rfl) ?_
    refine lv_if_ne (tgt := 969) hx hb dL_law_954 (by decide) (fun c_8 => ?_) (fun c_8 => ?_)
    · replace hm := if_f hm c_8
      refine lv_goto (tgt := 2260) hx hb dL_law_969 (by decide) ?_
      obtain ⟨hf0, hf1⟩ := si2 hm
      subst hf0
      subst hf1
      exact kk _ _ _ hP hD hS (lv_sub hl [2, 3, 4, 5, 6] rfl)
    · replace hm := if_s hm c_8
      refine lv_aload_n hx hb dL_law_957 rfl (lv_at hl 5 rfl) ?_
      refine lv_iconst (v := (0 : Int32)) hx hb dL_law_958 (by decide) ?_
      refine va_lald hx hb hK hP 8 1 rfl rfl (show vp_in (0 : Int32) 1 from (by decide : ¬ ((0 : Int32) < 0 ∨ 1 ≤ (0 : Int32).toNatClampNeg))) dL_law_959 ?_
      refine lv_iload hx hb dL_law_960 (lv_at hl 0 rfl) ?_
      refine lv_i2l (v := r_4.toInt64) hx hb dL_law_962 rfl ?_
      refine W.lcmp hx hb dL_law_963 ?_
      refine lv_if_eq (tgt := 969) hx hb dL_law_964 (by decide) (fun c_9 => ?_) (fun c_9 => ?_)
      · replace hm := if_s hm c_9
        refine lv_goto (tgt := 2260) hx hb dL_law_969 (by decide) ?_
        obtain ⟨hf0, hf1⟩ := si2 hm
        subst hf0
        subst hf1
        exact kk _ _ _ hP hD hS (lv_sub hl [2, 3, 4, 5, 6] rfl)
      · replace hm := if_f hm c_9
        refine lv_iconst (v := (0 : Int32)) hx hb dL_law_967 (by decide) ?_
        cases hm
  · replace hm := if_f hm c_7
    refine lv_iconst (v := (0 : Int32)) hx hb dL_law_950 (by decide) ?_
    cases hm
def mLaw_fallsOf (va : Nat → Int32) (vb : Nat → Int32) (vou : Nat → Int64) (mi : Nat → Int32) (vnw : Nat → Int32) (xs : Nat → Int32) (i : Int32) : Option ((Nat → Int64) × (Nat → Int32)) := (bo2 (mL_fallsOf va vb vou (xs (i + (1 : Int32)).toNatClampNeg)) (fun r_1 vou_2 => (bo2 (mX9_fallsOf mi vnw (xs (i + (1 : Int32)).toNatClampNeg)) (fun r_4 mi_5 => (if (mX9_thrown mi_5) = r_1 then (if r_1 = 0 then (if (lg_cmp (vou_2 (0 : Int32).toNatClampNeg) (r_4.toInt64)) = 0 then (some (vou_2, mi_5)) else none) else (some (vou_2, mi_5))) else none)))))
set_option maxHeartbeats 4000000 in
set_option maxRecDepth 100000 in
theorem kLaw_fallsOf (l : Launch) (Γ : my_G) (hfl : l.stackTraces = false) {p : Program} {e : Env} {s : State} {m : MethodId} {below : List Frame} {meth : Method} {c : Code} {b L : Nat} {xs : Nat → Int32} {Q : State → Prop} (hx : p.tables.exec = Jvm.exec) (hb : c.code = cL_law) (hml : c.maxLocals = 7) (hown : s.vm.findClass RL = some m.cls) (hts : ∀ w ∈ wsL_law, w.before #[Value.ref b] s = true) (hX : va_X b L xs s s.heap) (hbl : b < s.heap.size) (hK : my_K Γ s) (hZ : my_ZZ (fun q : Nat => s.heap.size ≤ q) s s.heap) (hstr : my_str s) (hnc : my_nc s) (q_bf q_fl q_k q_c q_a q_pa q_b q_pb q_ou q_mo q_tt q_nw q_tr q_ot q_di q_kp q_ik q_wy q_ah q_tg q_ws q_fr q_rw q_tx q_flT q_hi q_s1 q_s2 q_fd q_kc q_kr : Nat) (vi : Nat → Int32) (vj : Nat → Int64) (vk : Nat → Int32) (vc : Nat → Int32) (va : Nat → Int32) (vpa : Nat → Int32) (vb : Nat → Int32) (vpb : Nat → Int32) (vou : Nat → Int64) (mi : Nat → Int32) (vtt : Nat → Int32) (vnw : Nat → Int32) (vtr : Nat → Int32) (vot : Nat → Int32) (vdi : Nat → Int32) (vkp : Nat → Int32) (vik : Nat → Int32) (vwy : Nat → Int32) (vah : Nat → Int32) (vtg : Nat → Int32) (vws : Nat → Int32) (vfr : Nat → Int32) (vrw : Nat → Int32) (i : Int32) (hi1 : vp_in (i + (1 : Int32)) L) (hi2 : vp_in (i + (2 : Int32)) L) (hi3 : vp_in (i + (3 : Int32)) L) (vou_z : Nat → Int64) (mi_z : Nat → Int32) (hm : mLaw_fallsOf va vb vou mi vnw xs i = (some (vou_z, mi_z))) (R_ : va_W) (nc ns : Nat) (hn : nc + 3 ≤ room_1.cells) (hk : ns + 18 ≤ room_1.slots) (H : Heap) (locs : List Loc) (ls : Array Slot) (hP : va_P (my_D Γ) vwCl ((wBF Γ q_bf q_tx q_fl q_flT q_hi q_s1 q_s2 q_fd q_kc q_kr  ++ wFloor Γ q_fl q_k q_c q_a q_pa q_b q_pb vi vj vk vc va vpa vb vpb ++ wOut Γ q_ou vou ++ wModel Γ q_mo q_tt q_nw q_tr q_ot q_di q_kp q_ik q_wy q_ah q_tg q_ws q_fr q_rw mi vtt vnw vtr vot vdi vkp vik vwy vah vtg vws vfr vrw) ++ R_) H) (hD : va_D (fun q : Nat => s.heap.size ≤ q) ((wBF Γ q_bf q_tx q_fl q_flT q_hi q_s1 q_s2 q_fd q_kc q_kr  ++ wFloor Γ q_fl q_k q_c q_a q_pa q_b q_pb vi vj vk vc va vpa vb vpb ++ wOut Γ q_ou vou ++ wModel Γ q_mo q_tt q_nw q_tr q_ot q_di q_kp q_ik q_wy q_ah q_tg q_ws q_fr q_rw mi vtt vnw vtr vot vdi vkp vik vwy vah vtg vws vfr vrw) ++ R_)) (hS : va_S (fun q : Nat => s.heap.size ≤ q) s.heap H locs) (hl : lv_has ls 7 [(0, .ref b), (1, .ref q_bf), (2, .ref q_mo), (3, .ref q_ou), (4, .int i)]) (kk : ∀ (H : Heap) (locs : List Loc) (ls : Array Slot), va_P (my_D Γ) vwCl ((wBF Γ q_bf q_tx q_fl q_flT q_hi q_s1 q_s2 q_fd q_kc q_kr  ++ wFloor Γ q_fl q_k q_c q_a q_pa q_b q_pb vi vj vk vc va vpa vb vpb ++ wOut Γ q_ou vou_z ++ wModel Γ q_mo q_tt q_nw q_tr q_ot q_di q_kp q_ik q_wy q_ah q_tg q_ws q_fr q_rw mi_z vtt vnw vtr vot vdi vkp vik vwy vah vtg vws vfr vrw) ++ R_) H → va_D (fun q : Nat => s.heap.size ≤ q) ((wBF Γ q_bf q_tx q_fl q_flT q_hi q_s1 q_s2 q_fd q_kc q_kr  ++ wFloor Γ q_fl q_k q_c q_a q_pa q_b q_pb vi vj vk vc va vpa vb vpb ++ wOut Γ q_ou vou_z ++ wModel Γ q_mo q_tt q_nw q_tr q_ot q_di q_kp q_ik q_wy q_ah q_tg q_ws q_fr q_rw mi_z vtt vnw vtr vot vdi vkp vik vwy vah vtg vws vfr vrw) ++ R_) → va_S (fun q : Nat => s.heap.size ≤ q) s.heap H locs → lv_has ls 7 [(0, .ref b), (1, .ref q_bf), (2, .ref q_mo), (3, .ref q_ou), (4, .int i)] → W p l e room_1 s m #[Value.ref b] below meth c H locs (nc + 3) (ns + 18) Q (F0 m 2260 ls [])) : W p l e room_1 s m #[Value.ref b] below meth c H locs nc ns Q (F0 m 972 ls []) := by
  have hA : ∀ q : Nat, s.heap.size ≤ q → (fun q : Nat => s.heap.size ≤ q) q := fun _ h => h
  have hbA : ¬ (fun q : Nat => s.heap.size ≤ q) b := Nat.not_le.mpr hbl
  unfold mLaw_fallsOf at hm
  refine lv_aload_n hx hb dL_law_972 rfl (lv_at hl 1 rfl) ?_
  refine lv_aload_n hx hb dL_law_973 rfl (lv_at hl 0 rfl) ?_
  refine lv_iload hx hb dL_law_974 (lv_at hl 4 rfl) ?_
  refine lv_iconst (v := (1 : Int32)) hx hb dL_law_976 (by decide) ?_
  refine lv_iadd hx hb dL_law_977 ?_
  refine va_sld hx hb hX hbl hbA hS hi1 dL_law_978 ?_
  refine lv_aload_n hx hb dL_law_979 rfl (lv_at hl 3 rfl) ?_
  obtain ⟨r_1, vou_2, hc_3, hm⟩ := bo2_s hm
  refine my_callRW1 (wc := (wBF Γ q_bf q_tx q_fl q_flT q_hi q_s1 q_s2 q_fd q_kc q_kr  ++ wFloor Γ q_fl q_k q_c q_a q_pa q_b q_pb vi vj vk vc va vpa vb vpb ++ wOut Γ q_ou vou)) (w1 := (wBF Γ q_bf q_tx q_fl q_flT q_hi q_s1 q_s2 q_fd q_kc q_kr  ++ wFloor Γ q_fl q_k q_c q_a q_pa q_b q_pb vi vj vk vc va vpa vb vpb ++ wOut Γ q_ou vou_2)) (wa1 := (wBF Γ q_bf q_tx q_fl q_flT q_hi q_s1 q_s2 q_fd q_kc q_kr  ++ wFloor Γ q_fl q_k q_c q_a q_pa q_b q_pb vi vj vk vc va vpa vb vpb ++ wOut Γ q_ou vou_2 ++ wModel Γ q_mo q_tt q_nw q_tr q_ot q_di q_kp q_ik q_wy q_ah q_tg q_ws q_fr q_rw mi vtt vnw vtr vot vdi vkp vik vwy vah vtg vws vfr vrw)) hP hD hS hA [0, 1, 2, 3, 4, 5, 6, 7, 8] rfl rfl rfl rfl (vx_runSW (As := [.ref q_bf, .int (xs (i + (1 : Int32)).toNatClampNeg), .ref q_ou]) (rest := []) ⟨hx, hb, hml, hown, hts⟩ (kL_fallsOf l Γ hfl q_bf q_fl q_k q_c q_a q_pa q_b q_pb q_ou q_tx q_flT q_hi q_s1 q_s2 q_fd q_kc q_kr vi vj vk vc va vpa vb vpb vou (xs (i + (1 : Int32)).toNatClampNeg) r_1 vou_2 hc_3 _) (vx_cwSW 3 hts gL_law_L_fallsOf rfl rfl rfl (by decide +kernel) ⟨Nat.le_of_ble_eq_true rfl, Nat.le_of_ble_eq_true rfl⟩) (my_preSW (wc := (wBF Γ q_bf q_tx q_fl q_flT q_hi q_s1 q_s2 q_fd q_kc q_kr  ++ wFloor Γ q_fl q_k q_c q_a q_pa q_b q_pb vi vj vk vc va vpa vb vpb ++ wOut Γ q_ou vou)) [0, 1, 2, 3, 4, 5, 6, 7, 8] hK hP hD hS hA hZ hstr hnc rfl rfl) rfl rfl hl.1 rfl (lv_room (Nat.le_of_ble_eq_true rfl)) dL_law_980 ⟨Nat.le_trans (Nat.add_le_add_left (Nat.le_of_ble_eq_true rfl) nc) hn, Nat.le_trans (Nat.add_le_add_left (Nat.le_of_ble_eq_true rfl) ns) hk⟩) (fun H locs hP hD hS => ?_)
  refine W.widen (k := nc + 3) (n := ns + 18) (Nat.add_le_add_left (Nat.le_of_ble_eq_true rfl) nc) (Nat.add_le_add_left (Nat.le_of_ble_eq_true rfl) ns) ?_
  refine lv_istore (lv' := [(5, .int r_1), (0, .ref b), (1, .ref q_bf), (2, .ref q_mo), (3, .ref q_ou), (4, .int i)]) hx hb dL_law_983 hl (by decide) rfl (fun ls hl => ?_)
  refine lv_aload_n hx hb dL_law_985 rfl (lv_at hl 3 rfl) ?_
  refine lv_aload_n hx hb dL_law_986 rfl (lv_at hl 1 rfl) ?_
  refine lv_iload hx hb dL_law_987 (lv_at hl 5 rfl) ?_
  refine lv_iconst (v := (1 : Int32)) hx hb dL_law_989 (by decide) ?_
  refine lv_iadd hx hb dL_law_990 ?_
  refine va_sld hx hb hX hbl hbA hS hi1 dL_law_991 ?_
  obtain ⟨r_4, mi_5, hc_6, hm⟩ := bo2_s hm
  refine my_callR1 (wc := (wModel Γ q_mo q_tt q_nw q_tr q_ot q_di q_kp q_ik q_wy q_ah q_tg q_ws q_fr q_rw mi vtt vnw vtr vot vdi vkp vik vwy vah vtg vws vfr vrw)) (w1 := (wModel Γ q_mo q_tt q_nw q_tr q_ot q_di q_kp q_ik q_wy q_ah q_tg q_ws q_fr q_rw mi_5 vtt vnw vtr vot vdi vkp vik vwy vah vtg vws vfr vrw)) (wa1 := (wBF Γ q_bf q_tx q_fl q_flT q_hi q_s1 q_s2 q_fd q_kc q_kr  ++ wFloor Γ q_fl q_k q_c q_a q_pa q_b q_pb vi vj vk vc va vpa vb vpb ++ wOut Γ q_ou vou_2 ++ wModel Γ q_mo q_tt q_nw q_tr q_ot q_di q_kp q_ik q_wy q_ah q_tg q_ws q_fr q_rw mi_5 vtt vnw vtr vot vdi vkp vik vwy vah vtg vws vfr vrw)) hP hD hS hA [9, 10, 11, 12, 13, 14, 15, 16, 17, 18, 19, 20, 21, 22] rfl rfl rfl rfl (va_runV (As := [.int (xs (i + (1 : Int32)).toNatClampNeg)]) (rest := []) ⟨hx, hb, hml, hown, hts⟩ (kX9_fallsOf l Γ q_mo q_tt q_nw q_tr q_ot q_di q_kp q_ik q_wy q_ah q_tg q_ws q_fr q_rw mi vtt vnw vtr vot vdi vkp vik vwy vah vtg vws vfr vrw (xs (i + (1 : Int32)).toNatClampNeg) r_4 mi_5 hc_6 _) (cwV 1 hts gL_law_X9_fallsOf rfl rfl rfl (by decide +kernel) ⟨Nat.le_of_ble_eq_true rfl, Nat.le_of_ble_eq_true rfl⟩) (my_preV (wc := (wModel Γ q_mo q_tt q_nw q_tr q_ot q_di q_kp q_ik q_wy q_ah q_tg q_ws q_fr q_rw mi vtt vnw vtr vot vdi vkp vik vwy vah vtg vws vfr vrw)) (ci := 7) (q0 := 9) [9, 10, 11, 12, 13, 14, 15, 16, 17, 18, 19, 20, 21, 22] hK hP hD rfl rfl rfl rfl) rfl rfl hl.1 rfl (lv_room (Nat.le_of_ble_eq_true rfl)) dL_law_992 ⟨hn, hk⟩) (fun H locs hP hD hS => ?_)
  refine lv_istore (lv' := [(6, .int r_4), (5, .int r_1), (0, .ref b), (1, .ref q_bf), (2, .ref q_mo), (3, .ref q_ou), (4, .int i)]) hx hb dL_law_995 hl (by decide) rfl (fun ls hl => ?_)
  refine lv_aload_n hx hb dL_law_997 rfl (lv_at hl 4 rfl) ?_
  refine my_callR1 (wc := (wMo Γ q_mo q_tt q_nw q_tr q_ot q_di q_kp q_ik q_wy q_ah q_tg q_ws q_fr q_rw mi_5)) (w1 := (wMo Γ q_mo q_tt q_nw q_tr q_ot q_di q_kp q_ik q_wy q_ah q_tg q_ws q_fr q_rw mi_5)) (wa1 := (wBF Γ q_bf q_tx q_fl q_flT q_hi q_s1 q_s2 q_fd q_kc q_kr  ++ wFloor Γ q_fl q_k q_c q_a q_pa q_b q_pb vi vj vk vc va vpa vb vpb ++ wOut Γ q_ou vou_2 ++ wModel Γ q_mo q_tt q_nw q_tr q_ot q_di q_kp q_ik q_wy q_ah q_tg q_ws q_fr q_rw mi_5 vtt vnw vtr vot vdi vkp vik vwy vah vtg vws vfr vrw)) hP hD hS hA [9] rfl rfl rfl rfl (va_runV (As := []) (rest := []) ⟨hx, hb, hml, hown, hts⟩ (kX9_thrown l Γ q_mo q_tt q_nw q_tr q_ot q_di q_kp q_ik q_wy q_ah q_tg q_ws q_fr q_rw mi_5 (mX9_thrown mi_5) rfl _) (cwV 0 hts gL_law_X9_thrown rfl rfl rfl (by decide +kernel) ⟨Nat.le_of_ble_eq_true rfl, Nat.le_of_ble_eq_true rfl⟩) (my_preV (wc := (wMo Γ q_mo q_tt q_nw q_tr q_ot q_di q_kp q_ik q_wy q_ah q_tg q_ws q_fr q_rw mi_5)) (ci := 7) (q0 := 9) [9] hK hP hD rfl rfl rfl rfl) rfl rfl hl.1 rfl (lv_room (Nat.le_of_ble_eq_true rfl)) dL_law_998 ⟨hn, hk⟩) (fun H locs hP hD hS => ?_)
  refine lv_iload hx hb dL_law_1001 (lv_at hl 1 rfl) ?_
  refine lv_icmp_eq (tgt := 1008) hx hb dL_law_1003 (by decide) (fun c_7 => ?_) (fun c_7 => ?_)
  · replace hm := if_s hm c_7
    refine lv_iload hx hb dL_law_1008 (lv_at hl 1 rfl) ?_
    refine lv_if_ne (tgt := 1025) hx hb dL_law_1010 (by decide) (fun c_8 => ?_) (fun c_8 => ?_)
    · replace hm := if_f hm c_8
      refine lv_goto (tgt := 2260) hx hb dL_law_1025 (by decide) ?_
      obtain ⟨hf0, hf1⟩ := si2 hm
      subst hf0
      subst hf1
      exact kk _ _ _ hP hD hS (lv_sub hl [2, 3, 4, 5, 6] rfl)
    · replace hm := if_s hm c_8
      refine lv_aload_n hx hb dL_law_1013 rfl (lv_at hl 5 rfl) ?_
      refine lv_iconst (v := (0 : Int32)) hx hb dL_law_1014 (by decide) ?_
      refine va_lald hx hb hK hP 8 1 rfl rfl (show vp_in (0 : Int32) 1 from (by decide : ¬ ((0 : Int32) < 0 ∨ 1 ≤ (0 : Int32).toNatClampNeg))) dL_law_1015 ?_
      refine lv_iload hx hb dL_law_1016 (lv_at hl 0 rfl) ?_
      refine lv_i2l (v := r_4.toInt64) hx hb dL_law_1018 rfl ?_
      refine W.lcmp hx hb dL_law_1019 ?_
      refine lv_if_eq (tgt := 1025) hx hb dL_law_1020 (by decide) (fun c_9 => ?_) (fun c_9 => ?_)
      · replace hm := if_s hm c_9
        refine lv_goto (tgt := 2260) hx hb dL_law_1025 (by decide) ?_
        obtain ⟨hf0, hf1⟩ := si2 hm
        subst hf0
        subst hf1
        exact kk _ _ _ hP hD hS (lv_sub hl [2, 3, 4, 5, 6] rfl)
      · replace hm := if_f hm c_9
        refine lv_iconst (v := (0 : Int32)) hx hb dL_law_1023 (by decide) ?_
        cases hm
  · replace hm := if_f hm c_7
    refine lv_iconst (v := (0 : Int32)) hx hb dL_law_1006 (by decide) ?_
    cases hm
def mLaw_steps (vi : Nat → Int32) (mi : Nat → Int32) (vnw : Nat → Int32) (xs : Nat → Int32) (i : Int32) : Option ((Nat → Int32)) := (bt2 (mX9_steps mi vnw) (fun r_1 mi_2 => (if (mX8_steps vi) = r_1 then (some mi_2) else none)))
set_option maxHeartbeats 4000000 in
set_option maxRecDepth 100000 in
theorem kLaw_steps (l : Launch) (Γ : my_G) (hfl : l.stackTraces = false) {p : Program} {e : Env} {s : State} {m : MethodId} {below : List Frame} {meth : Method} {c : Code} {b L : Nat} {xs : Nat → Int32} {Q : State → Prop} (hx : p.tables.exec = Jvm.exec) (hb : c.code = cL_law) (hml : c.maxLocals = 7) (hown : s.vm.findClass RL = some m.cls) (hts : ∀ w ∈ wsL_law, w.before #[Value.ref b] s = true) (hX : va_X b L xs s s.heap) (hbl : b < s.heap.size) (hK : my_K Γ s) (hZ : my_ZZ (fun q : Nat => s.heap.size ≤ q) s s.heap) (hstr : my_str s) (hnc : my_nc s) (q_bf q_fl q_k q_c q_a q_pa q_b q_pb q_ou q_mo q_tt q_nw q_tr q_ot q_di q_kp q_ik q_wy q_ah q_tg q_ws q_fr q_rw q_tx q_flT q_hi q_s1 q_s2 q_fd q_kc q_kr : Nat) (vi : Nat → Int32) (vj : Nat → Int64) (vk : Nat → Int32) (vc : Nat → Int32) (va : Nat → Int32) (vpa : Nat → Int32) (vb : Nat → Int32) (vpb : Nat → Int32) (vou : Nat → Int64) (mi : Nat → Int32) (vtt : Nat → Int32) (vnw : Nat → Int32) (vtr : Nat → Int32) (vot : Nat → Int32) (vdi : Nat → Int32) (vkp : Nat → Int32) (vik : Nat → Int32) (vwy : Nat → Int32) (vah : Nat → Int32) (vtg : Nat → Int32) (vws : Nat → Int32) (vfr : Nat → Int32) (vrw : Nat → Int32) (i : Int32) (hi1 : vp_in (i + (1 : Int32)) L) (hi2 : vp_in (i + (2 : Int32)) L) (hi3 : vp_in (i + (3 : Int32)) L) (mi_z : Nat → Int32) (hm : mLaw_steps vi mi vnw xs i = (some mi_z)) (R_ : va_W) (nc ns : Nat) (hn : nc + 3 ≤ room_1.cells) (hk : ns + 18 ≤ room_1.slots) (H : Heap) (locs : List Loc) (ls : Array Slot) (hP : va_P (my_D Γ) vwCl ((wBF Γ q_bf q_tx q_fl q_flT q_hi q_s1 q_s2 q_fd q_kc q_kr  ++ wFloor Γ q_fl q_k q_c q_a q_pa q_b q_pb vi vj vk vc va vpa vb vpb ++ wOut Γ q_ou vou ++ wModel Γ q_mo q_tt q_nw q_tr q_ot q_di q_kp q_ik q_wy q_ah q_tg q_ws q_fr q_rw mi vtt vnw vtr vot vdi vkp vik vwy vah vtg vws vfr vrw) ++ R_) H) (hD : va_D (fun q : Nat => s.heap.size ≤ q) ((wBF Γ q_bf q_tx q_fl q_flT q_hi q_s1 q_s2 q_fd q_kc q_kr  ++ wFloor Γ q_fl q_k q_c q_a q_pa q_b q_pb vi vj vk vc va vpa vb vpb ++ wOut Γ q_ou vou ++ wModel Γ q_mo q_tt q_nw q_tr q_ot q_di q_kp q_ik q_wy q_ah q_tg q_ws q_fr q_rw mi vtt vnw vtr vot vdi vkp vik vwy vah vtg vws vfr vrw) ++ R_)) (hS : va_S (fun q : Nat => s.heap.size ≤ q) s.heap H locs) (hl : lv_has ls 7 [(0, .ref b), (1, .ref q_bf), (2, .ref q_mo), (3, .ref q_ou), (4, .int i)]) (kk : ∀ (H : Heap) (locs : List Loc) (ls : Array Slot), va_P (my_D Γ) vwCl ((wBF Γ q_bf q_tx q_fl q_flT q_hi q_s1 q_s2 q_fd q_kc q_kr  ++ wFloor Γ q_fl q_k q_c q_a q_pa q_b q_pb vi vj vk vc va vpa vb vpb ++ wOut Γ q_ou vou ++ wModel Γ q_mo q_tt q_nw q_tr q_ot q_di q_kp q_ik q_wy q_ah q_tg q_ws q_fr q_rw mi_z vtt vnw vtr vot vdi vkp vik vwy vah vtg vws vfr vrw) ++ R_) H → va_D (fun q : Nat => s.heap.size ≤ q) ((wBF Γ q_bf q_tx q_fl q_flT q_hi q_s1 q_s2 q_fd q_kc q_kr  ++ wFloor Γ q_fl q_k q_c q_a q_pa q_b q_pb vi vj vk vc va vpa vb vpb ++ wOut Γ q_ou vou ++ wModel Γ q_mo q_tt q_nw q_tr q_ot q_di q_kp q_ik q_wy q_ah q_tg q_ws q_fr q_rw mi_z vtt vnw vtr vot vdi vkp vik vwy vah vtg vws vfr vrw) ++ R_) → va_S (fun q : Nat => s.heap.size ≤ q) s.heap H locs → lv_has ls 7 [(0, .ref b), (1, .ref q_bf), (2, .ref q_mo), (3, .ref q_ou), (4, .int i)] → W p l e room_1 s m #[Value.ref b] below meth c H locs (nc + 3) (ns + 18) Q (F0 m 2260 ls [])) : W p l e room_1 s m #[Value.ref b] below meth c H locs nc ns Q (F0 m 1028 ls []) := by
  have hA : ∀ q : Nat, s.heap.size ≤ q → (fun q : Nat => s.heap.size ≤ q) q := fun _ h => h
  have hbA : ¬ (fun q : Nat => s.heap.size ≤ q) b := Nat.not_le.mpr hbl
  unfold mLaw_steps at hm
  refine W.widen (k := nc + 3) (n := ns + 18) (Nat.le_add_right nc 3) (Nat.le_add_right ns 18) ?_
  refine lv_aload_n hx hb dL_law_1028 rfl (lv_at hl 1 rfl) ?_
  refine my_callR1 (wc := (wBF Γ q_bf q_tx q_fl q_flT q_hi q_s1 q_s2 q_fd q_kc q_kr  ++ wFloor Γ q_fl q_k q_c q_a q_pa q_b q_pb vi vj vk vc va vpa vb vpb)) (w1 := (wBF Γ q_bf q_tx q_fl q_flT q_hi q_s1 q_s2 q_fd q_kc q_kr  ++ wFloor Γ q_fl q_k q_c q_a q_pa q_b q_pb vi vj vk vc va vpa vb vpb)) (wa1 := (wBF Γ q_bf q_tx q_fl q_flT q_hi q_s1 q_s2 q_fd q_kc q_kr  ++ wFloor Γ q_fl q_k q_c q_a q_pa q_b q_pb vi vj vk vc va vpa vb vpb ++ wOut Γ q_ou vou ++ wModel Γ q_mo q_tt q_nw q_tr q_ot q_di q_kp q_ik q_wy q_ah q_tg q_ws q_fr q_rw mi vtt vnw vtr vot vdi vkp vik vwy vah vtg vws vfr vrw)) hP hD hS hA [0, 1, 2, 3, 4, 5, 6, 7] rfl rfl rfl rfl (va_runV (As := []) (rest := []) ⟨hx, hb, hml, hown, hts⟩ (kX8_steps l Γ q_bf q_fl q_k q_c q_a q_pa q_b q_pb q_tx q_flT q_hi q_s1 q_s2 q_fd q_kc q_kr vi vj vk vc va vpa vb vpb (mX8_steps vi) rfl _) (cwV 0 hts gL_law_X8_steps rfl rfl rfl (by decide +kernel) ⟨Nat.le_of_ble_eq_true rfl, Nat.le_of_ble_eq_true rfl⟩) (my_preV (wc := (wBF Γ q_bf q_tx q_fl q_flT q_hi q_s1 q_s2 q_fd q_kc q_kr  ++ wFloor Γ q_fl q_k q_c q_a q_pa q_b q_pb vi vj vk vc va vpa vb vpb)) (ci := 6) (q0 := 0) [0, 1, 2, 3, 4, 5, 6, 7] hK hP hD rfl rfl rfl rfl) rfl rfl hl.1 rfl (lv_room (Nat.le_of_ble_eq_true rfl)) dL_law_1029 ⟨hn, hk⟩) (fun H locs hP hD hS => ?_)
  refine lv_aload_n hx hb dL_law_1032 rfl (lv_at hl 2 rfl) ?_
  obtain ⟨r_1, mi_2, hc_3, hm⟩ := bt2_s hm
  refine my_callR1 (wc := (wModel Γ q_mo q_tt q_nw q_tr q_ot q_di q_kp q_ik q_wy q_ah q_tg q_ws q_fr q_rw mi vtt vnw vtr vot vdi vkp vik vwy vah vtg vws vfr vrw)) (w1 := (wModel Γ q_mo q_tt q_nw q_tr q_ot q_di q_kp q_ik q_wy q_ah q_tg q_ws q_fr q_rw mi_2 vtt vnw vtr vot vdi vkp vik vwy vah vtg vws vfr vrw)) (wa1 := (wBF Γ q_bf q_tx q_fl q_flT q_hi q_s1 q_s2 q_fd q_kc q_kr  ++ wFloor Γ q_fl q_k q_c q_a q_pa q_b q_pb vi vj vk vc va vpa vb vpb ++ wOut Γ q_ou vou ++ wModel Γ q_mo q_tt q_nw q_tr q_ot q_di q_kp q_ik q_wy q_ah q_tg q_ws q_fr q_rw mi_2 vtt vnw vtr vot vdi vkp vik vwy vah vtg vws vfr vrw)) hP hD hS hA [9, 10, 11, 12, 13, 14, 15, 16, 17, 18, 19, 20, 21, 22] rfl rfl rfl rfl (va_runV (As := []) (rest := [.int (mX8_steps vi)]) ⟨hx, hb, hml, hown, hts⟩ (kX9_steps l Γ q_mo q_tt q_nw q_tr q_ot q_di q_kp q_ik q_wy q_ah q_tg q_ws q_fr q_rw mi vtt vnw vtr vot vdi vkp vik vwy vah vtg vws vfr vrw r_1 mi_2 hc_3 _) (cwV 0 hts gL_law_X9_steps rfl rfl rfl (by decide +kernel) ⟨Nat.le_of_ble_eq_true rfl, Nat.le_of_ble_eq_true rfl⟩) (my_preV (wc := (wModel Γ q_mo q_tt q_nw q_tr q_ot q_di q_kp q_ik q_wy q_ah q_tg q_ws q_fr q_rw mi vtt vnw vtr vot vdi vkp vik vwy vah vtg vws vfr vrw)) (ci := 7) (q0 := 9) [9, 10, 11, 12, 13, 14, 15, 16, 17, 18, 19, 20, 21, 22] hK hP hD rfl rfl rfl rfl) rfl rfl hl.1 rfl (lv_room (Nat.le_of_ble_eq_true rfl)) dL_law_1033 ⟨hn, hk⟩) (fun H locs hP hD hS => ?_)
  refine lv_icmp_eq (tgt := 2260) hx hb dL_law_1036 (by decide) (fun c_4 => ?_) (fun c_4 => ?_)
  · replace hm := if_s hm c_4
    obtain hf0 := Option.some.inj hm
    subst hf0
    exact kk _ _ _ hP hD hS (lv_sub hl [0, 1, 2, 3, 4] rfl)
  · replace hm := if_f hm c_4
    refine lv_iconst (v := (0 : Int32)) hx hb dL_law_1039 (by decide) ?_
    cases hm
def mLaw_lengthOf (va : Nat → Int32) (vb : Nat → Int32) (vou : Nat → Int64) (mi : Nat → Int32) (vnw : Nat → Int32) (xs : Nat → Int32) (i : Int32) : Option ((Nat → Int64) × (Nat → Int32)) := (bo2 (mL_lengthOf va vb vou (xs (i + (1 : Int32)).toNatClampNeg)) (fun r_1 vou_2 => (bo2 (mX9_lengthOf mi vnw (xs (i + (1 : Int32)).toNatClampNeg)) (fun r_4 mi_5 => (if (mX9_thrown mi_5) = r_1 then (if r_1 = 0 then (if (lg_cmp (vou_2 (0 : Int32).toNatClampNeg) (r_4.toInt64)) = 0 then (some (vou_2, mi_5)) else none) else (some (vou_2, mi_5))) else none)))))
set_option maxHeartbeats 4000000 in
set_option maxRecDepth 100000 in
theorem kLaw_lengthOf (l : Launch) (Γ : my_G) (hfl : l.stackTraces = false) {p : Program} {e : Env} {s : State} {m : MethodId} {below : List Frame} {meth : Method} {c : Code} {b L : Nat} {xs : Nat → Int32} {Q : State → Prop} (hx : p.tables.exec = Jvm.exec) (hb : c.code = cL_law) (hml : c.maxLocals = 7) (hown : s.vm.findClass RL = some m.cls) (hts : ∀ w ∈ wsL_law, w.before #[Value.ref b] s = true) (hX : va_X b L xs s s.heap) (hbl : b < s.heap.size) (hK : my_K Γ s) (hZ : my_ZZ (fun q : Nat => s.heap.size ≤ q) s s.heap) (hstr : my_str s) (hnc : my_nc s) (q_bf q_fl q_k q_c q_a q_pa q_b q_pb q_ou q_mo q_tt q_nw q_tr q_ot q_di q_kp q_ik q_wy q_ah q_tg q_ws q_fr q_rw q_tx q_flT q_hi q_s1 q_s2 q_fd q_kc q_kr : Nat) (vi : Nat → Int32) (vj : Nat → Int64) (vk : Nat → Int32) (vc : Nat → Int32) (va : Nat → Int32) (vpa : Nat → Int32) (vb : Nat → Int32) (vpb : Nat → Int32) (vou : Nat → Int64) (mi : Nat → Int32) (vtt : Nat → Int32) (vnw : Nat → Int32) (vtr : Nat → Int32) (vot : Nat → Int32) (vdi : Nat → Int32) (vkp : Nat → Int32) (vik : Nat → Int32) (vwy : Nat → Int32) (vah : Nat → Int32) (vtg : Nat → Int32) (vws : Nat → Int32) (vfr : Nat → Int32) (vrw : Nat → Int32) (i : Int32) (hi1 : vp_in (i + (1 : Int32)) L) (hi2 : vp_in (i + (2 : Int32)) L) (hi3 : vp_in (i + (3 : Int32)) L) (vou_z : Nat → Int64) (mi_z : Nat → Int32) (hm : mLaw_lengthOf va vb vou mi vnw xs i = (some (vou_z, mi_z))) (R_ : va_W) (nc ns : Nat) (hn : nc + 3 ≤ room_1.cells) (hk : ns + 18 ≤ room_1.slots) (H : Heap) (locs : List Loc) (ls : Array Slot) (hP : va_P (my_D Γ) vwCl ((wBF Γ q_bf q_tx q_fl q_flT q_hi q_s1 q_s2 q_fd q_kc q_kr  ++ wFloor Γ q_fl q_k q_c q_a q_pa q_b q_pb vi vj vk vc va vpa vb vpb ++ wOut Γ q_ou vou ++ wModel Γ q_mo q_tt q_nw q_tr q_ot q_di q_kp q_ik q_wy q_ah q_tg q_ws q_fr q_rw mi vtt vnw vtr vot vdi vkp vik vwy vah vtg vws vfr vrw) ++ R_) H) (hD : va_D (fun q : Nat => s.heap.size ≤ q) ((wBF Γ q_bf q_tx q_fl q_flT q_hi q_s1 q_s2 q_fd q_kc q_kr  ++ wFloor Γ q_fl q_k q_c q_a q_pa q_b q_pb vi vj vk vc va vpa vb vpb ++ wOut Γ q_ou vou ++ wModel Γ q_mo q_tt q_nw q_tr q_ot q_di q_kp q_ik q_wy q_ah q_tg q_ws q_fr q_rw mi vtt vnw vtr vot vdi vkp vik vwy vah vtg vws vfr vrw) ++ R_)) (hS : va_S (fun q : Nat => s.heap.size ≤ q) s.heap H locs) (hl : lv_has ls 7 [(0, .ref b), (1, .ref q_bf), (2, .ref q_mo), (3, .ref q_ou), (4, .int i)]) (kk : ∀ (H : Heap) (locs : List Loc) (ls : Array Slot), va_P (my_D Γ) vwCl ((wBF Γ q_bf q_tx q_fl q_flT q_hi q_s1 q_s2 q_fd q_kc q_kr  ++ wFloor Γ q_fl q_k q_c q_a q_pa q_b q_pb vi vj vk vc va vpa vb vpb ++ wOut Γ q_ou vou_z ++ wModel Γ q_mo q_tt q_nw q_tr q_ot q_di q_kp q_ik q_wy q_ah q_tg q_ws q_fr q_rw mi_z vtt vnw vtr vot vdi vkp vik vwy vah vtg vws vfr vrw) ++ R_) H → va_D (fun q : Nat => s.heap.size ≤ q) ((wBF Γ q_bf q_tx q_fl q_flT q_hi q_s1 q_s2 q_fd q_kc q_kr  ++ wFloor Γ q_fl q_k q_c q_a q_pa q_b q_pb vi vj vk vc va vpa vb vpb ++ wOut Γ q_ou vou_z ++ wModel Γ q_mo q_tt q_nw q_tr q_ot q_di q_kp q_ik q_wy q_ah q_tg q_ws q_fr q_rw mi_z vtt vnw vtr vot vdi vkp vik vwy vah vtg vws vfr vrw) ++ R_) → va_S (fun q : Nat => s.heap.size ≤ q) s.heap H locs → lv_has ls 7 [(0, .ref b), (1, .ref q_bf), (2, .ref q_mo), (3, .ref q_ou), (4, .int i)] → W p l e room_1 s m #[Value.ref b] below meth c H locs (nc + 3) (ns + 18) Q (F0 m 2260 ls [])) : W p l e room_1 s m #[Value.ref b] below meth c H locs nc ns Q (F0 m 1041 ls []) := by
  have hA : ∀ q : Nat, s.heap.size ≤ q → (fun q : Nat => s.heap.size ≤ q) q := fun _ h => h
  have hbA : ¬ (fun q : Nat => s.heap.size ≤ q) b := Nat.not_le.mpr hbl
  unfold mLaw_lengthOf at hm
  refine lv_aload_n hx hb dL_law_1041 rfl (lv_at hl 1 rfl) ?_
  refine lv_aload_n hx hb dL_law_1042 rfl (lv_at hl 0 rfl) ?_
  refine lv_iload hx hb dL_law_1043 (lv_at hl 4 rfl) ?_
  refine lv_iconst (v := (1 : Int32)) hx hb dL_law_1045 (by decide) ?_
  refine lv_iadd hx hb dL_law_1046 ?_
  refine va_sld hx hb hX hbl hbA hS hi1 dL_law_1047 ?_
  refine lv_aload_n hx hb dL_law_1048 rfl (lv_at hl 3 rfl) ?_
  obtain ⟨r_1, vou_2, hc_3, hm⟩ := bo2_s hm
  refine my_callRW1 (wc := (wBF Γ q_bf q_tx q_fl q_flT q_hi q_s1 q_s2 q_fd q_kc q_kr  ++ wFloor Γ q_fl q_k q_c q_a q_pa q_b q_pb vi vj vk vc va vpa vb vpb ++ wOut Γ q_ou vou)) (w1 := (wBF Γ q_bf q_tx q_fl q_flT q_hi q_s1 q_s2 q_fd q_kc q_kr  ++ wFloor Γ q_fl q_k q_c q_a q_pa q_b q_pb vi vj vk vc va vpa vb vpb ++ wOut Γ q_ou vou_2)) (wa1 := (wBF Γ q_bf q_tx q_fl q_flT q_hi q_s1 q_s2 q_fd q_kc q_kr  ++ wFloor Γ q_fl q_k q_c q_a q_pa q_b q_pb vi vj vk vc va vpa vb vpb ++ wOut Γ q_ou vou_2 ++ wModel Γ q_mo q_tt q_nw q_tr q_ot q_di q_kp q_ik q_wy q_ah q_tg q_ws q_fr q_rw mi vtt vnw vtr vot vdi vkp vik vwy vah vtg vws vfr vrw)) hP hD hS hA [0, 1, 2, 3, 4, 5, 6, 7, 8] rfl rfl rfl rfl (vx_runSW (As := [.ref q_bf, .int (xs (i + (1 : Int32)).toNatClampNeg), .ref q_ou]) (rest := []) ⟨hx, hb, hml, hown, hts⟩ (kL_lengthOf l Γ hfl q_bf q_fl q_k q_c q_a q_pa q_b q_pb q_ou q_tx q_flT q_hi q_s1 q_s2 q_fd q_kc q_kr vi vj vk vc va vpa vb vpb vou (xs (i + (1 : Int32)).toNatClampNeg) r_1 vou_2 hc_3 _) (vx_cwSW 3 hts gL_law_L_lengthOf rfl rfl rfl (by decide +kernel) ⟨Nat.le_of_ble_eq_true rfl, Nat.le_of_ble_eq_true rfl⟩) (my_preSW (wc := (wBF Γ q_bf q_tx q_fl q_flT q_hi q_s1 q_s2 q_fd q_kc q_kr  ++ wFloor Γ q_fl q_k q_c q_a q_pa q_b q_pb vi vj vk vc va vpa vb vpb ++ wOut Γ q_ou vou)) [0, 1, 2, 3, 4, 5, 6, 7, 8] hK hP hD hS hA hZ hstr hnc rfl rfl) rfl rfl hl.1 rfl (lv_room (Nat.le_of_ble_eq_true rfl)) dL_law_1049 ⟨Nat.le_trans (Nat.add_le_add_left (Nat.le_of_ble_eq_true rfl) nc) hn, Nat.le_trans (Nat.add_le_add_left (Nat.le_of_ble_eq_true rfl) ns) hk⟩) (fun H locs hP hD hS => ?_)
  refine W.widen (k := nc + 3) (n := ns + 18) (Nat.add_le_add_left (Nat.le_of_ble_eq_true rfl) nc) (Nat.add_le_add_left (Nat.le_of_ble_eq_true rfl) ns) ?_
  refine lv_istore (lv' := [(5, .int r_1), (0, .ref b), (1, .ref q_bf), (2, .ref q_mo), (3, .ref q_ou), (4, .int i)]) hx hb dL_law_1052 hl (by decide) rfl (fun ls hl => ?_)
  refine lv_aload_n hx hb dL_law_1054 rfl (lv_at hl 3 rfl) ?_
  refine lv_aload_n hx hb dL_law_1055 rfl (lv_at hl 1 rfl) ?_
  refine lv_iload hx hb dL_law_1056 (lv_at hl 5 rfl) ?_
  refine lv_iconst (v := (1 : Int32)) hx hb dL_law_1058 (by decide) ?_
  refine lv_iadd hx hb dL_law_1059 ?_
  refine va_sld hx hb hX hbl hbA hS hi1 dL_law_1060 ?_
  obtain ⟨r_4, mi_5, hc_6, hm⟩ := bo2_s hm
  refine my_callR1 (wc := (wModel Γ q_mo q_tt q_nw q_tr q_ot q_di q_kp q_ik q_wy q_ah q_tg q_ws q_fr q_rw mi vtt vnw vtr vot vdi vkp vik vwy vah vtg vws vfr vrw)) (w1 := (wModel Γ q_mo q_tt q_nw q_tr q_ot q_di q_kp q_ik q_wy q_ah q_tg q_ws q_fr q_rw mi_5 vtt vnw vtr vot vdi vkp vik vwy vah vtg vws vfr vrw)) (wa1 := (wBF Γ q_bf q_tx q_fl q_flT q_hi q_s1 q_s2 q_fd q_kc q_kr  ++ wFloor Γ q_fl q_k q_c q_a q_pa q_b q_pb vi vj vk vc va vpa vb vpb ++ wOut Γ q_ou vou_2 ++ wModel Γ q_mo q_tt q_nw q_tr q_ot q_di q_kp q_ik q_wy q_ah q_tg q_ws q_fr q_rw mi_5 vtt vnw vtr vot vdi vkp vik vwy vah vtg vws vfr vrw)) hP hD hS hA [9, 10, 11, 12, 13, 14, 15, 16, 17, 18, 19, 20, 21, 22] rfl rfl rfl rfl (va_runV (As := [.int (xs (i + (1 : Int32)).toNatClampNeg)]) (rest := []) ⟨hx, hb, hml, hown, hts⟩ (kX9_lengthOf l Γ q_mo q_tt q_nw q_tr q_ot q_di q_kp q_ik q_wy q_ah q_tg q_ws q_fr q_rw mi vtt vnw vtr vot vdi vkp vik vwy vah vtg vws vfr vrw (xs (i + (1 : Int32)).toNatClampNeg) r_4 mi_5 hc_6 _) (cwV 1 hts gL_law_X9_lengthOf rfl rfl rfl (by decide +kernel) ⟨Nat.le_of_ble_eq_true rfl, Nat.le_of_ble_eq_true rfl⟩) (my_preV (wc := (wModel Γ q_mo q_tt q_nw q_tr q_ot q_di q_kp q_ik q_wy q_ah q_tg q_ws q_fr q_rw mi vtt vnw vtr vot vdi vkp vik vwy vah vtg vws vfr vrw)) (ci := 7) (q0 := 9) [9, 10, 11, 12, 13, 14, 15, 16, 17, 18, 19, 20, 21, 22] hK hP hD rfl rfl rfl rfl) rfl rfl hl.1 rfl (lv_room (Nat.le_of_ble_eq_true rfl)) dL_law_1061 ⟨hn, hk⟩) (fun H locs hP hD hS => ?_)
  refine lv_istore (lv' := [(6, .int r_4), (5, .int r_1), (0, .ref b), (1, .ref q_bf), (2, .ref q_mo), (3, .ref q_ou), (4, .int i)]) hx hb dL_law_1064 hl (by decide) rfl (fun ls hl => ?_)
  refine lv_aload_n hx hb dL_law_1066 rfl (lv_at hl 4 rfl) ?_
  refine my_callR1 (wc := (wMo Γ q_mo q_tt q_nw q_tr q_ot q_di q_kp q_ik q_wy q_ah q_tg q_ws q_fr q_rw mi_5)) (w1 := (wMo Γ q_mo q_tt q_nw q_tr q_ot q_di q_kp q_ik q_wy q_ah q_tg q_ws q_fr q_rw mi_5)) (wa1 := (wBF Γ q_bf q_tx q_fl q_flT q_hi q_s1 q_s2 q_fd q_kc q_kr  ++ wFloor Γ q_fl q_k q_c q_a q_pa q_b q_pb vi vj vk vc va vpa vb vpb ++ wOut Γ q_ou vou_2 ++ wModel Γ q_mo q_tt q_nw q_tr q_ot q_di q_kp q_ik q_wy q_ah q_tg q_ws q_fr q_rw mi_5 vtt vnw vtr vot vdi vkp vik vwy vah vtg vws vfr vrw)) hP hD hS hA [9] rfl rfl rfl rfl (va_runV (As := []) (rest := []) ⟨hx, hb, hml, hown, hts⟩ (kX9_thrown l Γ q_mo q_tt q_nw q_tr q_ot q_di q_kp q_ik q_wy q_ah q_tg q_ws q_fr q_rw mi_5 (mX9_thrown mi_5) rfl _) (cwV 0 hts gL_law_X9_thrown rfl rfl rfl (by decide +kernel) ⟨Nat.le_of_ble_eq_true rfl, Nat.le_of_ble_eq_true rfl⟩) (my_preV (wc := (wMo Γ q_mo q_tt q_nw q_tr q_ot q_di q_kp q_ik q_wy q_ah q_tg q_ws q_fr q_rw mi_5)) (ci := 7) (q0 := 9) [9] hK hP hD rfl rfl rfl rfl) rfl rfl hl.1 rfl (lv_room (Nat.le_of_ble_eq_true rfl)) dL_law_1067 ⟨hn, hk⟩) (fun H locs hP hD hS => ?_)
  refine lv_iload hx hb dL_law_1070 (lv_at hl 1 rfl) ?_
  refine lv_icmp_eq (tgt := 1077) hx hb dL_law_1072 (by decide) (fun c_7 => ?_) (fun c_7 => ?_)
  · replace hm := if_s hm c_7
    refine lv_iload hx hb dL_law_1077 (lv_at hl 1 rfl) ?_
    refine lv_if_ne (tgt := 1094) hx hb dL_law_1079 (by decide) (fun c_8 => ?_) (fun c_8 => ?_)
    · replace hm := if_f hm c_8
      refine lv_goto (tgt := 2260) hx hb dL_law_1094 (by decide) ?_
      obtain ⟨hf0, hf1⟩ := si2 hm
      subst hf0
      subst hf1
      exact kk _ _ _ hP hD hS (lv_sub hl [2, 3, 4, 5, 6] rfl)
    · replace hm := if_s hm c_8
      refine lv_aload_n hx hb dL_law_1082 rfl (lv_at hl 5 rfl) ?_
      refine lv_iconst (v := (0 : Int32)) hx hb dL_law_1083 (by decide) ?_
      refine va_lald hx hb hK hP 8 1 rfl rfl (show vp_in (0 : Int32) 1 from (by decide : ¬ ((0 : Int32) < 0 ∨ 1 ≤ (0 : Int32).toNatClampNeg))) dL_law_1084 ?_
      refine lv_iload hx hb dL_law_1085 (lv_at hl 0 rfl) ?_
      refine lv_i2l (v := r_4.toInt64) hx hb dL_law_1087 rfl ?_
      refine W.lcmp hx hb dL_law_1088 ?_
      refine lv_if_eq (tgt := 1094) hx hb dL_law_1089 (by decide) (fun c_9 => ?_) (fun c_9 => ?_)
      · replace hm := if_s hm c_9
        refine lv_goto (tgt := 2260) hx hb dL_law_1094 (by decide) ?_
        obtain ⟨hf0, hf1⟩ := si2 hm
        subst hf0
        subst hf1
        exact kk _ _ _ hP hD hS (lv_sub hl [2, 3, 4, 5, 6] rfl)
      · replace hm := if_f hm c_9
        refine lv_iconst (v := (0 : Int32)) hx hb dL_law_1092 (by decide) ?_
        cases hm
  · replace hm := if_f hm c_7
    refine lv_iconst (v := (0 : Int32)) hx hb dL_law_1075 (by decide) ?_
    cases hm
def mLaw_instructionAt (va : Nat → Int32) (vpa : Nat → Int32) (vb : Nat → Int32) (vpb : Nat → Int32) (vou : Nat → Int64) (mi : Nat → Int32) (vnw : Nat → Int32) (xs : Nat → Int32) (i : Int32) : Option ((Nat → Int64) × (Nat → Int32)) := (bo2 (mL_instructionAt va vpa vb vpb vou (xs (i + (1 : Int32)).toNatClampNeg) (xs (i + (2 : Int32)).toNatClampNeg)) (fun r_1 vou_2 => (bo2 (mX9_instructionAt mi vnw (xs (i + (1 : Int32)).toNatClampNeg) (xs (i + (2 : Int32)).toNatClampNeg)) (fun r_4 mi_5 => (if (mX9_thrown mi_5) = r_1 then (if r_1 = 0 then (if (lg_cmp (vou_2 (0 : Int32).toNatClampNeg) (r_4.toInt64)) = 0 then (some (vou_2, mi_5)) else none) else (some (vou_2, mi_5))) else none)))))
set_option maxHeartbeats 4000000 in
set_option maxRecDepth 100000 in
theorem kLaw_instructionAt (l : Launch) (Γ : my_G) (hfl : l.stackTraces = false) {p : Program} {e : Env} {s : State} {m : MethodId} {below : List Frame} {meth : Method} {c : Code} {b L : Nat} {xs : Nat → Int32} {Q : State → Prop} (hx : p.tables.exec = Jvm.exec) (hb : c.code = cL_law) (hml : c.maxLocals = 7) (hown : s.vm.findClass RL = some m.cls) (hts : ∀ w ∈ wsL_law, w.before #[Value.ref b] s = true) (hX : va_X b L xs s s.heap) (hbl : b < s.heap.size) (hK : my_K Γ s) (hZ : my_ZZ (fun q : Nat => s.heap.size ≤ q) s s.heap) (hstr : my_str s) (hnc : my_nc s) (q_bf q_fl q_k q_c q_a q_pa q_b q_pb q_ou q_mo q_tt q_nw q_tr q_ot q_di q_kp q_ik q_wy q_ah q_tg q_ws q_fr q_rw q_tx q_flT q_hi q_s1 q_s2 q_fd q_kc q_kr : Nat) (vi : Nat → Int32) (vj : Nat → Int64) (vk : Nat → Int32) (vc : Nat → Int32) (va : Nat → Int32) (vpa : Nat → Int32) (vb : Nat → Int32) (vpb : Nat → Int32) (vou : Nat → Int64) (mi : Nat → Int32) (vtt : Nat → Int32) (vnw : Nat → Int32) (vtr : Nat → Int32) (vot : Nat → Int32) (vdi : Nat → Int32) (vkp : Nat → Int32) (vik : Nat → Int32) (vwy : Nat → Int32) (vah : Nat → Int32) (vtg : Nat → Int32) (vws : Nat → Int32) (vfr : Nat → Int32) (vrw : Nat → Int32) (i : Int32) (hi1 : vp_in (i + (1 : Int32)) L) (hi2 : vp_in (i + (2 : Int32)) L) (hi3 : vp_in (i + (3 : Int32)) L) (vou_z : Nat → Int64) (mi_z : Nat → Int32) (hm : mLaw_instructionAt va vpa vb vpb vou mi vnw xs i = (some (vou_z, mi_z))) (R_ : va_W) (nc ns : Nat) (hn : nc + 3 ≤ room_1.cells) (hk : ns + 18 ≤ room_1.slots) (H : Heap) (locs : List Loc) (ls : Array Slot) (hP : va_P (my_D Γ) vwCl ((wBF Γ q_bf q_tx q_fl q_flT q_hi q_s1 q_s2 q_fd q_kc q_kr  ++ wFloor Γ q_fl q_k q_c q_a q_pa q_b q_pb vi vj vk vc va vpa vb vpb ++ wOut Γ q_ou vou ++ wModel Γ q_mo q_tt q_nw q_tr q_ot q_di q_kp q_ik q_wy q_ah q_tg q_ws q_fr q_rw mi vtt vnw vtr vot vdi vkp vik vwy vah vtg vws vfr vrw) ++ R_) H) (hD : va_D (fun q : Nat => s.heap.size ≤ q) ((wBF Γ q_bf q_tx q_fl q_flT q_hi q_s1 q_s2 q_fd q_kc q_kr  ++ wFloor Γ q_fl q_k q_c q_a q_pa q_b q_pb vi vj vk vc va vpa vb vpb ++ wOut Γ q_ou vou ++ wModel Γ q_mo q_tt q_nw q_tr q_ot q_di q_kp q_ik q_wy q_ah q_tg q_ws q_fr q_rw mi vtt vnw vtr vot vdi vkp vik vwy vah vtg vws vfr vrw) ++ R_)) (hS : va_S (fun q : Nat => s.heap.size ≤ q) s.heap H locs) (hl : lv_has ls 7 [(0, .ref b), (1, .ref q_bf), (2, .ref q_mo), (3, .ref q_ou), (4, .int i)]) (kk : ∀ (H : Heap) (locs : List Loc) (ls : Array Slot), va_P (my_D Γ) vwCl ((wBF Γ q_bf q_tx q_fl q_flT q_hi q_s1 q_s2 q_fd q_kc q_kr  ++ wFloor Γ q_fl q_k q_c q_a q_pa q_b q_pb vi vj vk vc va vpa vb vpb ++ wOut Γ q_ou vou_z ++ wModel Γ q_mo q_tt q_nw q_tr q_ot q_di q_kp q_ik q_wy q_ah q_tg q_ws q_fr q_rw mi_z vtt vnw vtr vot vdi vkp vik vwy vah vtg vws vfr vrw) ++ R_) H → va_D (fun q : Nat => s.heap.size ≤ q) ((wBF Γ q_bf q_tx q_fl q_flT q_hi q_s1 q_s2 q_fd q_kc q_kr  ++ wFloor Γ q_fl q_k q_c q_a q_pa q_b q_pb vi vj vk vc va vpa vb vpb ++ wOut Γ q_ou vou_z ++ wModel Γ q_mo q_tt q_nw q_tr q_ot q_di q_kp q_ik q_wy q_ah q_tg q_ws q_fr q_rw mi_z vtt vnw vtr vot vdi vkp vik vwy vah vtg vws vfr vrw) ++ R_) → va_S (fun q : Nat => s.heap.size ≤ q) s.heap H locs → lv_has ls 7 [(0, .ref b), (1, .ref q_bf), (2, .ref q_mo), (3, .ref q_ou), (4, .int i)] → W p l e room_1 s m #[Value.ref b] below meth c H locs (nc + 3) (ns + 18) Q (F0 m 2260 ls [])) : W p l e room_1 s m #[Value.ref b] below meth c H locs nc ns Q (F0 m 1097 ls []) := by
  have hA : ∀ q : Nat, s.heap.size ≤ q → (fun q : Nat => s.heap.size ≤ q) q := fun _ h => h
  have hbA : ¬ (fun q : Nat => s.heap.size ≤ q) b := Nat.not_le.mpr hbl
  unfold mLaw_instructionAt at hm
  refine lv_aload_n hx hb dL_law_1097 rfl (lv_at hl 1 rfl) ?_
  refine lv_aload_n hx hb dL_law_1098 rfl (lv_at hl 0 rfl) ?_
  refine lv_iload hx hb dL_law_1099 (lv_at hl 4 rfl) ?_
  refine lv_iconst (v := (1 : Int32)) hx hb dL_law_1101 (by decide) ?_
  refine lv_iadd hx hb dL_law_1102 ?_
  refine va_sld hx hb hX hbl hbA hS hi1 dL_law_1103 ?_
  refine lv_aload_n hx hb dL_law_1104 rfl (lv_at hl 0 rfl) ?_
  refine lv_iload hx hb dL_law_1105 (lv_at hl 4 rfl) ?_
  refine lv_iconst (v := (2 : Int32)) hx hb dL_law_1107 (by decide) ?_
  refine lv_iadd hx hb dL_law_1108 ?_
  refine va_sld hx hb hX hbl hbA hS hi2 dL_law_1109 ?_
  refine lv_aload_n hx hb dL_law_1110 rfl (lv_at hl 3 rfl) ?_
  obtain ⟨r_1, vou_2, hc_3, hm⟩ := bo2_s hm
  refine my_callRW1 (wc := (wBF Γ q_bf q_tx q_fl q_flT q_hi q_s1 q_s2 q_fd q_kc q_kr  ++ wFloor Γ q_fl q_k q_c q_a q_pa q_b q_pb vi vj vk vc va vpa vb vpb ++ wOut Γ q_ou vou)) (w1 := (wBF Γ q_bf q_tx q_fl q_flT q_hi q_s1 q_s2 q_fd q_kc q_kr  ++ wFloor Γ q_fl q_k q_c q_a q_pa q_b q_pb vi vj vk vc va vpa vb vpb ++ wOut Γ q_ou vou_2)) (wa1 := (wBF Γ q_bf q_tx q_fl q_flT q_hi q_s1 q_s2 q_fd q_kc q_kr  ++ wFloor Γ q_fl q_k q_c q_a q_pa q_b q_pb vi vj vk vc va vpa vb vpb ++ wOut Γ q_ou vou_2 ++ wModel Γ q_mo q_tt q_nw q_tr q_ot q_di q_kp q_ik q_wy q_ah q_tg q_ws q_fr q_rw mi vtt vnw vtr vot vdi vkp vik vwy vah vtg vws vfr vrw)) hP hD hS hA [0, 1, 2, 3, 4, 5, 6, 7, 8] rfl rfl rfl rfl (vx_runSW (As := [.ref q_bf, .int (xs (i + (1 : Int32)).toNatClampNeg), .int (xs (i + (2 : Int32)).toNatClampNeg), .ref q_ou]) (rest := []) ⟨hx, hb, hml, hown, hts⟩ (kL_instructionAt l Γ hfl q_bf q_fl q_k q_c q_a q_pa q_b q_pb q_ou q_tx q_flT q_hi q_s1 q_s2 q_fd q_kc q_kr vi vj vk vc va vpa vb vpb vou (xs (i + (1 : Int32)).toNatClampNeg) (xs (i + (2 : Int32)).toNatClampNeg) r_1 vou_2 hc_3 _) (vx_cwSW 4 hts gL_law_L_instructionAt rfl rfl rfl (by decide +kernel) ⟨Nat.le_of_ble_eq_true rfl, Nat.le_of_ble_eq_true rfl⟩) (my_preSW (wc := (wBF Γ q_bf q_tx q_fl q_flT q_hi q_s1 q_s2 q_fd q_kc q_kr  ++ wFloor Γ q_fl q_k q_c q_a q_pa q_b q_pb vi vj vk vc va vpa vb vpb ++ wOut Γ q_ou vou)) [0, 1, 2, 3, 4, 5, 6, 7, 8] hK hP hD hS hA hZ hstr hnc rfl rfl) rfl rfl hl.1 rfl (lv_room (Nat.le_of_ble_eq_true rfl)) dL_law_1111 ⟨Nat.le_trans (Nat.add_le_add_left (Nat.le_of_ble_eq_true rfl) nc) hn, Nat.le_trans (Nat.add_le_add_left (Nat.le_of_ble_eq_true rfl) ns) hk⟩) (fun H locs hP hD hS => ?_)
  refine W.widen (k := nc + 3) (n := ns + 18) (Nat.add_le_add_left (Nat.le_of_ble_eq_true rfl) nc) (Nat.add_le_add_left (Nat.le_of_ble_eq_true rfl) ns) ?_
  refine lv_istore (lv' := [(5, .int r_1), (0, .ref b), (1, .ref q_bf), (2, .ref q_mo), (3, .ref q_ou), (4, .int i)]) hx hb dL_law_1114 hl (by decide) rfl (fun ls hl => ?_)
  refine lv_aload_n hx hb dL_law_1116 rfl (lv_at hl 3 rfl) ?_
  refine lv_aload_n hx hb dL_law_1117 rfl (lv_at hl 1 rfl) ?_
  refine lv_iload hx hb dL_law_1118 (lv_at hl 5 rfl) ?_
  refine lv_iconst (v := (1 : Int32)) hx hb dL_law_1120 (by decide) ?_
  refine lv_iadd hx hb dL_law_1121 ?_
  refine va_sld hx hb hX hbl hbA hS hi1 dL_law_1122 ?_
  refine lv_aload_n hx hb dL_law_1123 rfl (lv_at hl 1 rfl) ?_
  refine lv_iload hx hb dL_law_1124 (lv_at hl 5 rfl) ?_
  refine lv_iconst (v := (2 : Int32)) hx hb dL_law_1126 (by decide) ?_
  refine lv_iadd hx hb dL_law_1127 ?_
  refine va_sld hx hb hX hbl hbA hS hi2 dL_law_1128 ?_
  obtain ⟨r_4, mi_5, hc_6, hm⟩ := bo2_s hm
  refine my_callR1 (wc := (wModel Γ q_mo q_tt q_nw q_tr q_ot q_di q_kp q_ik q_wy q_ah q_tg q_ws q_fr q_rw mi vtt vnw vtr vot vdi vkp vik vwy vah vtg vws vfr vrw)) (w1 := (wModel Γ q_mo q_tt q_nw q_tr q_ot q_di q_kp q_ik q_wy q_ah q_tg q_ws q_fr q_rw mi_5 vtt vnw vtr vot vdi vkp vik vwy vah vtg vws vfr vrw)) (wa1 := (wBF Γ q_bf q_tx q_fl q_flT q_hi q_s1 q_s2 q_fd q_kc q_kr  ++ wFloor Γ q_fl q_k q_c q_a q_pa q_b q_pb vi vj vk vc va vpa vb vpb ++ wOut Γ q_ou vou_2 ++ wModel Γ q_mo q_tt q_nw q_tr q_ot q_di q_kp q_ik q_wy q_ah q_tg q_ws q_fr q_rw mi_5 vtt vnw vtr vot vdi vkp vik vwy vah vtg vws vfr vrw)) hP hD hS hA [9, 10, 11, 12, 13, 14, 15, 16, 17, 18, 19, 20, 21, 22] rfl rfl rfl rfl (va_runV (As := [.int (xs (i + (1 : Int32)).toNatClampNeg), .int (xs (i + (2 : Int32)).toNatClampNeg)]) (rest := []) ⟨hx, hb, hml, hown, hts⟩ (kX9_instructionAt l Γ q_mo q_tt q_nw q_tr q_ot q_di q_kp q_ik q_wy q_ah q_tg q_ws q_fr q_rw mi vtt vnw vtr vot vdi vkp vik vwy vah vtg vws vfr vrw (xs (i + (1 : Int32)).toNatClampNeg) (xs (i + (2 : Int32)).toNatClampNeg) r_4 mi_5 hc_6 _) (cwV 2 hts gL_law_X9_instructionAt rfl rfl rfl (by decide +kernel) ⟨Nat.le_of_ble_eq_true rfl, Nat.le_of_ble_eq_true rfl⟩) (my_preV (wc := (wModel Γ q_mo q_tt q_nw q_tr q_ot q_di q_kp q_ik q_wy q_ah q_tg q_ws q_fr q_rw mi vtt vnw vtr vot vdi vkp vik vwy vah vtg vws vfr vrw)) (ci := 7) (q0 := 9) [9, 10, 11, 12, 13, 14, 15, 16, 17, 18, 19, 20, 21, 22] hK hP hD rfl rfl rfl rfl) rfl rfl hl.1 rfl (lv_room (Nat.le_of_ble_eq_true rfl)) dL_law_1129 ⟨hn, hk⟩) (fun H locs hP hD hS => ?_)
  refine lv_istore (lv' := [(6, .int r_4), (5, .int r_1), (0, .ref b), (1, .ref q_bf), (2, .ref q_mo), (3, .ref q_ou), (4, .int i)]) hx hb dL_law_1132 hl (by decide) rfl (fun ls hl => ?_)
  refine lv_aload_n hx hb dL_law_1134 rfl (lv_at hl 4 rfl) ?_
  refine my_callR1 (wc := (wMo Γ q_mo q_tt q_nw q_tr q_ot q_di q_kp q_ik q_wy q_ah q_tg q_ws q_fr q_rw mi_5)) (w1 := (wMo Γ q_mo q_tt q_nw q_tr q_ot q_di q_kp q_ik q_wy q_ah q_tg q_ws q_fr q_rw mi_5)) (wa1 := (wBF Γ q_bf q_tx q_fl q_flT q_hi q_s1 q_s2 q_fd q_kc q_kr  ++ wFloor Γ q_fl q_k q_c q_a q_pa q_b q_pb vi vj vk vc va vpa vb vpb ++ wOut Γ q_ou vou_2 ++ wModel Γ q_mo q_tt q_nw q_tr q_ot q_di q_kp q_ik q_wy q_ah q_tg q_ws q_fr q_rw mi_5 vtt vnw vtr vot vdi vkp vik vwy vah vtg vws vfr vrw)) hP hD hS hA [9] rfl rfl rfl rfl (va_runV (As := []) (rest := []) ⟨hx, hb, hml, hown, hts⟩ (kX9_thrown l Γ q_mo q_tt q_nw q_tr q_ot q_di q_kp q_ik q_wy q_ah q_tg q_ws q_fr q_rw mi_5 (mX9_thrown mi_5) rfl _) (cwV 0 hts gL_law_X9_thrown rfl rfl rfl (by decide +kernel) ⟨Nat.le_of_ble_eq_true rfl, Nat.le_of_ble_eq_true rfl⟩) (my_preV (wc := (wMo Γ q_mo q_tt q_nw q_tr q_ot q_di q_kp q_ik q_wy q_ah q_tg q_ws q_fr q_rw mi_5)) (ci := 7) (q0 := 9) [9] hK hP hD rfl rfl rfl rfl) rfl rfl hl.1 rfl (lv_room (Nat.le_of_ble_eq_true rfl)) dL_law_1135 ⟨hn, hk⟩) (fun H locs hP hD hS => ?_)
  refine lv_iload hx hb dL_law_1138 (lv_at hl 1 rfl) ?_
  refine lv_icmp_eq (tgt := 1145) hx hb dL_law_1140 (by decide) (fun c_7 => ?_) (fun c_7 => ?_)
  · replace hm := if_s hm c_7
    refine lv_iload hx hb dL_law_1145 (lv_at hl 1 rfl) ?_
    refine lv_if_ne (tgt := 1162) hx hb dL_law_1147 (by decide) (fun c_8 => ?_) (fun c_8 => ?_)
    · replace hm := if_f hm c_8
      refine lv_goto (tgt := 2260) hx hb dL_law_1162 (by decide) ?_
      obtain ⟨hf0, hf1⟩ := si2 hm
      subst hf0
      subst hf1
      exact kk _ _ _ hP hD hS (lv_sub hl [2, 3, 4, 5, 6] rfl)
    · replace hm := if_s hm c_8
      refine lv_aload_n hx hb dL_law_1150 rfl (lv_at hl 5 rfl) ?_
      refine lv_iconst (v := (0 : Int32)) hx hb dL_law_1151 (by decide) ?_
      refine va_lald hx hb hK hP 8 1 rfl rfl (show vp_in (0 : Int32) 1 from (by decide : ¬ ((0 : Int32) < 0 ∨ 1 ≤ (0 : Int32).toNatClampNeg))) dL_law_1152 ?_
      refine lv_iload hx hb dL_law_1153 (lv_at hl 0 rfl) ?_
      refine lv_i2l (v := r_4.toInt64) hx hb dL_law_1155 rfl ?_
      refine W.lcmp hx hb dL_law_1156 ?_
      refine lv_if_eq (tgt := 1162) hx hb dL_law_1157 (by decide) (fun c_9 => ?_) (fun c_9 => ?_)
      · replace hm := if_s hm c_9
        refine lv_goto (tgt := 2260) hx hb dL_law_1162 (by decide) ?_
        obtain ⟨hf0, hf1⟩ := si2 hm
        subst hf0
        subst hf1
        exact kk _ _ _ hP hD hS (lv_sub hl [2, 3, 4, 5, 6] rfl)
      · replace hm := if_f hm c_9
        refine lv_iconst (v := (0 : Int32)) hx hb dL_law_1160 (by decide) ?_
        cases hm
  · replace hm := if_f hm c_7
    refine lv_iconst (v := (0 : Int32)) hx hb dL_law_1143 (by decide) ?_
    cases hm
def mLaw_placeOf (va : Nat → Int32) (vb : Nat → Int32) (vou : Nat → Int64) (mi : Nat → Int32) (vnw : Nat → Int32) (xs : Nat → Int32) (i : Int32) : Option ((Nat → Int64) × (Nat → Int32)) := (bo2 (mL_placeOf va vb vou (xs (i + (1 : Int32)).toNatClampNeg)) (fun r_1 vou_2 => (bo2 (mX9_placeOf mi vnw (xs (i + (1 : Int32)).toNatClampNeg)) (fun r_4 mi_5 => (if (mX9_thrown mi_5) = r_1 then (if r_1 = 0 then (if (lg_cmp (vou_2 (0 : Int32).toNatClampNeg) (r_4.toInt64)) = 0 then (some (vou_2, mi_5)) else none) else (some (vou_2, mi_5))) else none)))))
set_option maxHeartbeats 4000000 in
set_option maxRecDepth 100000 in
theorem kLaw_placeOf (l : Launch) (Γ : my_G) (hfl : l.stackTraces = false) {p : Program} {e : Env} {s : State} {m : MethodId} {below : List Frame} {meth : Method} {c : Code} {b L : Nat} {xs : Nat → Int32} {Q : State → Prop} (hx : p.tables.exec = Jvm.exec) (hb : c.code = cL_law) (hml : c.maxLocals = 7) (hown : s.vm.findClass RL = some m.cls) (hts : ∀ w ∈ wsL_law, w.before #[Value.ref b] s = true) (hX : va_X b L xs s s.heap) (hbl : b < s.heap.size) (hK : my_K Γ s) (hZ : my_ZZ (fun q : Nat => s.heap.size ≤ q) s s.heap) (hstr : my_str s) (hnc : my_nc s) (q_bf q_fl q_k q_c q_a q_pa q_b q_pb q_ou q_mo q_tt q_nw q_tr q_ot q_di q_kp q_ik q_wy q_ah q_tg q_ws q_fr q_rw q_tx q_flT q_hi q_s1 q_s2 q_fd q_kc q_kr : Nat) (vi : Nat → Int32) (vj : Nat → Int64) (vk : Nat → Int32) (vc : Nat → Int32) (va : Nat → Int32) (vpa : Nat → Int32) (vb : Nat → Int32) (vpb : Nat → Int32) (vou : Nat → Int64) (mi : Nat → Int32) (vtt : Nat → Int32) (vnw : Nat → Int32) (vtr : Nat → Int32) (vot : Nat → Int32) (vdi : Nat → Int32) (vkp : Nat → Int32) (vik : Nat → Int32) (vwy : Nat → Int32) (vah : Nat → Int32) (vtg : Nat → Int32) (vws : Nat → Int32) (vfr : Nat → Int32) (vrw : Nat → Int32) (i : Int32) (hi1 : vp_in (i + (1 : Int32)) L) (hi2 : vp_in (i + (2 : Int32)) L) (hi3 : vp_in (i + (3 : Int32)) L) (vou_z : Nat → Int64) (mi_z : Nat → Int32) (hm : mLaw_placeOf va vb vou mi vnw xs i = (some (vou_z, mi_z))) (R_ : va_W) (nc ns : Nat) (hn : nc + 3 ≤ room_1.cells) (hk : ns + 18 ≤ room_1.slots) (H : Heap) (locs : List Loc) (ls : Array Slot) (hP : va_P (my_D Γ) vwCl ((wBF Γ q_bf q_tx q_fl q_flT q_hi q_s1 q_s2 q_fd q_kc q_kr  ++ wFloor Γ q_fl q_k q_c q_a q_pa q_b q_pb vi vj vk vc va vpa vb vpb ++ wOut Γ q_ou vou ++ wModel Γ q_mo q_tt q_nw q_tr q_ot q_di q_kp q_ik q_wy q_ah q_tg q_ws q_fr q_rw mi vtt vnw vtr vot vdi vkp vik vwy vah vtg vws vfr vrw) ++ R_) H) (hD : va_D (fun q : Nat => s.heap.size ≤ q) ((wBF Γ q_bf q_tx q_fl q_flT q_hi q_s1 q_s2 q_fd q_kc q_kr  ++ wFloor Γ q_fl q_k q_c q_a q_pa q_b q_pb vi vj vk vc va vpa vb vpb ++ wOut Γ q_ou vou ++ wModel Γ q_mo q_tt q_nw q_tr q_ot q_di q_kp q_ik q_wy q_ah q_tg q_ws q_fr q_rw mi vtt vnw vtr vot vdi vkp vik vwy vah vtg vws vfr vrw) ++ R_)) (hS : va_S (fun q : Nat => s.heap.size ≤ q) s.heap H locs) (hl : lv_has ls 7 [(0, .ref b), (1, .ref q_bf), (2, .ref q_mo), (3, .ref q_ou), (4, .int i)]) (kk : ∀ (H : Heap) (locs : List Loc) (ls : Array Slot), va_P (my_D Γ) vwCl ((wBF Γ q_bf q_tx q_fl q_flT q_hi q_s1 q_s2 q_fd q_kc q_kr  ++ wFloor Γ q_fl q_k q_c q_a q_pa q_b q_pb vi vj vk vc va vpa vb vpb ++ wOut Γ q_ou vou_z ++ wModel Γ q_mo q_tt q_nw q_tr q_ot q_di q_kp q_ik q_wy q_ah q_tg q_ws q_fr q_rw mi_z vtt vnw vtr vot vdi vkp vik vwy vah vtg vws vfr vrw) ++ R_) H → va_D (fun q : Nat => s.heap.size ≤ q) ((wBF Γ q_bf q_tx q_fl q_flT q_hi q_s1 q_s2 q_fd q_kc q_kr  ++ wFloor Γ q_fl q_k q_c q_a q_pa q_b q_pb vi vj vk vc va vpa vb vpb ++ wOut Γ q_ou vou_z ++ wModel Γ q_mo q_tt q_nw q_tr q_ot q_di q_kp q_ik q_wy q_ah q_tg q_ws q_fr q_rw mi_z vtt vnw vtr vot vdi vkp vik vwy vah vtg vws vfr vrw) ++ R_) → va_S (fun q : Nat => s.heap.size ≤ q) s.heap H locs → lv_has ls 7 [(0, .ref b), (1, .ref q_bf), (2, .ref q_mo), (3, .ref q_ou), (4, .int i)] → W p l e room_1 s m #[Value.ref b] below meth c H locs (nc + 3) (ns + 18) Q (F0 m 2260 ls [])) : W p l e room_1 s m #[Value.ref b] below meth c H locs nc ns Q (F0 m 1165 ls []) := by
  have hA : ∀ q : Nat, s.heap.size ≤ q → (fun q : Nat => s.heap.size ≤ q) q := fun _ h => h
  have hbA : ¬ (fun q : Nat => s.heap.size ≤ q) b := Nat.not_le.mpr hbl
  unfold mLaw_placeOf at hm
  refine lv_aload_n hx hb dL_law_1165 rfl (lv_at hl 1 rfl) ?_
  refine lv_aload_n hx hb dL_law_1166 rfl (lv_at hl 0 rfl) ?_
  refine lv_iload hx hb dL_law_1167 (lv_at hl 4 rfl) ?_
  refine lv_iconst (v := (1 : Int32)) hx hb dL_law_1169 (by decide) ?_
  refine lv_iadd hx hb dL_law_1170 ?_
  refine va_sld hx hb hX hbl hbA hS hi1 dL_law_1171 ?_
  refine lv_aload_n hx hb dL_law_1172 rfl (lv_at hl 3 rfl) ?_
  obtain ⟨r_1, vou_2, hc_3, hm⟩ := bo2_s hm
  refine my_callRW1 (wc := (wBF Γ q_bf q_tx q_fl q_flT q_hi q_s1 q_s2 q_fd q_kc q_kr  ++ wFloor Γ q_fl q_k q_c q_a q_pa q_b q_pb vi vj vk vc va vpa vb vpb ++ wOut Γ q_ou vou)) (w1 := (wBF Γ q_bf q_tx q_fl q_flT q_hi q_s1 q_s2 q_fd q_kc q_kr  ++ wFloor Γ q_fl q_k q_c q_a q_pa q_b q_pb vi vj vk vc va vpa vb vpb ++ wOut Γ q_ou vou_2)) (wa1 := (wBF Γ q_bf q_tx q_fl q_flT q_hi q_s1 q_s2 q_fd q_kc q_kr  ++ wFloor Γ q_fl q_k q_c q_a q_pa q_b q_pb vi vj vk vc va vpa vb vpb ++ wOut Γ q_ou vou_2 ++ wModel Γ q_mo q_tt q_nw q_tr q_ot q_di q_kp q_ik q_wy q_ah q_tg q_ws q_fr q_rw mi vtt vnw vtr vot vdi vkp vik vwy vah vtg vws vfr vrw)) hP hD hS hA [0, 1, 2, 3, 4, 5, 6, 7, 8] rfl rfl rfl rfl (vx_runSW (As := [.ref q_bf, .int (xs (i + (1 : Int32)).toNatClampNeg), .ref q_ou]) (rest := []) ⟨hx, hb, hml, hown, hts⟩ (kL_placeOf l Γ hfl q_bf q_fl q_k q_c q_a q_pa q_b q_pb q_ou q_tx q_flT q_hi q_s1 q_s2 q_fd q_kc q_kr vi vj vk vc va vpa vb vpb vou (xs (i + (1 : Int32)).toNatClampNeg) r_1 vou_2 hc_3 _) (vx_cwSW 3 hts gL_law_L_placeOf rfl rfl rfl (by decide +kernel) ⟨Nat.le_of_ble_eq_true rfl, Nat.le_of_ble_eq_true rfl⟩) (my_preSW (wc := (wBF Γ q_bf q_tx q_fl q_flT q_hi q_s1 q_s2 q_fd q_kc q_kr  ++ wFloor Γ q_fl q_k q_c q_a q_pa q_b q_pb vi vj vk vc va vpa vb vpb ++ wOut Γ q_ou vou)) [0, 1, 2, 3, 4, 5, 6, 7, 8] hK hP hD hS hA hZ hstr hnc rfl rfl) rfl rfl hl.1 rfl (lv_room (Nat.le_of_ble_eq_true rfl)) dL_law_1173 ⟨Nat.le_trans (Nat.add_le_add_left (Nat.le_of_ble_eq_true rfl) nc) hn, Nat.le_trans (Nat.add_le_add_left (Nat.le_of_ble_eq_true rfl) ns) hk⟩) (fun H locs hP hD hS => ?_)
  refine W.widen (k := nc + 3) (n := ns + 18) (Nat.add_le_add_left (Nat.le_of_ble_eq_true rfl) nc) (Nat.add_le_add_left (Nat.le_of_ble_eq_true rfl) ns) ?_
  refine lv_istore (lv' := [(5, .int r_1), (0, .ref b), (1, .ref q_bf), (2, .ref q_mo), (3, .ref q_ou), (4, .int i)]) hx hb dL_law_1176 hl (by decide) rfl (fun ls hl => ?_)
  refine lv_aload_n hx hb dL_law_1178 rfl (lv_at hl 3 rfl) ?_
  refine lv_aload_n hx hb dL_law_1179 rfl (lv_at hl 1 rfl) ?_
  refine lv_iload hx hb dL_law_1180 (lv_at hl 5 rfl) ?_
  refine lv_iconst (v := (1 : Int32)) hx hb dL_law_1182 (by decide) ?_
  refine lv_iadd hx hb dL_law_1183 ?_
  refine va_sld hx hb hX hbl hbA hS hi1 dL_law_1184 ?_
  obtain ⟨r_4, mi_5, hc_6, hm⟩ := bo2_s hm
  refine my_callR1 (wc := (wModel Γ q_mo q_tt q_nw q_tr q_ot q_di q_kp q_ik q_wy q_ah q_tg q_ws q_fr q_rw mi vtt vnw vtr vot vdi vkp vik vwy vah vtg vws vfr vrw)) (w1 := (wModel Γ q_mo q_tt q_nw q_tr q_ot q_di q_kp q_ik q_wy q_ah q_tg q_ws q_fr q_rw mi_5 vtt vnw vtr vot vdi vkp vik vwy vah vtg vws vfr vrw)) (wa1 := (wBF Γ q_bf q_tx q_fl q_flT q_hi q_s1 q_s2 q_fd q_kc q_kr  ++ wFloor Γ q_fl q_k q_c q_a q_pa q_b q_pb vi vj vk vc va vpa vb vpb ++ wOut Γ q_ou vou_2 ++ wModel Γ q_mo q_tt q_nw q_tr q_ot q_di q_kp q_ik q_wy q_ah q_tg q_ws q_fr q_rw mi_5 vtt vnw vtr vot vdi vkp vik vwy vah vtg vws vfr vrw)) hP hD hS hA [9, 10, 11, 12, 13, 14, 15, 16, 17, 18, 19, 20, 21, 22] rfl rfl rfl rfl (va_runV (As := [.int (xs (i + (1 : Int32)).toNatClampNeg)]) (rest := []) ⟨hx, hb, hml, hown, hts⟩ (kX9_placeOf l Γ q_mo q_tt q_nw q_tr q_ot q_di q_kp q_ik q_wy q_ah q_tg q_ws q_fr q_rw mi vtt vnw vtr vot vdi vkp vik vwy vah vtg vws vfr vrw (xs (i + (1 : Int32)).toNatClampNeg) r_4 mi_5 hc_6 _) (cwV 1 hts gL_law_X9_placeOf rfl rfl rfl (by decide +kernel) ⟨Nat.le_of_ble_eq_true rfl, Nat.le_of_ble_eq_true rfl⟩) (my_preV (wc := (wModel Γ q_mo q_tt q_nw q_tr q_ot q_di q_kp q_ik q_wy q_ah q_tg q_ws q_fr q_rw mi vtt vnw vtr vot vdi vkp vik vwy vah vtg vws vfr vrw)) (ci := 7) (q0 := 9) [9, 10, 11, 12, 13, 14, 15, 16, 17, 18, 19, 20, 21, 22] hK hP hD rfl rfl rfl rfl) rfl rfl hl.1 rfl (lv_room (Nat.le_of_ble_eq_true rfl)) dL_law_1185 ⟨hn, hk⟩) (fun H locs hP hD hS => ?_)
  refine lv_istore (lv' := [(6, .int r_4), (5, .int r_1), (0, .ref b), (1, .ref q_bf), (2, .ref q_mo), (3, .ref q_ou), (4, .int i)]) hx hb dL_law_1188 hl (by decide) rfl (fun ls hl => ?_)
  refine lv_aload_n hx hb dL_law_1190 rfl (lv_at hl 4 rfl) ?_
  refine my_callR1 (wc := (wMo Γ q_mo q_tt q_nw q_tr q_ot q_di q_kp q_ik q_wy q_ah q_tg q_ws q_fr q_rw mi_5)) (w1 := (wMo Γ q_mo q_tt q_nw q_tr q_ot q_di q_kp q_ik q_wy q_ah q_tg q_ws q_fr q_rw mi_5)) (wa1 := (wBF Γ q_bf q_tx q_fl q_flT q_hi q_s1 q_s2 q_fd q_kc q_kr  ++ wFloor Γ q_fl q_k q_c q_a q_pa q_b q_pb vi vj vk vc va vpa vb vpb ++ wOut Γ q_ou vou_2 ++ wModel Γ q_mo q_tt q_nw q_tr q_ot q_di q_kp q_ik q_wy q_ah q_tg q_ws q_fr q_rw mi_5 vtt vnw vtr vot vdi vkp vik vwy vah vtg vws vfr vrw)) hP hD hS hA [9] rfl rfl rfl rfl (va_runV (As := []) (rest := []) ⟨hx, hb, hml, hown, hts⟩ (kX9_thrown l Γ q_mo q_tt q_nw q_tr q_ot q_di q_kp q_ik q_wy q_ah q_tg q_ws q_fr q_rw mi_5 (mX9_thrown mi_5) rfl _) (cwV 0 hts gL_law_X9_thrown rfl rfl rfl (by decide +kernel) ⟨Nat.le_of_ble_eq_true rfl, Nat.le_of_ble_eq_true rfl⟩) (my_preV (wc := (wMo Γ q_mo q_tt q_nw q_tr q_ot q_di q_kp q_ik q_wy q_ah q_tg q_ws q_fr q_rw mi_5)) (ci := 7) (q0 := 9) [9] hK hP hD rfl rfl rfl rfl) rfl rfl hl.1 rfl (lv_room (Nat.le_of_ble_eq_true rfl)) dL_law_1191 ⟨hn, hk⟩) (fun H locs hP hD hS => ?_)
  refine lv_iload hx hb dL_law_1194 (lv_at hl 1 rfl) ?_
  refine lv_icmp_eq (tgt := 1201) hx hb dL_law_1196 (by decide) (fun c_7 => ?_) (fun c_7 => ?_)
  · replace hm := if_s hm c_7
    refine lv_iload hx hb dL_law_1201 (lv_at hl 1 rfl) ?_
    refine lv_if_ne (tgt := 1218) hx hb dL_law_1203 (by decide) (fun c_8 => ?_) (fun c_8 => ?_)
    · replace hm := if_f hm c_8
      refine lv_goto (tgt := 2260) hx hb dL_law_1218 (by decide) ?_
      obtain ⟨hf0, hf1⟩ := si2 hm
      subst hf0
      subst hf1
      exact kk _ _ _ hP hD hS (lv_sub hl [2, 3, 4, 5, 6] rfl)
    · replace hm := if_s hm c_8
      refine lv_aload_n hx hb dL_law_1206 rfl (lv_at hl 5 rfl) ?_
      refine lv_iconst (v := (0 : Int32)) hx hb dL_law_1207 (by decide) ?_
      refine va_lald hx hb hK hP 8 1 rfl rfl (show vp_in (0 : Int32) 1 from (by decide : ¬ ((0 : Int32) < 0 ∨ 1 ≤ (0 : Int32).toNatClampNeg))) dL_law_1208 ?_
      refine lv_iload hx hb dL_law_1209 (lv_at hl 0 rfl) ?_
      refine lv_i2l (v := r_4.toInt64) hx hb dL_law_1211 rfl ?_
      refine W.lcmp hx hb dL_law_1212 ?_
      refine lv_if_eq (tgt := 1218) hx hb dL_law_1213 (by decide) (fun c_9 => ?_) (fun c_9 => ?_)
      · replace hm := if_s hm c_9
        refine lv_goto (tgt := 2260) hx hb dL_law_1218 (by decide) ?_
        obtain ⟨hf0, hf1⟩ := si2 hm
        subst hf0
        subst hf1
        exact kk _ _ _ hP hD hS (lv_sub hl [2, 3, 4, 5, 6] rfl)
      · replace hm := if_f hm c_9
        refine lv_iconst (v := (0 : Int32)) hx hb dL_law_1216 (by decide) ?_
        cases hm
  · replace hm := if_f hm c_7
    refine lv_iconst (v := (0 : Int32)) hx hb dL_law_1199 (by decide) ?_
    cases hm
def mLaw_setKind (vi : Nat → Int32) (vj : Nat → Int64) (vk : Nat → Int32) (vc : Nat → Int32) (va : Nat → Int32) (vpa : Nat → Int32) (vb : Nat → Int32) (vpb : Nat → Int32) (vh : Nat → Int32) (vhs : Nat → Option Nat) (vi2 : Nat → Int32) (vj2 : Nat → Int64) (vk2 : Nat → Int32) (vc2 : Nat → Int32) (va2 : Nat → Int32) (vpa2 : Nat → Int32) (vb2 : Nat → Int32) (vpb2 : Nat → Int32) (vou : Nat → Int64) (mi : Nat → Int32) (vnw : Nat → Int32) (vdi : Nat → Int32) (q_fl2 : Nat) (xs : Nat → Int32) (i : Int32) : Option ((Nat → Int64) × (Nat → Int32) × (Nat → Int32) × (Nat → Int32) × (Nat → Int64) × (Nat → Int32) × (Nat → Int32) × (Nat → Int32) × (Nat → Int32) × (Nat → Int32) × (Nat → Int32) × (Nat → Int64) × (Nat → Int32) × (Nat → Int32) × (Nat → Int32)) := (bo13 (mL_setKind vi vj vk vc va vpa vb vpb vh vhs vi2 vj2 vk2 vc2 va2 vpa2 vb2 vpb2 vou q_fl2 (xs (i + (1 : Int32)).toNatClampNeg) (xs (i + (2 : Int32)).toNatClampNeg)) (fun r_1 vj_2 vk_3 vh_4 vi2_5 vj2_6 vk2_7 vc2_8 va2_9 vpa2_10 vb2_11 vpb2_12 vou_13 => (bo4 (mX9_setKind mi vnw vdi (xs (i + (1 : Int32)).toNatClampNeg) (xs (i + (2 : Int32)).toNatClampNeg)) (fun r_15 mi_16 vnw_17 vdi_18 => (if (mX9_thrown mi_16) = r_1 then (if r_1 = 0 then (if (lg_cmp (vou_13 (0 : Int32).toNatClampNeg) (r_15.toInt64)) = 0 then (some (vj_2, vk_3, vh_4, vi2_5, vj2_6, vk2_7, vc2_8, va2_9, vpa2_10, vb2_11, vpb2_12, vou_13, mi_16, vnw_17, vdi_18)) else none) else (some (vj_2, vk_3, vh_4, vi2_5, vj2_6, vk2_7, vc2_8, va2_9, vpa2_10, vb2_11, vpb2_12, vou_13, mi_16, vnw_17, vdi_18))) else none)))))
set_option maxHeartbeats 4000000 in
set_option maxRecDepth 100000 in
theorem kLaw_setKind (l : Launch) (Γ : my_G) (hfl : l.stackTraces = false) {p : Program} {e : Env} {s : State} {m : MethodId} {below : List Frame} {meth : Method} {c : Code} {b L : Nat} {xs : Nat → Int32} {Q : State → Prop} (hx : p.tables.exec = Jvm.exec) (hb : c.code = cL_law) (hml : c.maxLocals = 7) (hown : s.vm.findClass RL = some m.cls) (hts : ∀ w ∈ wsL_law, w.before #[Value.ref b] s = true) (hX : va_X b L xs s s.heap) (hbl : b < s.heap.size) (hK : my_K Γ s) (hZ : my_ZZ (fun q : Nat => s.heap.size ≤ q) s s.heap) (hstr : my_str s) (hnc : my_nc s) (q_bf q_fl q_k q_c q_a q_pa q_b q_pb q_hi q_hs q_fl2 q_k2 q_c2 q_a2 q_pa2 q_b2 q_pb2 q_ou q_mo q_tt q_nw q_tr q_ot q_di q_kp q_ik q_wy q_ah q_tg q_ws q_fr q_rw q_tx q_flT q_s1 q_s2 q_fd q_kc q_kr : Nat) (vi : Nat → Int32) (vj : Nat → Int64) (vk : Nat → Int32) (vc : Nat → Int32) (va : Nat → Int32) (vpa : Nat → Int32) (vb : Nat → Int32) (vpb : Nat → Int32) (vh : Nat → Int32) (vhs : Nat → Option Nat) (vi2 : Nat → Int32) (vj2 : Nat → Int64) (vk2 : Nat → Int32) (vc2 : Nat → Int32) (va2 : Nat → Int32) (vpa2 : Nat → Int32) (vb2 : Nat → Int32) (vpb2 : Nat → Int32) (vou : Nat → Int64) (mi : Nat → Int32) (vtt : Nat → Int32) (vnw : Nat → Int32) (vtr : Nat → Int32) (vot : Nat → Int32) (vdi : Nat → Int32) (vkp : Nat → Int32) (vik : Nat → Int32) (vwy : Nat → Int32) (vah : Nat → Int32) (vtg : Nat → Int32) (vws : Nat → Int32) (vfr : Nat → Int32) (vrw : Nat → Int32) (i : Int32) (hi1 : vp_in (i + (1 : Int32)) L) (hi2 : vp_in (i + (2 : Int32)) L) (hi3 : vp_in (i + (3 : Int32)) L) (vj_z : Nat → Int64) (vk_z : Nat → Int32) (vh_z : Nat → Int32) (vi2_z : Nat → Int32) (vj2_z : Nat → Int64) (vk2_z : Nat → Int32) (vc2_z : Nat → Int32) (va2_z : Nat → Int32) (vpa2_z : Nat → Int32) (vb2_z : Nat → Int32) (vpb2_z : Nat → Int32) (vou_z : Nat → Int64) (mi_z : Nat → Int32) (vnw_z : Nat → Int32) (vdi_z : Nat → Int32) (hm : mLaw_setKind vi vj vk vc va vpa vb vpb vh vhs vi2 vj2 vk2 vc2 va2 vpa2 vb2 vpb2 vou mi vnw vdi q_fl2 xs i = (some (vj_z, vk_z, vh_z, vi2_z, vj2_z, vk2_z, vc2_z, va2_z, vpa2_z, vb2_z, vpb2_z, vou_z, mi_z, vnw_z, vdi_z))) (R_ : va_W) (nc ns : Nat) (hn : nc + 3 ≤ room_1.cells) (hk : ns + 18 ≤ room_1.slots) (H : Heap) (locs : List Loc) (ls : Array Slot) (hP : va_P (my_D Γ) vwCl ((wBF Γ q_bf q_tx q_fl q_flT q_hi q_s1 q_s2 q_fd q_kc q_kr  ++ wFloor Γ q_fl q_k q_c q_a q_pa q_b q_pb vi vj vk vc va vpa vb vpb ++ wHist Γ q_hi q_hs vh vhs ++ wFloor Γ q_fl2 q_k2 q_c2 q_a2 q_pa2 q_b2 q_pb2 vi2 vj2 vk2 vc2 va2 vpa2 vb2 vpb2 ++ wOut Γ q_ou vou ++ wModel Γ q_mo q_tt q_nw q_tr q_ot q_di q_kp q_ik q_wy q_ah q_tg q_ws q_fr q_rw mi vtt vnw vtr vot vdi vkp vik vwy vah vtg vws vfr vrw) ++ R_) H) (hD : va_D (fun q : Nat => s.heap.size ≤ q) ((wBF Γ q_bf q_tx q_fl q_flT q_hi q_s1 q_s2 q_fd q_kc q_kr  ++ wFloor Γ q_fl q_k q_c q_a q_pa q_b q_pb vi vj vk vc va vpa vb vpb ++ wHist Γ q_hi q_hs vh vhs ++ wFloor Γ q_fl2 q_k2 q_c2 q_a2 q_pa2 q_b2 q_pb2 vi2 vj2 vk2 vc2 va2 vpa2 vb2 vpb2 ++ wOut Γ q_ou vou ++ wModel Γ q_mo q_tt q_nw q_tr q_ot q_di q_kp q_ik q_wy q_ah q_tg q_ws q_fr q_rw mi vtt vnw vtr vot vdi vkp vik vwy vah vtg vws vfr vrw) ++ R_)) (hS : va_S (fun q : Nat => s.heap.size ≤ q) s.heap H locs) (hl : lv_has ls 7 [(0, .ref b), (1, .ref q_bf), (2, .ref q_mo), (3, .ref q_ou), (4, .int i)]) (kk : ∀ (H : Heap) (locs : List Loc) (ls : Array Slot), va_P (my_D Γ) vwCl ((wBF Γ q_bf q_tx q_fl q_flT q_hi q_s1 q_s2 q_fd q_kc q_kr  ++ wFloor Γ q_fl q_k q_c q_a q_pa q_b q_pb vi vj_z vk_z vc va vpa vb vpb ++ wHist Γ q_hi q_hs vh_z vhs ++ wFloor Γ q_fl2 q_k2 q_c2 q_a2 q_pa2 q_b2 q_pb2 vi2_z vj2_z vk2_z vc2_z va2_z vpa2_z vb2_z vpb2_z ++ wOut Γ q_ou vou_z ++ wModel Γ q_mo q_tt q_nw q_tr q_ot q_di q_kp q_ik q_wy q_ah q_tg q_ws q_fr q_rw mi_z vtt vnw_z vtr vot vdi_z vkp vik vwy vah vtg vws vfr vrw) ++ R_) H → va_D (fun q : Nat => s.heap.size ≤ q) ((wBF Γ q_bf q_tx q_fl q_flT q_hi q_s1 q_s2 q_fd q_kc q_kr  ++ wFloor Γ q_fl q_k q_c q_a q_pa q_b q_pb vi vj_z vk_z vc va vpa vb vpb ++ wHist Γ q_hi q_hs vh_z vhs ++ wFloor Γ q_fl2 q_k2 q_c2 q_a2 q_pa2 q_b2 q_pb2 vi2_z vj2_z vk2_z vc2_z va2_z vpa2_z vb2_z vpb2_z ++ wOut Γ q_ou vou_z ++ wModel Γ q_mo q_tt q_nw q_tr q_ot q_di q_kp q_ik q_wy q_ah q_tg q_ws q_fr q_rw mi_z vtt vnw_z vtr vot vdi_z vkp vik vwy vah vtg vws vfr vrw) ++ R_) → va_S (fun q : Nat => s.heap.size ≤ q) s.heap H locs → lv_has ls 7 [(0, .ref b), (1, .ref q_bf), (2, .ref q_mo), (3, .ref q_ou), (4, .int i)] → W p l e room_1 s m #[Value.ref b] below meth c H locs (nc + 3) (ns + 18) Q (F0 m 2260 ls [])) : W p l e room_1 s m #[Value.ref b] below meth c H locs nc ns Q (F0 m 1221 ls []) := by
  have hA : ∀ q : Nat, s.heap.size ≤ q → (fun q : Nat => s.heap.size ≤ q) q := fun _ h => h
  have hbA : ¬ (fun q : Nat => s.heap.size ≤ q) b := Nat.not_le.mpr hbl
  unfold mLaw_setKind at hm
  refine lv_aload_n hx hb dL_law_1221 rfl (lv_at hl 1 rfl) ?_
  refine lv_aload_n hx hb dL_law_1222 rfl (lv_at hl 0 rfl) ?_
  refine lv_iload hx hb dL_law_1223 (lv_at hl 4 rfl) ?_
  refine lv_iconst (v := (1 : Int32)) hx hb dL_law_1225 (by decide) ?_
  refine lv_iadd hx hb dL_law_1226 ?_
  refine va_sld hx hb hX hbl hbA hS hi1 dL_law_1227 ?_
  refine lv_aload_n hx hb dL_law_1228 rfl (lv_at hl 0 rfl) ?_
  refine lv_iload hx hb dL_law_1229 (lv_at hl 4 rfl) ?_
  refine lv_iconst (v := (2 : Int32)) hx hb dL_law_1231 (by decide) ?_
  refine lv_iadd hx hb dL_law_1232 ?_
  refine va_sld hx hb hX hbl hbA hS hi2 dL_law_1233 ?_
  refine lv_aload_n hx hb dL_law_1234 rfl (lv_at hl 3 rfl) ?_
  obtain ⟨r_1, vj_2, vk_3, vh_4, vi2_5, vj2_6, vk2_7, vc2_8, va2_9, vpa2_10, vb2_11, vpb2_12, vou_13, hc_14, hm⟩ := bo13_s hm
  refine my_callRW1 (wc := (wBF Γ q_bf q_tx q_fl q_flT q_hi q_s1 q_s2 q_fd q_kc q_kr  ++ wFloor Γ q_fl q_k q_c q_a q_pa q_b q_pb vi vj vk vc va vpa vb vpb ++ wHist Γ q_hi q_hs vh vhs ++ wFloor Γ q_fl2 q_k2 q_c2 q_a2 q_pa2 q_b2 q_pb2 vi2 vj2 vk2 vc2 va2 vpa2 vb2 vpb2 ++ wOut Γ q_ou vou)) (w1 := (wBF Γ q_bf q_tx q_fl q_flT q_hi q_s1 q_s2 q_fd q_kc q_kr  ++ wFloor Γ q_fl q_k q_c q_a q_pa q_b q_pb vi vj_2 vk_3 vc va vpa vb vpb ++ wHist Γ q_hi q_hs vh_4 vhs ++ wFloor Γ q_fl2 q_k2 q_c2 q_a2 q_pa2 q_b2 q_pb2 vi2_5 vj2_6 vk2_7 vc2_8 va2_9 vpa2_10 vb2_11 vpb2_12 ++ wOut Γ q_ou vou_13)) (wa1 := (wBF Γ q_bf q_tx q_fl q_flT q_hi q_s1 q_s2 q_fd q_kc q_kr  ++ wFloor Γ q_fl q_k q_c q_a q_pa q_b q_pb vi vj_2 vk_3 vc va vpa vb vpb ++ wHist Γ q_hi q_hs vh_4 vhs ++ wFloor Γ q_fl2 q_k2 q_c2 q_a2 q_pa2 q_b2 q_pb2 vi2_5 vj2_6 vk2_7 vc2_8 va2_9 vpa2_10 vb2_11 vpb2_12 ++ wOut Γ q_ou vou_13 ++ wModel Γ q_mo q_tt q_nw q_tr q_ot q_di q_kp q_ik q_wy q_ah q_tg q_ws q_fr q_rw mi vtt vnw vtr vot vdi vkp vik vwy vah vtg vws vfr vrw)) hP hD hS hA [0, 1, 2, 3, 4, 5, 6, 7, 8, 9, 10, 11, 12, 13, 14, 15, 16, 17] rfl rfl rfl rfl (vx_runSW (As := [.ref q_bf, .int (xs (i + (1 : Int32)).toNatClampNeg), .int (xs (i + (2 : Int32)).toNatClampNeg), .ref q_ou]) (rest := []) ⟨hx, hb, hml, hown, hts⟩ (kL_setKind l Γ hfl q_bf q_fl q_k q_c q_a q_pa q_b q_pb q_hi q_hs q_fl2 q_k2 q_c2 q_a2 q_pa2 q_b2 q_pb2 q_ou q_tx q_flT q_s1 q_s2 q_fd q_kc q_kr vi vj vk vc va vpa vb vpb vh vhs vi2 vj2 vk2 vc2 va2 vpa2 vb2 vpb2 vou (xs (i + (1 : Int32)).toNatClampNeg) (xs (i + (2 : Int32)).toNatClampNeg) r_1 vj_2 vk_3 vh_4 vi2_5 vj2_6 vk2_7 vc2_8 va2_9 vpa2_10 vb2_11 vpb2_12 vou_13 hc_14 _) (vx_cwSW 4 hts gL_law_L_setKind rfl rfl rfl (by decide +kernel) ⟨Nat.le_of_ble_eq_true rfl, Nat.le_of_ble_eq_true rfl⟩) (my_preSW (wc := (wBF Γ q_bf q_tx q_fl q_flT q_hi q_s1 q_s2 q_fd q_kc q_kr  ++ wFloor Γ q_fl q_k q_c q_a q_pa q_b q_pb vi vj vk vc va vpa vb vpb ++ wHist Γ q_hi q_hs vh vhs ++ wFloor Γ q_fl2 q_k2 q_c2 q_a2 q_pa2 q_b2 q_pb2 vi2 vj2 vk2 vc2 va2 vpa2 vb2 vpb2 ++ wOut Γ q_ou vou)) [0, 1, 2, 3, 4, 5, 6, 7, 8, 9, 10, 11, 12, 13, 14, 15, 16, 17] hK hP hD hS hA hZ hstr hnc rfl rfl) rfl rfl hl.1 rfl (lv_room (Nat.le_of_ble_eq_true rfl)) dL_law_1235 ⟨Nat.le_trans (Nat.add_le_add_left (Nat.le_of_ble_eq_true rfl) nc) hn, Nat.le_trans (Nat.add_le_add_left (Nat.le_of_ble_eq_true rfl) ns) hk⟩) (fun H locs hP hD hS => ?_)
  refine W.widen (k := nc + 3) (n := ns + 18) (Nat.add_le_add_left (Nat.le_of_ble_eq_true rfl) nc) (Nat.add_le_add_left (Nat.le_of_ble_eq_true rfl) ns) ?_
  refine lv_istore (lv' := [(5, .int r_1), (0, .ref b), (1, .ref q_bf), (2, .ref q_mo), (3, .ref q_ou), (4, .int i)]) hx hb dL_law_1238 hl (by decide) rfl (fun ls hl => ?_)
  refine lv_aload_n hx hb dL_law_1240 rfl (lv_at hl 3 rfl) ?_
  refine lv_aload_n hx hb dL_law_1241 rfl (lv_at hl 1 rfl) ?_
  refine lv_iload hx hb dL_law_1242 (lv_at hl 5 rfl) ?_
  refine lv_iconst (v := (1 : Int32)) hx hb dL_law_1244 (by decide) ?_
  refine lv_iadd hx hb dL_law_1245 ?_
  refine va_sld hx hb hX hbl hbA hS hi1 dL_law_1246 ?_
  refine lv_aload_n hx hb dL_law_1247 rfl (lv_at hl 1 rfl) ?_
  refine lv_iload hx hb dL_law_1248 (lv_at hl 5 rfl) ?_
  refine lv_iconst (v := (2 : Int32)) hx hb dL_law_1250 (by decide) ?_
  refine lv_iadd hx hb dL_law_1251 ?_
  refine va_sld hx hb hX hbl hbA hS hi2 dL_law_1252 ?_
  obtain ⟨r_15, mi_16, vnw_17, vdi_18, hc_19, hm⟩ := bo4_s hm
  refine my_callR1 (wc := (wModel Γ q_mo q_tt q_nw q_tr q_ot q_di q_kp q_ik q_wy q_ah q_tg q_ws q_fr q_rw mi vtt vnw vtr vot vdi vkp vik vwy vah vtg vws vfr vrw)) (w1 := (wModel Γ q_mo q_tt q_nw q_tr q_ot q_di q_kp q_ik q_wy q_ah q_tg q_ws q_fr q_rw mi_16 vtt vnw_17 vtr vot vdi_18 vkp vik vwy vah vtg vws vfr vrw)) (wa1 := (wBF Γ q_bf q_tx q_fl q_flT q_hi q_s1 q_s2 q_fd q_kc q_kr  ++ wFloor Γ q_fl q_k q_c q_a q_pa q_b q_pb vi vj_2 vk_3 vc va vpa vb vpb ++ wHist Γ q_hi q_hs vh_4 vhs ++ wFloor Γ q_fl2 q_k2 q_c2 q_a2 q_pa2 q_b2 q_pb2 vi2_5 vj2_6 vk2_7 vc2_8 va2_9 vpa2_10 vb2_11 vpb2_12 ++ wOut Γ q_ou vou_13 ++ wModel Γ q_mo q_tt q_nw q_tr q_ot q_di q_kp q_ik q_wy q_ah q_tg q_ws q_fr q_rw mi_16 vtt vnw_17 vtr vot vdi_18 vkp vik vwy vah vtg vws vfr vrw)) hP hD hS hA [18, 19, 20, 21, 22, 23, 24, 25, 26, 27, 28, 29, 30, 31] rfl rfl rfl rfl (va_runV (As := [.int (xs (i + (1 : Int32)).toNatClampNeg), .int (xs (i + (2 : Int32)).toNatClampNeg)]) (rest := []) ⟨hx, hb, hml, hown, hts⟩ (kX9_setKind l Γ q_mo q_tt q_nw q_tr q_ot q_di q_kp q_ik q_wy q_ah q_tg q_ws q_fr q_rw mi vtt vnw vtr vot vdi vkp vik vwy vah vtg vws vfr vrw (xs (i + (1 : Int32)).toNatClampNeg) (xs (i + (2 : Int32)).toNatClampNeg) r_15 mi_16 vnw_17 vdi_18 hc_19 _) (cwV 2 hts gL_law_X9_setKind rfl rfl rfl (by decide +kernel) ⟨Nat.le_of_ble_eq_true rfl, Nat.le_of_ble_eq_true rfl⟩) (my_preV (wc := (wModel Γ q_mo q_tt q_nw q_tr q_ot q_di q_kp q_ik q_wy q_ah q_tg q_ws q_fr q_rw mi vtt vnw vtr vot vdi vkp vik vwy vah vtg vws vfr vrw)) (ci := 7) (q0 := 18) [18, 19, 20, 21, 22, 23, 24, 25, 26, 27, 28, 29, 30, 31] hK hP hD rfl rfl rfl rfl) rfl rfl hl.1 rfl (lv_room (Nat.le_of_ble_eq_true rfl)) dL_law_1253 ⟨hn, hk⟩) (fun H locs hP hD hS => ?_)
  refine lv_istore (lv' := [(6, .int r_15), (5, .int r_1), (0, .ref b), (1, .ref q_bf), (2, .ref q_mo), (3, .ref q_ou), (4, .int i)]) hx hb dL_law_1256 hl (by decide) rfl (fun ls hl => ?_)
  refine lv_aload_n hx hb dL_law_1258 rfl (lv_at hl 4 rfl) ?_
  refine my_callR1 (wc := (wMo Γ q_mo q_tt q_nw q_tr q_ot q_di q_kp q_ik q_wy q_ah q_tg q_ws q_fr q_rw mi_16)) (w1 := (wMo Γ q_mo q_tt q_nw q_tr q_ot q_di q_kp q_ik q_wy q_ah q_tg q_ws q_fr q_rw mi_16)) (wa1 := (wBF Γ q_bf q_tx q_fl q_flT q_hi q_s1 q_s2 q_fd q_kc q_kr  ++ wFloor Γ q_fl q_k q_c q_a q_pa q_b q_pb vi vj_2 vk_3 vc va vpa vb vpb ++ wHist Γ q_hi q_hs vh_4 vhs ++ wFloor Γ q_fl2 q_k2 q_c2 q_a2 q_pa2 q_b2 q_pb2 vi2_5 vj2_6 vk2_7 vc2_8 va2_9 vpa2_10 vb2_11 vpb2_12 ++ wOut Γ q_ou vou_13 ++ wModel Γ q_mo q_tt q_nw q_tr q_ot q_di q_kp q_ik q_wy q_ah q_tg q_ws q_fr q_rw mi_16 vtt vnw_17 vtr vot vdi_18 vkp vik vwy vah vtg vws vfr vrw)) hP hD hS hA [18] rfl rfl rfl rfl (va_runV (As := []) (rest := []) ⟨hx, hb, hml, hown, hts⟩ (kX9_thrown l Γ q_mo q_tt q_nw q_tr q_ot q_di q_kp q_ik q_wy q_ah q_tg q_ws q_fr q_rw mi_16 (mX9_thrown mi_16) rfl _) (cwV 0 hts gL_law_X9_thrown rfl rfl rfl (by decide +kernel) ⟨Nat.le_of_ble_eq_true rfl, Nat.le_of_ble_eq_true rfl⟩) (my_preV (wc := (wMo Γ q_mo q_tt q_nw q_tr q_ot q_di q_kp q_ik q_wy q_ah q_tg q_ws q_fr q_rw mi_16)) (ci := 7) (q0 := 18) [18] hK hP hD rfl rfl rfl rfl) rfl rfl hl.1 rfl (lv_room (Nat.le_of_ble_eq_true rfl)) dL_law_1259 ⟨hn, hk⟩) (fun H locs hP hD hS => ?_)
  refine lv_iload hx hb dL_law_1262 (lv_at hl 1 rfl) ?_
  refine lv_icmp_eq (tgt := 1269) hx hb dL_law_1264 (by decide) (fun c_20 => ?_) (fun c_20 => ?_)
  · replace hm := if_s hm c_20
    refine lv_iload hx hb dL_law_1269 (lv_at hl 1 rfl) ?_
    refine lv_if_ne (tgt := 1286) hx hb dL_law_1271 (by decide) (fun c_21 => ?_) (fun c_21 => ?_)
    · replace hm := if_f hm c_21
      refine lv_goto (tgt := 2260) hx hb dL_law_1286 (by decide) ?_
      obtain ⟨hf0, hf1, hf2, hf3, hf4, hf5, hf6, hf7, hf8, hf9, hf10, hf11, hf12, hf13, hf14⟩ := si15 hm
      subst hf0
      subst hf1
      subst hf2
      subst hf3
      subst hf4
      subst hf5
      subst hf6
      subst hf7
      subst hf8
      subst hf9
      subst hf10
      subst hf11
      subst hf12
      subst hf13
      subst hf14
      exact kk _ _ _ hP hD hS (lv_sub hl [2, 3, 4, 5, 6] rfl)
    · replace hm := if_s hm c_21
      refine lv_aload_n hx hb dL_law_1274 rfl (lv_at hl 5 rfl) ?_
      refine lv_iconst (v := (0 : Int32)) hx hb dL_law_1275 (by decide) ?_
      refine va_lald hx hb hK hP 17 1 rfl rfl (show vp_in (0 : Int32) 1 from (by decide : ¬ ((0 : Int32) < 0 ∨ 1 ≤ (0 : Int32).toNatClampNeg))) dL_law_1276 ?_
      refine lv_iload hx hb dL_law_1277 (lv_at hl 0 rfl) ?_
      refine lv_i2l (v := r_15.toInt64) hx hb dL_law_1279 rfl ?_
      refine W.lcmp hx hb dL_law_1280 ?_
      refine lv_if_eq (tgt := 1286) hx hb dL_law_1281 (by decide) (fun c_22 => ?_) (fun c_22 => ?_)
      · replace hm := if_s hm c_22
        refine lv_goto (tgt := 2260) hx hb dL_law_1286 (by decide) ?_
        obtain ⟨hf0, hf1, hf2, hf3, hf4, hf5, hf6, hf7, hf8, hf9, hf10, hf11, hf12, hf13, hf14⟩ := si15 hm
        subst hf0
        subst hf1
        subst hf2
        subst hf3
        subst hf4
        subst hf5
        subst hf6
        subst hf7
        subst hf8
        subst hf9
        subst hf10
        subst hf11
        subst hf12
        subst hf13
        subst hf14
        exact kk _ _ _ hP hD hS (lv_sub hl [2, 3, 4, 5, 6] rfl)
      · replace hm := if_f hm c_22
        refine lv_iconst (v := (0 : Int32)) hx hb dL_law_1284 (by decide) ?_
        cases hm
  · replace hm := if_f hm c_20
    refine lv_iconst (v := (0 : Int32)) hx hb dL_law_1267 (by decide) ?_
    cases hm
def mLaw_addCrate (vi : Nat → Int32) (vj : Nat → Int64) (vk : Nat → Int32) (vc : Nat → Int32) (va : Nat → Int32) (vpa : Nat → Int32) (vb : Nat → Int32) (vpb : Nat → Int32) (vh : Nat → Int32) (vhs : Nat → Option Nat) (vi2 : Nat → Int32) (vj2 : Nat → Int64) (vk2 : Nat → Int32) (vc2 : Nat → Int32) (va2 : Nat → Int32) (vpa2 : Nat → Int32) (vb2 : Nat → Int32) (vpb2 : Nat → Int32) (vou : Nat → Int64) (mi : Nat → Int32) (vnw : Nat → Int32) (vdi : Nat → Int32) (q_fl2 : Nat) (xs : Nat → Int32) (i : Int32) : Option ((Nat → Int32) × (Nat → Int64) × (Nat → Int32) × (Nat → Int32) × (Nat → Int64) × (Nat → Int32) × (Nat → Int32) × (Nat → Int32) × (Nat → Int32) × (Nat → Int32) × (Nat → Int32) × (Nat → Int64) × (Nat → Int32) × (Nat → Int32) × (Nat → Int32)) := (bo13 (mL_addCrate vi vj vk vc va vpa vb vpb vh vhs vi2 vj2 vk2 vc2 va2 vpa2 vb2 vpb2 vou q_fl2 (xs (i + (1 : Int32)).toNatClampNeg)) (fun r_1 vi_2 vj_3 vh_4 vi2_5 vj2_6 vk2_7 vc2_8 va2_9 vpa2_10 vb2_11 vpb2_12 vou_13 => (bo4 (mX9_addCrate mi vnw vdi (xs (i + (1 : Int32)).toNatClampNeg)) (fun r_15 mi_16 vnw_17 vdi_18 => (if (mX9_thrown mi_16) = r_1 then (if r_1 = 0 then (if (lg_cmp (vou_13 (0 : Int32).toNatClampNeg) (r_15.toInt64)) = 0 then (some (vi_2, vj_3, vh_4, vi2_5, vj2_6, vk2_7, vc2_8, va2_9, vpa2_10, vb2_11, vpb2_12, vou_13, mi_16, vnw_17, vdi_18)) else none) else (some (vi_2, vj_3, vh_4, vi2_5, vj2_6, vk2_7, vc2_8, va2_9, vpa2_10, vb2_11, vpb2_12, vou_13, mi_16, vnw_17, vdi_18))) else none)))))
set_option maxHeartbeats 4000000 in
set_option maxRecDepth 100000 in
theorem kLaw_addCrate (l : Launch) (Γ : my_G) (hfl : l.stackTraces = false) {p : Program} {e : Env} {s : State} {m : MethodId} {below : List Frame} {meth : Method} {c : Code} {b L : Nat} {xs : Nat → Int32} {Q : State → Prop} (hx : p.tables.exec = Jvm.exec) (hb : c.code = cL_law) (hml : c.maxLocals = 7) (hown : s.vm.findClass RL = some m.cls) (hts : ∀ w ∈ wsL_law, w.before #[Value.ref b] s = true) (hX : va_X b L xs s s.heap) (hbl : b < s.heap.size) (hK : my_K Γ s) (hZ : my_ZZ (fun q : Nat => s.heap.size ≤ q) s s.heap) (hstr : my_str s) (hnc : my_nc s) (q_bf q_fl q_k q_c q_a q_pa q_b q_pb q_hi q_hs q_fl2 q_k2 q_c2 q_a2 q_pa2 q_b2 q_pb2 q_ou q_mo q_tt q_nw q_tr q_ot q_di q_kp q_ik q_wy q_ah q_tg q_ws q_fr q_rw q_tx q_flT q_s1 q_s2 q_fd q_kc q_kr : Nat) (vi : Nat → Int32) (vj : Nat → Int64) (vk : Nat → Int32) (vc : Nat → Int32) (va : Nat → Int32) (vpa : Nat → Int32) (vb : Nat → Int32) (vpb : Nat → Int32) (vh : Nat → Int32) (vhs : Nat → Option Nat) (vi2 : Nat → Int32) (vj2 : Nat → Int64) (vk2 : Nat → Int32) (vc2 : Nat → Int32) (va2 : Nat → Int32) (vpa2 : Nat → Int32) (vb2 : Nat → Int32) (vpb2 : Nat → Int32) (vou : Nat → Int64) (mi : Nat → Int32) (vtt : Nat → Int32) (vnw : Nat → Int32) (vtr : Nat → Int32) (vot : Nat → Int32) (vdi : Nat → Int32) (vkp : Nat → Int32) (vik : Nat → Int32) (vwy : Nat → Int32) (vah : Nat → Int32) (vtg : Nat → Int32) (vws : Nat → Int32) (vfr : Nat → Int32) (vrw : Nat → Int32) (i : Int32) (hi1 : vp_in (i + (1 : Int32)) L) (hi2 : vp_in (i + (2 : Int32)) L) (hi3 : vp_in (i + (3 : Int32)) L) (vi_z : Nat → Int32) (vj_z : Nat → Int64) (vh_z : Nat → Int32) (vi2_z : Nat → Int32) (vj2_z : Nat → Int64) (vk2_z : Nat → Int32) (vc2_z : Nat → Int32) (va2_z : Nat → Int32) (vpa2_z : Nat → Int32) (vb2_z : Nat → Int32) (vpb2_z : Nat → Int32) (vou_z : Nat → Int64) (mi_z : Nat → Int32) (vnw_z : Nat → Int32) (vdi_z : Nat → Int32) (hm : mLaw_addCrate vi vj vk vc va vpa vb vpb vh vhs vi2 vj2 vk2 vc2 va2 vpa2 vb2 vpb2 vou mi vnw vdi q_fl2 xs i = (some (vi_z, vj_z, vh_z, vi2_z, vj2_z, vk2_z, vc2_z, va2_z, vpa2_z, vb2_z, vpb2_z, vou_z, mi_z, vnw_z, vdi_z))) (R_ : va_W) (nc ns : Nat) (hn : nc + 3 ≤ room_1.cells) (hk : ns + 18 ≤ room_1.slots) (H : Heap) (locs : List Loc) (ls : Array Slot) (hP : va_P (my_D Γ) vwCl ((wBF Γ q_bf q_tx q_fl q_flT q_hi q_s1 q_s2 q_fd q_kc q_kr  ++ wFloor Γ q_fl q_k q_c q_a q_pa q_b q_pb vi vj vk vc va vpa vb vpb ++ wHist Γ q_hi q_hs vh vhs ++ wFloor Γ q_fl2 q_k2 q_c2 q_a2 q_pa2 q_b2 q_pb2 vi2 vj2 vk2 vc2 va2 vpa2 vb2 vpb2 ++ wOut Γ q_ou vou ++ wModel Γ q_mo q_tt q_nw q_tr q_ot q_di q_kp q_ik q_wy q_ah q_tg q_ws q_fr q_rw mi vtt vnw vtr vot vdi vkp vik vwy vah vtg vws vfr vrw) ++ R_) H) (hD : va_D (fun q : Nat => s.heap.size ≤ q) ((wBF Γ q_bf q_tx q_fl q_flT q_hi q_s1 q_s2 q_fd q_kc q_kr  ++ wFloor Γ q_fl q_k q_c q_a q_pa q_b q_pb vi vj vk vc va vpa vb vpb ++ wHist Γ q_hi q_hs vh vhs ++ wFloor Γ q_fl2 q_k2 q_c2 q_a2 q_pa2 q_b2 q_pb2 vi2 vj2 vk2 vc2 va2 vpa2 vb2 vpb2 ++ wOut Γ q_ou vou ++ wModel Γ q_mo q_tt q_nw q_tr q_ot q_di q_kp q_ik q_wy q_ah q_tg q_ws q_fr q_rw mi vtt vnw vtr vot vdi vkp vik vwy vah vtg vws vfr vrw) ++ R_)) (hS : va_S (fun q : Nat => s.heap.size ≤ q) s.heap H locs) (hl : lv_has ls 7 [(0, .ref b), (1, .ref q_bf), (2, .ref q_mo), (3, .ref q_ou), (4, .int i)]) (kk : ∀ (H : Heap) (locs : List Loc) (ls : Array Slot), va_P (my_D Γ) vwCl ((wBF Γ q_bf q_tx q_fl q_flT q_hi q_s1 q_s2 q_fd q_kc q_kr  ++ wFloor Γ q_fl q_k q_c q_a q_pa q_b q_pb vi_z vj_z vk vc va vpa vb vpb ++ wHist Γ q_hi q_hs vh_z vhs ++ wFloor Γ q_fl2 q_k2 q_c2 q_a2 q_pa2 q_b2 q_pb2 vi2_z vj2_z vk2_z vc2_z va2_z vpa2_z vb2_z vpb2_z ++ wOut Γ q_ou vou_z ++ wModel Γ q_mo q_tt q_nw q_tr q_ot q_di q_kp q_ik q_wy q_ah q_tg q_ws q_fr q_rw mi_z vtt vnw_z vtr vot vdi_z vkp vik vwy vah vtg vws vfr vrw) ++ R_) H → va_D (fun q : Nat => s.heap.size ≤ q) ((wBF Γ q_bf q_tx q_fl q_flT q_hi q_s1 q_s2 q_fd q_kc q_kr  ++ wFloor Γ q_fl q_k q_c q_a q_pa q_b q_pb vi_z vj_z vk vc va vpa vb vpb ++ wHist Γ q_hi q_hs vh_z vhs ++ wFloor Γ q_fl2 q_k2 q_c2 q_a2 q_pa2 q_b2 q_pb2 vi2_z vj2_z vk2_z vc2_z va2_z vpa2_z vb2_z vpb2_z ++ wOut Γ q_ou vou_z ++ wModel Γ q_mo q_tt q_nw q_tr q_ot q_di q_kp q_ik q_wy q_ah q_tg q_ws q_fr q_rw mi_z vtt vnw_z vtr vot vdi_z vkp vik vwy vah vtg vws vfr vrw) ++ R_) → va_S (fun q : Nat => s.heap.size ≤ q) s.heap H locs → lv_has ls 7 [(0, .ref b), (1, .ref q_bf), (2, .ref q_mo), (3, .ref q_ou), (4, .int i)] → W p l e room_1 s m #[Value.ref b] below meth c H locs (nc + 3) (ns + 18) Q (F0 m 2260 ls [])) : W p l e room_1 s m #[Value.ref b] below meth c H locs nc ns Q (F0 m 1289 ls []) := by
  have hA : ∀ q : Nat, s.heap.size ≤ q → (fun q : Nat => s.heap.size ≤ q) q := fun _ h => h
  have hbA : ¬ (fun q : Nat => s.heap.size ≤ q) b := Nat.not_le.mpr hbl
  unfold mLaw_addCrate at hm
  refine lv_aload_n hx hb dL_law_1289 rfl (lv_at hl 1 rfl) ?_
  refine lv_aload_n hx hb dL_law_1290 rfl (lv_at hl 0 rfl) ?_
  refine lv_iload hx hb dL_law_1291 (lv_at hl 4 rfl) ?_
  refine lv_iconst (v := (1 : Int32)) hx hb dL_law_1293 (by decide) ?_
  refine lv_iadd hx hb dL_law_1294 ?_
  refine va_sld hx hb hX hbl hbA hS hi1 dL_law_1295 ?_
  refine lv_aload_n hx hb dL_law_1296 rfl (lv_at hl 3 rfl) ?_
  obtain ⟨r_1, vi_2, vj_3, vh_4, vi2_5, vj2_6, vk2_7, vc2_8, va2_9, vpa2_10, vb2_11, vpb2_12, vou_13, hc_14, hm⟩ := bo13_s hm
  refine my_callRW1 (wc := (wBF Γ q_bf q_tx q_fl q_flT q_hi q_s1 q_s2 q_fd q_kc q_kr  ++ wFloor Γ q_fl q_k q_c q_a q_pa q_b q_pb vi vj vk vc va vpa vb vpb ++ wHist Γ q_hi q_hs vh vhs ++ wFloor Γ q_fl2 q_k2 q_c2 q_a2 q_pa2 q_b2 q_pb2 vi2 vj2 vk2 vc2 va2 vpa2 vb2 vpb2 ++ wOut Γ q_ou vou)) (w1 := (wBF Γ q_bf q_tx q_fl q_flT q_hi q_s1 q_s2 q_fd q_kc q_kr  ++ wFloor Γ q_fl q_k q_c q_a q_pa q_b q_pb vi_2 vj_3 vk vc va vpa vb vpb ++ wHist Γ q_hi q_hs vh_4 vhs ++ wFloor Γ q_fl2 q_k2 q_c2 q_a2 q_pa2 q_b2 q_pb2 vi2_5 vj2_6 vk2_7 vc2_8 va2_9 vpa2_10 vb2_11 vpb2_12 ++ wOut Γ q_ou vou_13)) (wa1 := (wBF Γ q_bf q_tx q_fl q_flT q_hi q_s1 q_s2 q_fd q_kc q_kr  ++ wFloor Γ q_fl q_k q_c q_a q_pa q_b q_pb vi_2 vj_3 vk vc va vpa vb vpb ++ wHist Γ q_hi q_hs vh_4 vhs ++ wFloor Γ q_fl2 q_k2 q_c2 q_a2 q_pa2 q_b2 q_pb2 vi2_5 vj2_6 vk2_7 vc2_8 va2_9 vpa2_10 vb2_11 vpb2_12 ++ wOut Γ q_ou vou_13 ++ wModel Γ q_mo q_tt q_nw q_tr q_ot q_di q_kp q_ik q_wy q_ah q_tg q_ws q_fr q_rw mi vtt vnw vtr vot vdi vkp vik vwy vah vtg vws vfr vrw)) hP hD hS hA [0, 1, 2, 3, 4, 5, 6, 7, 8, 9, 10, 11, 12, 13, 14, 15, 16, 17] rfl rfl rfl rfl (vx_runSW (As := [.ref q_bf, .int (xs (i + (1 : Int32)).toNatClampNeg), .ref q_ou]) (rest := []) ⟨hx, hb, hml, hown, hts⟩ (kL_addCrate l Γ hfl q_bf q_fl q_k q_c q_a q_pa q_b q_pb q_hi q_hs q_fl2 q_k2 q_c2 q_a2 q_pa2 q_b2 q_pb2 q_ou q_tx q_flT q_s1 q_s2 q_fd q_kc q_kr vi vj vk vc va vpa vb vpb vh vhs vi2 vj2 vk2 vc2 va2 vpa2 vb2 vpb2 vou (xs (i + (1 : Int32)).toNatClampNeg) r_1 vi_2 vj_3 vh_4 vi2_5 vj2_6 vk2_7 vc2_8 va2_9 vpa2_10 vb2_11 vpb2_12 vou_13 hc_14 _) (vx_cwSW 3 hts gL_law_L_addCrate rfl rfl rfl (by decide +kernel) ⟨Nat.le_of_ble_eq_true rfl, Nat.le_of_ble_eq_true rfl⟩) (my_preSW (wc := (wBF Γ q_bf q_tx q_fl q_flT q_hi q_s1 q_s2 q_fd q_kc q_kr  ++ wFloor Γ q_fl q_k q_c q_a q_pa q_b q_pb vi vj vk vc va vpa vb vpb ++ wHist Γ q_hi q_hs vh vhs ++ wFloor Γ q_fl2 q_k2 q_c2 q_a2 q_pa2 q_b2 q_pb2 vi2 vj2 vk2 vc2 va2 vpa2 vb2 vpb2 ++ wOut Γ q_ou vou)) [0, 1, 2, 3, 4, 5, 6, 7, 8, 9, 10, 11, 12, 13, 14, 15, 16, 17] hK hP hD hS hA hZ hstr hnc rfl rfl) rfl rfl hl.1 rfl (lv_room (Nat.le_of_ble_eq_true rfl)) dL_law_1297 ⟨Nat.le_trans (Nat.add_le_add_left (Nat.le_of_ble_eq_true rfl) nc) hn, Nat.le_trans (Nat.add_le_add_left (Nat.le_of_ble_eq_true rfl) ns) hk⟩) (fun H locs hP hD hS => ?_)
  refine W.widen (k := nc + 3) (n := ns + 18) (Nat.add_le_add_left (Nat.le_of_ble_eq_true rfl) nc) (Nat.add_le_add_left (Nat.le_of_ble_eq_true rfl) ns) ?_
  refine lv_istore (lv' := [(5, .int r_1), (0, .ref b), (1, .ref q_bf), (2, .ref q_mo), (3, .ref q_ou), (4, .int i)]) hx hb dL_law_1300 hl (by decide) rfl (fun ls hl => ?_)
  refine lv_aload_n hx hb dL_law_1302 rfl (lv_at hl 3 rfl) ?_
  refine lv_aload_n hx hb dL_law_1303 rfl (lv_at hl 1 rfl) ?_
  refine lv_iload hx hb dL_law_1304 (lv_at hl 5 rfl) ?_
  refine lv_iconst (v := (1 : Int32)) hx hb dL_law_1306 (by decide) ?_
  refine lv_iadd hx hb dL_law_1307 ?_
  refine va_sld hx hb hX hbl hbA hS hi1 dL_law_1308 ?_
  obtain ⟨r_15, mi_16, vnw_17, vdi_18, hc_19, hm⟩ := bo4_s hm
  refine my_callR1 (wc := (wModel Γ q_mo q_tt q_nw q_tr q_ot q_di q_kp q_ik q_wy q_ah q_tg q_ws q_fr q_rw mi vtt vnw vtr vot vdi vkp vik vwy vah vtg vws vfr vrw)) (w1 := (wModel Γ q_mo q_tt q_nw q_tr q_ot q_di q_kp q_ik q_wy q_ah q_tg q_ws q_fr q_rw mi_16 vtt vnw_17 vtr vot vdi_18 vkp vik vwy vah vtg vws vfr vrw)) (wa1 := (wBF Γ q_bf q_tx q_fl q_flT q_hi q_s1 q_s2 q_fd q_kc q_kr  ++ wFloor Γ q_fl q_k q_c q_a q_pa q_b q_pb vi_2 vj_3 vk vc va vpa vb vpb ++ wHist Γ q_hi q_hs vh_4 vhs ++ wFloor Γ q_fl2 q_k2 q_c2 q_a2 q_pa2 q_b2 q_pb2 vi2_5 vj2_6 vk2_7 vc2_8 va2_9 vpa2_10 vb2_11 vpb2_12 ++ wOut Γ q_ou vou_13 ++ wModel Γ q_mo q_tt q_nw q_tr q_ot q_di q_kp q_ik q_wy q_ah q_tg q_ws q_fr q_rw mi_16 vtt vnw_17 vtr vot vdi_18 vkp vik vwy vah vtg vws vfr vrw)) hP hD hS hA [18, 19, 20, 21, 22, 23, 24, 25, 26, 27, 28, 29, 30, 31] rfl rfl rfl rfl (va_runV (As := [.int (xs (i + (1 : Int32)).toNatClampNeg)]) (rest := []) ⟨hx, hb, hml, hown, hts⟩ (kX9_addCrate l Γ q_mo q_tt q_nw q_tr q_ot q_di q_kp q_ik q_wy q_ah q_tg q_ws q_fr q_rw mi vtt vnw vtr vot vdi vkp vik vwy vah vtg vws vfr vrw (xs (i + (1 : Int32)).toNatClampNeg) r_15 mi_16 vnw_17 vdi_18 hc_19 _) (cwV 1 hts gL_law_X9_addCrate rfl rfl rfl (by decide +kernel) ⟨Nat.le_of_ble_eq_true rfl, Nat.le_of_ble_eq_true rfl⟩) (my_preV (wc := (wModel Γ q_mo q_tt q_nw q_tr q_ot q_di q_kp q_ik q_wy q_ah q_tg q_ws q_fr q_rw mi vtt vnw vtr vot vdi vkp vik vwy vah vtg vws vfr vrw)) (ci := 7) (q0 := 18) [18, 19, 20, 21, 22, 23, 24, 25, 26, 27, 28, 29, 30, 31] hK hP hD rfl rfl rfl rfl) rfl rfl hl.1 rfl (lv_room (Nat.le_of_ble_eq_true rfl)) dL_law_1309 ⟨hn, hk⟩) (fun H locs hP hD hS => ?_)
  refine lv_istore (lv' := [(6, .int r_15), (5, .int r_1), (0, .ref b), (1, .ref q_bf), (2, .ref q_mo), (3, .ref q_ou), (4, .int i)]) hx hb dL_law_1312 hl (by decide) rfl (fun ls hl => ?_)
  refine lv_aload_n hx hb dL_law_1314 rfl (lv_at hl 4 rfl) ?_
  refine my_callR1 (wc := (wMo Γ q_mo q_tt q_nw q_tr q_ot q_di q_kp q_ik q_wy q_ah q_tg q_ws q_fr q_rw mi_16)) (w1 := (wMo Γ q_mo q_tt q_nw q_tr q_ot q_di q_kp q_ik q_wy q_ah q_tg q_ws q_fr q_rw mi_16)) (wa1 := (wBF Γ q_bf q_tx q_fl q_flT q_hi q_s1 q_s2 q_fd q_kc q_kr  ++ wFloor Γ q_fl q_k q_c q_a q_pa q_b q_pb vi_2 vj_3 vk vc va vpa vb vpb ++ wHist Γ q_hi q_hs vh_4 vhs ++ wFloor Γ q_fl2 q_k2 q_c2 q_a2 q_pa2 q_b2 q_pb2 vi2_5 vj2_6 vk2_7 vc2_8 va2_9 vpa2_10 vb2_11 vpb2_12 ++ wOut Γ q_ou vou_13 ++ wModel Γ q_mo q_tt q_nw q_tr q_ot q_di q_kp q_ik q_wy q_ah q_tg q_ws q_fr q_rw mi_16 vtt vnw_17 vtr vot vdi_18 vkp vik vwy vah vtg vws vfr vrw)) hP hD hS hA [18] rfl rfl rfl rfl (va_runV (As := []) (rest := []) ⟨hx, hb, hml, hown, hts⟩ (kX9_thrown l Γ q_mo q_tt q_nw q_tr q_ot q_di q_kp q_ik q_wy q_ah q_tg q_ws q_fr q_rw mi_16 (mX9_thrown mi_16) rfl _) (cwV 0 hts gL_law_X9_thrown rfl rfl rfl (by decide +kernel) ⟨Nat.le_of_ble_eq_true rfl, Nat.le_of_ble_eq_true rfl⟩) (my_preV (wc := (wMo Γ q_mo q_tt q_nw q_tr q_ot q_di q_kp q_ik q_wy q_ah q_tg q_ws q_fr q_rw mi_16)) (ci := 7) (q0 := 18) [18] hK hP hD rfl rfl rfl rfl) rfl rfl hl.1 rfl (lv_room (Nat.le_of_ble_eq_true rfl)) dL_law_1315 ⟨hn, hk⟩) (fun H locs hP hD hS => ?_)
  refine lv_iload hx hb dL_law_1318 (lv_at hl 1 rfl) ?_
  refine lv_icmp_eq (tgt := 1325) hx hb dL_law_1320 (by decide) (fun c_20 => ?_) (fun c_20 => ?_)
  · replace hm := if_s hm c_20
    refine lv_iload hx hb dL_law_1325 (lv_at hl 1 rfl) ?_
    refine lv_if_ne (tgt := 1342) hx hb dL_law_1327 (by decide) (fun c_21 => ?_) (fun c_21 => ?_)
    · replace hm := if_f hm c_21
      refine lv_goto (tgt := 2260) hx hb dL_law_1342 (by decide) ?_
      obtain ⟨hf0, hf1, hf2, hf3, hf4, hf5, hf6, hf7, hf8, hf9, hf10, hf11, hf12, hf13, hf14⟩ := si15 hm
      subst hf0
      subst hf1
      subst hf2
      subst hf3
      subst hf4
      subst hf5
      subst hf6
      subst hf7
      subst hf8
      subst hf9
      subst hf10
      subst hf11
      subst hf12
      subst hf13
      subst hf14
      exact kk _ _ _ hP hD hS (lv_sub hl [2, 3, 4, 5, 6] rfl)
    · replace hm := if_s hm c_21
      refine lv_aload_n hx hb dL_law_1330 rfl (lv_at hl 5 rfl) ?_
      refine lv_iconst (v := (0 : Int32)) hx hb dL_law_1331 (by decide) ?_
      refine va_lald hx hb hK hP 17 1 rfl rfl (show vp_in (0 : Int32) 1 from (by decide : ¬ ((0 : Int32) < 0 ∨ 1 ≤ (0 : Int32).toNatClampNeg))) dL_law_1332 ?_
      refine lv_iload hx hb dL_law_1333 (lv_at hl 0 rfl) ?_
      refine lv_i2l (v := r_15.toInt64) hx hb dL_law_1335 rfl ?_
      refine W.lcmp hx hb dL_law_1336 ?_
      refine lv_if_eq (tgt := 1342) hx hb dL_law_1337 (by decide) (fun c_22 => ?_) (fun c_22 => ?_)
      · replace hm := if_s hm c_22
        refine lv_goto (tgt := 2260) hx hb dL_law_1342 (by decide) ?_
        obtain ⟨hf0, hf1, hf2, hf3, hf4, hf5, hf6, hf7, hf8, hf9, hf10, hf11, hf12, hf13, hf14⟩ := si15 hm
        subst hf0
        subst hf1
        subst hf2
        subst hf3
        subst hf4
        subst hf5
        subst hf6
        subst hf7
        subst hf8
        subst hf9
        subst hf10
        subst hf11
        subst hf12
        subst hf13
        subst hf14
        exact kk _ _ _ hP hD hS (lv_sub hl [2, 3, 4, 5, 6] rfl)
      · replace hm := if_f hm c_22
        refine lv_iconst (v := (0 : Int32)) hx hb dL_law_1340 (by decide) ?_
        cases hm
  · replace hm := if_f hm c_20
    refine lv_iconst (v := (0 : Int32)) hx hb dL_law_1323 (by decide) ?_
    cases hm
def mLaw_takeCrate (vi : Nat → Int32) (vj : Nat → Int64) (vk : Nat → Int32) (vc : Nat → Int32) (va : Nat → Int32) (vpa : Nat → Int32) (vb : Nat → Int32) (vpb : Nat → Int32) (vh : Nat → Int32) (vhs : Nat → Option Nat) (vi2 : Nat → Int32) (vj2 : Nat → Int64) (vk2 : Nat → Int32) (vc2 : Nat → Int32) (va2 : Nat → Int32) (vpa2 : Nat → Int32) (vb2 : Nat → Int32) (vpb2 : Nat → Int32) (vou : Nat → Int64) (mi : Nat → Int32) (vnw : Nat → Int32) (vdi : Nat → Int32) (q_fl2 : Nat) (xs : Nat → Int32) (i : Int32) : Option ((Nat → Int32) × (Nat → Int64) × (Nat → Int32) × (Nat → Int32) × (Nat → Int64) × (Nat → Int32) × (Nat → Int32) × (Nat → Int32) × (Nat → Int32) × (Nat → Int32) × (Nat → Int32) × (Nat → Int64) × (Nat → Int32) × (Nat → Int32) × (Nat → Int32)) := (bo13 (mL_takeCrate vi vj vk vc va vpa vb vpb vh vhs vi2 vj2 vk2 vc2 va2 vpa2 vb2 vpb2 vou q_fl2 (xs (i + (1 : Int32)).toNatClampNeg)) (fun r_1 vi_2 vj_3 vh_4 vi2_5 vj2_6 vk2_7 vc2_8 va2_9 vpa2_10 vb2_11 vpb2_12 vou_13 => (bo4 (mX9_takeCrate mi vnw vdi (xs (i + (1 : Int32)).toNatClampNeg)) (fun r_15 mi_16 vnw_17 vdi_18 => (if (mX9_thrown mi_16) = r_1 then (if r_1 = 0 then (if (lg_cmp (vou_13 (0 : Int32).toNatClampNeg) (r_15.toInt64)) = 0 then (some (vi_2, vj_3, vh_4, vi2_5, vj2_6, vk2_7, vc2_8, va2_9, vpa2_10, vb2_11, vpb2_12, vou_13, mi_16, vnw_17, vdi_18)) else none) else (some (vi_2, vj_3, vh_4, vi2_5, vj2_6, vk2_7, vc2_8, va2_9, vpa2_10, vb2_11, vpb2_12, vou_13, mi_16, vnw_17, vdi_18))) else none)))))
set_option maxHeartbeats 4000000 in
set_option maxRecDepth 100000 in
theorem kLaw_takeCrate (l : Launch) (Γ : my_G) (hfl : l.stackTraces = false) {p : Program} {e : Env} {s : State} {m : MethodId} {below : List Frame} {meth : Method} {c : Code} {b L : Nat} {xs : Nat → Int32} {Q : State → Prop} (hx : p.tables.exec = Jvm.exec) (hb : c.code = cL_law) (hml : c.maxLocals = 7) (hown : s.vm.findClass RL = some m.cls) (hts : ∀ w ∈ wsL_law, w.before #[Value.ref b] s = true) (hX : va_X b L xs s s.heap) (hbl : b < s.heap.size) (hK : my_K Γ s) (hZ : my_ZZ (fun q : Nat => s.heap.size ≤ q) s s.heap) (hstr : my_str s) (hnc : my_nc s) (q_bf q_fl q_k q_c q_a q_pa q_b q_pb q_hi q_hs q_fl2 q_k2 q_c2 q_a2 q_pa2 q_b2 q_pb2 q_ou q_mo q_tt q_nw q_tr q_ot q_di q_kp q_ik q_wy q_ah q_tg q_ws q_fr q_rw q_tx q_flT q_s1 q_s2 q_fd q_kc q_kr : Nat) (vi : Nat → Int32) (vj : Nat → Int64) (vk : Nat → Int32) (vc : Nat → Int32) (va : Nat → Int32) (vpa : Nat → Int32) (vb : Nat → Int32) (vpb : Nat → Int32) (vh : Nat → Int32) (vhs : Nat → Option Nat) (vi2 : Nat → Int32) (vj2 : Nat → Int64) (vk2 : Nat → Int32) (vc2 : Nat → Int32) (va2 : Nat → Int32) (vpa2 : Nat → Int32) (vb2 : Nat → Int32) (vpb2 : Nat → Int32) (vou : Nat → Int64) (mi : Nat → Int32) (vtt : Nat → Int32) (vnw : Nat → Int32) (vtr : Nat → Int32) (vot : Nat → Int32) (vdi : Nat → Int32) (vkp : Nat → Int32) (vik : Nat → Int32) (vwy : Nat → Int32) (vah : Nat → Int32) (vtg : Nat → Int32) (vws : Nat → Int32) (vfr : Nat → Int32) (vrw : Nat → Int32) (i : Int32) (hi1 : vp_in (i + (1 : Int32)) L) (hi2 : vp_in (i + (2 : Int32)) L) (hi3 : vp_in (i + (3 : Int32)) L) (vi_z : Nat → Int32) (vj_z : Nat → Int64) (vh_z : Nat → Int32) (vi2_z : Nat → Int32) (vj2_z : Nat → Int64) (vk2_z : Nat → Int32) (vc2_z : Nat → Int32) (va2_z : Nat → Int32) (vpa2_z : Nat → Int32) (vb2_z : Nat → Int32) (vpb2_z : Nat → Int32) (vou_z : Nat → Int64) (mi_z : Nat → Int32) (vnw_z : Nat → Int32) (vdi_z : Nat → Int32) (hm : mLaw_takeCrate vi vj vk vc va vpa vb vpb vh vhs vi2 vj2 vk2 vc2 va2 vpa2 vb2 vpb2 vou mi vnw vdi q_fl2 xs i = (some (vi_z, vj_z, vh_z, vi2_z, vj2_z, vk2_z, vc2_z, va2_z, vpa2_z, vb2_z, vpb2_z, vou_z, mi_z, vnw_z, vdi_z))) (R_ : va_W) (nc ns : Nat) (hn : nc + 3 ≤ room_1.cells) (hk : ns + 18 ≤ room_1.slots) (H : Heap) (locs : List Loc) (ls : Array Slot) (hP : va_P (my_D Γ) vwCl ((wBF Γ q_bf q_tx q_fl q_flT q_hi q_s1 q_s2 q_fd q_kc q_kr  ++ wFloor Γ q_fl q_k q_c q_a q_pa q_b q_pb vi vj vk vc va vpa vb vpb ++ wHist Γ q_hi q_hs vh vhs ++ wFloor Γ q_fl2 q_k2 q_c2 q_a2 q_pa2 q_b2 q_pb2 vi2 vj2 vk2 vc2 va2 vpa2 vb2 vpb2 ++ wOut Γ q_ou vou ++ wModel Γ q_mo q_tt q_nw q_tr q_ot q_di q_kp q_ik q_wy q_ah q_tg q_ws q_fr q_rw mi vtt vnw vtr vot vdi vkp vik vwy vah vtg vws vfr vrw) ++ R_) H) (hD : va_D (fun q : Nat => s.heap.size ≤ q) ((wBF Γ q_bf q_tx q_fl q_flT q_hi q_s1 q_s2 q_fd q_kc q_kr  ++ wFloor Γ q_fl q_k q_c q_a q_pa q_b q_pb vi vj vk vc va vpa vb vpb ++ wHist Γ q_hi q_hs vh vhs ++ wFloor Γ q_fl2 q_k2 q_c2 q_a2 q_pa2 q_b2 q_pb2 vi2 vj2 vk2 vc2 va2 vpa2 vb2 vpb2 ++ wOut Γ q_ou vou ++ wModel Γ q_mo q_tt q_nw q_tr q_ot q_di q_kp q_ik q_wy q_ah q_tg q_ws q_fr q_rw mi vtt vnw vtr vot vdi vkp vik vwy vah vtg vws vfr vrw) ++ R_)) (hS : va_S (fun q : Nat => s.heap.size ≤ q) s.heap H locs) (hl : lv_has ls 7 [(0, .ref b), (1, .ref q_bf), (2, .ref q_mo), (3, .ref q_ou), (4, .int i)]) (kk : ∀ (H : Heap) (locs : List Loc) (ls : Array Slot), va_P (my_D Γ) vwCl ((wBF Γ q_bf q_tx q_fl q_flT q_hi q_s1 q_s2 q_fd q_kc q_kr  ++ wFloor Γ q_fl q_k q_c q_a q_pa q_b q_pb vi_z vj_z vk vc va vpa vb vpb ++ wHist Γ q_hi q_hs vh_z vhs ++ wFloor Γ q_fl2 q_k2 q_c2 q_a2 q_pa2 q_b2 q_pb2 vi2_z vj2_z vk2_z vc2_z va2_z vpa2_z vb2_z vpb2_z ++ wOut Γ q_ou vou_z ++ wModel Γ q_mo q_tt q_nw q_tr q_ot q_di q_kp q_ik q_wy q_ah q_tg q_ws q_fr q_rw mi_z vtt vnw_z vtr vot vdi_z vkp vik vwy vah vtg vws vfr vrw) ++ R_) H → va_D (fun q : Nat => s.heap.size ≤ q) ((wBF Γ q_bf q_tx q_fl q_flT q_hi q_s1 q_s2 q_fd q_kc q_kr  ++ wFloor Γ q_fl q_k q_c q_a q_pa q_b q_pb vi_z vj_z vk vc va vpa vb vpb ++ wHist Γ q_hi q_hs vh_z vhs ++ wFloor Γ q_fl2 q_k2 q_c2 q_a2 q_pa2 q_b2 q_pb2 vi2_z vj2_z vk2_z vc2_z va2_z vpa2_z vb2_z vpb2_z ++ wOut Γ q_ou vou_z ++ wModel Γ q_mo q_tt q_nw q_tr q_ot q_di q_kp q_ik q_wy q_ah q_tg q_ws q_fr q_rw mi_z vtt vnw_z vtr vot vdi_z vkp vik vwy vah vtg vws vfr vrw) ++ R_) → va_S (fun q : Nat => s.heap.size ≤ q) s.heap H locs → lv_has ls 7 [(0, .ref b), (1, .ref q_bf), (2, .ref q_mo), (3, .ref q_ou), (4, .int i)] → W p l e room_1 s m #[Value.ref b] below meth c H locs (nc + 3) (ns + 18) Q (F0 m 2260 ls [])) : W p l e room_1 s m #[Value.ref b] below meth c H locs nc ns Q (F0 m 1345 ls []) := by
  have hA : ∀ q : Nat, s.heap.size ≤ q → (fun q : Nat => s.heap.size ≤ q) q := fun _ h => h
  have hbA : ¬ (fun q : Nat => s.heap.size ≤ q) b := Nat.not_le.mpr hbl
  unfold mLaw_takeCrate at hm
  refine lv_aload_n hx hb dL_law_1345 rfl (lv_at hl 1 rfl) ?_
  refine lv_aload_n hx hb dL_law_1346 rfl (lv_at hl 0 rfl) ?_
  refine lv_iload hx hb dL_law_1347 (lv_at hl 4 rfl) ?_
  refine lv_iconst (v := (1 : Int32)) hx hb dL_law_1349 (by decide) ?_
  refine lv_iadd hx hb dL_law_1350 ?_
  refine va_sld hx hb hX hbl hbA hS hi1 dL_law_1351 ?_
  refine lv_aload_n hx hb dL_law_1352 rfl (lv_at hl 3 rfl) ?_
  obtain ⟨r_1, vi_2, vj_3, vh_4, vi2_5, vj2_6, vk2_7, vc2_8, va2_9, vpa2_10, vb2_11, vpb2_12, vou_13, hc_14, hm⟩ := bo13_s hm
  refine my_callRW1 (wc := (wBF Γ q_bf q_tx q_fl q_flT q_hi q_s1 q_s2 q_fd q_kc q_kr  ++ wFloor Γ q_fl q_k q_c q_a q_pa q_b q_pb vi vj vk vc va vpa vb vpb ++ wHist Γ q_hi q_hs vh vhs ++ wFloor Γ q_fl2 q_k2 q_c2 q_a2 q_pa2 q_b2 q_pb2 vi2 vj2 vk2 vc2 va2 vpa2 vb2 vpb2 ++ wOut Γ q_ou vou)) (w1 := (wBF Γ q_bf q_tx q_fl q_flT q_hi q_s1 q_s2 q_fd q_kc q_kr  ++ wFloor Γ q_fl q_k q_c q_a q_pa q_b q_pb vi_2 vj_3 vk vc va vpa vb vpb ++ wHist Γ q_hi q_hs vh_4 vhs ++ wFloor Γ q_fl2 q_k2 q_c2 q_a2 q_pa2 q_b2 q_pb2 vi2_5 vj2_6 vk2_7 vc2_8 va2_9 vpa2_10 vb2_11 vpb2_12 ++ wOut Γ q_ou vou_13)) (wa1 := (wBF Γ q_bf q_tx q_fl q_flT q_hi q_s1 q_s2 q_fd q_kc q_kr  ++ wFloor Γ q_fl q_k q_c q_a q_pa q_b q_pb vi_2 vj_3 vk vc va vpa vb vpb ++ wHist Γ q_hi q_hs vh_4 vhs ++ wFloor Γ q_fl2 q_k2 q_c2 q_a2 q_pa2 q_b2 q_pb2 vi2_5 vj2_6 vk2_7 vc2_8 va2_9 vpa2_10 vb2_11 vpb2_12 ++ wOut Γ q_ou vou_13 ++ wModel Γ q_mo q_tt q_nw q_tr q_ot q_di q_kp q_ik q_wy q_ah q_tg q_ws q_fr q_rw mi vtt vnw vtr vot vdi vkp vik vwy vah vtg vws vfr vrw)) hP hD hS hA [0, 1, 2, 3, 4, 5, 6, 7, 8, 9, 10, 11, 12, 13, 14, 15, 16, 17] rfl rfl rfl rfl (vx_runSW (As := [.ref q_bf, .int (xs (i + (1 : Int32)).toNatClampNeg), .ref q_ou]) (rest := []) ⟨hx, hb, hml, hown, hts⟩ (kL_takeCrate l Γ hfl q_bf q_fl q_k q_c q_a q_pa q_b q_pb q_hi q_hs q_fl2 q_k2 q_c2 q_a2 q_pa2 q_b2 q_pb2 q_ou q_tx q_flT q_s1 q_s2 q_fd q_kc q_kr vi vj vk vc va vpa vb vpb vh vhs vi2 vj2 vk2 vc2 va2 vpa2 vb2 vpb2 vou (xs (i + (1 : Int32)).toNatClampNeg) r_1 vi_2 vj_3 vh_4 vi2_5 vj2_6 vk2_7 vc2_8 va2_9 vpa2_10 vb2_11 vpb2_12 vou_13 hc_14 _) (vx_cwSW 3 hts gL_law_L_takeCrate rfl rfl rfl (by decide +kernel) ⟨Nat.le_of_ble_eq_true rfl, Nat.le_of_ble_eq_true rfl⟩) (my_preSW (wc := (wBF Γ q_bf q_tx q_fl q_flT q_hi q_s1 q_s2 q_fd q_kc q_kr  ++ wFloor Γ q_fl q_k q_c q_a q_pa q_b q_pb vi vj vk vc va vpa vb vpb ++ wHist Γ q_hi q_hs vh vhs ++ wFloor Γ q_fl2 q_k2 q_c2 q_a2 q_pa2 q_b2 q_pb2 vi2 vj2 vk2 vc2 va2 vpa2 vb2 vpb2 ++ wOut Γ q_ou vou)) [0, 1, 2, 3, 4, 5, 6, 7, 8, 9, 10, 11, 12, 13, 14, 15, 16, 17] hK hP hD hS hA hZ hstr hnc rfl rfl) rfl rfl hl.1 rfl (lv_room (Nat.le_of_ble_eq_true rfl)) dL_law_1353 ⟨Nat.le_trans (Nat.add_le_add_left (Nat.le_of_ble_eq_true rfl) nc) hn, Nat.le_trans (Nat.add_le_add_left (Nat.le_of_ble_eq_true rfl) ns) hk⟩) (fun H locs hP hD hS => ?_)
  refine W.widen (k := nc + 3) (n := ns + 18) (Nat.add_le_add_left (Nat.le_of_ble_eq_true rfl) nc) (Nat.add_le_add_left (Nat.le_of_ble_eq_true rfl) ns) ?_
  refine lv_istore (lv' := [(5, .int r_1), (0, .ref b), (1, .ref q_bf), (2, .ref q_mo), (3, .ref q_ou), (4, .int i)]) hx hb dL_law_1356 hl (by decide) rfl (fun ls hl => ?_)
  refine lv_aload_n hx hb dL_law_1358 rfl (lv_at hl 3 rfl) ?_
  refine lv_aload_n hx hb dL_law_1359 rfl (lv_at hl 1 rfl) ?_
  refine lv_iload hx hb dL_law_1360 (lv_at hl 5 rfl) ?_
  refine lv_iconst (v := (1 : Int32)) hx hb dL_law_1362 (by decide) ?_
  refine lv_iadd hx hb dL_law_1363 ?_
  refine va_sld hx hb hX hbl hbA hS hi1 dL_law_1364 ?_
  obtain ⟨r_15, mi_16, vnw_17, vdi_18, hc_19, hm⟩ := bo4_s hm
  refine my_callR1 (wc := (wModel Γ q_mo q_tt q_nw q_tr q_ot q_di q_kp q_ik q_wy q_ah q_tg q_ws q_fr q_rw mi vtt vnw vtr vot vdi vkp vik vwy vah vtg vws vfr vrw)) (w1 := (wModel Γ q_mo q_tt q_nw q_tr q_ot q_di q_kp q_ik q_wy q_ah q_tg q_ws q_fr q_rw mi_16 vtt vnw_17 vtr vot vdi_18 vkp vik vwy vah vtg vws vfr vrw)) (wa1 := (wBF Γ q_bf q_tx q_fl q_flT q_hi q_s1 q_s2 q_fd q_kc q_kr  ++ wFloor Γ q_fl q_k q_c q_a q_pa q_b q_pb vi_2 vj_3 vk vc va vpa vb vpb ++ wHist Γ q_hi q_hs vh_4 vhs ++ wFloor Γ q_fl2 q_k2 q_c2 q_a2 q_pa2 q_b2 q_pb2 vi2_5 vj2_6 vk2_7 vc2_8 va2_9 vpa2_10 vb2_11 vpb2_12 ++ wOut Γ q_ou vou_13 ++ wModel Γ q_mo q_tt q_nw q_tr q_ot q_di q_kp q_ik q_wy q_ah q_tg q_ws q_fr q_rw mi_16 vtt vnw_17 vtr vot vdi_18 vkp vik vwy vah vtg vws vfr vrw)) hP hD hS hA [18, 19, 20, 21, 22, 23, 24, 25, 26, 27, 28, 29, 30, 31] rfl rfl rfl rfl (va_runV (As := [.int (xs (i + (1 : Int32)).toNatClampNeg)]) (rest := []) ⟨hx, hb, hml, hown, hts⟩ (kX9_takeCrate l Γ q_mo q_tt q_nw q_tr q_ot q_di q_kp q_ik q_wy q_ah q_tg q_ws q_fr q_rw mi vtt vnw vtr vot vdi vkp vik vwy vah vtg vws vfr vrw (xs (i + (1 : Int32)).toNatClampNeg) r_15 mi_16 vnw_17 vdi_18 hc_19 _) (cwV 1 hts gL_law_X9_takeCrate rfl rfl rfl (by decide +kernel) ⟨Nat.le_of_ble_eq_true rfl, Nat.le_of_ble_eq_true rfl⟩) (my_preV (wc := (wModel Γ q_mo q_tt q_nw q_tr q_ot q_di q_kp q_ik q_wy q_ah q_tg q_ws q_fr q_rw mi vtt vnw vtr vot vdi vkp vik vwy vah vtg vws vfr vrw)) (ci := 7) (q0 := 18) [18, 19, 20, 21, 22, 23, 24, 25, 26, 27, 28, 29, 30, 31] hK hP hD rfl rfl rfl rfl) rfl rfl hl.1 rfl (lv_room (Nat.le_of_ble_eq_true rfl)) dL_law_1365 ⟨hn, hk⟩) (fun H locs hP hD hS => ?_)
  refine lv_istore (lv' := [(6, .int r_15), (5, .int r_1), (0, .ref b), (1, .ref q_bf), (2, .ref q_mo), (3, .ref q_ou), (4, .int i)]) hx hb dL_law_1368 hl (by decide) rfl (fun ls hl => ?_)
  refine lv_aload_n hx hb dL_law_1370 rfl (lv_at hl 4 rfl) ?_
  refine my_callR1 (wc := (wMo Γ q_mo q_tt q_nw q_tr q_ot q_di q_kp q_ik q_wy q_ah q_tg q_ws q_fr q_rw mi_16)) (w1 := (wMo Γ q_mo q_tt q_nw q_tr q_ot q_di q_kp q_ik q_wy q_ah q_tg q_ws q_fr q_rw mi_16)) (wa1 := (wBF Γ q_bf q_tx q_fl q_flT q_hi q_s1 q_s2 q_fd q_kc q_kr  ++ wFloor Γ q_fl q_k q_c q_a q_pa q_b q_pb vi_2 vj_3 vk vc va vpa vb vpb ++ wHist Γ q_hi q_hs vh_4 vhs ++ wFloor Γ q_fl2 q_k2 q_c2 q_a2 q_pa2 q_b2 q_pb2 vi2_5 vj2_6 vk2_7 vc2_8 va2_9 vpa2_10 vb2_11 vpb2_12 ++ wOut Γ q_ou vou_13 ++ wModel Γ q_mo q_tt q_nw q_tr q_ot q_di q_kp q_ik q_wy q_ah q_tg q_ws q_fr q_rw mi_16 vtt vnw_17 vtr vot vdi_18 vkp vik vwy vah vtg vws vfr vrw)) hP hD hS hA [18] rfl rfl rfl rfl (va_runV (As := []) (rest := []) ⟨hx, hb, hml, hown, hts⟩ (kX9_thrown l Γ q_mo q_tt q_nw q_tr q_ot q_di q_kp q_ik q_wy q_ah q_tg q_ws q_fr q_rw mi_16 (mX9_thrown mi_16) rfl _) (cwV 0 hts gL_law_X9_thrown rfl rfl rfl (by decide +kernel) ⟨Nat.le_of_ble_eq_true rfl, Nat.le_of_ble_eq_true rfl⟩) (my_preV (wc := (wMo Γ q_mo q_tt q_nw q_tr q_ot q_di q_kp q_ik q_wy q_ah q_tg q_ws q_fr q_rw mi_16)) (ci := 7) (q0 := 18) [18] hK hP hD rfl rfl rfl rfl) rfl rfl hl.1 rfl (lv_room (Nat.le_of_ble_eq_true rfl)) dL_law_1371 ⟨hn, hk⟩) (fun H locs hP hD hS => ?_)
  refine lv_iload hx hb dL_law_1374 (lv_at hl 1 rfl) ?_
  refine lv_icmp_eq (tgt := 1381) hx hb dL_law_1376 (by decide) (fun c_20 => ?_) (fun c_20 => ?_)
  · replace hm := if_s hm c_20
    refine lv_iload hx hb dL_law_1381 (lv_at hl 1 rfl) ?_
    refine lv_if_ne (tgt := 1398) hx hb dL_law_1383 (by decide) (fun c_21 => ?_) (fun c_21 => ?_)
    · replace hm := if_f hm c_21
      refine lv_goto (tgt := 2260) hx hb dL_law_1398 (by decide) ?_
      obtain ⟨hf0, hf1, hf2, hf3, hf4, hf5, hf6, hf7, hf8, hf9, hf10, hf11, hf12, hf13, hf14⟩ := si15 hm
      subst hf0
      subst hf1
      subst hf2
      subst hf3
      subst hf4
      subst hf5
      subst hf6
      subst hf7
      subst hf8
      subst hf9
      subst hf10
      subst hf11
      subst hf12
      subst hf13
      subst hf14
      exact kk _ _ _ hP hD hS (lv_sub hl [2, 3, 4, 5, 6] rfl)
    · replace hm := if_s hm c_21
      refine lv_aload_n hx hb dL_law_1386 rfl (lv_at hl 5 rfl) ?_
      refine lv_iconst (v := (0 : Int32)) hx hb dL_law_1387 (by decide) ?_
      refine va_lald hx hb hK hP 17 1 rfl rfl (show vp_in (0 : Int32) 1 from (by decide : ¬ ((0 : Int32) < 0 ∨ 1 ≤ (0 : Int32).toNatClampNeg))) dL_law_1388 ?_
      refine lv_iload hx hb dL_law_1389 (lv_at hl 0 rfl) ?_
      refine lv_i2l (v := r_15.toInt64) hx hb dL_law_1391 rfl ?_
      refine W.lcmp hx hb dL_law_1392 ?_
      refine lv_if_eq (tgt := 1398) hx hb dL_law_1393 (by decide) (fun c_22 => ?_) (fun c_22 => ?_)
      · replace hm := if_s hm c_22
        refine lv_goto (tgt := 2260) hx hb dL_law_1398 (by decide) ?_
        obtain ⟨hf0, hf1, hf2, hf3, hf4, hf5, hf6, hf7, hf8, hf9, hf10, hf11, hf12, hf13, hf14⟩ := si15 hm
        subst hf0
        subst hf1
        subst hf2
        subst hf3
        subst hf4
        subst hf5
        subst hf6
        subst hf7
        subst hf8
        subst hf9
        subst hf10
        subst hf11
        subst hf12
        subst hf13
        subst hf14
        exact kk _ _ _ hP hD hS (lv_sub hl [2, 3, 4, 5, 6] rfl)
      · replace hm := if_f hm c_22
        refine lv_iconst (v := (0 : Int32)) hx hb dL_law_1396 (by decide) ?_
        cases hm
  · replace hm := if_f hm c_20
    refine lv_iconst (v := (0 : Int32)) hx hb dL_law_1379 (by decide) ?_
    cases hm
def mLaw_addCheckpoint (vi : Nat → Int32) (vj : Nat → Int64) (vk : Nat → Int32) (vc : Nat → Int32) (va : Nat → Int32) (vpa : Nat → Int32) (vb : Nat → Int32) (vpb : Nat → Int32) (vh : Nat → Int32) (vhs : Nat → Option Nat) (vi2 : Nat → Int32) (vj2 : Nat → Int64) (vk2 : Nat → Int32) (vc2 : Nat → Int32) (va2 : Nat → Int32) (vpa2 : Nat → Int32) (vb2 : Nat → Int32) (vpb2 : Nat → Int32) (vou : Nat → Int64) (mi : Nat → Int32) (vnw : Nat → Int32) (vdi : Nat → Int32) (q_fl2 : Nat) (xs : Nat → Int32) (i : Int32) : Option ((Nat → Int32) × (Nat → Int32) × (Nat → Int32) × (Nat → Int32) × (Nat → Int64) × (Nat → Int32) × (Nat → Int32) × (Nat → Int32) × (Nat → Int32) × (Nat → Int32) × (Nat → Int32) × (Nat → Int64) × (Nat → Int32) × (Nat → Int32) × (Nat → Int32)) := (bo13 (mL_addCheckpoint vi vj vk vc va vpa vb vpb vh vhs vi2 vj2 vk2 vc2 va2 vpa2 vb2 vpb2 vou q_fl2 (xs (i + (1 : Int32)).toNatClampNeg)) (fun r_1 vi_2 vc_3 vh_4 vi2_5 vj2_6 vk2_7 vc2_8 va2_9 vpa2_10 vb2_11 vpb2_12 vou_13 => (bo4 (mX9_addCheckpoint mi vnw vdi (xs (i + (1 : Int32)).toNatClampNeg)) (fun r_15 mi_16 vnw_17 vdi_18 => (if (mX9_thrown mi_16) = r_1 then (if r_1 = 0 then (if (lg_cmp (vou_13 (0 : Int32).toNatClampNeg) (r_15.toInt64)) = 0 then (some (vi_2, vc_3, vh_4, vi2_5, vj2_6, vk2_7, vc2_8, va2_9, vpa2_10, vb2_11, vpb2_12, vou_13, mi_16, vnw_17, vdi_18)) else none) else (some (vi_2, vc_3, vh_4, vi2_5, vj2_6, vk2_7, vc2_8, va2_9, vpa2_10, vb2_11, vpb2_12, vou_13, mi_16, vnw_17, vdi_18))) else none)))))
set_option maxHeartbeats 4000000 in
set_option maxRecDepth 100000 in
theorem kLaw_addCheckpoint (l : Launch) (Γ : my_G) (hfl : l.stackTraces = false) {p : Program} {e : Env} {s : State} {m : MethodId} {below : List Frame} {meth : Method} {c : Code} {b L : Nat} {xs : Nat → Int32} {Q : State → Prop} (hx : p.tables.exec = Jvm.exec) (hb : c.code = cL_law) (hml : c.maxLocals = 7) (hown : s.vm.findClass RL = some m.cls) (hts : ∀ w ∈ wsL_law, w.before #[Value.ref b] s = true) (hX : va_X b L xs s s.heap) (hbl : b < s.heap.size) (hK : my_K Γ s) (hZ : my_ZZ (fun q : Nat => s.heap.size ≤ q) s s.heap) (hstr : my_str s) (hnc : my_nc s) (q_bf q_fl q_k q_c q_a q_pa q_b q_pb q_hi q_hs q_fl2 q_k2 q_c2 q_a2 q_pa2 q_b2 q_pb2 q_ou q_mo q_tt q_nw q_tr q_ot q_di q_kp q_ik q_wy q_ah q_tg q_ws q_fr q_rw q_tx q_flT q_s1 q_s2 q_fd q_kc q_kr : Nat) (vi : Nat → Int32) (vj : Nat → Int64) (vk : Nat → Int32) (vc : Nat → Int32) (va : Nat → Int32) (vpa : Nat → Int32) (vb : Nat → Int32) (vpb : Nat → Int32) (vh : Nat → Int32) (vhs : Nat → Option Nat) (vi2 : Nat → Int32) (vj2 : Nat → Int64) (vk2 : Nat → Int32) (vc2 : Nat → Int32) (va2 : Nat → Int32) (vpa2 : Nat → Int32) (vb2 : Nat → Int32) (vpb2 : Nat → Int32) (vou : Nat → Int64) (mi : Nat → Int32) (vtt : Nat → Int32) (vnw : Nat → Int32) (vtr : Nat → Int32) (vot : Nat → Int32) (vdi : Nat → Int32) (vkp : Nat → Int32) (vik : Nat → Int32) (vwy : Nat → Int32) (vah : Nat → Int32) (vtg : Nat → Int32) (vws : Nat → Int32) (vfr : Nat → Int32) (vrw : Nat → Int32) (i : Int32) (hi1 : vp_in (i + (1 : Int32)) L) (hi2 : vp_in (i + (2 : Int32)) L) (hi3 : vp_in (i + (3 : Int32)) L) (vi_z : Nat → Int32) (vc_z : Nat → Int32) (vh_z : Nat → Int32) (vi2_z : Nat → Int32) (vj2_z : Nat → Int64) (vk2_z : Nat → Int32) (vc2_z : Nat → Int32) (va2_z : Nat → Int32) (vpa2_z : Nat → Int32) (vb2_z : Nat → Int32) (vpb2_z : Nat → Int32) (vou_z : Nat → Int64) (mi_z : Nat → Int32) (vnw_z : Nat → Int32) (vdi_z : Nat → Int32) (hm : mLaw_addCheckpoint vi vj vk vc va vpa vb vpb vh vhs vi2 vj2 vk2 vc2 va2 vpa2 vb2 vpb2 vou mi vnw vdi q_fl2 xs i = (some (vi_z, vc_z, vh_z, vi2_z, vj2_z, vk2_z, vc2_z, va2_z, vpa2_z, vb2_z, vpb2_z, vou_z, mi_z, vnw_z, vdi_z))) (R_ : va_W) (nc ns : Nat) (hn : nc + 3 ≤ room_1.cells) (hk : ns + 18 ≤ room_1.slots) (H : Heap) (locs : List Loc) (ls : Array Slot) (hP : va_P (my_D Γ) vwCl ((wBF Γ q_bf q_tx q_fl q_flT q_hi q_s1 q_s2 q_fd q_kc q_kr  ++ wFloor Γ q_fl q_k q_c q_a q_pa q_b q_pb vi vj vk vc va vpa vb vpb ++ wHist Γ q_hi q_hs vh vhs ++ wFloor Γ q_fl2 q_k2 q_c2 q_a2 q_pa2 q_b2 q_pb2 vi2 vj2 vk2 vc2 va2 vpa2 vb2 vpb2 ++ wOut Γ q_ou vou ++ wModel Γ q_mo q_tt q_nw q_tr q_ot q_di q_kp q_ik q_wy q_ah q_tg q_ws q_fr q_rw mi vtt vnw vtr vot vdi vkp vik vwy vah vtg vws vfr vrw) ++ R_) H) (hD : va_D (fun q : Nat => s.heap.size ≤ q) ((wBF Γ q_bf q_tx q_fl q_flT q_hi q_s1 q_s2 q_fd q_kc q_kr  ++ wFloor Γ q_fl q_k q_c q_a q_pa q_b q_pb vi vj vk vc va vpa vb vpb ++ wHist Γ q_hi q_hs vh vhs ++ wFloor Γ q_fl2 q_k2 q_c2 q_a2 q_pa2 q_b2 q_pb2 vi2 vj2 vk2 vc2 va2 vpa2 vb2 vpb2 ++ wOut Γ q_ou vou ++ wModel Γ q_mo q_tt q_nw q_tr q_ot q_di q_kp q_ik q_wy q_ah q_tg q_ws q_fr q_rw mi vtt vnw vtr vot vdi vkp vik vwy vah vtg vws vfr vrw) ++ R_)) (hS : va_S (fun q : Nat => s.heap.size ≤ q) s.heap H locs) (hl : lv_has ls 7 [(0, .ref b), (1, .ref q_bf), (2, .ref q_mo), (3, .ref q_ou), (4, .int i)]) (kk : ∀ (H : Heap) (locs : List Loc) (ls : Array Slot), va_P (my_D Γ) vwCl ((wBF Γ q_bf q_tx q_fl q_flT q_hi q_s1 q_s2 q_fd q_kc q_kr  ++ wFloor Γ q_fl q_k q_c q_a q_pa q_b q_pb vi_z vj vk vc_z va vpa vb vpb ++ wHist Γ q_hi q_hs vh_z vhs ++ wFloor Γ q_fl2 q_k2 q_c2 q_a2 q_pa2 q_b2 q_pb2 vi2_z vj2_z vk2_z vc2_z va2_z vpa2_z vb2_z vpb2_z ++ wOut Γ q_ou vou_z ++ wModel Γ q_mo q_tt q_nw q_tr q_ot q_di q_kp q_ik q_wy q_ah q_tg q_ws q_fr q_rw mi_z vtt vnw_z vtr vot vdi_z vkp vik vwy vah vtg vws vfr vrw) ++ R_) H → va_D (fun q : Nat => s.heap.size ≤ q) ((wBF Γ q_bf q_tx q_fl q_flT q_hi q_s1 q_s2 q_fd q_kc q_kr  ++ wFloor Γ q_fl q_k q_c q_a q_pa q_b q_pb vi_z vj vk vc_z va vpa vb vpb ++ wHist Γ q_hi q_hs vh_z vhs ++ wFloor Γ q_fl2 q_k2 q_c2 q_a2 q_pa2 q_b2 q_pb2 vi2_z vj2_z vk2_z vc2_z va2_z vpa2_z vb2_z vpb2_z ++ wOut Γ q_ou vou_z ++ wModel Γ q_mo q_tt q_nw q_tr q_ot q_di q_kp q_ik q_wy q_ah q_tg q_ws q_fr q_rw mi_z vtt vnw_z vtr vot vdi_z vkp vik vwy vah vtg vws vfr vrw) ++ R_) → va_S (fun q : Nat => s.heap.size ≤ q) s.heap H locs → lv_has ls 7 [(0, .ref b), (1, .ref q_bf), (2, .ref q_mo), (3, .ref q_ou), (4, .int i)] → W p l e room_1 s m #[Value.ref b] below meth c H locs (nc + 3) (ns + 18) Q (F0 m 2260 ls [])) : W p l e room_1 s m #[Value.ref b] below meth c H locs nc ns Q (F0 m 1401 ls []) := by
  have hA : ∀ q : Nat, s.heap.size ≤ q → (fun q : Nat => s.heap.size ≤ q) q := fun _ h => h
  have hbA : ¬ (fun q : Nat => s.heap.size ≤ q) b := Nat.not_le.mpr hbl
  unfold mLaw_addCheckpoint at hm
  refine lv_aload_n hx hb dL_law_1401 rfl (lv_at hl 1 rfl) ?_
  refine lv_aload_n hx hb dL_law_1402 rfl (lv_at hl 0 rfl) ?_
  refine lv_iload hx hb dL_law_1403 (lv_at hl 4 rfl) ?_
  refine lv_iconst (v := (1 : Int32)) hx hb dL_law_1405 (by decide) ?_
  refine lv_iadd hx hb dL_law_1406 ?_
  refine va_sld hx hb hX hbl hbA hS hi1 dL_law_1407 ?_
  refine lv_aload_n hx hb dL_law_1408 rfl (lv_at hl 3 rfl) ?_
  obtain ⟨r_1, vi_2, vc_3, vh_4, vi2_5, vj2_6, vk2_7, vc2_8, va2_9, vpa2_10, vb2_11, vpb2_12, vou_13, hc_14, hm⟩ := bo13_s hm
  refine my_callRW1 (wc := (wBF Γ q_bf q_tx q_fl q_flT q_hi q_s1 q_s2 q_fd q_kc q_kr  ++ wFloor Γ q_fl q_k q_c q_a q_pa q_b q_pb vi vj vk vc va vpa vb vpb ++ wHist Γ q_hi q_hs vh vhs ++ wFloor Γ q_fl2 q_k2 q_c2 q_a2 q_pa2 q_b2 q_pb2 vi2 vj2 vk2 vc2 va2 vpa2 vb2 vpb2 ++ wOut Γ q_ou vou)) (w1 := (wBF Γ q_bf q_tx q_fl q_flT q_hi q_s1 q_s2 q_fd q_kc q_kr  ++ wFloor Γ q_fl q_k q_c q_a q_pa q_b q_pb vi_2 vj vk vc_3 va vpa vb vpb ++ wHist Γ q_hi q_hs vh_4 vhs ++ wFloor Γ q_fl2 q_k2 q_c2 q_a2 q_pa2 q_b2 q_pb2 vi2_5 vj2_6 vk2_7 vc2_8 va2_9 vpa2_10 vb2_11 vpb2_12 ++ wOut Γ q_ou vou_13)) (wa1 := (wBF Γ q_bf q_tx q_fl q_flT q_hi q_s1 q_s2 q_fd q_kc q_kr  ++ wFloor Γ q_fl q_k q_c q_a q_pa q_b q_pb vi_2 vj vk vc_3 va vpa vb vpb ++ wHist Γ q_hi q_hs vh_4 vhs ++ wFloor Γ q_fl2 q_k2 q_c2 q_a2 q_pa2 q_b2 q_pb2 vi2_5 vj2_6 vk2_7 vc2_8 va2_9 vpa2_10 vb2_11 vpb2_12 ++ wOut Γ q_ou vou_13 ++ wModel Γ q_mo q_tt q_nw q_tr q_ot q_di q_kp q_ik q_wy q_ah q_tg q_ws q_fr q_rw mi vtt vnw vtr vot vdi vkp vik vwy vah vtg vws vfr vrw)) hP hD hS hA [0, 1, 2, 3, 4, 5, 6, 7, 8, 9, 10, 11, 12, 13, 14, 15, 16, 17] rfl rfl rfl rfl (vx_runSW (As := [.ref q_bf, .int (xs (i + (1 : Int32)).toNatClampNeg), .ref q_ou]) (rest := []) ⟨hx, hb, hml, hown, hts⟩ (kL_addCheckpoint l Γ hfl q_bf q_fl q_k q_c q_a q_pa q_b q_pb q_hi q_hs q_fl2 q_k2 q_c2 q_a2 q_pa2 q_b2 q_pb2 q_ou q_tx q_flT q_s1 q_s2 q_fd q_kc q_kr vi vj vk vc va vpa vb vpb vh vhs vi2 vj2 vk2 vc2 va2 vpa2 vb2 vpb2 vou (xs (i + (1 : Int32)).toNatClampNeg) r_1 vi_2 vc_3 vh_4 vi2_5 vj2_6 vk2_7 vc2_8 va2_9 vpa2_10 vb2_11 vpb2_12 vou_13 hc_14 _) (vx_cwSW 3 hts gL_law_L_addCheckpoint rfl rfl rfl (by decide +kernel) ⟨Nat.le_of_ble_eq_true rfl, Nat.le_of_ble_eq_true rfl⟩) (my_preSW (wc := (wBF Γ q_bf q_tx q_fl q_flT q_hi q_s1 q_s2 q_fd q_kc q_kr  ++ wFloor Γ q_fl q_k q_c q_a q_pa q_b q_pb vi vj vk vc va vpa vb vpb ++ wHist Γ q_hi q_hs vh vhs ++ wFloor Γ q_fl2 q_k2 q_c2 q_a2 q_pa2 q_b2 q_pb2 vi2 vj2 vk2 vc2 va2 vpa2 vb2 vpb2 ++ wOut Γ q_ou vou)) [0, 1, 2, 3, 4, 5, 6, 7, 8, 9, 10, 11, 12, 13, 14, 15, 16, 17] hK hP hD hS hA hZ hstr hnc rfl rfl) rfl rfl hl.1 rfl (lv_room (Nat.le_of_ble_eq_true rfl)) dL_law_1409 ⟨Nat.le_trans (Nat.add_le_add_left (Nat.le_of_ble_eq_true rfl) nc) hn, Nat.le_trans (Nat.add_le_add_left (Nat.le_of_ble_eq_true rfl) ns) hk⟩) (fun H locs hP hD hS => ?_)
  refine W.widen (k := nc + 3) (n := ns + 18) (Nat.add_le_add_left (Nat.le_of_ble_eq_true rfl) nc) (Nat.add_le_add_left (Nat.le_of_ble_eq_true rfl) ns) ?_
  refine lv_istore (lv' := [(5, .int r_1), (0, .ref b), (1, .ref q_bf), (2, .ref q_mo), (3, .ref q_ou), (4, .int i)]) hx hb dL_law_1412 hl (by decide) rfl (fun ls hl => ?_)
  refine lv_aload_n hx hb dL_law_1414 rfl (lv_at hl 3 rfl) ?_
  refine lv_aload_n hx hb dL_law_1415 rfl (lv_at hl 1 rfl) ?_
  refine lv_iload hx hb dL_law_1416 (lv_at hl 5 rfl) ?_
  refine lv_iconst (v := (1 : Int32)) hx hb dL_law_1418 (by decide) ?_
  refine lv_iadd hx hb dL_law_1419 ?_
  refine va_sld hx hb hX hbl hbA hS hi1 dL_law_1420 ?_
  obtain ⟨r_15, mi_16, vnw_17, vdi_18, hc_19, hm⟩ := bo4_s hm
  refine my_callR1 (wc := (wModel Γ q_mo q_tt q_nw q_tr q_ot q_di q_kp q_ik q_wy q_ah q_tg q_ws q_fr q_rw mi vtt vnw vtr vot vdi vkp vik vwy vah vtg vws vfr vrw)) (w1 := (wModel Γ q_mo q_tt q_nw q_tr q_ot q_di q_kp q_ik q_wy q_ah q_tg q_ws q_fr q_rw mi_16 vtt vnw_17 vtr vot vdi_18 vkp vik vwy vah vtg vws vfr vrw)) (wa1 := (wBF Γ q_bf q_tx q_fl q_flT q_hi q_s1 q_s2 q_fd q_kc q_kr  ++ wFloor Γ q_fl q_k q_c q_a q_pa q_b q_pb vi_2 vj vk vc_3 va vpa vb vpb ++ wHist Γ q_hi q_hs vh_4 vhs ++ wFloor Γ q_fl2 q_k2 q_c2 q_a2 q_pa2 q_b2 q_pb2 vi2_5 vj2_6 vk2_7 vc2_8 va2_9 vpa2_10 vb2_11 vpb2_12 ++ wOut Γ q_ou vou_13 ++ wModel Γ q_mo q_tt q_nw q_tr q_ot q_di q_kp q_ik q_wy q_ah q_tg q_ws q_fr q_rw mi_16 vtt vnw_17 vtr vot vdi_18 vkp vik vwy vah vtg vws vfr vrw)) hP hD hS hA [18, 19, 20, 21, 22, 23, 24, 25, 26, 27, 28, 29, 30, 31] rfl rfl rfl rfl (va_runV (As := [.int (xs (i + (1 : Int32)).toNatClampNeg)]) (rest := []) ⟨hx, hb, hml, hown, hts⟩ (kX9_addCheckpoint l Γ q_mo q_tt q_nw q_tr q_ot q_di q_kp q_ik q_wy q_ah q_tg q_ws q_fr q_rw mi vtt vnw vtr vot vdi vkp vik vwy vah vtg vws vfr vrw (xs (i + (1 : Int32)).toNatClampNeg) r_15 mi_16 vnw_17 vdi_18 hc_19 _) (cwV 1 hts gL_law_X9_addCheckpoint rfl rfl rfl (by decide +kernel) ⟨Nat.le_of_ble_eq_true rfl, Nat.le_of_ble_eq_true rfl⟩) (my_preV (wc := (wModel Γ q_mo q_tt q_nw q_tr q_ot q_di q_kp q_ik q_wy q_ah q_tg q_ws q_fr q_rw mi vtt vnw vtr vot vdi vkp vik vwy vah vtg vws vfr vrw)) (ci := 7) (q0 := 18) [18, 19, 20, 21, 22, 23, 24, 25, 26, 27, 28, 29, 30, 31] hK hP hD rfl rfl rfl rfl) rfl rfl hl.1 rfl (lv_room (Nat.le_of_ble_eq_true rfl)) dL_law_1421 ⟨hn, hk⟩) (fun H locs hP hD hS => ?_)
  refine lv_istore (lv' := [(6, .int r_15), (5, .int r_1), (0, .ref b), (1, .ref q_bf), (2, .ref q_mo), (3, .ref q_ou), (4, .int i)]) hx hb dL_law_1424 hl (by decide) rfl (fun ls hl => ?_)
  refine lv_aload_n hx hb dL_law_1426 rfl (lv_at hl 4 rfl) ?_
  refine my_callR1 (wc := (wMo Γ q_mo q_tt q_nw q_tr q_ot q_di q_kp q_ik q_wy q_ah q_tg q_ws q_fr q_rw mi_16)) (w1 := (wMo Γ q_mo q_tt q_nw q_tr q_ot q_di q_kp q_ik q_wy q_ah q_tg q_ws q_fr q_rw mi_16)) (wa1 := (wBF Γ q_bf q_tx q_fl q_flT q_hi q_s1 q_s2 q_fd q_kc q_kr  ++ wFloor Γ q_fl q_k q_c q_a q_pa q_b q_pb vi_2 vj vk vc_3 va vpa vb vpb ++ wHist Γ q_hi q_hs vh_4 vhs ++ wFloor Γ q_fl2 q_k2 q_c2 q_a2 q_pa2 q_b2 q_pb2 vi2_5 vj2_6 vk2_7 vc2_8 va2_9 vpa2_10 vb2_11 vpb2_12 ++ wOut Γ q_ou vou_13 ++ wModel Γ q_mo q_tt q_nw q_tr q_ot q_di q_kp q_ik q_wy q_ah q_tg q_ws q_fr q_rw mi_16 vtt vnw_17 vtr vot vdi_18 vkp vik vwy vah vtg vws vfr vrw)) hP hD hS hA [18] rfl rfl rfl rfl (va_runV (As := []) (rest := []) ⟨hx, hb, hml, hown, hts⟩ (kX9_thrown l Γ q_mo q_tt q_nw q_tr q_ot q_di q_kp q_ik q_wy q_ah q_tg q_ws q_fr q_rw mi_16 (mX9_thrown mi_16) rfl _) (cwV 0 hts gL_law_X9_thrown rfl rfl rfl (by decide +kernel) ⟨Nat.le_of_ble_eq_true rfl, Nat.le_of_ble_eq_true rfl⟩) (my_preV (wc := (wMo Γ q_mo q_tt q_nw q_tr q_ot q_di q_kp q_ik q_wy q_ah q_tg q_ws q_fr q_rw mi_16)) (ci := 7) (q0 := 18) [18] hK hP hD rfl rfl rfl rfl) rfl rfl hl.1 rfl (lv_room (Nat.le_of_ble_eq_true rfl)) dL_law_1427 ⟨hn, hk⟩) (fun H locs hP hD hS => ?_)
  refine lv_iload hx hb dL_law_1430 (lv_at hl 1 rfl) ?_
  refine lv_icmp_eq (tgt := 1437) hx hb dL_law_1432 (by decide) (fun c_20 => ?_) (fun c_20 => ?_)
  · replace hm := if_s hm c_20
    refine lv_iload hx hb dL_law_1437 (lv_at hl 1 rfl) ?_
    refine lv_if_ne (tgt := 1454) hx hb dL_law_1439 (by decide) (fun c_21 => ?_) (fun c_21 => ?_)
    · replace hm := if_f hm c_21
      refine lv_goto (tgt := 2260) hx hb dL_law_1454 (by decide) ?_
      obtain ⟨hf0, hf1, hf2, hf3, hf4, hf5, hf6, hf7, hf8, hf9, hf10, hf11, hf12, hf13, hf14⟩ := si15 hm
      subst hf0
      subst hf1
      subst hf2
      subst hf3
      subst hf4
      subst hf5
      subst hf6
      subst hf7
      subst hf8
      subst hf9
      subst hf10
      subst hf11
      subst hf12
      subst hf13
      subst hf14
      exact kk _ _ _ hP hD hS (lv_sub hl [2, 3, 4, 5, 6] rfl)
    · replace hm := if_s hm c_21
      refine lv_aload_n hx hb dL_law_1442 rfl (lv_at hl 5 rfl) ?_
      refine lv_iconst (v := (0 : Int32)) hx hb dL_law_1443 (by decide) ?_
      refine va_lald hx hb hK hP 17 1 rfl rfl (show vp_in (0 : Int32) 1 from (by decide : ¬ ((0 : Int32) < 0 ∨ 1 ≤ (0 : Int32).toNatClampNeg))) dL_law_1444 ?_
      refine lv_iload hx hb dL_law_1445 (lv_at hl 0 rfl) ?_
      refine lv_i2l (v := r_15.toInt64) hx hb dL_law_1447 rfl ?_
      refine W.lcmp hx hb dL_law_1448 ?_
      refine lv_if_eq (tgt := 1454) hx hb dL_law_1449 (by decide) (fun c_22 => ?_) (fun c_22 => ?_)
      · replace hm := if_s hm c_22
        refine lv_goto (tgt := 2260) hx hb dL_law_1454 (by decide) ?_
        obtain ⟨hf0, hf1, hf2, hf3, hf4, hf5, hf6, hf7, hf8, hf9, hf10, hf11, hf12, hf13, hf14⟩ := si15 hm
        subst hf0
        subst hf1
        subst hf2
        subst hf3
        subst hf4
        subst hf5
        subst hf6
        subst hf7
        subst hf8
        subst hf9
        subst hf10
        subst hf11
        subst hf12
        subst hf13
        subst hf14
        exact kk _ _ _ hP hD hS (lv_sub hl [2, 3, 4, 5, 6] rfl)
      · replace hm := if_f hm c_22
        refine lv_iconst (v := (0 : Int32)) hx hb dL_law_1452 (by decide) ?_
        cases hm
  · replace hm := if_f hm c_20
    refine lv_iconst (v := (0 : Int32)) hx hb dL_law_1435 (by decide) ?_
    cases hm
def mLaw_putRobot (vi : Nat → Int32) (vj : Nat → Int64) (vk : Nat → Int32) (vc : Nat → Int32) (va : Nat → Int32) (vpa : Nat → Int32) (vb : Nat → Int32) (vpb : Nat → Int32) (vh : Nat → Int32) (vhs : Nat → Option Nat) (vi2 : Nat → Int32) (vj2 : Nat → Int64) (vk2 : Nat → Int32) (vc2 : Nat → Int32) (va2 : Nat → Int32) (vpa2 : Nat → Int32) (vb2 : Nat → Int32) (vpb2 : Nat → Int32) (vou : Nat → Int64) (mi : Nat → Int32) (vnw : Nat → Int32) (vdi : Nat → Int32) (q_fl2 : Nat) (xs : Nat → Int32) (i : Int32) : Option ((Nat → Int32) × (Nat → Int32) × (Nat → Int32) × (Nat → Int32) × (Nat → Int64) × (Nat → Int32) × (Nat → Int32) × (Nat → Int32) × (Nat → Int32) × (Nat → Int32) × (Nat → Int32) × (Nat → Int64) × (Nat → Int32) × (Nat → Int32) × (Nat → Int32)) := (bo13 (mL_putRobot vi vj vk vc va vpa vb vpb vh vhs vi2 vj2 vk2 vc2 va2 vpa2 vb2 vpb2 vou q_fl2 (xs (i + (1 : Int32)).toNatClampNeg) (xs (i + (2 : Int32)).toNatClampNeg) (xs (i + (3 : Int32)).toNatClampNeg)) (fun r_1 va_2 vb_3 vh_4 vi2_5 vj2_6 vk2_7 vc2_8 va2_9 vpa2_10 vb2_11 vpb2_12 vou_13 => (bo4 (mX9_putRobot mi vnw vdi (xs (i + (1 : Int32)).toNatClampNeg) (xs (i + (2 : Int32)).toNatClampNeg) (xs (i + (3 : Int32)).toNatClampNeg)) (fun r_15 mi_16 vnw_17 vdi_18 => (if (mX9_thrown mi_16) = r_1 then (if r_1 = 0 then (if (lg_cmp (vou_13 (0 : Int32).toNatClampNeg) (r_15.toInt64)) = 0 then (some (va_2, vb_3, vh_4, vi2_5, vj2_6, vk2_7, vc2_8, va2_9, vpa2_10, vb2_11, vpb2_12, vou_13, mi_16, vnw_17, vdi_18)) else none) else (some (va_2, vb_3, vh_4, vi2_5, vj2_6, vk2_7, vc2_8, va2_9, vpa2_10, vb2_11, vpb2_12, vou_13, mi_16, vnw_17, vdi_18))) else none)))))
set_option maxHeartbeats 4000000 in
set_option maxRecDepth 100000 in
theorem kLaw_putRobot (l : Launch) (Γ : my_G) (hfl : l.stackTraces = false) {p : Program} {e : Env} {s : State} {m : MethodId} {below : List Frame} {meth : Method} {c : Code} {b L : Nat} {xs : Nat → Int32} {Q : State → Prop} (hx : p.tables.exec = Jvm.exec) (hb : c.code = cL_law) (hml : c.maxLocals = 7) (hown : s.vm.findClass RL = some m.cls) (hts : ∀ w ∈ wsL_law, w.before #[Value.ref b] s = true) (hX : va_X b L xs s s.heap) (hbl : b < s.heap.size) (hK : my_K Γ s) (hZ : my_ZZ (fun q : Nat => s.heap.size ≤ q) s s.heap) (hstr : my_str s) (hnc : my_nc s) (q_bf q_fl q_k q_c q_a q_pa q_b q_pb q_hi q_hs q_fl2 q_k2 q_c2 q_a2 q_pa2 q_b2 q_pb2 q_ou q_mo q_tt q_nw q_tr q_ot q_di q_kp q_ik q_wy q_ah q_tg q_ws q_fr q_rw q_tx q_flT q_s1 q_s2 q_fd q_kc q_kr : Nat) (vi : Nat → Int32) (vj : Nat → Int64) (vk : Nat → Int32) (vc : Nat → Int32) (va : Nat → Int32) (vpa : Nat → Int32) (vb : Nat → Int32) (vpb : Nat → Int32) (vh : Nat → Int32) (vhs : Nat → Option Nat) (vi2 : Nat → Int32) (vj2 : Nat → Int64) (vk2 : Nat → Int32) (vc2 : Nat → Int32) (va2 : Nat → Int32) (vpa2 : Nat → Int32) (vb2 : Nat → Int32) (vpb2 : Nat → Int32) (vou : Nat → Int64) (mi : Nat → Int32) (vtt : Nat → Int32) (vnw : Nat → Int32) (vtr : Nat → Int32) (vot : Nat → Int32) (vdi : Nat → Int32) (vkp : Nat → Int32) (vik : Nat → Int32) (vwy : Nat → Int32) (vah : Nat → Int32) (vtg : Nat → Int32) (vws : Nat → Int32) (vfr : Nat → Int32) (vrw : Nat → Int32) (i : Int32) (hi1 : vp_in (i + (1 : Int32)) L) (hi2 : vp_in (i + (2 : Int32)) L) (hi3 : vp_in (i + (3 : Int32)) L) (va_z : Nat → Int32) (vb_z : Nat → Int32) (vh_z : Nat → Int32) (vi2_z : Nat → Int32) (vj2_z : Nat → Int64) (vk2_z : Nat → Int32) (vc2_z : Nat → Int32) (va2_z : Nat → Int32) (vpa2_z : Nat → Int32) (vb2_z : Nat → Int32) (vpb2_z : Nat → Int32) (vou_z : Nat → Int64) (mi_z : Nat → Int32) (vnw_z : Nat → Int32) (vdi_z : Nat → Int32) (hm : mLaw_putRobot vi vj vk vc va vpa vb vpb vh vhs vi2 vj2 vk2 vc2 va2 vpa2 vb2 vpb2 vou mi vnw vdi q_fl2 xs i = (some (va_z, vb_z, vh_z, vi2_z, vj2_z, vk2_z, vc2_z, va2_z, vpa2_z, vb2_z, vpb2_z, vou_z, mi_z, vnw_z, vdi_z))) (R_ : va_W) (nc ns : Nat) (hn : nc + 3 ≤ room_1.cells) (hk : ns + 18 ≤ room_1.slots) (H : Heap) (locs : List Loc) (ls : Array Slot) (hP : va_P (my_D Γ) vwCl ((wBF Γ q_bf q_tx q_fl q_flT q_hi q_s1 q_s2 q_fd q_kc q_kr  ++ wFloor Γ q_fl q_k q_c q_a q_pa q_b q_pb vi vj vk vc va vpa vb vpb ++ wHist Γ q_hi q_hs vh vhs ++ wFloor Γ q_fl2 q_k2 q_c2 q_a2 q_pa2 q_b2 q_pb2 vi2 vj2 vk2 vc2 va2 vpa2 vb2 vpb2 ++ wOut Γ q_ou vou ++ wModel Γ q_mo q_tt q_nw q_tr q_ot q_di q_kp q_ik q_wy q_ah q_tg q_ws q_fr q_rw mi vtt vnw vtr vot vdi vkp vik vwy vah vtg vws vfr vrw) ++ R_) H) (hD : va_D (fun q : Nat => s.heap.size ≤ q) ((wBF Γ q_bf q_tx q_fl q_flT q_hi q_s1 q_s2 q_fd q_kc q_kr  ++ wFloor Γ q_fl q_k q_c q_a q_pa q_b q_pb vi vj vk vc va vpa vb vpb ++ wHist Γ q_hi q_hs vh vhs ++ wFloor Γ q_fl2 q_k2 q_c2 q_a2 q_pa2 q_b2 q_pb2 vi2 vj2 vk2 vc2 va2 vpa2 vb2 vpb2 ++ wOut Γ q_ou vou ++ wModel Γ q_mo q_tt q_nw q_tr q_ot q_di q_kp q_ik q_wy q_ah q_tg q_ws q_fr q_rw mi vtt vnw vtr vot vdi vkp vik vwy vah vtg vws vfr vrw) ++ R_)) (hS : va_S (fun q : Nat => s.heap.size ≤ q) s.heap H locs) (hl : lv_has ls 7 [(0, .ref b), (1, .ref q_bf), (2, .ref q_mo), (3, .ref q_ou), (4, .int i)]) (kk : ∀ (H : Heap) (locs : List Loc) (ls : Array Slot), va_P (my_D Γ) vwCl ((wBF Γ q_bf q_tx q_fl q_flT q_hi q_s1 q_s2 q_fd q_kc q_kr  ++ wFloor Γ q_fl q_k q_c q_a q_pa q_b q_pb vi vj vk vc va_z vpa vb_z vpb ++ wHist Γ q_hi q_hs vh_z vhs ++ wFloor Γ q_fl2 q_k2 q_c2 q_a2 q_pa2 q_b2 q_pb2 vi2_z vj2_z vk2_z vc2_z va2_z vpa2_z vb2_z vpb2_z ++ wOut Γ q_ou vou_z ++ wModel Γ q_mo q_tt q_nw q_tr q_ot q_di q_kp q_ik q_wy q_ah q_tg q_ws q_fr q_rw mi_z vtt vnw_z vtr vot vdi_z vkp vik vwy vah vtg vws vfr vrw) ++ R_) H → va_D (fun q : Nat => s.heap.size ≤ q) ((wBF Γ q_bf q_tx q_fl q_flT q_hi q_s1 q_s2 q_fd q_kc q_kr  ++ wFloor Γ q_fl q_k q_c q_a q_pa q_b q_pb vi vj vk vc va_z vpa vb_z vpb ++ wHist Γ q_hi q_hs vh_z vhs ++ wFloor Γ q_fl2 q_k2 q_c2 q_a2 q_pa2 q_b2 q_pb2 vi2_z vj2_z vk2_z vc2_z va2_z vpa2_z vb2_z vpb2_z ++ wOut Γ q_ou vou_z ++ wModel Γ q_mo q_tt q_nw q_tr q_ot q_di q_kp q_ik q_wy q_ah q_tg q_ws q_fr q_rw mi_z vtt vnw_z vtr vot vdi_z vkp vik vwy vah vtg vws vfr vrw) ++ R_) → va_S (fun q : Nat => s.heap.size ≤ q) s.heap H locs → lv_has ls 7 [(0, .ref b), (1, .ref q_bf), (2, .ref q_mo), (3, .ref q_ou), (4, .int i)] → W p l e room_1 s m #[Value.ref b] below meth c H locs (nc + 3) (ns + 18) Q (F0 m 2260 ls [])) : W p l e room_1 s m #[Value.ref b] below meth c H locs nc ns Q (F0 m 1457 ls []) := by
  have hA : ∀ q : Nat, s.heap.size ≤ q → (fun q : Nat => s.heap.size ≤ q) q := fun _ h => h
  have hbA : ¬ (fun q : Nat => s.heap.size ≤ q) b := Nat.not_le.mpr hbl
  unfold mLaw_putRobot at hm
  refine lv_aload_n hx hb dL_law_1457 rfl (lv_at hl 1 rfl) ?_
  refine lv_aload_n hx hb dL_law_1458 rfl (lv_at hl 0 rfl) ?_
  refine lv_iload hx hb dL_law_1459 (lv_at hl 4 rfl) ?_
  refine lv_iconst (v := (1 : Int32)) hx hb dL_law_1461 (by decide) ?_
  refine lv_iadd hx hb dL_law_1462 ?_
  refine va_sld hx hb hX hbl hbA hS hi1 dL_law_1463 ?_
  refine lv_aload_n hx hb dL_law_1464 rfl (lv_at hl 0 rfl) ?_
  refine lv_iload hx hb dL_law_1465 (lv_at hl 4 rfl) ?_
  refine lv_iconst (v := (2 : Int32)) hx hb dL_law_1467 (by decide) ?_
  refine lv_iadd hx hb dL_law_1468 ?_
  refine va_sld hx hb hX hbl hbA hS hi2 dL_law_1469 ?_
  refine lv_aload_n hx hb dL_law_1470 rfl (lv_at hl 0 rfl) ?_
  refine lv_iload hx hb dL_law_1471 (lv_at hl 4 rfl) ?_
  refine lv_iconst (v := (3 : Int32)) hx hb dL_law_1473 (by decide) ?_
  refine lv_iadd hx hb dL_law_1474 ?_
  refine va_sld hx hb hX hbl hbA hS hi3 dL_law_1475 ?_
  refine lv_aload_n hx hb dL_law_1476 rfl (lv_at hl 3 rfl) ?_
  obtain ⟨r_1, va_2, vb_3, vh_4, vi2_5, vj2_6, vk2_7, vc2_8, va2_9, vpa2_10, vb2_11, vpb2_12, vou_13, hc_14, hm⟩ := bo13_s hm
  refine my_callRW1 (wc := (wBF Γ q_bf q_tx q_fl q_flT q_hi q_s1 q_s2 q_fd q_kc q_kr  ++ wFloor Γ q_fl q_k q_c q_a q_pa q_b q_pb vi vj vk vc va vpa vb vpb ++ wHist Γ q_hi q_hs vh vhs ++ wFloor Γ q_fl2 q_k2 q_c2 q_a2 q_pa2 q_b2 q_pb2 vi2 vj2 vk2 vc2 va2 vpa2 vb2 vpb2 ++ wOut Γ q_ou vou)) (w1 := (wBF Γ q_bf q_tx q_fl q_flT q_hi q_s1 q_s2 q_fd q_kc q_kr  ++ wFloor Γ q_fl q_k q_c q_a q_pa q_b q_pb vi vj vk vc va_2 vpa vb_3 vpb ++ wHist Γ q_hi q_hs vh_4 vhs ++ wFloor Γ q_fl2 q_k2 q_c2 q_a2 q_pa2 q_b2 q_pb2 vi2_5 vj2_6 vk2_7 vc2_8 va2_9 vpa2_10 vb2_11 vpb2_12 ++ wOut Γ q_ou vou_13)) (wa1 := (wBF Γ q_bf q_tx q_fl q_flT q_hi q_s1 q_s2 q_fd q_kc q_kr  ++ wFloor Γ q_fl q_k q_c q_a q_pa q_b q_pb vi vj vk vc va_2 vpa vb_3 vpb ++ wHist Γ q_hi q_hs vh_4 vhs ++ wFloor Γ q_fl2 q_k2 q_c2 q_a2 q_pa2 q_b2 q_pb2 vi2_5 vj2_6 vk2_7 vc2_8 va2_9 vpa2_10 vb2_11 vpb2_12 ++ wOut Γ q_ou vou_13 ++ wModel Γ q_mo q_tt q_nw q_tr q_ot q_di q_kp q_ik q_wy q_ah q_tg q_ws q_fr q_rw mi vtt vnw vtr vot vdi vkp vik vwy vah vtg vws vfr vrw)) hP hD hS hA [0, 1, 2, 3, 4, 5, 6, 7, 8, 9, 10, 11, 12, 13, 14, 15, 16, 17] rfl rfl rfl rfl (vx_runSW (As := [.ref q_bf, .int (xs (i + (1 : Int32)).toNatClampNeg), .int (xs (i + (2 : Int32)).toNatClampNeg), .int (xs (i + (3 : Int32)).toNatClampNeg), .ref q_ou]) (rest := []) ⟨hx, hb, hml, hown, hts⟩ (kL_putRobot l Γ hfl q_bf q_fl q_k q_c q_a q_pa q_b q_pb q_hi q_hs q_fl2 q_k2 q_c2 q_a2 q_pa2 q_b2 q_pb2 q_ou q_tx q_flT q_s1 q_s2 q_fd q_kc q_kr vi vj vk vc va vpa vb vpb vh vhs vi2 vj2 vk2 vc2 va2 vpa2 vb2 vpb2 vou (xs (i + (1 : Int32)).toNatClampNeg) (xs (i + (2 : Int32)).toNatClampNeg) (xs (i + (3 : Int32)).toNatClampNeg) r_1 va_2 vb_3 vh_4 vi2_5 vj2_6 vk2_7 vc2_8 va2_9 vpa2_10 vb2_11 vpb2_12 vou_13 hc_14 _) (vx_cwSW 5 hts gL_law_L_putRobot rfl rfl rfl (by decide +kernel) ⟨Nat.le_of_ble_eq_true rfl, Nat.le_of_ble_eq_true rfl⟩) (my_preSW (wc := (wBF Γ q_bf q_tx q_fl q_flT q_hi q_s1 q_s2 q_fd q_kc q_kr  ++ wFloor Γ q_fl q_k q_c q_a q_pa q_b q_pb vi vj vk vc va vpa vb vpb ++ wHist Γ q_hi q_hs vh vhs ++ wFloor Γ q_fl2 q_k2 q_c2 q_a2 q_pa2 q_b2 q_pb2 vi2 vj2 vk2 vc2 va2 vpa2 vb2 vpb2 ++ wOut Γ q_ou vou)) [0, 1, 2, 3, 4, 5, 6, 7, 8, 9, 10, 11, 12, 13, 14, 15, 16, 17] hK hP hD hS hA hZ hstr hnc rfl rfl) rfl rfl hl.1 rfl (lv_room (Nat.le_of_ble_eq_true rfl)) dL_law_1477 ⟨Nat.le_trans (Nat.add_le_add_left (Nat.le_of_ble_eq_true rfl) nc) hn, Nat.le_trans (Nat.add_le_add_left (Nat.le_of_ble_eq_true rfl) ns) hk⟩) (fun H locs hP hD hS => ?_)
  refine W.widen (k := nc + 3) (n := ns + 18) (Nat.add_le_add_left (Nat.le_of_ble_eq_true rfl) nc) (Nat.add_le_add_left (Nat.le_of_ble_eq_true rfl) ns) ?_
  refine lv_istore (lv' := [(5, .int r_1), (0, .ref b), (1, .ref q_bf), (2, .ref q_mo), (3, .ref q_ou), (4, .int i)]) hx hb dL_law_1480 hl (by decide) rfl (fun ls hl => ?_)
  refine lv_aload_n hx hb dL_law_1482 rfl (lv_at hl 3 rfl) ?_
  refine lv_aload_n hx hb dL_law_1483 rfl (lv_at hl 1 rfl) ?_
  refine lv_iload hx hb dL_law_1484 (lv_at hl 5 rfl) ?_
  refine lv_iconst (v := (1 : Int32)) hx hb dL_law_1486 (by decide) ?_
  refine lv_iadd hx hb dL_law_1487 ?_
  refine va_sld hx hb hX hbl hbA hS hi1 dL_law_1488 ?_
  refine lv_aload_n hx hb dL_law_1489 rfl (lv_at hl 1 rfl) ?_
  refine lv_iload hx hb dL_law_1490 (lv_at hl 5 rfl) ?_
  refine lv_iconst (v := (2 : Int32)) hx hb dL_law_1492 (by decide) ?_
  refine lv_iadd hx hb dL_law_1493 ?_
  refine va_sld hx hb hX hbl hbA hS hi2 dL_law_1494 ?_
  refine lv_aload_n hx hb dL_law_1495 rfl (lv_at hl 1 rfl) ?_
  refine lv_iload hx hb dL_law_1496 (lv_at hl 5 rfl) ?_
  refine lv_iconst (v := (3 : Int32)) hx hb dL_law_1498 (by decide) ?_
  refine lv_iadd hx hb dL_law_1499 ?_
  refine va_sld hx hb hX hbl hbA hS hi3 dL_law_1500 ?_
  obtain ⟨r_15, mi_16, vnw_17, vdi_18, hc_19, hm⟩ := bo4_s hm
  refine my_callR1 (wc := (wModel Γ q_mo q_tt q_nw q_tr q_ot q_di q_kp q_ik q_wy q_ah q_tg q_ws q_fr q_rw mi vtt vnw vtr vot vdi vkp vik vwy vah vtg vws vfr vrw)) (w1 := (wModel Γ q_mo q_tt q_nw q_tr q_ot q_di q_kp q_ik q_wy q_ah q_tg q_ws q_fr q_rw mi_16 vtt vnw_17 vtr vot vdi_18 vkp vik vwy vah vtg vws vfr vrw)) (wa1 := (wBF Γ q_bf q_tx q_fl q_flT q_hi q_s1 q_s2 q_fd q_kc q_kr  ++ wFloor Γ q_fl q_k q_c q_a q_pa q_b q_pb vi vj vk vc va_2 vpa vb_3 vpb ++ wHist Γ q_hi q_hs vh_4 vhs ++ wFloor Γ q_fl2 q_k2 q_c2 q_a2 q_pa2 q_b2 q_pb2 vi2_5 vj2_6 vk2_7 vc2_8 va2_9 vpa2_10 vb2_11 vpb2_12 ++ wOut Γ q_ou vou_13 ++ wModel Γ q_mo q_tt q_nw q_tr q_ot q_di q_kp q_ik q_wy q_ah q_tg q_ws q_fr q_rw mi_16 vtt vnw_17 vtr vot vdi_18 vkp vik vwy vah vtg vws vfr vrw)) hP hD hS hA [18, 19, 20, 21, 22, 23, 24, 25, 26, 27, 28, 29, 30, 31] rfl rfl rfl rfl (va_runV (As := [.int (xs (i + (1 : Int32)).toNatClampNeg), .int (xs (i + (2 : Int32)).toNatClampNeg), .int (xs (i + (3 : Int32)).toNatClampNeg)]) (rest := []) ⟨hx, hb, hml, hown, hts⟩ (kX9_putRobot l Γ q_mo q_tt q_nw q_tr q_ot q_di q_kp q_ik q_wy q_ah q_tg q_ws q_fr q_rw mi vtt vnw vtr vot vdi vkp vik vwy vah vtg vws vfr vrw (xs (i + (1 : Int32)).toNatClampNeg) (xs (i + (2 : Int32)).toNatClampNeg) (xs (i + (3 : Int32)).toNatClampNeg) r_15 mi_16 vnw_17 vdi_18 hc_19 _) (cwV 3 hts gL_law_X9_putRobot rfl rfl rfl (by decide +kernel) ⟨Nat.le_of_ble_eq_true rfl, Nat.le_of_ble_eq_true rfl⟩) (my_preV (wc := (wModel Γ q_mo q_tt q_nw q_tr q_ot q_di q_kp q_ik q_wy q_ah q_tg q_ws q_fr q_rw mi vtt vnw vtr vot vdi vkp vik vwy vah vtg vws vfr vrw)) (ci := 7) (q0 := 18) [18, 19, 20, 21, 22, 23, 24, 25, 26, 27, 28, 29, 30, 31] hK hP hD rfl rfl rfl rfl) rfl rfl hl.1 rfl (lv_room (Nat.le_of_ble_eq_true rfl)) dL_law_1501 ⟨hn, hk⟩) (fun H locs hP hD hS => ?_)
  refine lv_istore (lv' := [(6, .int r_15), (5, .int r_1), (0, .ref b), (1, .ref q_bf), (2, .ref q_mo), (3, .ref q_ou), (4, .int i)]) hx hb dL_law_1504 hl (by decide) rfl (fun ls hl => ?_)
  refine lv_aload_n hx hb dL_law_1506 rfl (lv_at hl 4 rfl) ?_
  refine my_callR1 (wc := (wMo Γ q_mo q_tt q_nw q_tr q_ot q_di q_kp q_ik q_wy q_ah q_tg q_ws q_fr q_rw mi_16)) (w1 := (wMo Γ q_mo q_tt q_nw q_tr q_ot q_di q_kp q_ik q_wy q_ah q_tg q_ws q_fr q_rw mi_16)) (wa1 := (wBF Γ q_bf q_tx q_fl q_flT q_hi q_s1 q_s2 q_fd q_kc q_kr  ++ wFloor Γ q_fl q_k q_c q_a q_pa q_b q_pb vi vj vk vc va_2 vpa vb_3 vpb ++ wHist Γ q_hi q_hs vh_4 vhs ++ wFloor Γ q_fl2 q_k2 q_c2 q_a2 q_pa2 q_b2 q_pb2 vi2_5 vj2_6 vk2_7 vc2_8 va2_9 vpa2_10 vb2_11 vpb2_12 ++ wOut Γ q_ou vou_13 ++ wModel Γ q_mo q_tt q_nw q_tr q_ot q_di q_kp q_ik q_wy q_ah q_tg q_ws q_fr q_rw mi_16 vtt vnw_17 vtr vot vdi_18 vkp vik vwy vah vtg vws vfr vrw)) hP hD hS hA [18] rfl rfl rfl rfl (va_runV (As := []) (rest := []) ⟨hx, hb, hml, hown, hts⟩ (kX9_thrown l Γ q_mo q_tt q_nw q_tr q_ot q_di q_kp q_ik q_wy q_ah q_tg q_ws q_fr q_rw mi_16 (mX9_thrown mi_16) rfl _) (cwV 0 hts gL_law_X9_thrown rfl rfl rfl (by decide +kernel) ⟨Nat.le_of_ble_eq_true rfl, Nat.le_of_ble_eq_true rfl⟩) (my_preV (wc := (wMo Γ q_mo q_tt q_nw q_tr q_ot q_di q_kp q_ik q_wy q_ah q_tg q_ws q_fr q_rw mi_16)) (ci := 7) (q0 := 18) [18] hK hP hD rfl rfl rfl rfl) rfl rfl hl.1 rfl (lv_room (Nat.le_of_ble_eq_true rfl)) dL_law_1507 ⟨hn, hk⟩) (fun H locs hP hD hS => ?_)
  refine lv_iload hx hb dL_law_1510 (lv_at hl 1 rfl) ?_
  refine lv_icmp_eq (tgt := 1517) hx hb dL_law_1512 (by decide) (fun c_20 => ?_) (fun c_20 => ?_)
  · replace hm := if_s hm c_20
    refine lv_iload hx hb dL_law_1517 (lv_at hl 1 rfl) ?_
    refine lv_if_ne (tgt := 1534) hx hb dL_law_1519 (by decide) (fun c_21 => ?_) (fun c_21 => ?_)
    · replace hm := if_f hm c_21
      refine lv_goto (tgt := 2260) hx hb dL_law_1534 (by decide) ?_
      obtain ⟨hf0, hf1, hf2, hf3, hf4, hf5, hf6, hf7, hf8, hf9, hf10, hf11, hf12, hf13, hf14⟩ := si15 hm
      subst hf0
      subst hf1
      subst hf2
      subst hf3
      subst hf4
      subst hf5
      subst hf6
      subst hf7
      subst hf8
      subst hf9
      subst hf10
      subst hf11
      subst hf12
      subst hf13
      subst hf14
      exact kk _ _ _ hP hD hS (lv_sub hl [2, 3, 4, 5, 6] rfl)
    · replace hm := if_s hm c_21
      refine lv_aload_n hx hb dL_law_1522 rfl (lv_at hl 5 rfl) ?_
      refine lv_iconst (v := (0 : Int32)) hx hb dL_law_1523 (by decide) ?_
      refine va_lald hx hb hK hP 17 1 rfl rfl (show vp_in (0 : Int32) 1 from (by decide : ¬ ((0 : Int32) < 0 ∨ 1 ≤ (0 : Int32).toNatClampNeg))) dL_law_1524 ?_
      refine lv_iload hx hb dL_law_1525 (lv_at hl 0 rfl) ?_
      refine lv_i2l (v := r_15.toInt64) hx hb dL_law_1527 rfl ?_
      refine W.lcmp hx hb dL_law_1528 ?_
      refine lv_if_eq (tgt := 1534) hx hb dL_law_1529 (by decide) (fun c_22 => ?_) (fun c_22 => ?_)
      · replace hm := if_s hm c_22
        refine lv_goto (tgt := 2260) hx hb dL_law_1534 (by decide) ?_
        obtain ⟨hf0, hf1, hf2, hf3, hf4, hf5, hf6, hf7, hf8, hf9, hf10, hf11, hf12, hf13, hf14⟩ := si15 hm
        subst hf0
        subst hf1
        subst hf2
        subst hf3
        subst hf4
        subst hf5
        subst hf6
        subst hf7
        subst hf8
        subst hf9
        subst hf10
        subst hf11
        subst hf12
        subst hf13
        subst hf14
        exact kk _ _ _ hP hD hS (lv_sub hl [2, 3, 4, 5, 6] rfl)
      · replace hm := if_f hm c_22
        refine lv_iconst (v := (0 : Int32)) hx hb dL_law_1532 (by decide) ?_
        cases hm
  · replace hm := if_f hm c_20
    refine lv_iconst (v := (0 : Int32)) hx hb dL_law_1515 (by decide) ?_
    cases hm
