def mLaw_write (vi : Nat → Int32) (vj : Nat → Int64) (vk : Nat → Int32) (vc : Nat → Int32) (va : Nat → Int32) (vpa : Nat → Int32) (vb : Nat → Int32) (vpb : Nat → Int32) (vh : Nat → Int32) (vhs : Nat → Option Nat) (vi2 : Nat → Int32) (vj2 : Nat → Int64) (vk2 : Nat → Int32) (vc2 : Nat → Int32) (va2 : Nat → Int32) (vpa2 : Nat → Int32) (vb2 : Nat → Int32) (vpb2 : Nat → Int32) (vou : Nat → Int64) (mi : Nat → Int32) (vnw : Nat → Int32) (vdi : Nat → Int32) (q_fl2 : Nat) (xs : Nat → Int32) (i : Int32) : Option ((Nat → Int32) × (Nat → Int32) × (Nat → Int32) × (Nat → Int32) × (Nat → Int32) × (Nat → Int32) × (Nat → Int64) × (Nat → Int32) × (Nat → Int32) × (Nat → Int32) × (Nat → Int32) × (Nat → Int32) × (Nat → Int32) × (Nat → Int64) × (Nat → Int32) × (Nat → Int32) × (Nat → Int32)) := (bo15 (mL_write vi vj vk vc va vpa vb vpb vh vhs vi2 vj2 vk2 vc2 va2 vpa2 vb2 vpb2 vou q_fl2 (xs (i + (1 : Int32)).toNatClampNeg) (xs (i + (2 : Int32)).toNatClampNeg)) (fun r_1 va_2 vpa_3 vb_4 vpb_5 vh_6 vi2_7 vj2_8 vk2_9 vc2_10 va2_11 vpa2_12 vb2_13 vpb2_14 vou_15 => (bo4 (mX9_write mi vnw vdi (xs (i + (1 : Int32)).toNatClampNeg) (xs (i + (2 : Int32)).toNatClampNeg)) (fun r_17 mi_18 vnw_19 vdi_20 => (if (mX9_thrown mi_18) = r_1 then (if r_1 = 0 then (if (lg_cmp (vou_15 (0 : Int32).toNatClampNeg) (r_17.toInt64)) = 0 then (some (va_2, vpa_3, vb_4, vpb_5, vh_6, vi2_7, vj2_8, vk2_9, vc2_10, va2_11, vpa2_12, vb2_13, vpb2_14, vou_15, mi_18, vnw_19, vdi_20)) else none) else (some (va_2, vpa_3, vb_4, vpb_5, vh_6, vi2_7, vj2_8, vk2_9, vc2_10, va2_11, vpa2_12, vb2_13, vpb2_14, vou_15, mi_18, vnw_19, vdi_20))) else none)))))
set_option maxHeartbeats 4000000 in
set_option maxRecDepth 100000 in
theorem kLaw_write (l : Launch) (Γ : my_G) (hfl : l.stackTraces = false) {p : Program} {e : Env} {s : State} {m : MethodId} {below : List Frame} {meth : Method} {c : Code} {b L : Nat} {xs : Nat → Int32} {Q : State → Prop} (hx : p.tables.exec = Jvm.exec) (hb : c.code = cL_law) (hml : c.maxLocals = 7) (hown : s.vm.findClass RL = some m.cls) (hts : ∀ w ∈ wsL_law, w.before #[Value.ref b] s = true) (hX : va_X b L xs s s.heap) (hbl : b < s.heap.size) (hK : my_K Γ s) (hZ : my_ZZ (fun q : Nat => s.heap.size ≤ q) s s.heap) (hstr : my_str s) (hnc : my_nc s) (q_bf q_fl q_k q_c q_a q_pa q_b q_pb q_hi q_hs q_fl2 q_k2 q_c2 q_a2 q_pa2 q_b2 q_pb2 q_ou q_mo q_tt q_nw q_tr q_ot q_di q_kp q_ik q_wy q_ah q_tg q_ws q_fr q_rw q_tx q_flT q_s1 q_s2 q_fd q_kc q_kr : Nat) (vi : Nat → Int32) (vj : Nat → Int64) (vk : Nat → Int32) (vc : Nat → Int32) (va : Nat → Int32) (vpa : Nat → Int32) (vb : Nat → Int32) (vpb : Nat → Int32) (vh : Nat → Int32) (vhs : Nat → Option Nat) (vi2 : Nat → Int32) (vj2 : Nat → Int64) (vk2 : Nat → Int32) (vc2 : Nat → Int32) (va2 : Nat → Int32) (vpa2 : Nat → Int32) (vb2 : Nat → Int32) (vpb2 : Nat → Int32) (vou : Nat → Int64) (mi : Nat → Int32) (vtt : Nat → Int32) (vnw : Nat → Int32) (vtr : Nat → Int32) (vot : Nat → Int32) (vdi : Nat → Int32) (vkp : Nat → Int32) (vik : Nat → Int32) (vwy : Nat → Int32) (vah : Nat → Int32) (vtg : Nat → Int32) (vws : Nat → Int32) (vfr : Nat → Int32) (vrw : Nat → Int32) (i : Int32) (hi1 : vp_in (i + (1 : Int32)) L) (hi2 : vp_in (i + (2 : Int32)) L) (hi3 : vp_in (i + (3 : Int32)) L) (va_z : Nat → Int32) (vpa_z : Nat → Int32) (vb_z : Nat → Int32) (vpb_z : Nat → Int32) (vh_z : Nat → Int32) (vi2_z : Nat → Int32) (vj2_z : Nat → Int64) (vk2_z : Nat → Int32) (vc2_z : Nat → Int32) (va2_z : Nat → Int32) (vpa2_z : Nat → Int32) (vb2_z : Nat → Int32) (vpb2_z : Nat → Int32) (vou_z : Nat → Int64) (mi_z : Nat → Int32) (vnw_z : Nat → Int32) (vdi_z : Nat → Int32) (hm : mLaw_write vi vj vk vc va vpa vb vpb vh vhs vi2 vj2 vk2 vc2 va2 vpa2 vb2 vpb2 vou mi vnw vdi q_fl2 xs i = (some (va_z, vpa_z, vb_z, vpb_z, vh_z, vi2_z, vj2_z, vk2_z, vc2_z, va2_z, vpa2_z, vb2_z, vpb2_z, vou_z, mi_z, vnw_z, vdi_z))) (R_ : va_W) (nc ns : Nat) (hn : nc + 3 ≤ room_1.cells) (hk : ns + 18 ≤ room_1.slots) (H : Heap) (locs : List Loc) (ls : Array Slot) (hP : va_P (my_D Γ) vwCl ((wBF Γ q_bf q_tx q_fl q_flT q_hi q_s1 q_s2 q_fd q_kc q_kr  ++ wFloor Γ q_fl q_k q_c q_a q_pa q_b q_pb vi vj vk vc va vpa vb vpb ++ wHist Γ q_hi q_hs vh vhs ++ wFloor Γ q_fl2 q_k2 q_c2 q_a2 q_pa2 q_b2 q_pb2 vi2 vj2 vk2 vc2 va2 vpa2 vb2 vpb2 ++ wOut Γ q_ou vou ++ wModel Γ q_mo q_tt q_nw q_tr q_ot q_di q_kp q_ik q_wy q_ah q_tg q_ws q_fr q_rw mi vtt vnw vtr vot vdi vkp vik vwy vah vtg vws vfr vrw) ++ R_) H) (hD : va_D (fun q : Nat => s.heap.size ≤ q) ((wBF Γ q_bf q_tx q_fl q_flT q_hi q_s1 q_s2 q_fd q_kc q_kr  ++ wFloor Γ q_fl q_k q_c q_a q_pa q_b q_pb vi vj vk vc va vpa vb vpb ++ wHist Γ q_hi q_hs vh vhs ++ wFloor Γ q_fl2 q_k2 q_c2 q_a2 q_pa2 q_b2 q_pb2 vi2 vj2 vk2 vc2 va2 vpa2 vb2 vpb2 ++ wOut Γ q_ou vou ++ wModel Γ q_mo q_tt q_nw q_tr q_ot q_di q_kp q_ik q_wy q_ah q_tg q_ws q_fr q_rw mi vtt vnw vtr vot vdi vkp vik vwy vah vtg vws vfr vrw) ++ R_)) (hS : va_S (fun q : Nat => s.heap.size ≤ q) s.heap H locs) (hl : lv_has ls 7 [(0, .ref b), (1, .ref q_bf), (2, .ref q_mo), (3, .ref q_ou), (4, .int i)]) (kk : ∀ (H : Heap) (locs : List Loc) (ls : Array Slot), va_P (my_D Γ) vwCl ((wBF Γ q_bf q_tx q_fl q_flT q_hi q_s1 q_s2 q_fd q_kc q_kr  ++ wFloor Γ q_fl q_k q_c q_a q_pa q_b q_pb vi vj vk vc va_z vpa_z vb_z vpb_z ++ wHist Γ q_hi q_hs vh_z vhs ++ wFloor Γ q_fl2 q_k2 q_c2 q_a2 q_pa2 q_b2 q_pb2 vi2_z vj2_z vk2_z vc2_z va2_z vpa2_z vb2_z vpb2_z ++ wOut Γ q_ou vou_z ++ wModel Γ q_mo q_tt q_nw q_tr q_ot q_di q_kp q_ik q_wy q_ah q_tg q_ws q_fr q_rw mi_z vtt vnw_z vtr vot vdi_z vkp vik vwy vah vtg vws vfr vrw) ++ R_) H → va_D (fun q : Nat => s.heap.size ≤ q) ((wBF Γ q_bf q_tx q_fl q_flT q_hi q_s1 q_s2 q_fd q_kc q_kr  ++ wFloor Γ q_fl q_k q_c q_a q_pa q_b q_pb vi vj vk vc va_z vpa_z vb_z vpb_z ++ wHist Γ q_hi q_hs vh_z vhs ++ wFloor Γ q_fl2 q_k2 q_c2 q_a2 q_pa2 q_b2 q_pb2 vi2_z vj2_z vk2_z vc2_z va2_z vpa2_z vb2_z vpb2_z ++ wOut Γ q_ou vou_z ++ wModel Γ q_mo q_tt q_nw q_tr q_ot q_di q_kp q_ik q_wy q_ah q_tg q_ws q_fr q_rw mi_z vtt vnw_z vtr vot vdi_z vkp vik vwy vah vtg vws vfr vrw) ++ R_) → va_S (fun q : Nat => s.heap.size ≤ q) s.heap H locs → lv_has ls 7 [(0, .ref b), (1, .ref q_bf), (2, .ref q_mo), (3, .ref q_ou), (4, .int i)] → W p l e room_1 s m #[Value.ref b] below meth c H locs (nc + 3) (ns + 18) Q (F0 m 2260 ls [])) : W p l e room_1 s m #[Value.ref b] below meth c H locs nc ns Q (F0 m 1537 ls []) := by
  have hA : ∀ q : Nat, s.heap.size ≤ q → (fun q : Nat => s.heap.size ≤ q) q := fun _ h => h
  have hbA : ¬ (fun q : Nat => s.heap.size ≤ q) b := Nat.not_le.mpr hbl
  unfold mLaw_write at hm
  refine lv_aload_n hx hb dL_law_1537 rfl (lv_at hl 1 rfl) ?_
  refine lv_aload_n hx hb dL_law_1538 rfl (lv_at hl 0 rfl) ?_
  refine lv_iload hx hb dL_law_1539 (lv_at hl 4 rfl) ?_
  refine lv_iconst (v := (1 : Int32)) hx hb dL_law_1541 (by decide) ?_
  refine lv_iadd hx hb dL_law_1542 ?_
  refine va_sld hx hb hX hbl hbA hS hi1 dL_law_1543 ?_
  refine lv_aload_n hx hb dL_law_1544 rfl (lv_at hl 0 rfl) ?_
  refine lv_iload hx hb dL_law_1545 (lv_at hl 4 rfl) ?_
  refine lv_iconst (v := (2 : Int32)) hx hb dL_law_1547 (by decide) ?_
  refine lv_iadd hx hb dL_law_1548 ?_
  refine va_sld hx hb hX hbl hbA hS hi2 dL_law_1549 ?_
  refine lv_aload_n hx hb dL_law_1550 rfl (lv_at hl 3 rfl) ?_
  obtain ⟨r_1, va_2, vpa_3, vb_4, vpb_5, vh_6, vi2_7, vj2_8, vk2_9, vc2_10, va2_11, vpa2_12, vb2_13, vpb2_14, vou_15, hc_16, hm⟩ := bo15_s hm
  refine my_callRW1 (wc := (wBF Γ q_bf q_tx q_fl q_flT q_hi q_s1 q_s2 q_fd q_kc q_kr  ++ wFloor Γ q_fl q_k q_c q_a q_pa q_b q_pb vi vj vk vc va vpa vb vpb ++ wHist Γ q_hi q_hs vh vhs ++ wFloor Γ q_fl2 q_k2 q_c2 q_a2 q_pa2 q_b2 q_pb2 vi2 vj2 vk2 vc2 va2 vpa2 vb2 vpb2 ++ wOut Γ q_ou vou)) (w1 := (wBF Γ q_bf q_tx q_fl q_flT q_hi q_s1 q_s2 q_fd q_kc q_kr  ++ wFloor Γ q_fl q_k q_c q_a q_pa q_b q_pb vi vj vk vc va_2 vpa_3 vb_4 vpb_5 ++ wHist Γ q_hi q_hs vh_6 vhs ++ wFloor Γ q_fl2 q_k2 q_c2 q_a2 q_pa2 q_b2 q_pb2 vi2_7 vj2_8 vk2_9 vc2_10 va2_11 vpa2_12 vb2_13 vpb2_14 ++ wOut Γ q_ou vou_15)) (wa1 := (wBF Γ q_bf q_tx q_fl q_flT q_hi q_s1 q_s2 q_fd q_kc q_kr  ++ wFloor Γ q_fl q_k q_c q_a q_pa q_b q_pb vi vj vk vc va_2 vpa_3 vb_4 vpb_5 ++ wHist Γ q_hi q_hs vh_6 vhs ++ wFloor Γ q_fl2 q_k2 q_c2 q_a2 q_pa2 q_b2 q_pb2 vi2_7 vj2_8 vk2_9 vc2_10 va2_11 vpa2_12 vb2_13 vpb2_14 ++ wOut Γ q_ou vou_15 ++ wModel Γ q_mo q_tt q_nw q_tr q_ot q_di q_kp q_ik q_wy q_ah q_tg q_ws q_fr q_rw mi vtt vnw vtr vot vdi vkp vik vwy vah vtg vws vfr vrw)) hP hD hS hA [0, 1, 2, 3, 4, 5, 6, 7, 8, 9, 10, 11, 12, 13, 14, 15, 16, 17] rfl rfl rfl rfl (vx_runSW (As := [.ref q_bf, .int (xs (i + (1 : Int32)).toNatClampNeg), .int (xs (i + (2 : Int32)).toNatClampNeg), .ref q_ou]) (rest := []) ⟨hx, hb, hml, hown, hts⟩ (kL_write l Γ hfl q_bf q_fl q_k q_c q_a q_pa q_b q_pb q_hi q_hs q_fl2 q_k2 q_c2 q_a2 q_pa2 q_b2 q_pb2 q_ou q_tx q_flT q_s1 q_s2 q_fd q_kc q_kr vi vj vk vc va vpa vb vpb vh vhs vi2 vj2 vk2 vc2 va2 vpa2 vb2 vpb2 vou (xs (i + (1 : Int32)).toNatClampNeg) (xs (i + (2 : Int32)).toNatClampNeg) r_1 va_2 vpa_3 vb_4 vpb_5 vh_6 vi2_7 vj2_8 vk2_9 vc2_10 va2_11 vpa2_12 vb2_13 vpb2_14 vou_15 hc_16 _) (vx_cwSW 4 hts gL_law_L_write rfl rfl rfl (by decide +kernel) ⟨Nat.le_of_ble_eq_true rfl, Nat.le_of_ble_eq_true rfl⟩) (my_preSW (wc := (wBF Γ q_bf q_tx q_fl q_flT q_hi q_s1 q_s2 q_fd q_kc q_kr  ++ wFloor Γ q_fl q_k q_c q_a q_pa q_b q_pb vi vj vk vc va vpa vb vpb ++ wHist Γ q_hi q_hs vh vhs ++ wFloor Γ q_fl2 q_k2 q_c2 q_a2 q_pa2 q_b2 q_pb2 vi2 vj2 vk2 vc2 va2 vpa2 vb2 vpb2 ++ wOut Γ q_ou vou)) [0, 1, 2, 3, 4, 5, 6, 7, 8, 9, 10, 11, 12, 13, 14, 15, 16, 17] hK hP hD hS hA hZ hstr hnc rfl rfl) rfl rfl hl.1 rfl (lv_room (Nat.le_of_ble_eq_true rfl)) dL_law_1551 ⟨Nat.le_trans (Nat.add_le_add_left (Nat.le_of_ble_eq_true rfl) nc) hn, Nat.le_trans (Nat.add_le_add_left (Nat.le_of_ble_eq_true rfl) ns) hk⟩) (fun H locs hP hD hS => ?_)
  refine W.widen (k := nc + 3) (n := ns + 18) (Nat.add_le_add_left (Nat.le_of_ble_eq_true rfl) nc) (Nat.add_le_add_left (Nat.le_of_ble_eq_true rfl) ns) ?_
  refine lv_istore (lv' := [(5, .int r_1), (0, .ref b), (1, .ref q_bf), (2, .ref q_mo), (3, .ref q_ou), (4, .int i)]) hx hb dL_law_1554 hl (by decide) rfl (fun ls hl => ?_)
  refine lv_aload_n hx hb dL_law_1556 rfl (lv_at hl 3 rfl) ?_
  refine lv_aload_n hx hb dL_law_1557 rfl (lv_at hl 1 rfl) ?_
  refine lv_iload hx hb dL_law_1558 (lv_at hl 5 rfl) ?_
  refine lv_iconst (v := (1 : Int32)) hx hb dL_law_1560 (by decide) ?_
  refine lv_iadd hx hb dL_law_1561 ?_
  refine va_sld hx hb hX hbl hbA hS hi1 dL_law_1562 ?_
  refine lv_aload_n hx hb dL_law_1563 rfl (lv_at hl 1 rfl) ?_
  refine lv_iload hx hb dL_law_1564 (lv_at hl 5 rfl) ?_
  refine lv_iconst (v := (2 : Int32)) hx hb dL_law_1566 (by decide) ?_
  refine lv_iadd hx hb dL_law_1567 ?_
  refine va_sld hx hb hX hbl hbA hS hi2 dL_law_1568 ?_
  obtain ⟨r_17, mi_18, vnw_19, vdi_20, hc_21, hm⟩ := bo4_s hm
  refine my_callR1 (wc := (wModel Γ q_mo q_tt q_nw q_tr q_ot q_di q_kp q_ik q_wy q_ah q_tg q_ws q_fr q_rw mi vtt vnw vtr vot vdi vkp vik vwy vah vtg vws vfr vrw)) (w1 := (wModel Γ q_mo q_tt q_nw q_tr q_ot q_di q_kp q_ik q_wy q_ah q_tg q_ws q_fr q_rw mi_18 vtt vnw_19 vtr vot vdi_20 vkp vik vwy vah vtg vws vfr vrw)) (wa1 := (wBF Γ q_bf q_tx q_fl q_flT q_hi q_s1 q_s2 q_fd q_kc q_kr  ++ wFloor Γ q_fl q_k q_c q_a q_pa q_b q_pb vi vj vk vc va_2 vpa_3 vb_4 vpb_5 ++ wHist Γ q_hi q_hs vh_6 vhs ++ wFloor Γ q_fl2 q_k2 q_c2 q_a2 q_pa2 q_b2 q_pb2 vi2_7 vj2_8 vk2_9 vc2_10 va2_11 vpa2_12 vb2_13 vpb2_14 ++ wOut Γ q_ou vou_15 ++ wModel Γ q_mo q_tt q_nw q_tr q_ot q_di q_kp q_ik q_wy q_ah q_tg q_ws q_fr q_rw mi_18 vtt vnw_19 vtr vot vdi_20 vkp vik vwy vah vtg vws vfr vrw)) hP hD hS hA [18, 19, 20, 21, 22, 23, 24, 25, 26, 27, 28, 29, 30, 31] rfl rfl rfl rfl (va_runV (As := [.int (xs (i + (1 : Int32)).toNatClampNeg), .int (xs (i + (2 : Int32)).toNatClampNeg)]) (rest := []) ⟨hx, hb, hml, hown, hts⟩ (kX9_write l Γ q_mo q_tt q_nw q_tr q_ot q_di q_kp q_ik q_wy q_ah q_tg q_ws q_fr q_rw mi vtt vnw vtr vot vdi vkp vik vwy vah vtg vws vfr vrw (xs (i + (1 : Int32)).toNatClampNeg) (xs (i + (2 : Int32)).toNatClampNeg) r_17 mi_18 vnw_19 vdi_20 hc_21 _) (cwV 2 hts gL_law_X9_write rfl rfl rfl (by decide +kernel) ⟨Nat.le_of_ble_eq_true rfl, Nat.le_of_ble_eq_true rfl⟩) (my_preV (wc := (wModel Γ q_mo q_tt q_nw q_tr q_ot q_di q_kp q_ik q_wy q_ah q_tg q_ws q_fr q_rw mi vtt vnw vtr vot vdi vkp vik vwy vah vtg vws vfr vrw)) (ci := 7) (q0 := 18) [18, 19, 20, 21, 22, 23, 24, 25, 26, 27, 28, 29, 30, 31] hK hP hD rfl rfl rfl rfl) rfl rfl hl.1 rfl (lv_room (Nat.le_of_ble_eq_true rfl)) dL_law_1569 ⟨hn, hk⟩) (fun H locs hP hD hS => ?_)
  refine lv_istore (lv' := [(6, .int r_17), (5, .int r_1), (0, .ref b), (1, .ref q_bf), (2, .ref q_mo), (3, .ref q_ou), (4, .int i)]) hx hb dL_law_1572 hl (by decide) rfl (fun ls hl => ?_)
  refine lv_aload_n hx hb dL_law_1574 rfl (lv_at hl 4 rfl) ?_
  refine my_callR1 (wc := (wMo Γ q_mo q_tt q_nw q_tr q_ot q_di q_kp q_ik q_wy q_ah q_tg q_ws q_fr q_rw mi_18)) (w1 := (wMo Γ q_mo q_tt q_nw q_tr q_ot q_di q_kp q_ik q_wy q_ah q_tg q_ws q_fr q_rw mi_18)) (wa1 := (wBF Γ q_bf q_tx q_fl q_flT q_hi q_s1 q_s2 q_fd q_kc q_kr  ++ wFloor Γ q_fl q_k q_c q_a q_pa q_b q_pb vi vj vk vc va_2 vpa_3 vb_4 vpb_5 ++ wHist Γ q_hi q_hs vh_6 vhs ++ wFloor Γ q_fl2 q_k2 q_c2 q_a2 q_pa2 q_b2 q_pb2 vi2_7 vj2_8 vk2_9 vc2_10 va2_11 vpa2_12 vb2_13 vpb2_14 ++ wOut Γ q_ou vou_15 ++ wModel Γ q_mo q_tt q_nw q_tr q_ot q_di q_kp q_ik q_wy q_ah q_tg q_ws q_fr q_rw mi_18 vtt vnw_19 vtr vot vdi_20 vkp vik vwy vah vtg vws vfr vrw)) hP hD hS hA [18] rfl rfl rfl rfl (va_runV (As := []) (rest := []) ⟨hx, hb, hml, hown, hts⟩ (kX9_thrown l Γ q_mo q_tt q_nw q_tr q_ot q_di q_kp q_ik q_wy q_ah q_tg q_ws q_fr q_rw mi_18 (mX9_thrown mi_18) rfl _) (cwV 0 hts gL_law_X9_thrown rfl rfl rfl (by decide +kernel) ⟨Nat.le_of_ble_eq_true rfl, Nat.le_of_ble_eq_true rfl⟩) (my_preV (wc := (wMo Γ q_mo q_tt q_nw q_tr q_ot q_di q_kp q_ik q_wy q_ah q_tg q_ws q_fr q_rw mi_18)) (ci := 7) (q0 := 18) [18] hK hP hD rfl rfl rfl rfl) rfl rfl hl.1 rfl (lv_room (Nat.le_of_ble_eq_true rfl)) dL_law_1575 ⟨hn, hk⟩) (fun H locs hP hD hS => ?_)
  refine lv_iload hx hb dL_law_1578 (lv_at hl 1 rfl) ?_
  refine lv_icmp_eq (tgt := 1585) hx hb dL_law_1580 (by decide) (fun c_22 => ?_) (fun c_22 => ?_)
  · replace hm := if_s hm c_22
    refine lv_iload hx hb dL_law_1585 (lv_at hl 1 rfl) ?_
    refine lv_if_ne (tgt := 1602) hx hb dL_law_1587 (by decide) (fun c_23 => ?_) (fun c_23 => ?_)
    · replace hm := if_f hm c_23
      refine lv_goto (tgt := 2260) hx hb dL_law_1602 (by decide) ?_
      obtain ⟨hf0, hf1, hf2, hf3, hf4, hf5, hf6, hf7, hf8, hf9, hf10, hf11, hf12, hf13, hf14, hf15, hf16⟩ := si17 hm
      subst hf0
      subst hf1
      subst hf2
      subst hf3
      subst hf4
      subst hf5
      subst hf6
      subst hf7
      subst hf8
      subst hf9
      subst hf10
      subst hf11
      subst hf12
      subst hf13
      subst hf14
      subst hf15
      subst hf16
      exact kk _ _ _ hP hD hS (lv_sub hl [2, 3, 4, 5, 6] rfl)
    · replace hm := if_s hm c_23
      refine lv_aload_n hx hb dL_law_1590 rfl (lv_at hl 5 rfl) ?_
      refine lv_iconst (v := (0 : Int32)) hx hb dL_law_1591 (by decide) ?_
      refine va_lald hx hb hK hP 17 1 rfl rfl (show vp_in (0 : Int32) 1 from (by decide : ¬ ((0 : Int32) < 0 ∨ 1 ≤ (0 : Int32).toNatClampNeg))) dL_law_1592 ?_
      refine lv_iload hx hb dL_law_1593 (lv_at hl 0 rfl) ?_
      refine lv_i2l (v := r_17.toInt64) hx hb dL_law_1595 rfl ?_
      refine W.lcmp hx hb dL_law_1596 ?_
      refine lv_if_eq (tgt := 1602) hx hb dL_law_1597 (by decide) (fun c_24 => ?_) (fun c_24 => ?_)
      · replace hm := if_s hm c_24
        refine lv_goto (tgt := 2260) hx hb dL_law_1602 (by decide) ?_
        obtain ⟨hf0, hf1, hf2, hf3, hf4, hf5, hf6, hf7, hf8, hf9, hf10, hf11, hf12, hf13, hf14, hf15, hf16⟩ := si17 hm
        subst hf0
        subst hf1
        subst hf2
        subst hf3
        subst hf4
        subst hf5
        subst hf6
        subst hf7
        subst hf8
        subst hf9
        subst hf10
        subst hf11
        subst hf12
        subst hf13
        subst hf14
        subst hf15
        subst hf16
        exact kk _ _ _ hP hD hS (lv_sub hl [2, 3, 4, 5, 6] rfl)
      · replace hm := if_f hm c_24
        refine lv_iconst (v := (0 : Int32)) hx hb dL_law_1600 (by decide) ?_
        cases hm
  · replace hm := if_f hm c_22
    refine lv_iconst (v := (0 : Int32)) hx hb dL_law_1583 (by decide) ?_
    cases hm
def mLaw_wipe (vi : Nat → Int32) (vj : Nat → Int64) (vk : Nat → Int32) (vc : Nat → Int32) (va : Nat → Int32) (vpa : Nat → Int32) (vb : Nat → Int32) (vpb : Nat → Int32) (vh : Nat → Int32) (vhs : Nat → Option Nat) (vi2 : Nat → Int32) (vj2 : Nat → Int64) (vk2 : Nat → Int32) (vc2 : Nat → Int32) (va2 : Nat → Int32) (vpa2 : Nat → Int32) (vb2 : Nat → Int32) (vpb2 : Nat → Int32) (vou : Nat → Int64) (mi : Nat → Int32) (vnw : Nat → Int32) (vdi : Nat → Int32) (q_fl2 : Nat) (xs : Nat → Int32) (i : Int32) : Option ((Nat → Int32) × (Nat → Int32) × (Nat → Int32) × (Nat → Int32) × (Nat → Int64) × (Nat → Int32) × (Nat → Int32) × (Nat → Int32) × (Nat → Int32) × (Nat → Int32) × (Nat → Int32) × (Nat → Int64) × (Nat → Int32) × (Nat → Int32) × (Nat → Int32)) := (bo13 (mL_wipe vi vj vk vc va vpa vb vpb vh vhs vi2 vj2 vk2 vc2 va2 vpa2 vb2 vpb2 vou q_fl2 (xs (i + (1 : Int32)).toNatClampNeg)) (fun r_1 va_2 vb_3 vh_4 vi2_5 vj2_6 vk2_7 vc2_8 va2_9 vpa2_10 vb2_11 vpb2_12 vou_13 => (bo4 (mX9_wipe mi vnw vdi (xs (i + (1 : Int32)).toNatClampNeg)) (fun r_15 mi_16 vnw_17 vdi_18 => (if (mX9_thrown mi_16) = r_1 then (if r_1 = 0 then (if (lg_cmp (vou_13 (0 : Int32).toNatClampNeg) (r_15.toInt64)) = 0 then (some (va_2, vb_3, vh_4, vi2_5, vj2_6, vk2_7, vc2_8, va2_9, vpa2_10, vb2_11, vpb2_12, vou_13, mi_16, vnw_17, vdi_18)) else none) else (some (va_2, vb_3, vh_4, vi2_5, vj2_6, vk2_7, vc2_8, va2_9, vpa2_10, vb2_11, vpb2_12, vou_13, mi_16, vnw_17, vdi_18))) else none)))))
set_option maxHeartbeats 4000000 in
set_option maxRecDepth 100000 in
theorem kLaw_wipe (l : Launch) (Γ : my_G) (hfl : l.stackTraces = false) {p : Program} {e : Env} {s : State} {m : MethodId} {below : List Frame} {meth : Method} {c : Code} {b L : Nat} {xs : Nat → Int32} {Q : State → Prop} (hx : p.tables.exec = Jvm.exec) (hb : c.code = cL_law) (hml : c.maxLocals = 7) (hown : s.vm.findClass RL = some m.cls) (hts : ∀ w ∈ wsL_law, w.before #[Value.ref b] s = true) (hX : va_X b L xs s s.heap) (hbl : b < s.heap.size) (hK : my_K Γ s) (hZ : my_ZZ (fun q : Nat => s.heap.size ≤ q) s s.heap) (hstr : my_str s) (hnc : my_nc s) (q_bf q_fl q_k q_c q_a q_pa q_b q_pb q_hi q_hs q_fl2 q_k2 q_c2 q_a2 q_pa2 q_b2 q_pb2 q_ou q_mo q_tt q_nw q_tr q_ot q_di q_kp q_ik q_wy q_ah q_tg q_ws q_fr q_rw q_tx q_flT q_s1 q_s2 q_fd q_kc q_kr : Nat) (vi : Nat → Int32) (vj : Nat → Int64) (vk : Nat → Int32) (vc : Nat → Int32) (va : Nat → Int32) (vpa : Nat → Int32) (vb : Nat → Int32) (vpb : Nat → Int32) (vh : Nat → Int32) (vhs : Nat → Option Nat) (vi2 : Nat → Int32) (vj2 : Nat → Int64) (vk2 : Nat → Int32) (vc2 : Nat → Int32) (va2 : Nat → Int32) (vpa2 : Nat → Int32) (vb2 : Nat → Int32) (vpb2 : Nat → Int32) (vou : Nat → Int64) (mi : Nat → Int32) (vtt : Nat → Int32) (vnw : Nat → Int32) (vtr : Nat → Int32) (vot : Nat → Int32) (vdi : Nat → Int32) (vkp : Nat → Int32) (vik : Nat → Int32) (vwy : Nat → Int32) (vah : Nat → Int32) (vtg : Nat → Int32) (vws : Nat → Int32) (vfr : Nat → Int32) (vrw : Nat → Int32) (i : Int32) (hi1 : vp_in (i + (1 : Int32)) L) (hi2 : vp_in (i + (2 : Int32)) L) (hi3 : vp_in (i + (3 : Int32)) L) (va_z : Nat → Int32) (vb_z : Nat → Int32) (vh_z : Nat → Int32) (vi2_z : Nat → Int32) (vj2_z : Nat → Int64) (vk2_z : Nat → Int32) (vc2_z : Nat → Int32) (va2_z : Nat → Int32) (vpa2_z : Nat → Int32) (vb2_z : Nat → Int32) (vpb2_z : Nat → Int32) (vou_z : Nat → Int64) (mi_z : Nat → Int32) (vnw_z : Nat → Int32) (vdi_z : Nat → Int32) (hm : mLaw_wipe vi vj vk vc va vpa vb vpb vh vhs vi2 vj2 vk2 vc2 va2 vpa2 vb2 vpb2 vou mi vnw vdi q_fl2 xs i = (some (va_z, vb_z, vh_z, vi2_z, vj2_z, vk2_z, vc2_z, va2_z, vpa2_z, vb2_z, vpb2_z, vou_z, mi_z, vnw_z, vdi_z))) (R_ : va_W) (nc ns : Nat) (hn : nc + 3 ≤ room_1.cells) (hk : ns + 18 ≤ room_1.slots) (H : Heap) (locs : List Loc) (ls : Array Slot) (hP : va_P (my_D Γ) vwCl ((wBF Γ q_bf q_tx q_fl q_flT q_hi q_s1 q_s2 q_fd q_kc q_kr  ++ wFloor Γ q_fl q_k q_c q_a q_pa q_b q_pb vi vj vk vc va vpa vb vpb ++ wHist Γ q_hi q_hs vh vhs ++ wFloor Γ q_fl2 q_k2 q_c2 q_a2 q_pa2 q_b2 q_pb2 vi2 vj2 vk2 vc2 va2 vpa2 vb2 vpb2 ++ wOut Γ q_ou vou ++ wModel Γ q_mo q_tt q_nw q_tr q_ot q_di q_kp q_ik q_wy q_ah q_tg q_ws q_fr q_rw mi vtt vnw vtr vot vdi vkp vik vwy vah vtg vws vfr vrw) ++ R_) H) (hD : va_D (fun q : Nat => s.heap.size ≤ q) ((wBF Γ q_bf q_tx q_fl q_flT q_hi q_s1 q_s2 q_fd q_kc q_kr  ++ wFloor Γ q_fl q_k q_c q_a q_pa q_b q_pb vi vj vk vc va vpa vb vpb ++ wHist Γ q_hi q_hs vh vhs ++ wFloor Γ q_fl2 q_k2 q_c2 q_a2 q_pa2 q_b2 q_pb2 vi2 vj2 vk2 vc2 va2 vpa2 vb2 vpb2 ++ wOut Γ q_ou vou ++ wModel Γ q_mo q_tt q_nw q_tr q_ot q_di q_kp q_ik q_wy q_ah q_tg q_ws q_fr q_rw mi vtt vnw vtr vot vdi vkp vik vwy vah vtg vws vfr vrw) ++ R_)) (hS : va_S (fun q : Nat => s.heap.size ≤ q) s.heap H locs) (hl : lv_has ls 7 [(0, .ref b), (1, .ref q_bf), (2, .ref q_mo), (3, .ref q_ou), (4, .int i)]) (kk : ∀ (H : Heap) (locs : List Loc) (ls : Array Slot), va_P (my_D Γ) vwCl ((wBF Γ q_bf q_tx q_fl q_flT q_hi q_s1 q_s2 q_fd q_kc q_kr  ++ wFloor Γ q_fl q_k q_c q_a q_pa q_b q_pb vi vj vk vc va_z vpa vb_z vpb ++ wHist Γ q_hi q_hs vh_z vhs ++ wFloor Γ q_fl2 q_k2 q_c2 q_a2 q_pa2 q_b2 q_pb2 vi2_z vj2_z vk2_z vc2_z va2_z vpa2_z vb2_z vpb2_z ++ wOut Γ q_ou vou_z ++ wModel Γ q_mo q_tt q_nw q_tr q_ot q_di q_kp q_ik q_wy q_ah q_tg q_ws q_fr q_rw mi_z vtt vnw_z vtr vot vdi_z vkp vik vwy vah vtg vws vfr vrw) ++ R_) H → va_D (fun q : Nat => s.heap.size ≤ q) ((wBF Γ q_bf q_tx q_fl q_flT q_hi q_s1 q_s2 q_fd q_kc q_kr  ++ wFloor Γ q_fl q_k q_c q_a q_pa q_b q_pb vi vj vk vc va_z vpa vb_z vpb ++ wHist Γ q_hi q_hs vh_z vhs ++ wFloor Γ q_fl2 q_k2 q_c2 q_a2 q_pa2 q_b2 q_pb2 vi2_z vj2_z vk2_z vc2_z va2_z vpa2_z vb2_z vpb2_z ++ wOut Γ q_ou vou_z ++ wModel Γ q_mo q_tt q_nw q_tr q_ot q_di q_kp q_ik q_wy q_ah q_tg q_ws q_fr q_rw mi_z vtt vnw_z vtr vot vdi_z vkp vik vwy vah vtg vws vfr vrw) ++ R_) → va_S (fun q : Nat => s.heap.size ≤ q) s.heap H locs → lv_has ls 7 [(0, .ref b), (1, .ref q_bf), (2, .ref q_mo), (3, .ref q_ou), (4, .int i)] → W p l e room_1 s m #[Value.ref b] below meth c H locs (nc + 3) (ns + 18) Q (F0 m 2260 ls [])) : W p l e room_1 s m #[Value.ref b] below meth c H locs nc ns Q (F0 m 1605 ls []) := by
  have hA : ∀ q : Nat, s.heap.size ≤ q → (fun q : Nat => s.heap.size ≤ q) q := fun _ h => h
  have hbA : ¬ (fun q : Nat => s.heap.size ≤ q) b := Nat.not_le.mpr hbl
  unfold mLaw_wipe at hm
  refine lv_aload_n hx hb dL_law_1605 rfl (lv_at hl 1 rfl) ?_
  refine lv_aload_n hx hb dL_law_1606 rfl (lv_at hl 0 rfl) ?_
  refine lv_iload hx hb dL_law_1607 (lv_at hl 4 rfl) ?_
  refine lv_iconst (v := (1 : Int32)) hx hb dL_law_1609 (by decide) ?_
  refine lv_iadd hx hb dL_law_1610 ?_
  refine va_sld hx hb hX hbl hbA hS hi1 dL_law_1611 ?_
  refine lv_aload_n hx hb dL_law_1612 rfl (lv_at hl 3 rfl) ?_
  obtain ⟨r_1, va_2, vb_3, vh_4, vi2_5, vj2_6, vk2_7, vc2_8, va2_9, vpa2_10, vb2_11, vpb2_12, vou_13, hc_14, hm⟩ := bo13_s hm
  refine my_callRW1 (wc := (wBF Γ q_bf q_tx q_fl q_flT q_hi q_s1 q_s2 q_fd q_kc q_kr  ++ wFloor Γ q_fl q_k q_c q_a q_pa q_b q_pb vi vj vk vc va vpa vb vpb ++ wHist Γ q_hi q_hs vh vhs ++ wFloor Γ q_fl2 q_k2 q_c2 q_a2 q_pa2 q_b2 q_pb2 vi2 vj2 vk2 vc2 va2 vpa2 vb2 vpb2 ++ wOut Γ q_ou vou)) (w1 := (wBF Γ q_bf q_tx q_fl q_flT q_hi q_s1 q_s2 q_fd q_kc q_kr  ++ wFloor Γ q_fl q_k q_c q_a q_pa q_b q_pb vi vj vk vc va_2 vpa vb_3 vpb ++ wHist Γ q_hi q_hs vh_4 vhs ++ wFloor Γ q_fl2 q_k2 q_c2 q_a2 q_pa2 q_b2 q_pb2 vi2_5 vj2_6 vk2_7 vc2_8 va2_9 vpa2_10 vb2_11 vpb2_12 ++ wOut Γ q_ou vou_13)) (wa1 := (wBF Γ q_bf q_tx q_fl q_flT q_hi q_s1 q_s2 q_fd q_kc q_kr  ++ wFloor Γ q_fl q_k q_c q_a q_pa q_b q_pb vi vj vk vc va_2 vpa vb_3 vpb ++ wHist Γ q_hi q_hs vh_4 vhs ++ wFloor Γ q_fl2 q_k2 q_c2 q_a2 q_pa2 q_b2 q_pb2 vi2_5 vj2_6 vk2_7 vc2_8 va2_9 vpa2_10 vb2_11 vpb2_12 ++ wOut Γ q_ou vou_13 ++ wModel Γ q_mo q_tt q_nw q_tr q_ot q_di q_kp q_ik q_wy q_ah q_tg q_ws q_fr q_rw mi vtt vnw vtr vot vdi vkp vik vwy vah vtg vws vfr vrw)) hP hD hS hA [0, 1, 2, 3, 4, 5, 6, 7, 8, 9, 10, 11, 12, 13, 14, 15, 16, 17] rfl rfl rfl rfl (vx_runSW (As := [.ref q_bf, .int (xs (i + (1 : Int32)).toNatClampNeg), .ref q_ou]) (rest := []) ⟨hx, hb, hml, hown, hts⟩ (kL_wipe l Γ hfl q_bf q_fl q_k q_c q_a q_pa q_b q_pb q_hi q_hs q_fl2 q_k2 q_c2 q_a2 q_pa2 q_b2 q_pb2 q_ou q_tx q_flT q_s1 q_s2 q_fd q_kc q_kr vi vj vk vc va vpa vb vpb vh vhs vi2 vj2 vk2 vc2 va2 vpa2 vb2 vpb2 vou (xs (i + (1 : Int32)).toNatClampNeg) r_1 va_2 vb_3 vh_4 vi2_5 vj2_6 vk2_7 vc2_8 va2_9 vpa2_10 vb2_11 vpb2_12 vou_13 hc_14 _) (vx_cwSW 3 hts gL_law_L_wipe rfl rfl rfl (by decide +kernel) ⟨Nat.le_of_ble_eq_true rfl, Nat.le_of_ble_eq_true rfl⟩) (my_preSW (wc := (wBF Γ q_bf q_tx q_fl q_flT q_hi q_s1 q_s2 q_fd q_kc q_kr  ++ wFloor Γ q_fl q_k q_c q_a q_pa q_b q_pb vi vj vk vc va vpa vb vpb ++ wHist Γ q_hi q_hs vh vhs ++ wFloor Γ q_fl2 q_k2 q_c2 q_a2 q_pa2 q_b2 q_pb2 vi2 vj2 vk2 vc2 va2 vpa2 vb2 vpb2 ++ wOut Γ q_ou vou)) [0, 1, 2, 3, 4, 5, 6, 7, 8, 9, 10, 11, 12, 13, 14, 15, 16, 17] hK hP hD hS hA hZ hstr hnc rfl rfl) rfl rfl hl.1 rfl (lv_room (Nat.le_of_ble_eq_true rfl)) dL_law_1613 ⟨Nat.le_trans (Nat.add_le_add_left (Nat.le_of_ble_eq_true rfl) nc) hn, Nat.le_trans (Nat.add_le_add_left (Nat.le_of_ble_eq_true rfl) ns) hk⟩) (fun H locs hP hD hS => ?_)
  refine W.widen (k := nc + 3) (n := ns + 18) (Nat.add_le_add_left (Nat.le_of_ble_eq_true rfl) nc) (Nat.add_le_add_left (Nat.le_of_ble_eq_true rfl) ns) ?_
  refine lv_istore (lv' := [(5, .int r_1), (0, .ref b), (1, .ref q_bf), (2, .ref q_mo), (3, .ref q_ou), (4, .int i)]) hx hb dL_law_1616 hl (by decide) rfl (fun ls hl => ?_)
  refine lv_aload_n hx hb dL_law_1618 rfl (lv_at hl 3 rfl) ?_
  refine lv_aload_n hx hb dL_law_1619 rfl (lv_at hl 1 rfl) ?_
  refine lv_iload hx hb dL_law_1620 (lv_at hl 5 rfl) ?_
  refine lv_iconst (v := (1 : Int32)) hx hb dL_law_1622 (by decide) ?_
  refine lv_iadd hx hb dL_law_1623 ?_
  refine va_sld hx hb hX hbl hbA hS hi1 dL_law_1624 ?_
  obtain ⟨r_15, mi_16, vnw_17, vdi_18, hc_19, hm⟩ := bo4_s hm
  refine my_callR1 (wc := (wModel Γ q_mo q_tt q_nw q_tr q_ot q_di q_kp q_ik q_wy q_ah q_tg q_ws q_fr q_rw mi vtt vnw vtr vot vdi vkp vik vwy vah vtg vws vfr vrw)) (w1 := (wModel Γ q_mo q_tt q_nw q_tr q_ot q_di q_kp q_ik q_wy q_ah q_tg q_ws q_fr q_rw mi_16 vtt vnw_17 vtr vot vdi_18 vkp vik vwy vah vtg vws vfr vrw)) (wa1 := (wBF Γ q_bf q_tx q_fl q_flT q_hi q_s1 q_s2 q_fd q_kc q_kr  ++ wFloor Γ q_fl q_k q_c q_a q_pa q_b q_pb vi vj vk vc va_2 vpa vb_3 vpb ++ wHist Γ q_hi q_hs vh_4 vhs ++ wFloor Γ q_fl2 q_k2 q_c2 q_a2 q_pa2 q_b2 q_pb2 vi2_5 vj2_6 vk2_7 vc2_8 va2_9 vpa2_10 vb2_11 vpb2_12 ++ wOut Γ q_ou vou_13 ++ wModel Γ q_mo q_tt q_nw q_tr q_ot q_di q_kp q_ik q_wy q_ah q_tg q_ws q_fr q_rw mi_16 vtt vnw_17 vtr vot vdi_18 vkp vik vwy vah vtg vws vfr vrw)) hP hD hS hA [18, 19, 20, 21, 22, 23, 24, 25, 26, 27, 28, 29, 30, 31] rfl rfl rfl rfl (va_runV (As := [.int (xs (i + (1 : Int32)).toNatClampNeg)]) (rest := []) ⟨hx, hb, hml, hown, hts⟩ (kX9_wipe l Γ q_mo q_tt q_nw q_tr q_ot q_di q_kp q_ik q_wy q_ah q_tg q_ws q_fr q_rw mi vtt vnw vtr vot vdi vkp vik vwy vah vtg vws vfr vrw (xs (i + (1 : Int32)).toNatClampNeg) r_15 mi_16 vnw_17 vdi_18 hc_19 _) (cwV 1 hts gL_law_X9_wipe rfl rfl rfl (by decide +kernel) ⟨Nat.le_of_ble_eq_true rfl, Nat.le_of_ble_eq_true rfl⟩) (my_preV (wc := (wModel Γ q_mo q_tt q_nw q_tr q_ot q_di q_kp q_ik q_wy q_ah q_tg q_ws q_fr q_rw mi vtt vnw vtr vot vdi vkp vik vwy vah vtg vws vfr vrw)) (ci := 7) (q0 := 18) [18, 19, 20, 21, 22, 23, 24, 25, 26, 27, 28, 29, 30, 31] hK hP hD rfl rfl rfl rfl) rfl rfl hl.1 rfl (lv_room (Nat.le_of_ble_eq_true rfl)) dL_law_1625 ⟨hn, hk⟩) (fun H locs hP hD hS => ?_)
  refine lv_istore (lv' := [(6, .int r_15), (5, .int r_1), (0, .ref b), (1, .ref q_bf), (2, .ref q_mo), (3, .ref q_ou), (4, .int i)]) hx hb dL_law_1628 hl (by decide) rfl (fun ls hl => ?_)
  refine lv_aload_n hx hb dL_law_1630 rfl (lv_at hl 4 rfl) ?_
  refine my_callR1 (wc := (wMo Γ q_mo q_tt q_nw q_tr q_ot q_di q_kp q_ik q_wy q_ah q_tg q_ws q_fr q_rw mi_16)) (w1 := (wMo Γ q_mo q_tt q_nw q_tr q_ot q_di q_kp q_ik q_wy q_ah q_tg q_ws q_fr q_rw mi_16)) (wa1 := (wBF Γ q_bf q_tx q_fl q_flT q_hi q_s1 q_s2 q_fd q_kc q_kr  ++ wFloor Γ q_fl q_k q_c q_a q_pa q_b q_pb vi vj vk vc va_2 vpa vb_3 vpb ++ wHist Γ q_hi q_hs vh_4 vhs ++ wFloor Γ q_fl2 q_k2 q_c2 q_a2 q_pa2 q_b2 q_pb2 vi2_5 vj2_6 vk2_7 vc2_8 va2_9 vpa2_10 vb2_11 vpb2_12 ++ wOut Γ q_ou vou_13 ++ wModel Γ q_mo q_tt q_nw q_tr q_ot q_di q_kp q_ik q_wy q_ah q_tg q_ws q_fr q_rw mi_16 vtt vnw_17 vtr vot vdi_18 vkp vik vwy vah vtg vws vfr vrw)) hP hD hS hA [18] rfl rfl rfl rfl (va_runV (As := []) (rest := []) ⟨hx, hb, hml, hown, hts⟩ (kX9_thrown l Γ q_mo q_tt q_nw q_tr q_ot q_di q_kp q_ik q_wy q_ah q_tg q_ws q_fr q_rw mi_16 (mX9_thrown mi_16) rfl _) (cwV 0 hts gL_law_X9_thrown rfl rfl rfl (by decide +kernel) ⟨Nat.le_of_ble_eq_true rfl, Nat.le_of_ble_eq_true rfl⟩) (my_preV (wc := (wMo Γ q_mo q_tt q_nw q_tr q_ot q_di q_kp q_ik q_wy q_ah q_tg q_ws q_fr q_rw mi_16)) (ci := 7) (q0 := 18) [18] hK hP hD rfl rfl rfl rfl) rfl rfl hl.1 rfl (lv_room (Nat.le_of_ble_eq_true rfl)) dL_law_1631 ⟨hn, hk⟩) (fun H locs hP hD hS => ?_)
  refine lv_iload hx hb dL_law_1634 (lv_at hl 1 rfl) ?_
  refine lv_icmp_eq (tgt := 1641) hx hb dL_law_1636 (by decide) (fun c_20 => ?_) (fun c_20 => ?_)
  · replace hm := if_s hm c_20
    refine lv_iload hx hb dL_law_1641 (lv_at hl 1 rfl) ?_
    refine lv_if_ne (tgt := 1658) hx hb dL_law_1643 (by decide) (fun c_21 => ?_) (fun c_21 => ?_)
    · replace hm := if_f hm c_21
      refine lv_goto (tgt := 2260) hx hb dL_law_1658 (by decide) ?_
      obtain ⟨hf0, hf1, hf2, hf3, hf4, hf5, hf6, hf7, hf8, hf9, hf10, hf11, hf12, hf13, hf14⟩ := si15 hm
      subst hf0
      subst hf1
      subst hf2
      subst hf3
      subst hf4
      subst hf5
      subst hf6
      subst hf7
      subst hf8
      subst hf9
      subst hf10
      subst hf11
      subst hf12
      subst hf13
      subst hf14
      exact kk _ _ _ hP hD hS (lv_sub hl [2, 3, 4, 5, 6] rfl)
    · replace hm := if_s hm c_21
      refine lv_aload_n hx hb dL_law_1646 rfl (lv_at hl 5 rfl) ?_
      refine lv_iconst (v := (0 : Int32)) hx hb dL_law_1647 (by decide) ?_
      refine va_lald hx hb hK hP 17 1 rfl rfl (show vp_in (0 : Int32) 1 from (by decide : ¬ ((0 : Int32) < 0 ∨ 1 ≤ (0 : Int32).toNatClampNeg))) dL_law_1648 ?_
      refine lv_iload hx hb dL_law_1649 (lv_at hl 0 rfl) ?_
      refine lv_i2l (v := r_15.toInt64) hx hb dL_law_1651 rfl ?_
      refine W.lcmp hx hb dL_law_1652 ?_
      refine lv_if_eq (tgt := 1658) hx hb dL_law_1653 (by decide) (fun c_22 => ?_) (fun c_22 => ?_)
      · replace hm := if_s hm c_22
        refine lv_goto (tgt := 2260) hx hb dL_law_1658 (by decide) ?_
        obtain ⟨hf0, hf1, hf2, hf3, hf4, hf5, hf6, hf7, hf8, hf9, hf10, hf11, hf12, hf13, hf14⟩ := si15 hm
        subst hf0
        subst hf1
        subst hf2
        subst hf3
        subst hf4
        subst hf5
        subst hf6
        subst hf7
        subst hf8
        subst hf9
        subst hf10
        subst hf11
        subst hf12
        subst hf13
        subst hf14
        exact kk _ _ _ hP hD hS (lv_sub hl [2, 3, 4, 5, 6] rfl)
      · replace hm := if_f hm c_22
        refine lv_iconst (v := (0 : Int32)) hx hb dL_law_1656 (by decide) ?_
        cases hm
  · replace hm := if_f hm c_20
    refine lv_iconst (v := (0 : Int32)) hx hb dL_law_1639 (by decide) ?_
    cases hm
def mLaw_step (vi : Nat → Int32) (vj : Nat → Int64) (vk : Nat → Int32) (vc : Nat → Int32) (va : Nat → Int32) (vpa : Nat → Int32) (vb : Nat → Int32) (vpb : Nat → Int32) (vh : Nat → Int32) (vhs : Nat → Option Nat) (vi2 : Nat → Int32) (vj2 : Nat → Int64) (vk2 : Nat → Int32) (vc2 : Nat → Int32) (va2 : Nat → Int32) (vpa2 : Nat → Int32) (vb2 : Nat → Int32) (vpb2 : Nat → Int32) (vou : Nat → Int64) (mi : Nat → Int32) (vnw : Nat → Int32) (vdi : Nat → Int32) (vwy : Nat → Int32) (vah : Nat → Int32) (vtg : Nat → Int32) (vws : Nat → Int32) (q_fl2 : Nat) (xs : Nat → Int32) (i : Int32) : Option ((Nat → Int32) × (Nat → Int64) × (Nat → Int32) × (Nat → Int32) × (Nat → Int32) × (Nat → Int32) × (Nat → Int64) × (Nat → Int32) × (Nat → Int32) × (Nat → Int32) × (Nat → Int32) × (Nat → Int32) × (Nat → Int32) × (Nat → Int64) × (Nat → Int32) × (Nat → Int32) × (Nat → Int32) × (Nat → Int32) × (Nat → Int32) × (Nat → Int32) × (Nat → Int32)) := (bo15 (mL_step vi vj vk vc va vpa vb vpb vh vhs vi2 vj2 vk2 vc2 va2 vpa2 vb2 vpb2 vou q_fl2 (xs (i + (1 : Int32)).toNatClampNeg)) (fun r_1 vi_2 vj_3 va_4 vb_5 vh_6 vi2_7 vj2_8 vk2_9 vc2_10 va2_11 vpa2_12 vb2_13 vpb2_14 vou_15 => (bo8 (mX9_step mi vnw vdi vwy vah vtg vws (xs (i + (1 : Int32)).toNatClampNeg)) (fun r_17 mi_18 vnw_19 vdi_20 vwy_21 vah_22 vtg_23 vws_24 => (if (mX9_thrown mi_18) = r_1 then (if r_1 = 0 then (if (lg_cmp (vou_15 (0 : Int32).toNatClampNeg) (r_17.toInt64)) = 0 then (some (vi_2, vj_3, va_4, vb_5, vh_6, vi2_7, vj2_8, vk2_9, vc2_10, va2_11, vpa2_12, vb2_13, vpb2_14, vou_15, mi_18, vnw_19, vdi_20, vwy_21, vah_22, vtg_23, vws_24)) else none) else (some (vi_2, vj_3, va_4, vb_5, vh_6, vi2_7, vj2_8, vk2_9, vc2_10, va2_11, vpa2_12, vb2_13, vpb2_14, vou_15, mi_18, vnw_19, vdi_20, vwy_21, vah_22, vtg_23, vws_24))) else none)))))
set_option maxHeartbeats 4000000 in
set_option maxRecDepth 100000 in
theorem kLaw_step (l : Launch) (Γ : my_G) (hfl : l.stackTraces = false) {p : Program} {e : Env} {s : State} {m : MethodId} {below : List Frame} {meth : Method} {c : Code} {b L : Nat} {xs : Nat → Int32} {Q : State → Prop} (hx : p.tables.exec = Jvm.exec) (hb : c.code = cL_law) (hml : c.maxLocals = 7) (hown : s.vm.findClass RL = some m.cls) (hts : ∀ w ∈ wsL_law, w.before #[Value.ref b] s = true) (hX : va_X b L xs s s.heap) (hbl : b < s.heap.size) (hK : my_K Γ s) (hZ : my_ZZ (fun q : Nat => s.heap.size ≤ q) s s.heap) (hstr : my_str s) (hnc : my_nc s) (q_bf q_fl q_k q_c q_a q_pa q_b q_pb q_hi q_hs q_fl2 q_k2 q_c2 q_a2 q_pa2 q_b2 q_pb2 q_ou q_mo q_tt q_nw q_tr q_ot q_di q_kp q_ik q_wy q_ah q_tg q_ws q_fr q_rw q_tx q_flT q_s1 q_s2 q_fd q_kc q_kr : Nat) (vi : Nat → Int32) (vj : Nat → Int64) (vk : Nat → Int32) (vc : Nat → Int32) (va : Nat → Int32) (vpa : Nat → Int32) (vb : Nat → Int32) (vpb : Nat → Int32) (vh : Nat → Int32) (vhs : Nat → Option Nat) (vi2 : Nat → Int32) (vj2 : Nat → Int64) (vk2 : Nat → Int32) (vc2 : Nat → Int32) (va2 : Nat → Int32) (vpa2 : Nat → Int32) (vb2 : Nat → Int32) (vpb2 : Nat → Int32) (vou : Nat → Int64) (mi : Nat → Int32) (vtt : Nat → Int32) (vnw : Nat → Int32) (vtr : Nat → Int32) (vot : Nat → Int32) (vdi : Nat → Int32) (vkp : Nat → Int32) (vik : Nat → Int32) (vwy : Nat → Int32) (vah : Nat → Int32) (vtg : Nat → Int32) (vws : Nat → Int32) (vfr : Nat → Int32) (vrw : Nat → Int32) (i : Int32) (hi1 : vp_in (i + (1 : Int32)) L) (hi2 : vp_in (i + (2 : Int32)) L) (hi3 : vp_in (i + (3 : Int32)) L) (vi_z : Nat → Int32) (vj_z : Nat → Int64) (va_z : Nat → Int32) (vb_z : Nat → Int32) (vh_z : Nat → Int32) (vi2_z : Nat → Int32) (vj2_z : Nat → Int64) (vk2_z : Nat → Int32) (vc2_z : Nat → Int32) (va2_z : Nat → Int32) (vpa2_z : Nat → Int32) (vb2_z : Nat → Int32) (vpb2_z : Nat → Int32) (vou_z : Nat → Int64) (mi_z : Nat → Int32) (vnw_z : Nat → Int32) (vdi_z : Nat → Int32) (vwy_z : Nat → Int32) (vah_z : Nat → Int32) (vtg_z : Nat → Int32) (vws_z : Nat → Int32) (hm : mLaw_step vi vj vk vc va vpa vb vpb vh vhs vi2 vj2 vk2 vc2 va2 vpa2 vb2 vpb2 vou mi vnw vdi vwy vah vtg vws q_fl2 xs i = (some (vi_z, vj_z, va_z, vb_z, vh_z, vi2_z, vj2_z, vk2_z, vc2_z, va2_z, vpa2_z, vb2_z, vpb2_z, vou_z, mi_z, vnw_z, vdi_z, vwy_z, vah_z, vtg_z, vws_z))) (R_ : va_W) (nc ns : Nat) (hn : nc + 3 ≤ room_1.cells) (hk : ns + 18 ≤ room_1.slots) (H : Heap) (locs : List Loc) (ls : Array Slot) (hP : va_P (my_D Γ) vwCl ((wBF Γ q_bf q_tx q_fl q_flT q_hi q_s1 q_s2 q_fd q_kc q_kr  ++ wFloor Γ q_fl q_k q_c q_a q_pa q_b q_pb vi vj vk vc va vpa vb vpb ++ wHist Γ q_hi q_hs vh vhs ++ wFloor Γ q_fl2 q_k2 q_c2 q_a2 q_pa2 q_b2 q_pb2 vi2 vj2 vk2 vc2 va2 vpa2 vb2 vpb2 ++ wOut Γ q_ou vou ++ wModel Γ q_mo q_tt q_nw q_tr q_ot q_di q_kp q_ik q_wy q_ah q_tg q_ws q_fr q_rw mi vtt vnw vtr vot vdi vkp vik vwy vah vtg vws vfr vrw) ++ R_) H) (hD : va_D (fun q : Nat => s.heap.size ≤ q) ((wBF Γ q_bf q_tx q_fl q_flT q_hi q_s1 q_s2 q_fd q_kc q_kr  ++ wFloor Γ q_fl q_k q_c q_a q_pa q_b q_pb vi vj vk vc va vpa vb vpb ++ wHist Γ q_hi q_hs vh vhs ++ wFloor Γ q_fl2 q_k2 q_c2 q_a2 q_pa2 q_b2 q_pb2 vi2 vj2 vk2 vc2 va2 vpa2 vb2 vpb2 ++ wOut Γ q_ou vou ++ wModel Γ q_mo q_tt q_nw q_tr q_ot q_di q_kp q_ik q_wy q_ah q_tg q_ws q_fr q_rw mi vtt vnw vtr vot vdi vkp vik vwy vah vtg vws vfr vrw) ++ R_)) (hS : va_S (fun q : Nat => s.heap.size ≤ q) s.heap H locs) (hl : lv_has ls 7 [(0, .ref b), (1, .ref q_bf), (2, .ref q_mo), (3, .ref q_ou), (4, .int i)]) (kk : ∀ (H : Heap) (locs : List Loc) (ls : Array Slot), va_P (my_D Γ) vwCl ((wBF Γ q_bf q_tx q_fl q_flT q_hi q_s1 q_s2 q_fd q_kc q_kr  ++ wFloor Γ q_fl q_k q_c q_a q_pa q_b q_pb vi_z vj_z vk vc va_z vpa vb_z vpb ++ wHist Γ q_hi q_hs vh_z vhs ++ wFloor Γ q_fl2 q_k2 q_c2 q_a2 q_pa2 q_b2 q_pb2 vi2_z vj2_z vk2_z vc2_z va2_z vpa2_z vb2_z vpb2_z ++ wOut Γ q_ou vou_z ++ wModel Γ q_mo q_tt q_nw q_tr q_ot q_di q_kp q_ik q_wy q_ah q_tg q_ws q_fr q_rw mi_z vtt vnw_z vtr vot vdi_z vkp vik vwy_z vah_z vtg_z vws_z vfr vrw) ++ R_) H → va_D (fun q : Nat => s.heap.size ≤ q) ((wBF Γ q_bf q_tx q_fl q_flT q_hi q_s1 q_s2 q_fd q_kc q_kr  ++ wFloor Γ q_fl q_k q_c q_a q_pa q_b q_pb vi_z vj_z vk vc va_z vpa vb_z vpb ++ wHist Γ q_hi q_hs vh_z vhs ++ wFloor Γ q_fl2 q_k2 q_c2 q_a2 q_pa2 q_b2 q_pb2 vi2_z vj2_z vk2_z vc2_z va2_z vpa2_z vb2_z vpb2_z ++ wOut Γ q_ou vou_z ++ wModel Γ q_mo q_tt q_nw q_tr q_ot q_di q_kp q_ik q_wy q_ah q_tg q_ws q_fr q_rw mi_z vtt vnw_z vtr vot vdi_z vkp vik vwy_z vah_z vtg_z vws_z vfr vrw) ++ R_) → va_S (fun q : Nat => s.heap.size ≤ q) s.heap H locs → lv_has ls 7 [(0, .ref b), (1, .ref q_bf), (2, .ref q_mo), (3, .ref q_ou), (4, .int i)] → W p l e room_1 s m #[Value.ref b] below meth c H locs (nc + 3) (ns + 18) Q (F0 m 2260 ls [])) : W p l e room_1 s m #[Value.ref b] below meth c H locs nc ns Q (F0 m 1661 ls []) := by
  have hA : ∀ q : Nat, s.heap.size ≤ q → (fun q : Nat => s.heap.size ≤ q) q := fun _ h => h
  have hbA : ¬ (fun q : Nat => s.heap.size ≤ q) b := Nat.not_le.mpr hbl
  unfold mLaw_step at hm
  refine lv_aload_n hx hb dL_law_1661 rfl (lv_at hl 1 rfl) ?_
  refine lv_aload_n hx hb dL_law_1662 rfl (lv_at hl 0 rfl) ?_
  refine lv_iload hx hb dL_law_1663 (lv_at hl 4 rfl) ?_
  refine lv_iconst (v := (1 : Int32)) hx hb dL_law_1665 (by decide) ?_
  refine lv_iadd hx hb dL_law_1666 ?_
  refine va_sld hx hb hX hbl hbA hS hi1 dL_law_1667 ?_
  refine lv_aload_n hx hb dL_law_1668 rfl (lv_at hl 3 rfl) ?_
  obtain ⟨r_1, vi_2, vj_3, va_4, vb_5, vh_6, vi2_7, vj2_8, vk2_9, vc2_10, va2_11, vpa2_12, vb2_13, vpb2_14, vou_15, hc_16, hm⟩ := bo15_s hm
  refine my_callRW1 (wc := (wBF Γ q_bf q_tx q_fl q_flT q_hi q_s1 q_s2 q_fd q_kc q_kr  ++ wFloor Γ q_fl q_k q_c q_a q_pa q_b q_pb vi vj vk vc va vpa vb vpb ++ wHist Γ q_hi q_hs vh vhs ++ wFloor Γ q_fl2 q_k2 q_c2 q_a2 q_pa2 q_b2 q_pb2 vi2 vj2 vk2 vc2 va2 vpa2 vb2 vpb2 ++ wOut Γ q_ou vou)) (w1 := (wBF Γ q_bf q_tx q_fl q_flT q_hi q_s1 q_s2 q_fd q_kc q_kr  ++ wFloor Γ q_fl q_k q_c q_a q_pa q_b q_pb vi_2 vj_3 vk vc va_4 vpa vb_5 vpb ++ wHist Γ q_hi q_hs vh_6 vhs ++ wFloor Γ q_fl2 q_k2 q_c2 q_a2 q_pa2 q_b2 q_pb2 vi2_7 vj2_8 vk2_9 vc2_10 va2_11 vpa2_12 vb2_13 vpb2_14 ++ wOut Γ q_ou vou_15)) (wa1 := (wBF Γ q_bf q_tx q_fl q_flT q_hi q_s1 q_s2 q_fd q_kc q_kr  ++ wFloor Γ q_fl q_k q_c q_a q_pa q_b q_pb vi_2 vj_3 vk vc va_4 vpa vb_5 vpb ++ wHist Γ q_hi q_hs vh_6 vhs ++ wFloor Γ q_fl2 q_k2 q_c2 q_a2 q_pa2 q_b2 q_pb2 vi2_7 vj2_8 vk2_9 vc2_10 va2_11 vpa2_12 vb2_13 vpb2_14 ++ wOut Γ q_ou vou_15 ++ wModel Γ q_mo q_tt q_nw q_tr q_ot q_di q_kp q_ik q_wy q_ah q_tg q_ws q_fr q_rw mi vtt vnw vtr vot vdi vkp vik vwy vah vtg vws vfr vrw)) hP hD hS hA [0, 1, 2, 3, 4, 5, 6, 7, 8, 9, 10, 11, 12, 13, 14, 15, 16, 17] rfl rfl rfl rfl (vx_runSW (As := [.ref q_bf, .int (xs (i + (1 : Int32)).toNatClampNeg), .ref q_ou]) (rest := []) ⟨hx, hb, hml, hown, hts⟩ (kL_step l Γ hfl q_bf q_fl q_k q_c q_a q_pa q_b q_pb q_hi q_hs q_fl2 q_k2 q_c2 q_a2 q_pa2 q_b2 q_pb2 q_ou q_tx q_flT q_s1 q_s2 q_fd q_kc q_kr vi vj vk vc va vpa vb vpb vh vhs vi2 vj2 vk2 vc2 va2 vpa2 vb2 vpb2 vou (xs (i + (1 : Int32)).toNatClampNeg) r_1 vi_2 vj_3 va_4 vb_5 vh_6 vi2_7 vj2_8 vk2_9 vc2_10 va2_11 vpa2_12 vb2_13 vpb2_14 vou_15 hc_16 _) (vx_cwSW 3 hts gL_law_L_step rfl rfl rfl (by decide +kernel) ⟨Nat.le_of_ble_eq_true rfl, Nat.le_of_ble_eq_true rfl⟩) (my_preSW (wc := (wBF Γ q_bf q_tx q_fl q_flT q_hi q_s1 q_s2 q_fd q_kc q_kr  ++ wFloor Γ q_fl q_k q_c q_a q_pa q_b q_pb vi vj vk vc va vpa vb vpb ++ wHist Γ q_hi q_hs vh vhs ++ wFloor Γ q_fl2 q_k2 q_c2 q_a2 q_pa2 q_b2 q_pb2 vi2 vj2 vk2 vc2 va2 vpa2 vb2 vpb2 ++ wOut Γ q_ou vou)) [0, 1, 2, 3, 4, 5, 6, 7, 8, 9, 10, 11, 12, 13, 14, 15, 16, 17] hK hP hD hS hA hZ hstr hnc rfl rfl) rfl rfl hl.1 rfl (lv_room (Nat.le_of_ble_eq_true rfl)) dL_law_1669 ⟨Nat.le_trans (Nat.add_le_add_left (Nat.le_of_ble_eq_true rfl) nc) hn, Nat.le_trans (Nat.add_le_add_left (Nat.le_of_ble_eq_true rfl) ns) hk⟩) (fun H locs hP hD hS => ?_)
  refine W.widen (k := nc + 3) (n := ns + 18) (Nat.add_le_add_left (Nat.le_of_ble_eq_true rfl) nc) (Nat.add_le_add_left (Nat.le_of_ble_eq_true rfl) ns) ?_
  refine lv_istore (lv' := [(5, .int r_1), (0, .ref b), (1, .ref q_bf), (2, .ref q_mo), (3, .ref q_ou), (4, .int i)]) hx hb dL_law_1672 hl (by decide) rfl (fun ls hl => ?_)
  refine lv_aload_n hx hb dL_law_1674 rfl (lv_at hl 3 rfl) ?_
  refine lv_aload_n hx hb dL_law_1675 rfl (lv_at hl 1 rfl) ?_
  refine lv_iload hx hb dL_law_1676 (lv_at hl 5 rfl) ?_
  refine lv_iconst (v := (1 : Int32)) hx hb dL_law_1678 (by decide) ?_
  refine lv_iadd hx hb dL_law_1679 ?_
  refine va_sld hx hb hX hbl hbA hS hi1 dL_law_1680 ?_
  obtain ⟨r_17, mi_18, vnw_19, vdi_20, vwy_21, vah_22, vtg_23, vws_24, hc_25, hm⟩ := bo8_s hm
  refine my_callR1 (wc := (wModel Γ q_mo q_tt q_nw q_tr q_ot q_di q_kp q_ik q_wy q_ah q_tg q_ws q_fr q_rw mi vtt vnw vtr vot vdi vkp vik vwy vah vtg vws vfr vrw)) (w1 := (wModel Γ q_mo q_tt q_nw q_tr q_ot q_di q_kp q_ik q_wy q_ah q_tg q_ws q_fr q_rw mi_18 vtt vnw_19 vtr vot vdi_20 vkp vik vwy_21 vah_22 vtg_23 vws_24 vfr vrw)) (wa1 := (wBF Γ q_bf q_tx q_fl q_flT q_hi q_s1 q_s2 q_fd q_kc q_kr  ++ wFloor Γ q_fl q_k q_c q_a q_pa q_b q_pb vi_2 vj_3 vk vc va_4 vpa vb_5 vpb ++ wHist Γ q_hi q_hs vh_6 vhs ++ wFloor Γ q_fl2 q_k2 q_c2 q_a2 q_pa2 q_b2 q_pb2 vi2_7 vj2_8 vk2_9 vc2_10 va2_11 vpa2_12 vb2_13 vpb2_14 ++ wOut Γ q_ou vou_15 ++ wModel Γ q_mo q_tt q_nw q_tr q_ot q_di q_kp q_ik q_wy q_ah q_tg q_ws q_fr q_rw mi_18 vtt vnw_19 vtr vot vdi_20 vkp vik vwy_21 vah_22 vtg_23 vws_24 vfr vrw)) hP hD hS hA [18, 19, 20, 21, 22, 23, 24, 25, 26, 27, 28, 29, 30, 31] rfl rfl rfl rfl (va_runV (As := [.int (xs (i + (1 : Int32)).toNatClampNeg)]) (rest := []) ⟨hx, hb, hml, hown, hts⟩ (kX9_step l Γ q_mo q_tt q_nw q_tr q_ot q_di q_kp q_ik q_wy q_ah q_tg q_ws q_fr q_rw mi vtt vnw vtr vot vdi vkp vik vwy vah vtg vws vfr vrw (xs (i + (1 : Int32)).toNatClampNeg) r_17 mi_18 vnw_19 vdi_20 vwy_21 vah_22 vtg_23 vws_24 hc_25 _) (cwV 1 hts gL_law_X9_step rfl rfl rfl (by decide +kernel) ⟨Nat.le_of_ble_eq_true rfl, Nat.le_of_ble_eq_true rfl⟩) (my_preV (wc := (wModel Γ q_mo q_tt q_nw q_tr q_ot q_di q_kp q_ik q_wy q_ah q_tg q_ws q_fr q_rw mi vtt vnw vtr vot vdi vkp vik vwy vah vtg vws vfr vrw)) (ci := 7) (q0 := 18) [18, 19, 20, 21, 22, 23, 24, 25, 26, 27, 28, 29, 30, 31] hK hP hD rfl rfl rfl rfl) rfl rfl hl.1 rfl (lv_room (Nat.le_of_ble_eq_true rfl)) dL_law_1681 ⟨hn, hk⟩) (fun H locs hP hD hS => ?_)
  refine lv_istore (lv' := [(6, .int r_17), (5, .int r_1), (0, .ref b), (1, .ref q_bf), (2, .ref q_mo), (3, .ref q_ou), (4, .int i)]) hx hb dL_law_1684 hl (by decide) rfl (fun ls hl => ?_)
  refine lv_aload_n hx hb dL_law_1686 rfl (lv_at hl 4 rfl) ?_
  refine my_callR1 (wc := (wMo Γ q_mo q_tt q_nw q_tr q_ot q_di q_kp q_ik q_wy q_ah q_tg q_ws q_fr q_rw mi_18)) (w1 := (wMo Γ q_mo q_tt q_nw q_tr q_ot q_di q_kp q_ik q_wy q_ah q_tg q_ws q_fr q_rw mi_18)) (wa1 := (wBF Γ q_bf q_tx q_fl q_flT q_hi q_s1 q_s2 q_fd q_kc q_kr  ++ wFloor Γ q_fl q_k q_c q_a q_pa q_b q_pb vi_2 vj_3 vk vc va_4 vpa vb_5 vpb ++ wHist Γ q_hi q_hs vh_6 vhs ++ wFloor Γ q_fl2 q_k2 q_c2 q_a2 q_pa2 q_b2 q_pb2 vi2_7 vj2_8 vk2_9 vc2_10 va2_11 vpa2_12 vb2_13 vpb2_14 ++ wOut Γ q_ou vou_15 ++ wModel Γ q_mo q_tt q_nw q_tr q_ot q_di q_kp q_ik q_wy q_ah q_tg q_ws q_fr q_rw mi_18 vtt vnw_19 vtr vot vdi_20 vkp vik vwy_21 vah_22 vtg_23 vws_24 vfr vrw)) hP hD hS hA [18] rfl rfl rfl rfl (va_runV (As := []) (rest := []) ⟨hx, hb, hml, hown, hts⟩ (kX9_thrown l Γ q_mo q_tt q_nw q_tr q_ot q_di q_kp q_ik q_wy q_ah q_tg q_ws q_fr q_rw mi_18 (mX9_thrown mi_18) rfl _) (cwV 0 hts gL_law_X9_thrown rfl rfl rfl (by decide +kernel) ⟨Nat.le_of_ble_eq_true rfl, Nat.le_of_ble_eq_true rfl⟩) (my_preV (wc := (wMo Γ q_mo q_tt q_nw q_tr q_ot q_di q_kp q_ik q_wy q_ah q_tg q_ws q_fr q_rw mi_18)) (ci := 7) (q0 := 18) [18] hK hP hD rfl rfl rfl rfl) rfl rfl hl.1 rfl (lv_room (Nat.le_of_ble_eq_true rfl)) dL_law_1687 ⟨hn, hk⟩) (fun H locs hP hD hS => ?_)
  refine lv_iload hx hb dL_law_1690 (lv_at hl 1 rfl) ?_
  refine lv_icmp_eq (tgt := 1697) hx hb dL_law_1692 (by decide) (fun c_26 => ?_) (fun c_26 => ?_)
  · replace hm := if_s hm c_26
    refine lv_iload hx hb dL_law_1697 (lv_at hl 1 rfl) ?_
    refine lv_if_ne (tgt := 1714) hx hb dL_law_1699 (by decide) (fun c_27 => ?_) (fun c_27 => ?_)
    · replace hm := if_f hm c_27
      refine lv_goto (tgt := 2260) hx hb dL_law_1714 (by decide) ?_
      obtain ⟨hf0, hf1, hf2, hf3, hf4, hf5, hf6, hf7, hf8, hf9, hf10, hf11, hf12, hf13, hf14, hf15, hf16, hf17, hf18, hf19, hf20⟩ := si21 hm
      subst hf0
      subst hf1
      subst hf2
      subst hf3
      subst hf4
      subst hf5
      subst hf6
      subst hf7
      subst hf8
      subst hf9
      subst hf10
      subst hf11
      subst hf12
      subst hf13
      subst hf14
      subst hf15
      subst hf16
      subst hf17
      subst hf18
      subst hf19
      subst hf20
      exact kk _ _ _ hP hD hS (lv_sub hl [2, 3, 4, 5, 6] rfl)
    · replace hm := if_s hm c_27
      refine lv_aload_n hx hb dL_law_1702 rfl (lv_at hl 5 rfl) ?_
      refine lv_iconst (v := (0 : Int32)) hx hb dL_law_1703 (by decide) ?_
      refine va_lald hx hb hK hP 17 1 rfl rfl (show vp_in (0 : Int32) 1 from (by decide : ¬ ((0 : Int32) < 0 ∨ 1 ≤ (0 : Int32).toNatClampNeg))) dL_law_1704 ?_
      refine lv_iload hx hb dL_law_1705 (lv_at hl 0 rfl) ?_
      refine lv_i2l (v := r_17.toInt64) hx hb dL_law_1707 rfl ?_
      refine W.lcmp hx hb dL_law_1708 ?_
      refine lv_if_eq (tgt := 1714) hx hb dL_law_1709 (by decide) (fun c_28 => ?_) (fun c_28 => ?_)
      · replace hm := if_s hm c_28
        refine lv_goto (tgt := 2260) hx hb dL_law_1714 (by decide) ?_
        obtain ⟨hf0, hf1, hf2, hf3, hf4, hf5, hf6, hf7, hf8, hf9, hf10, hf11, hf12, hf13, hf14, hf15, hf16, hf17, hf18, hf19, hf20⟩ := si21 hm
        subst hf0
        subst hf1
        subst hf2
        subst hf3
        subst hf4
        subst hf5
        subst hf6
        subst hf7
        subst hf8
        subst hf9
        subst hf10
        subst hf11
        subst hf12
        subst hf13
        subst hf14
        subst hf15
        subst hf16
        subst hf17
        subst hf18
        subst hf19
        subst hf20
        exact kk _ _ _ hP hD hS (lv_sub hl [2, 3, 4, 5, 6] rfl)
      · replace hm := if_f hm c_28
        refine lv_iconst (v := (0 : Int32)) hx hb dL_law_1712 (by decide) ?_
        cases hm
  · replace hm := if_f hm c_26
    refine lv_iconst (v := (0 : Int32)) hx hb dL_law_1695 (by decide) ?_
    cases hm
def mLaw_undo (vi : Nat → Int32) (vj : Nat → Int64) (vk : Nat → Int32) (vc : Nat → Int32) (va : Nat → Int32) (vpa : Nat → Int32) (vb : Nat → Int32) (vpb : Nat → Int32) (vh : Nat → Int32) (vhs : Nat → Option Nat) (vi2 : Nat → Int32) (vj2 : Nat → Int64) (vk2 : Nat → Int32) (vc2 : Nat → Int32) (va2 : Nat → Int32) (vpa2 : Nat → Int32) (vb2 : Nat → Int32) (vpb2 : Nat → Int32) (vou : Nat → Int64) (mi : Nat → Int32) (vnw : Nat → Int32) (vdi : Nat → Int32) (q_fl2 : Nat) (xs : Nat → Int32) (i : Int32) : Option ((Nat → Int32) × (Nat → Int64) × (Nat → Int32) × (Nat → Int32) × (Nat → Int32) × (Nat → Int32) × (Nat → Int32) × (Nat → Int32) × (Nat → Int32) × (Nat → Int64) × (Nat → Int32) × (Nat → Int32)) := (bo11 (mL_undo vi vj vk vc va vpa vb vpb vh vhs vi2 vj2 vk2 vc2 va2 vpa2 vb2 vpb2 vou q_fl2) (fun r_1 vi_2 vj_3 vk_4 vc_5 va_6 vpa_7 vb_8 vpb_9 vh_10 vou_11 => (bo3 (mX9_undo mi vnw vdi) (fun r_13 mi_14 vnw_15 => (if (mX9_thrown mi_14) = r_1 then (if r_1 = 0 then (if (lg_cmp (vou_11 (0 : Int32).toNatClampNeg) (r_13.toInt64)) = 0 then (some (vi_2, vj_3, vk_4, vc_5, va_6, vpa_7, vb_8, vpb_9, vh_10, vou_11, mi_14, vnw_15)) else none) else (some (vi_2, vj_3, vk_4, vc_5, va_6, vpa_7, vb_8, vpb_9, vh_10, vou_11, mi_14, vnw_15))) else none)))))
set_option maxHeartbeats 4000000 in
set_option maxRecDepth 100000 in
theorem kLaw_undo (l : Launch) (Γ : my_G) (hfl : l.stackTraces = false) {p : Program} {e : Env} {s : State} {m : MethodId} {below : List Frame} {meth : Method} {c : Code} {b L : Nat} {xs : Nat → Int32} {Q : State → Prop} (hx : p.tables.exec = Jvm.exec) (hb : c.code = cL_law) (hml : c.maxLocals = 7) (hown : s.vm.findClass RL = some m.cls) (hts : ∀ w ∈ wsL_law, w.before #[Value.ref b] s = true) (hX : va_X b L xs s s.heap) (hbl : b < s.heap.size) (hK : my_K Γ s) (hZ : my_ZZ (fun q : Nat => s.heap.size ≤ q) s s.heap) (hstr : my_str s) (hnc : my_nc s) (q_bf q_fl q_k q_c q_a q_pa q_b q_pb q_hi q_hs q_fl2 q_k2 q_c2 q_a2 q_pa2 q_b2 q_pb2 q_ou q_mo q_tt q_nw q_tr q_ot q_di q_kp q_ik q_wy q_ah q_tg q_ws q_fr q_rw q_tx q_flT q_s1 q_s2 q_fd q_kc q_kr : Nat) (vi : Nat → Int32) (vj : Nat → Int64) (vk : Nat → Int32) (vc : Nat → Int32) (va : Nat → Int32) (vpa : Nat → Int32) (vb : Nat → Int32) (vpb : Nat → Int32) (vh : Nat → Int32) (vhs : Nat → Option Nat) (vi2 : Nat → Int32) (vj2 : Nat → Int64) (vk2 : Nat → Int32) (vc2 : Nat → Int32) (va2 : Nat → Int32) (vpa2 : Nat → Int32) (vb2 : Nat → Int32) (vpb2 : Nat → Int32) (vou : Nat → Int64) (mi : Nat → Int32) (vtt : Nat → Int32) (vnw : Nat → Int32) (vtr : Nat → Int32) (vot : Nat → Int32) (vdi : Nat → Int32) (vkp : Nat → Int32) (vik : Nat → Int32) (vwy : Nat → Int32) (vah : Nat → Int32) (vtg : Nat → Int32) (vws : Nat → Int32) (vfr : Nat → Int32) (vrw : Nat → Int32) (i : Int32) (hi1 : vp_in (i + (1 : Int32)) L) (hi2 : vp_in (i + (2 : Int32)) L) (hi3 : vp_in (i + (3 : Int32)) L) (vi_z : Nat → Int32) (vj_z : Nat → Int64) (vk_z : Nat → Int32) (vc_z : Nat → Int32) (va_z : Nat → Int32) (vpa_z : Nat → Int32) (vb_z : Nat → Int32) (vpb_z : Nat → Int32) (vh_z : Nat → Int32) (vou_z : Nat → Int64) (mi_z : Nat → Int32) (vnw_z : Nat → Int32) (hm : mLaw_undo vi vj vk vc va vpa vb vpb vh vhs vi2 vj2 vk2 vc2 va2 vpa2 vb2 vpb2 vou mi vnw vdi q_fl2 xs i = (some (vi_z, vj_z, vk_z, vc_z, va_z, vpa_z, vb_z, vpb_z, vh_z, vou_z, mi_z, vnw_z))) (R_ : va_W) (nc ns : Nat) (hn : nc + 3 ≤ room_1.cells) (hk : ns + 18 ≤ room_1.slots) (H : Heap) (locs : List Loc) (ls : Array Slot) (hP : va_P (my_D Γ) vwCl ((wBF Γ q_bf q_tx q_fl q_flT q_hi q_s1 q_s2 q_fd q_kc q_kr  ++ wFloor Γ q_fl q_k q_c q_a q_pa q_b q_pb vi vj vk vc va vpa vb vpb ++ wHist Γ q_hi q_hs vh vhs ++ wFloor Γ q_fl2 q_k2 q_c2 q_a2 q_pa2 q_b2 q_pb2 vi2 vj2 vk2 vc2 va2 vpa2 vb2 vpb2 ++ wOut Γ q_ou vou ++ wModel Γ q_mo q_tt q_nw q_tr q_ot q_di q_kp q_ik q_wy q_ah q_tg q_ws q_fr q_rw mi vtt vnw vtr vot vdi vkp vik vwy vah vtg vws vfr vrw) ++ R_) H) (hD : va_D (fun q : Nat => s.heap.size ≤ q) ((wBF Γ q_bf q_tx q_fl q_flT q_hi q_s1 q_s2 q_fd q_kc q_kr  ++ wFloor Γ q_fl q_k q_c q_a q_pa q_b q_pb vi vj vk vc va vpa vb vpb ++ wHist Γ q_hi q_hs vh vhs ++ wFloor Γ q_fl2 q_k2 q_c2 q_a2 q_pa2 q_b2 q_pb2 vi2 vj2 vk2 vc2 va2 vpa2 vb2 vpb2 ++ wOut Γ q_ou vou ++ wModel Γ q_mo q_tt q_nw q_tr q_ot q_di q_kp q_ik q_wy q_ah q_tg q_ws q_fr q_rw mi vtt vnw vtr vot vdi vkp vik vwy vah vtg vws vfr vrw) ++ R_)) (hS : va_S (fun q : Nat => s.heap.size ≤ q) s.heap H locs) (hl : lv_has ls 7 [(0, .ref b), (1, .ref q_bf), (2, .ref q_mo), (3, .ref q_ou), (4, .int i)]) (kk : ∀ (H : Heap) (locs : List Loc) (ls : Array Slot), va_P (my_D Γ) vwCl ((wBF Γ q_bf q_tx q_fl q_flT q_hi q_s1 q_s2 q_fd q_kc q_kr  ++ wFloor Γ q_fl q_k q_c q_a q_pa q_b q_pb vi_z vj_z vk_z vc_z va_z vpa_z vb_z vpb_z ++ wHist Γ q_hi q_hs vh_z vhs ++ wFloor Γ q_fl2 q_k2 q_c2 q_a2 q_pa2 q_b2 q_pb2 vi2 vj2 vk2 vc2 va2 vpa2 vb2 vpb2 ++ wOut Γ q_ou vou_z ++ wModel Γ q_mo q_tt q_nw q_tr q_ot q_di q_kp q_ik q_wy q_ah q_tg q_ws q_fr q_rw mi_z vtt vnw_z vtr vot vdi vkp vik vwy vah vtg vws vfr vrw) ++ R_) H → va_D (fun q : Nat => s.heap.size ≤ q) ((wBF Γ q_bf q_tx q_fl q_flT q_hi q_s1 q_s2 q_fd q_kc q_kr  ++ wFloor Γ q_fl q_k q_c q_a q_pa q_b q_pb vi_z vj_z vk_z vc_z va_z vpa_z vb_z vpb_z ++ wHist Γ q_hi q_hs vh_z vhs ++ wFloor Γ q_fl2 q_k2 q_c2 q_a2 q_pa2 q_b2 q_pb2 vi2 vj2 vk2 vc2 va2 vpa2 vb2 vpb2 ++ wOut Γ q_ou vou_z ++ wModel Γ q_mo q_tt q_nw q_tr q_ot q_di q_kp q_ik q_wy q_ah q_tg q_ws q_fr q_rw mi_z vtt vnw_z vtr vot vdi vkp vik vwy vah vtg vws vfr vrw) ++ R_) → va_S (fun q : Nat => s.heap.size ≤ q) s.heap H locs → lv_has ls 7 [(0, .ref b), (1, .ref q_bf), (2, .ref q_mo), (3, .ref q_ou), (4, .int i)] → W p l e room_1 s m #[Value.ref b] below meth c H locs (nc + 3) (ns + 18) Q (F0 m 2260 ls [])) : W p l e room_1 s m #[Value.ref b] below meth c H locs nc ns Q (F0 m 1717 ls []) := by
  have hA : ∀ q : Nat, s.heap.size ≤ q → (fun q : Nat => s.heap.size ≤ q) q := fun _ h => h
  have hbA : ¬ (fun q : Nat => s.heap.size ≤ q) b := Nat.not_le.mpr hbl
  unfold mLaw_undo at hm
  refine lv_aload_n hx hb dL_law_1717 rfl (lv_at hl 1 rfl) ?_
  refine lv_aload_n hx hb dL_law_1718 rfl (lv_at hl 3 rfl) ?_
  obtain ⟨r_1, vi_2, vj_3, vk_4, vc_5, va_6, vpa_7, vb_8, vpb_9, vh_10, vou_11, hc_12, hm⟩ := bo11_s hm
  refine my_callRW1 (wc := (wBF Γ q_bf q_tx q_fl q_flT q_hi q_s1 q_s2 q_fd q_kc q_kr  ++ wFloor Γ q_fl q_k q_c q_a q_pa q_b q_pb vi vj vk vc va vpa vb vpb ++ wHist Γ q_hi q_hs vh vhs ++ wFloor Γ q_fl2 q_k2 q_c2 q_a2 q_pa2 q_b2 q_pb2 vi2 vj2 vk2 vc2 va2 vpa2 vb2 vpb2 ++ wOut Γ q_ou vou)) (w1 := (wBF Γ q_bf q_tx q_fl q_flT q_hi q_s1 q_s2 q_fd q_kc q_kr  ++ wFloor Γ q_fl q_k q_c q_a q_pa q_b q_pb vi_2 vj_3 vk_4 vc_5 va_6 vpa_7 vb_8 vpb_9 ++ wHist Γ q_hi q_hs vh_10 vhs ++ wFloor Γ q_fl2 q_k2 q_c2 q_a2 q_pa2 q_b2 q_pb2 vi2 vj2 vk2 vc2 va2 vpa2 vb2 vpb2 ++ wOut Γ q_ou vou_11)) (wa1 := (wBF Γ q_bf q_tx q_fl q_flT q_hi q_s1 q_s2 q_fd q_kc q_kr  ++ wFloor Γ q_fl q_k q_c q_a q_pa q_b q_pb vi_2 vj_3 vk_4 vc_5 va_6 vpa_7 vb_8 vpb_9 ++ wHist Γ q_hi q_hs vh_10 vhs ++ wFloor Γ q_fl2 q_k2 q_c2 q_a2 q_pa2 q_b2 q_pb2 vi2 vj2 vk2 vc2 va2 vpa2 vb2 vpb2 ++ wOut Γ q_ou vou_11 ++ wModel Γ q_mo q_tt q_nw q_tr q_ot q_di q_kp q_ik q_wy q_ah q_tg q_ws q_fr q_rw mi vtt vnw vtr vot vdi vkp vik vwy vah vtg vws vfr vrw)) hP hD hS hA [0, 1, 2, 3, 4, 5, 6, 7, 8, 9, 10, 11, 12, 13, 14, 15, 16, 17] rfl rfl rfl rfl (vx_runSW (As := [.ref q_bf, .ref q_ou]) (rest := []) ⟨hx, hb, hml, hown, hts⟩ (kL_undo l Γ hfl q_bf q_fl q_k q_c q_a q_pa q_b q_pb q_hi q_hs q_fl2 q_k2 q_c2 q_a2 q_pa2 q_b2 q_pb2 q_ou q_tx q_flT q_s1 q_s2 q_fd q_kc q_kr vi vj vk vc va vpa vb vpb vh vhs vi2 vj2 vk2 vc2 va2 vpa2 vb2 vpb2 vou r_1 vi_2 vj_3 vk_4 vc_5 va_6 vpa_7 vb_8 vpb_9 vh_10 vou_11 hc_12 _) (vx_cwSW 2 hts gL_law_L_undo rfl rfl rfl (by decide +kernel) ⟨Nat.le_of_ble_eq_true rfl, Nat.le_of_ble_eq_true rfl⟩) (my_preSW (wc := (wBF Γ q_bf q_tx q_fl q_flT q_hi q_s1 q_s2 q_fd q_kc q_kr  ++ wFloor Γ q_fl q_k q_c q_a q_pa q_b q_pb vi vj vk vc va vpa vb vpb ++ wHist Γ q_hi q_hs vh vhs ++ wFloor Γ q_fl2 q_k2 q_c2 q_a2 q_pa2 q_b2 q_pb2 vi2 vj2 vk2 vc2 va2 vpa2 vb2 vpb2 ++ wOut Γ q_ou vou)) [0, 1, 2, 3, 4, 5, 6, 7, 8, 9, 10, 11, 12, 13, 14, 15, 16, 17] hK hP hD hS hA hZ hstr hnc rfl rfl) rfl rfl hl.1 rfl (lv_room (Nat.le_of_ble_eq_true rfl)) dL_law_1719 ⟨Nat.le_trans (Nat.add_le_add_left (Nat.le_of_ble_eq_true rfl) nc) hn, Nat.le_trans (Nat.add_le_add_left (Nat.le_of_ble_eq_true rfl) ns) hk⟩) (fun H locs hP hD hS => ?_)
  refine W.widen (k := nc + 3) (n := ns + 18) (Nat.add_le_add_left (Nat.le_of_ble_eq_true rfl) nc) (Nat.add_le_add_left (Nat.le_of_ble_eq_true rfl) ns) ?_
  refine lv_istore (lv' := [(5, .int r_1), (0, .ref b), (1, .ref q_bf), (2, .ref q_mo), (3, .ref q_ou), (4, .int i)]) hx hb dL_law_1722 hl (by decide) rfl (fun ls hl => ?_)
  refine lv_aload_n hx hb dL_law_1724 rfl (lv_at hl 3 rfl) ?_
  obtain ⟨r_13, mi_14, vnw_15, hc_16, hm⟩ := bo3_s hm
  refine my_callR1 (wc := (wModel Γ q_mo q_tt q_nw q_tr q_ot q_di q_kp q_ik q_wy q_ah q_tg q_ws q_fr q_rw mi vtt vnw vtr vot vdi vkp vik vwy vah vtg vws vfr vrw)) (w1 := (wModel Γ q_mo q_tt q_nw q_tr q_ot q_di q_kp q_ik q_wy q_ah q_tg q_ws q_fr q_rw mi_14 vtt vnw_15 vtr vot vdi vkp vik vwy vah vtg vws vfr vrw)) (wa1 := (wBF Γ q_bf q_tx q_fl q_flT q_hi q_s1 q_s2 q_fd q_kc q_kr  ++ wFloor Γ q_fl q_k q_c q_a q_pa q_b q_pb vi_2 vj_3 vk_4 vc_5 va_6 vpa_7 vb_8 vpb_9 ++ wHist Γ q_hi q_hs vh_10 vhs ++ wFloor Γ q_fl2 q_k2 q_c2 q_a2 q_pa2 q_b2 q_pb2 vi2 vj2 vk2 vc2 va2 vpa2 vb2 vpb2 ++ wOut Γ q_ou vou_11 ++ wModel Γ q_mo q_tt q_nw q_tr q_ot q_di q_kp q_ik q_wy q_ah q_tg q_ws q_fr q_rw mi_14 vtt vnw_15 vtr vot vdi vkp vik vwy vah vtg vws vfr vrw)) hP hD hS hA [18, 19, 20, 21, 22, 23, 24, 25, 26, 27, 28, 29, 30, 31] rfl rfl rfl rfl (va_runV (As := []) (rest := []) ⟨hx, hb, hml, hown, hts⟩ (kX9_undo l Γ q_mo q_tt q_nw q_tr q_ot q_di q_kp q_ik q_wy q_ah q_tg q_ws q_fr q_rw mi vtt vnw vtr vot vdi vkp vik vwy vah vtg vws vfr vrw r_13 mi_14 vnw_15 hc_16 _) (cwV 0 hts gL_law_X9_undo rfl rfl rfl (by decide +kernel) ⟨Nat.le_of_ble_eq_true rfl, Nat.le_of_ble_eq_true rfl⟩) (my_preV (wc := (wModel Γ q_mo q_tt q_nw q_tr q_ot q_di q_kp q_ik q_wy q_ah q_tg q_ws q_fr q_rw mi vtt vnw vtr vot vdi vkp vik vwy vah vtg vws vfr vrw)) (ci := 7) (q0 := 18) [18, 19, 20, 21, 22, 23, 24, 25, 26, 27, 28, 29, 30, 31] hK hP hD rfl rfl rfl rfl) rfl rfl hl.1 rfl (lv_room (Nat.le_of_ble_eq_true rfl)) dL_law_1725 ⟨hn, hk⟩) (fun H locs hP hD hS => ?_)
  refine lv_istore (lv' := [(6, .int r_13), (5, .int r_1), (0, .ref b), (1, .ref q_bf), (2, .ref q_mo), (3, .ref q_ou), (4, .int i)]) hx hb dL_law_1728 hl (by decide) rfl (fun ls hl => ?_)
  refine lv_aload_n hx hb dL_law_1730 rfl (lv_at hl 4 rfl) ?_
  refine my_callR1 (wc := (wMo Γ q_mo q_tt q_nw q_tr q_ot q_di q_kp q_ik q_wy q_ah q_tg q_ws q_fr q_rw mi_14)) (w1 := (wMo Γ q_mo q_tt q_nw q_tr q_ot q_di q_kp q_ik q_wy q_ah q_tg q_ws q_fr q_rw mi_14)) (wa1 := (wBF Γ q_bf q_tx q_fl q_flT q_hi q_s1 q_s2 q_fd q_kc q_kr  ++ wFloor Γ q_fl q_k q_c q_a q_pa q_b q_pb vi_2 vj_3 vk_4 vc_5 va_6 vpa_7 vb_8 vpb_9 ++ wHist Γ q_hi q_hs vh_10 vhs ++ wFloor Γ q_fl2 q_k2 q_c2 q_a2 q_pa2 q_b2 q_pb2 vi2 vj2 vk2 vc2 va2 vpa2 vb2 vpb2 ++ wOut Γ q_ou vou_11 ++ wModel Γ q_mo q_tt q_nw q_tr q_ot q_di q_kp q_ik q_wy q_ah q_tg q_ws q_fr q_rw mi_14 vtt vnw_15 vtr vot vdi vkp vik vwy vah vtg vws vfr vrw)) hP hD hS hA [18] rfl rfl rfl rfl (va_runV (As := []) (rest := []) ⟨hx, hb, hml, hown, hts⟩ (kX9_thrown l Γ q_mo q_tt q_nw q_tr q_ot q_di q_kp q_ik q_wy q_ah q_tg q_ws q_fr q_rw mi_14 (mX9_thrown mi_14) rfl _) (cwV 0 hts gL_law_X9_thrown rfl rfl rfl (by decide +kernel) ⟨Nat.le_of_ble_eq_true rfl, Nat.le_of_ble_eq_true rfl⟩) (my_preV (wc := (wMo Γ q_mo q_tt q_nw q_tr q_ot q_di q_kp q_ik q_wy q_ah q_tg q_ws q_fr q_rw mi_14)) (ci := 7) (q0 := 18) [18] hK hP hD rfl rfl rfl rfl) rfl rfl hl.1 rfl (lv_room (Nat.le_of_ble_eq_true rfl)) dL_law_1731 ⟨hn, hk⟩) (fun H locs hP hD hS => ?_)
  refine lv_iload hx hb dL_law_1734 (lv_at hl 1 rfl) ?_
  refine lv_icmp_eq (tgt := 1741) hx hb dL_law_1736 (by decide) (fun c_17 => ?_) (fun c_17 => ?_)
  · replace hm := if_s hm c_17
    refine lv_iload hx hb dL_law_1741 (lv_at hl 1 rfl) ?_
    refine lv_if_ne (tgt := 1758) hx hb dL_law_1743 (by decide) (fun c_18 => ?_) (fun c_18 => ?_)
    · replace hm := if_f hm c_18
      refine lv_goto (tgt := 2260) hx hb dL_law_1758 (by decide) ?_
      obtain ⟨hf0, hf1, hf2, hf3, hf4, hf5, hf6, hf7, hf8, hf9, hf10, hf11⟩ := si12 hm
      subst hf0
      subst hf1
      subst hf2
      subst hf3
      subst hf4
      subst hf5
      subst hf6
      subst hf7
      subst hf8
      subst hf9
      subst hf10
      subst hf11
      exact kk _ _ _ hP hD hS (lv_sub hl [2, 3, 4, 5, 6] rfl)
    · replace hm := if_s hm c_18
      refine lv_aload_n hx hb dL_law_1746 rfl (lv_at hl 5 rfl) ?_
      refine lv_iconst (v := (0 : Int32)) hx hb dL_law_1747 (by decide) ?_
      refine va_lald hx hb hK hP 17 1 rfl rfl (show vp_in (0 : Int32) 1 from (by decide : ¬ ((0 : Int32) < 0 ∨ 1 ≤ (0 : Int32).toNatClampNeg))) dL_law_1748 ?_
      refine lv_iload hx hb dL_law_1749 (lv_at hl 0 rfl) ?_
      refine lv_i2l (v := r_13.toInt64) hx hb dL_law_1751 rfl ?_
      refine W.lcmp hx hb dL_law_1752 ?_
      refine lv_if_eq (tgt := 1758) hx hb dL_law_1753 (by decide) (fun c_19 => ?_) (fun c_19 => ?_)
      · replace hm := if_s hm c_19
        refine lv_goto (tgt := 2260) hx hb dL_law_1758 (by decide) ?_
        obtain ⟨hf0, hf1, hf2, hf3, hf4, hf5, hf6, hf7, hf8, hf9, hf10, hf11⟩ := si12 hm
        subst hf0
        subst hf1
        subst hf2
        subst hf3
        subst hf4
        subst hf5
        subst hf6
        subst hf7
        subst hf8
        subst hf9
        subst hf10
        subst hf11
        exact kk _ _ _ hP hD hS (lv_sub hl [2, 3, 4, 5, 6] rfl)
      · replace hm := if_f hm c_19
        refine lv_iconst (v := (0 : Int32)) hx hb dL_law_1756 (by decide) ?_
        cases hm
  · replace hm := if_f hm c_17
    refine lv_iconst (v := (0 : Int32)) hx hb dL_law_1739 (by decide) ?_
    cases hm
def mLaw_rowAhead (vj : Nat → Int64) (vk : Nat → Int32) (va : Nat → Int32) (vb : Nat → Int32) (vou : Nat → Int64) (mi : Nat → Int32) (vnw : Nat → Int32) (xs : Nat → Int32) (i : Int32) : Option ((Nat → Int64) × (Nat → Int32)) := (bo2 (mL_rowAhead vj vk va vb vou (xs (i + (1 : Int32)).toNatClampNeg)) (fun r_1 vou_2 => (bo2 (mX9_rowAhead mi vnw (xs (i + (1 : Int32)).toNatClampNeg)) (fun r_4 mi_5 => (if (mX9_thrown mi_5) = r_1 then (if r_1 = 0 then (if (lg_cmp (vou_2 (0 : Int32).toNatClampNeg) (r_4.toInt64)) = 0 then (some (vou_2, mi_5)) else none) else (some (vou_2, mi_5))) else none)))))
set_option maxHeartbeats 4000000 in
set_option maxRecDepth 100000 in
theorem kLaw_rowAhead (l : Launch) (Γ : my_G) (hfl : l.stackTraces = false) {p : Program} {e : Env} {s : State} {m : MethodId} {below : List Frame} {meth : Method} {c : Code} {b L : Nat} {xs : Nat → Int32} {Q : State → Prop} (hx : p.tables.exec = Jvm.exec) (hb : c.code = cL_law) (hml : c.maxLocals = 7) (hown : s.vm.findClass RL = some m.cls) (hts : ∀ w ∈ wsL_law, w.before #[Value.ref b] s = true) (hX : va_X b L xs s s.heap) (hbl : b < s.heap.size) (hK : my_K Γ s) (hZ : my_ZZ (fun q : Nat => s.heap.size ≤ q) s s.heap) (hstr : my_str s) (hnc : my_nc s) (q_bf q_fl q_k q_c q_a q_pa q_b q_pb q_ou q_mo q_tt q_nw q_tr q_ot q_di q_kp q_ik q_wy q_ah q_tg q_ws q_fr q_rw q_tx q_flT q_hi q_s1 q_s2 q_fd q_kc q_kr : Nat) (vi : Nat → Int32) (vj : Nat → Int64) (vk : Nat → Int32) (vc : Nat → Int32) (va : Nat → Int32) (vpa : Nat → Int32) (vb : Nat → Int32) (vpb : Nat → Int32) (vou : Nat → Int64) (mi : Nat → Int32) (vtt : Nat → Int32) (vnw : Nat → Int32) (vtr : Nat → Int32) (vot : Nat → Int32) (vdi : Nat → Int32) (vkp : Nat → Int32) (vik : Nat → Int32) (vwy : Nat → Int32) (vah : Nat → Int32) (vtg : Nat → Int32) (vws : Nat → Int32) (vfr : Nat → Int32) (vrw : Nat → Int32) (i : Int32) (hi1 : vp_in (i + (1 : Int32)) L) (hi2 : vp_in (i + (2 : Int32)) L) (hi3 : vp_in (i + (3 : Int32)) L) (vou_z : Nat → Int64) (mi_z : Nat → Int32) (hm : mLaw_rowAhead vj vk va vb vou mi vnw xs i = (some (vou_z, mi_z))) (R_ : va_W) (nc ns : Nat) (hn : nc + 3 ≤ room_1.cells) (hk : ns + 18 ≤ room_1.slots) (H : Heap) (locs : List Loc) (ls : Array Slot) (hP : va_P (my_D Γ) vwCl ((wBF Γ q_bf q_tx q_fl q_flT q_hi q_s1 q_s2 q_fd q_kc q_kr  ++ wFloor Γ q_fl q_k q_c q_a q_pa q_b q_pb vi vj vk vc va vpa vb vpb ++ wOut Γ q_ou vou ++ wModel Γ q_mo q_tt q_nw q_tr q_ot q_di q_kp q_ik q_wy q_ah q_tg q_ws q_fr q_rw mi vtt vnw vtr vot vdi vkp vik vwy vah vtg vws vfr vrw) ++ R_) H) (hD : va_D (fun q : Nat => s.heap.size ≤ q) ((wBF Γ q_bf q_tx q_fl q_flT q_hi q_s1 q_s2 q_fd q_kc q_kr  ++ wFloor Γ q_fl q_k q_c q_a q_pa q_b q_pb vi vj vk vc va vpa vb vpb ++ wOut Γ q_ou vou ++ wModel Γ q_mo q_tt q_nw q_tr q_ot q_di q_kp q_ik q_wy q_ah q_tg q_ws q_fr q_rw mi vtt vnw vtr vot vdi vkp vik vwy vah vtg vws vfr vrw) ++ R_)) (hS : va_S (fun q : Nat => s.heap.size ≤ q) s.heap H locs) (hl : lv_has ls 7 [(0, .ref b), (1, .ref q_bf), (2, .ref q_mo), (3, .ref q_ou), (4, .int i)]) (kk : ∀ (H : Heap) (locs : List Loc) (ls : Array Slot), va_P (my_D Γ) vwCl ((wBF Γ q_bf q_tx q_fl q_flT q_hi q_s1 q_s2 q_fd q_kc q_kr  ++ wFloor Γ q_fl q_k q_c q_a q_pa q_b q_pb vi vj vk vc va vpa vb vpb ++ wOut Γ q_ou vou_z ++ wModel Γ q_mo q_tt q_nw q_tr q_ot q_di q_kp q_ik q_wy q_ah q_tg q_ws q_fr q_rw mi_z vtt vnw vtr vot vdi vkp vik vwy vah vtg vws vfr vrw) ++ R_) H → va_D (fun q : Nat => s.heap.size ≤ q) ((wBF Γ q_bf q_tx q_fl q_flT q_hi q_s1 q_s2 q_fd q_kc q_kr  ++ wFloor Γ q_fl q_k q_c q_a q_pa q_b q_pb vi vj vk vc va vpa vb vpb ++ wOut Γ q_ou vou_z ++ wModel Γ q_mo q_tt q_nw q_tr q_ot q_di q_kp q_ik q_wy q_ah q_tg q_ws q_fr q_rw mi_z vtt vnw vtr vot vdi vkp vik vwy vah vtg vws vfr vrw) ++ R_) → va_S (fun q : Nat => s.heap.size ≤ q) s.heap H locs → lv_has ls 7 [(0, .ref b), (1, .ref q_bf), (2, .ref q_mo), (3, .ref q_ou), (4, .int i)] → W p l e room_1 s m #[Value.ref b] below meth c H locs (nc + 3) (ns + 18) Q (F0 m 2260 ls [])) : W p l e room_1 s m #[Value.ref b] below meth c H locs nc ns Q (F0 m 1761 ls []) := by
  have hA : ∀ q : Nat, s.heap.size ≤ q → (fun q : Nat => s.heap.size ≤ q) q := fun _ h => h
  have hbA : ¬ (fun q : Nat => s.heap.size ≤ q) b := Nat.not_le.mpr hbl
  unfold mLaw_rowAhead at hm
  refine lv_aload_n hx hb dL_law_1761 rfl (lv_at hl 1 rfl) ?_
  refine lv_aload_n hx hb dL_law_1762 rfl (lv_at hl 0 rfl) ?_
  refine lv_iload hx hb dL_law_1763 (lv_at hl 4 rfl) ?_
  refine lv_iconst (v := (1 : Int32)) hx hb dL_law_1765 (by decide) ?_
  refine lv_iadd hx hb dL_law_1766 ?_
  refine va_sld hx hb hX hbl hbA hS hi1 dL_law_1767 ?_
  refine lv_aload_n hx hb dL_law_1768 rfl (lv_at hl 3 rfl) ?_
  obtain ⟨r_1, vou_2, hc_3, hm⟩ := bo2_s hm
  refine my_callRW1 (wc := (wBF Γ q_bf q_tx q_fl q_flT q_hi q_s1 q_s2 q_fd q_kc q_kr  ++ wFloor Γ q_fl q_k q_c q_a q_pa q_b q_pb vi vj vk vc va vpa vb vpb ++ wOut Γ q_ou vou)) (w1 := (wBF Γ q_bf q_tx q_fl q_flT q_hi q_s1 q_s2 q_fd q_kc q_kr  ++ wFloor Γ q_fl q_k q_c q_a q_pa q_b q_pb vi vj vk vc va vpa vb vpb ++ wOut Γ q_ou vou_2)) (wa1 := (wBF Γ q_bf q_tx q_fl q_flT q_hi q_s1 q_s2 q_fd q_kc q_kr  ++ wFloor Γ q_fl q_k q_c q_a q_pa q_b q_pb vi vj vk vc va vpa vb vpb ++ wOut Γ q_ou vou_2 ++ wModel Γ q_mo q_tt q_nw q_tr q_ot q_di q_kp q_ik q_wy q_ah q_tg q_ws q_fr q_rw mi vtt vnw vtr vot vdi vkp vik vwy vah vtg vws vfr vrw)) hP hD hS hA [0, 1, 2, 3, 4, 5, 6, 7, 8] rfl rfl rfl rfl (vx_runSW (As := [.ref q_bf, .int (xs (i + (1 : Int32)).toNatClampNeg), .ref q_ou]) (rest := []) ⟨hx, hb, hml, hown, hts⟩ (kL_rowAhead l Γ hfl q_bf q_fl q_k q_c q_a q_pa q_b q_pb q_ou q_tx q_flT q_hi q_s1 q_s2 q_fd q_kc q_kr vi vj vk vc va vpa vb vpb vou (xs (i + (1 : Int32)).toNatClampNeg) r_1 vou_2 hc_3 _) (vx_cwSW 3 hts gL_law_L_rowAhead rfl rfl rfl (by decide +kernel) ⟨Nat.le_of_ble_eq_true rfl, Nat.le_of_ble_eq_true rfl⟩) (my_preSW (wc := (wBF Γ q_bf q_tx q_fl q_flT q_hi q_s1 q_s2 q_fd q_kc q_kr  ++ wFloor Γ q_fl q_k q_c q_a q_pa q_b q_pb vi vj vk vc va vpa vb vpb ++ wOut Γ q_ou vou)) [0, 1, 2, 3, 4, 5, 6, 7, 8] hK hP hD hS hA hZ hstr hnc rfl rfl) rfl rfl hl.1 rfl (lv_room (Nat.le_of_ble_eq_true rfl)) dL_law_1769 ⟨Nat.le_trans (Nat.add_le_add_left (Nat.le_of_ble_eq_true rfl) nc) hn, Nat.le_trans (Nat.add_le_add_left (Nat.le_of_ble_eq_true rfl) ns) hk⟩) (fun H locs hP hD hS => ?_)
  refine W.widen (k := nc + 3) (n := ns + 18) (Nat.add_le_add_left (Nat.le_of_ble_eq_true rfl) nc) (Nat.add_le_add_left (Nat.le_of_ble_eq_true rfl) ns) ?_
  refine lv_istore (lv' := [(5, .int r_1), (0, .ref b), (1, .ref q_bf), (2, .ref q_mo), (3, .ref q_ou), (4, .int i)]) hx hb dL_law_1772 hl (by decide) rfl (fun ls hl => ?_)
  refine lv_aload_n hx hb dL_law_1774 rfl (lv_at hl 3 rfl) ?_
  refine lv_aload_n hx hb dL_law_1775 rfl (lv_at hl 1 rfl) ?_
  refine lv_iload hx hb dL_law_1776 (lv_at hl 5 rfl) ?_
  refine lv_iconst (v := (1 : Int32)) hx hb dL_law_1778 (by decide) ?_
  refine lv_iadd hx hb dL_law_1779 ?_
  refine va_sld hx hb hX hbl hbA hS hi1 dL_law_1780 ?_
  obtain ⟨r_4, mi_5, hc_6, hm⟩ := bo2_s hm
  refine my_callR1 (wc := (wModel Γ q_mo q_tt q_nw q_tr q_ot q_di q_kp q_ik q_wy q_ah q_tg q_ws q_fr q_rw mi vtt vnw vtr vot vdi vkp vik vwy vah vtg vws vfr vrw)) (w1 := (wModel Γ q_mo q_tt q_nw q_tr q_ot q_di q_kp q_ik q_wy q_ah q_tg q_ws q_fr q_rw mi_5 vtt vnw vtr vot vdi vkp vik vwy vah vtg vws vfr vrw)) (wa1 := (wBF Γ q_bf q_tx q_fl q_flT q_hi q_s1 q_s2 q_fd q_kc q_kr  ++ wFloor Γ q_fl q_k q_c q_a q_pa q_b q_pb vi vj vk vc va vpa vb vpb ++ wOut Γ q_ou vou_2 ++ wModel Γ q_mo q_tt q_nw q_tr q_ot q_di q_kp q_ik q_wy q_ah q_tg q_ws q_fr q_rw mi_5 vtt vnw vtr vot vdi vkp vik vwy vah vtg vws vfr vrw)) hP hD hS hA [9, 10, 11, 12, 13, 14, 15, 16, 17, 18, 19, 20, 21, 22] rfl rfl rfl rfl (va_runV (As := [.int (xs (i + (1 : Int32)).toNatClampNeg)]) (rest := []) ⟨hx, hb, hml, hown, hts⟩ (kX9_rowAhead l Γ q_mo q_tt q_nw q_tr q_ot q_di q_kp q_ik q_wy q_ah q_tg q_ws q_fr q_rw mi vtt vnw vtr vot vdi vkp vik vwy vah vtg vws vfr vrw (xs (i + (1 : Int32)).toNatClampNeg) r_4 mi_5 hc_6 _) (cwV 1 hts gL_law_X9_rowAhead rfl rfl rfl (by decide +kernel) ⟨Nat.le_of_ble_eq_true rfl, Nat.le_of_ble_eq_true rfl⟩) (my_preV (wc := (wModel Γ q_mo q_tt q_nw q_tr q_ot q_di q_kp q_ik q_wy q_ah q_tg q_ws q_fr q_rw mi vtt vnw vtr vot vdi vkp vik vwy vah vtg vws vfr vrw)) (ci := 7) (q0 := 9) [9, 10, 11, 12, 13, 14, 15, 16, 17, 18, 19, 20, 21, 22] hK hP hD rfl rfl rfl rfl) rfl rfl hl.1 rfl (lv_room (Nat.le_of_ble_eq_true rfl)) dL_law_1781 ⟨hn, hk⟩) (fun H locs hP hD hS => ?_)
  refine lv_istore (lv' := [(6, .int r_4), (5, .int r_1), (0, .ref b), (1, .ref q_bf), (2, .ref q_mo), (3, .ref q_ou), (4, .int i)]) hx hb dL_law_1784 hl (by decide) rfl (fun ls hl => ?_)
  refine lv_aload_n hx hb dL_law_1786 rfl (lv_at hl 4 rfl) ?_
  refine my_callR1 (wc := (wMo Γ q_mo q_tt q_nw q_tr q_ot q_di q_kp q_ik q_wy q_ah q_tg q_ws q_fr q_rw mi_5)) (w1 := (wMo Γ q_mo q_tt q_nw q_tr q_ot q_di q_kp q_ik q_wy q_ah q_tg q_ws q_fr q_rw mi_5)) (wa1 := (wBF Γ q_bf q_tx q_fl q_flT q_hi q_s1 q_s2 q_fd q_kc q_kr  ++ wFloor Γ q_fl q_k q_c q_a q_pa q_b q_pb vi vj vk vc va vpa vb vpb ++ wOut Γ q_ou vou_2 ++ wModel Γ q_mo q_tt q_nw q_tr q_ot q_di q_kp q_ik q_wy q_ah q_tg q_ws q_fr q_rw mi_5 vtt vnw vtr vot vdi vkp vik vwy vah vtg vws vfr vrw)) hP hD hS hA [9] rfl rfl rfl rfl (va_runV (As := []) (rest := []) ⟨hx, hb, hml, hown, hts⟩ (kX9_thrown l Γ q_mo q_tt q_nw q_tr q_ot q_di q_kp q_ik q_wy q_ah q_tg q_ws q_fr q_rw mi_5 (mX9_thrown mi_5) rfl _) (cwV 0 hts gL_law_X9_thrown rfl rfl rfl (by decide +kernel) ⟨Nat.le_of_ble_eq_true rfl, Nat.le_of_ble_eq_true rfl⟩) (my_preV (wc := (wMo Γ q_mo q_tt q_nw q_tr q_ot q_di q_kp q_ik q_wy q_ah q_tg q_ws q_fr q_rw mi_5)) (ci := 7) (q0 := 9) [9] hK hP hD rfl rfl rfl rfl) rfl rfl hl.1 rfl (lv_room (Nat.le_of_ble_eq_true rfl)) dL_law_1787 ⟨hn, hk⟩) (fun H locs hP hD hS => ?_)
  refine lv_iload hx hb dL_law_1790 (lv_at hl 1 rfl) ?_
  refine lv_icmp_eq (tgt := 1797) hx hb dL_law_1792 (by decide) (fun c_7 => ?_) (fun c_7 => ?_)
  · replace hm := if_s hm c_7
    refine lv_iload hx hb dL_law_1797 (lv_at hl 1 rfl) ?_
    refine lv_if_ne (tgt := 1814) hx hb dL_law_1799 (by decide) (fun c_8 => ?_) (fun c_8 => ?_)
    · replace hm := if_f hm c_8
      refine lv_goto (tgt := 2260) hx hb dL_law_1814 (by decide) ?_
      obtain ⟨hf0, hf1⟩ := si2 hm
      subst hf0
      subst hf1
      exact kk _ _ _ hP hD hS (lv_sub hl [2, 3, 4, 5, 6] rfl)
    · replace hm := if_s hm c_8
      refine lv_aload_n hx hb dL_law_1802 rfl (lv_at hl 5 rfl) ?_
      refine lv_iconst (v := (0 : Int32)) hx hb dL_law_1803 (by decide) ?_
      refine va_lald hx hb hK hP 8 1 rfl rfl (show vp_in (0 : Int32) 1 from (by decide : ¬ ((0 : Int32) < 0 ∨ 1 ≤ (0 : Int32).toNatClampNeg))) dL_law_1804 ?_
      refine lv_iload hx hb dL_law_1805 (lv_at hl 0 rfl) ?_
      refine lv_i2l (v := r_4.toInt64) hx hb dL_law_1807 rfl ?_
      refine W.lcmp hx hb dL_law_1808 ?_
      refine lv_if_eq (tgt := 1814) hx hb dL_law_1809 (by decide) (fun c_9 => ?_) (fun c_9 => ?_)
      · replace hm := if_s hm c_9
        refine lv_goto (tgt := 2260) hx hb dL_law_1814 (by decide) ?_
        obtain ⟨hf0, hf1⟩ := si2 hm
        subst hf0
        subst hf1
        exact kk _ _ _ hP hD hS (lv_sub hl [2, 3, 4, 5, 6] rfl)
      · replace hm := if_f hm c_9
        refine lv_iconst (v := (0 : Int32)) hx hb dL_law_1812 (by decide) ?_
        cases hm
  · replace hm := if_f hm c_7
    refine lv_iconst (v := (0 : Int32)) hx hb dL_law_1795 (by decide) ?_
    cases hm
def mLaw_wouldClash (vj : Nat → Int64) (vk : Nat → Int32) (va : Nat → Int32) (vpa : Nat → Int32) (vb : Nat → Int32) (vpb : Nat → Int32) (mi : Nat → Int32) (vnw : Nat → Int32) (vwy : Nat → Int32) (vah : Nat → Int32) (xs : Nat → Int32) (i : Int32) : Option ((Nat → Int32) × (Nat → Int32) × (Nat → Int32)) := (bo1 (mX8_wouldClash vj vk va vpa vb vpb) (fun r_1 => (bo4 (mX9_wouldClash mi vnw vwy vah) (fun r_3 mi_4 vwy_5 vah_6 => (if r_1 = r_3 then (some (mi_4, vwy_5, vah_6)) else none)))))
set_option maxHeartbeats 4000000 in
set_option maxRecDepth 100000 in
theorem kLaw_wouldClash (l : Launch) (Γ : my_G) (hfl : l.stackTraces = false) {p : Program} {e : Env} {s : State} {m : MethodId} {below : List Frame} {meth : Method} {c : Code} {b L : Nat} {xs : Nat → Int32} {Q : State → Prop} (hx : p.tables.exec = Jvm.exec) (hb : c.code = cL_law) (hml : c.maxLocals = 7) (hown : s.vm.findClass RL = some m.cls) (hts : ∀ w ∈ wsL_law, w.before #[Value.ref b] s = true) (hX : va_X b L xs s s.heap) (hbl : b < s.heap.size) (hK : my_K Γ s) (hZ : my_ZZ (fun q : Nat => s.heap.size ≤ q) s s.heap) (hstr : my_str s) (hnc : my_nc s) (q_bf q_fl q_k q_c q_a q_pa q_b q_pb q_ou q_mo q_tt q_nw q_tr q_ot q_di q_kp q_ik q_wy q_ah q_tg q_ws q_fr q_rw q_tx q_flT q_hi q_s1 q_s2 q_fd q_kc q_kr : Nat) (vi : Nat → Int32) (vj : Nat → Int64) (vk : Nat → Int32) (vc : Nat → Int32) (va : Nat → Int32) (vpa : Nat → Int32) (vb : Nat → Int32) (vpb : Nat → Int32) (vou : Nat → Int64) (mi : Nat → Int32) (vtt : Nat → Int32) (vnw : Nat → Int32) (vtr : Nat → Int32) (vot : Nat → Int32) (vdi : Nat → Int32) (vkp : Nat → Int32) (vik : Nat → Int32) (vwy : Nat → Int32) (vah : Nat → Int32) (vtg : Nat → Int32) (vws : Nat → Int32) (vfr : Nat → Int32) (vrw : Nat → Int32) (i : Int32) (hi1 : vp_in (i + (1 : Int32)) L) (hi2 : vp_in (i + (2 : Int32)) L) (hi3 : vp_in (i + (3 : Int32)) L) (mi_z : Nat → Int32) (vwy_z : Nat → Int32) (vah_z : Nat → Int32) (hm : mLaw_wouldClash vj vk va vpa vb vpb mi vnw vwy vah xs i = (some (mi_z, vwy_z, vah_z))) (R_ : va_W) (nc ns : Nat) (hn : nc + 3 ≤ room_1.cells) (hk : ns + 18 ≤ room_1.slots) (H : Heap) (locs : List Loc) (ls : Array Slot) (hP : va_P (my_D Γ) vwCl ((wBF Γ q_bf q_tx q_fl q_flT q_hi q_s1 q_s2 q_fd q_kc q_kr  ++ wFloor Γ q_fl q_k q_c q_a q_pa q_b q_pb vi vj vk vc va vpa vb vpb ++ wOut Γ q_ou vou ++ wModel Γ q_mo q_tt q_nw q_tr q_ot q_di q_kp q_ik q_wy q_ah q_tg q_ws q_fr q_rw mi vtt vnw vtr vot vdi vkp vik vwy vah vtg vws vfr vrw) ++ R_) H) (hD : va_D (fun q : Nat => s.heap.size ≤ q) ((wBF Γ q_bf q_tx q_fl q_flT q_hi q_s1 q_s2 q_fd q_kc q_kr  ++ wFloor Γ q_fl q_k q_c q_a q_pa q_b q_pb vi vj vk vc va vpa vb vpb ++ wOut Γ q_ou vou ++ wModel Γ q_mo q_tt q_nw q_tr q_ot q_di q_kp q_ik q_wy q_ah q_tg q_ws q_fr q_rw mi vtt vnw vtr vot vdi vkp vik vwy vah vtg vws vfr vrw) ++ R_)) (hS : va_S (fun q : Nat => s.heap.size ≤ q) s.heap H locs) (hl : lv_has ls 7 [(0, .ref b), (1, .ref q_bf), (2, .ref q_mo), (3, .ref q_ou), (4, .int i)]) (kk : ∀ (H : Heap) (locs : List Loc) (ls : Array Slot), va_P (my_D Γ) vwCl ((wBF Γ q_bf q_tx q_fl q_flT q_hi q_s1 q_s2 q_fd q_kc q_kr  ++ wFloor Γ q_fl q_k q_c q_a q_pa q_b q_pb vi vj vk vc va vpa vb vpb ++ wOut Γ q_ou vou ++ wModel Γ q_mo q_tt q_nw q_tr q_ot q_di q_kp q_ik q_wy q_ah q_tg q_ws q_fr q_rw mi_z vtt vnw vtr vot vdi vkp vik vwy_z vah_z vtg vws vfr vrw) ++ R_) H → va_D (fun q : Nat => s.heap.size ≤ q) ((wBF Γ q_bf q_tx q_fl q_flT q_hi q_s1 q_s2 q_fd q_kc q_kr  ++ wFloor Γ q_fl q_k q_c q_a q_pa q_b q_pb vi vj vk vc va vpa vb vpb ++ wOut Γ q_ou vou ++ wModel Γ q_mo q_tt q_nw q_tr q_ot q_di q_kp q_ik q_wy q_ah q_tg q_ws q_fr q_rw mi_z vtt vnw vtr vot vdi vkp vik vwy_z vah_z vtg vws vfr vrw) ++ R_) → va_S (fun q : Nat => s.heap.size ≤ q) s.heap H locs → lv_has ls 7 [(0, .ref b), (1, .ref q_bf), (2, .ref q_mo), (3, .ref q_ou), (4, .int i)] → W p l e room_1 s m #[Value.ref b] below meth c H locs (nc + 3) (ns + 18) Q (F0 m 2260 ls [])) : W p l e room_1 s m #[Value.ref b] below meth c H locs nc ns Q (F0 m 1817 ls []) := by
  have hA : ∀ q : Nat, s.heap.size ≤ q → (fun q : Nat => s.heap.size ≤ q) q := fun _ h => h
  have hbA : ¬ (fun q : Nat => s.heap.size ≤ q) b := Nat.not_le.mpr hbl
  unfold mLaw_wouldClash at hm
  refine W.widen (k := nc + 3) (n := ns + 18) (Nat.le_add_right nc 3) (Nat.le_add_right ns 18) ?_
  refine lv_aload_n hx hb dL_law_1817 rfl (lv_at hl 1 rfl) ?_
  obtain ⟨r_1, hc_2, hm⟩ := bo1_s hm
  refine my_callR1 (wc := (wBF Γ q_bf q_tx q_fl q_flT q_hi q_s1 q_s2 q_fd q_kc q_kr  ++ wFloor Γ q_fl q_k q_c q_a q_pa q_b q_pb vi vj vk vc va vpa vb vpb)) (w1 := (wBF Γ q_bf q_tx q_fl q_flT q_hi q_s1 q_s2 q_fd q_kc q_kr  ++ wFloor Γ q_fl q_k q_c q_a q_pa q_b q_pb vi vj vk vc va vpa vb vpb)) (wa1 := (wBF Γ q_bf q_tx q_fl q_flT q_hi q_s1 q_s2 q_fd q_kc q_kr  ++ wFloor Γ q_fl q_k q_c q_a q_pa q_b q_pb vi vj vk vc va vpa vb vpb ++ wOut Γ q_ou vou ++ wModel Γ q_mo q_tt q_nw q_tr q_ot q_di q_kp q_ik q_wy q_ah q_tg q_ws q_fr q_rw mi vtt vnw vtr vot vdi vkp vik vwy vah vtg vws vfr vrw)) hP hD hS hA [0, 1, 2, 3, 4, 5, 6, 7] rfl rfl rfl rfl (va_runV (As := []) (rest := []) ⟨hx, hb, hml, hown, hts⟩ (kX8_wouldClash l Γ q_bf q_fl q_k q_c q_a q_pa q_b q_pb q_tx q_flT q_hi q_s1 q_s2 q_fd q_kc q_kr vi vj vk vc va vpa vb vpb r_1 hc_2 _) (cwV 0 hts gL_law_X8_wouldClash rfl rfl rfl (by decide +kernel) ⟨Nat.le_of_ble_eq_true rfl, Nat.le_of_ble_eq_true rfl⟩) (my_preV (wc := (wBF Γ q_bf q_tx q_fl q_flT q_hi q_s1 q_s2 q_fd q_kc q_kr  ++ wFloor Γ q_fl q_k q_c q_a q_pa q_b q_pb vi vj vk vc va vpa vb vpb)) (ci := 6) (q0 := 0) [0, 1, 2, 3, 4, 5, 6, 7] hK hP hD rfl rfl rfl rfl) rfl rfl hl.1 rfl (lv_room (Nat.le_of_ble_eq_true rfl)) dL_law_1818 ⟨hn, hk⟩) (fun H locs hP hD hS => ?_)
  refine lv_aload_n hx hb dL_law_1821 rfl (lv_at hl 2 rfl) ?_
  obtain ⟨r_3, mi_4, vwy_5, vah_6, hc_7, hm⟩ := bo4_s hm
  refine my_callR1 (wc := (wModel Γ q_mo q_tt q_nw q_tr q_ot q_di q_kp q_ik q_wy q_ah q_tg q_ws q_fr q_rw mi vtt vnw vtr vot vdi vkp vik vwy vah vtg vws vfr vrw)) (w1 := (wModel Γ q_mo q_tt q_nw q_tr q_ot q_di q_kp q_ik q_wy q_ah q_tg q_ws q_fr q_rw mi_4 vtt vnw vtr vot vdi vkp vik vwy_5 vah_6 vtg vws vfr vrw)) (wa1 := (wBF Γ q_bf q_tx q_fl q_flT q_hi q_s1 q_s2 q_fd q_kc q_kr  ++ wFloor Γ q_fl q_k q_c q_a q_pa q_b q_pb vi vj vk vc va vpa vb vpb ++ wOut Γ q_ou vou ++ wModel Γ q_mo q_tt q_nw q_tr q_ot q_di q_kp q_ik q_wy q_ah q_tg q_ws q_fr q_rw mi_4 vtt vnw vtr vot vdi vkp vik vwy_5 vah_6 vtg vws vfr vrw)) hP hD hS hA [9, 10, 11, 12, 13, 14, 15, 16, 17, 18, 19, 20, 21, 22] rfl rfl rfl rfl (va_runV (As := []) (rest := [.int r_1]) ⟨hx, hb, hml, hown, hts⟩ (kX9_wouldClash l Γ q_mo q_tt q_nw q_tr q_ot q_di q_kp q_ik q_wy q_ah q_tg q_ws q_fr q_rw mi vtt vnw vtr vot vdi vkp vik vwy vah vtg vws vfr vrw r_3 mi_4 vwy_5 vah_6 hc_7 _) (cwV 0 hts gL_law_X9_wouldClash rfl rfl rfl (by decide +kernel) ⟨Nat.le_of_ble_eq_true rfl, Nat.le_of_ble_eq_true rfl⟩) (my_preV (wc := (wModel Γ q_mo q_tt q_nw q_tr q_ot q_di q_kp q_ik q_wy q_ah q_tg q_ws q_fr q_rw mi vtt vnw vtr vot vdi vkp vik vwy vah vtg vws vfr vrw)) (ci := 7) (q0 := 9) [9, 10, 11, 12, 13, 14, 15, 16, 17, 18, 19, 20, 21, 22] hK hP hD rfl rfl rfl rfl) rfl rfl hl.1 rfl (lv_room (Nat.le_of_ble_eq_true rfl)) dL_law_1822 ⟨hn, hk⟩) (fun H locs hP hD hS => ?_)
  refine lv_icmp_eq (tgt := 2260) hx hb dL_law_1825 (by decide) (fun c_8 => ?_) (fun c_8 => ?_)
  · replace hm := if_s hm c_8
    obtain ⟨hf0, hf1, hf2⟩ := si3 hm
    subst hf0
    subst hf1
    subst hf2
    exact kk _ _ _ hP hD hS (lv_sub hl [0, 1, 2, 3, 4] rfl)
  · replace hm := if_f hm c_8
    refine lv_iconst (v := (0 : Int32)) hx hb dL_law_1828 (by decide) ?_
    cases hm
def mLaw_passesIn (vi : Nat → Int32) (vj : Nat → Int64) (vk : Nat → Int32) (vc : Nat → Int32) (va : Nat → Int32) (vpa : Nat → Int32) (vb : Nat → Int32) (vpb : Nat → Int32) (viT : Nat → Int32) (vjT : Nat → Int64) (vkT : Nat → Int32) (vcT : Nat → Int32) (vaT : Nat → Int32) (vpaT : Nat → Int32) (vbT : Nat → Int32) (vpbT : Nat → Int32) (vou : Nat → Int64) (mi : Nat → Int32) (vnw : Nat → Int32) (vtr : Nat → Int32) (vwy : Nat → Int32) (vah : Nat → Int32) (vtg : Nat → Int32) (vws : Nat → Int32) (xs : Nat → Int32) (i : Int32) : Option ((Nat → Int32) × (Nat → Int64) × (Nat → Int32) × (Nat → Int32) × (Nat → Int32) × (Nat → Int32) × (Nat → Int32) × (Nat → Int32) × (Nat → Int64) × (Nat → Int32) × (Nat → Int32) × (Nat → Int32) × (Nat → Int32) × (Nat → Int32) × (Nat → Int32)) := (bo10 (mL_passesIn vi vj vk vc va vpa vb vpb viT vjT vkT vcT vaT vpaT vbT vpbT vou (xs (i + (1 : Int32)).toNatClampNeg)) (fun r_1 viT_2 vjT_3 vkT_4 vcT_5 vaT_6 vpaT_7 vbT_8 vpbT_9 vou_10 => (bo7 (mX9_passesIn mi vnw vtr vwy vah vtg vws (xs (i + (1 : Int32)).toNatClampNeg)) (fun r_12 mi_13 vtr_14 vwy_15 vah_16 vtg_17 vws_18 => (if (mX9_thrown mi_13) = r_1 then (if r_1 = 0 then (if (lg_cmp (vou_10 (0 : Int32).toNatClampNeg) (r_12.toInt64)) = 0 then (some (viT_2, vjT_3, vkT_4, vcT_5, vaT_6, vpaT_7, vbT_8, vpbT_9, vou_10, mi_13, vtr_14, vwy_15, vah_16, vtg_17, vws_18)) else none) else (some (viT_2, vjT_3, vkT_4, vcT_5, vaT_6, vpaT_7, vbT_8, vpbT_9, vou_10, mi_13, vtr_14, vwy_15, vah_16, vtg_17, vws_18))) else none)))))
set_option maxHeartbeats 4000000 in
set_option maxRecDepth 100000 in
theorem kLaw_passesIn (l : Launch) (Γ : my_G) (hfl : l.stackTraces = false) {p : Program} {e : Env} {s : State} {m : MethodId} {below : List Frame} {meth : Method} {c : Code} {b L : Nat} {xs : Nat → Int32} {Q : State → Prop} (hx : p.tables.exec = Jvm.exec) (hb : c.code = cL_law) (hml : c.maxLocals = 7) (hown : s.vm.findClass RL = some m.cls) (hts : ∀ w ∈ wsL_law, w.before #[Value.ref b] s = true) (hX : va_X b L xs s s.heap) (hbl : b < s.heap.size) (hK : my_K Γ s) (hZ : my_ZZ (fun q : Nat => s.heap.size ≤ q) s s.heap) (hstr : my_str s) (hnc : my_nc s) (q_bf q_fl q_k q_c q_a q_pa q_b q_pb q_flT q_kT q_cT q_aT q_paT q_bT q_pbT q_ou q_mo q_tt q_nw q_tr q_ot q_di q_kp q_ik q_wy q_ah q_tg q_ws q_fr q_rw q_tx q_hi q_s1 q_s2 q_fd q_kc q_kr : Nat) (vi : Nat → Int32) (vj : Nat → Int64) (vk : Nat → Int32) (vc : Nat → Int32) (va : Nat → Int32) (vpa : Nat → Int32) (vb : Nat → Int32) (vpb : Nat → Int32) (viT : Nat → Int32) (vjT : Nat → Int64) (vkT : Nat → Int32) (vcT : Nat → Int32) (vaT : Nat → Int32) (vpaT : Nat → Int32) (vbT : Nat → Int32) (vpbT : Nat → Int32) (vou : Nat → Int64) (mi : Nat → Int32) (vtt : Nat → Int32) (vnw : Nat → Int32) (vtr : Nat → Int32) (vot : Nat → Int32) (vdi : Nat → Int32) (vkp : Nat → Int32) (vik : Nat → Int32) (vwy : Nat → Int32) (vah : Nat → Int32) (vtg : Nat → Int32) (vws : Nat → Int32) (vfr : Nat → Int32) (vrw : Nat → Int32) (i : Int32) (hi1 : vp_in (i + (1 : Int32)) L) (hi2 : vp_in (i + (2 : Int32)) L) (hi3 : vp_in (i + (3 : Int32)) L) (viT_z : Nat → Int32) (vjT_z : Nat → Int64) (vkT_z : Nat → Int32) (vcT_z : Nat → Int32) (vaT_z : Nat → Int32) (vpaT_z : Nat → Int32) (vbT_z : Nat → Int32) (vpbT_z : Nat → Int32) (vou_z : Nat → Int64) (mi_z : Nat → Int32) (vtr_z : Nat → Int32) (vwy_z : Nat → Int32) (vah_z : Nat → Int32) (vtg_z : Nat → Int32) (vws_z : Nat → Int32) (hm : mLaw_passesIn vi vj vk vc va vpa vb vpb viT vjT vkT vcT vaT vpaT vbT vpbT vou mi vnw vtr vwy vah vtg vws xs i = (some (viT_z, vjT_z, vkT_z, vcT_z, vaT_z, vpaT_z, vbT_z, vpbT_z, vou_z, mi_z, vtr_z, vwy_z, vah_z, vtg_z, vws_z))) (R_ : va_W) (nc ns : Nat) (hn : nc + 3 ≤ room_1.cells) (hk : ns + 18 ≤ room_1.slots) (H : Heap) (locs : List Loc) (ls : Array Slot) (hP : va_P (my_D Γ) vwCl ((wBF Γ q_bf q_tx q_fl q_flT q_hi q_s1 q_s2 q_fd q_kc q_kr  ++ wFloor Γ q_fl q_k q_c q_a q_pa q_b q_pb vi vj vk vc va vpa vb vpb ++ wFloor Γ q_flT q_kT q_cT q_aT q_paT q_bT q_pbT viT vjT vkT vcT vaT vpaT vbT vpbT ++ wOut Γ q_ou vou ++ wModel Γ q_mo q_tt q_nw q_tr q_ot q_di q_kp q_ik q_wy q_ah q_tg q_ws q_fr q_rw mi vtt vnw vtr vot vdi vkp vik vwy vah vtg vws vfr vrw) ++ R_) H) (hD : va_D (fun q : Nat => s.heap.size ≤ q) ((wBF Γ q_bf q_tx q_fl q_flT q_hi q_s1 q_s2 q_fd q_kc q_kr  ++ wFloor Γ q_fl q_k q_c q_a q_pa q_b q_pb vi vj vk vc va vpa vb vpb ++ wFloor Γ q_flT q_kT q_cT q_aT q_paT q_bT q_pbT viT vjT vkT vcT vaT vpaT vbT vpbT ++ wOut Γ q_ou vou ++ wModel Γ q_mo q_tt q_nw q_tr q_ot q_di q_kp q_ik q_wy q_ah q_tg q_ws q_fr q_rw mi vtt vnw vtr vot vdi vkp vik vwy vah vtg vws vfr vrw) ++ R_)) (hS : va_S (fun q : Nat => s.heap.size ≤ q) s.heap H locs) (hl : lv_has ls 7 [(0, .ref b), (1, .ref q_bf), (2, .ref q_mo), (3, .ref q_ou), (4, .int i)]) (kk : ∀ (H : Heap) (locs : List Loc) (ls : Array Slot), va_P (my_D Γ) vwCl ((wBF Γ q_bf q_tx q_fl q_flT q_hi q_s1 q_s2 q_fd q_kc q_kr  ++ wFloor Γ q_fl q_k q_c q_a q_pa q_b q_pb vi vj vk vc va vpa vb vpb ++ wFloor Γ q_flT q_kT q_cT q_aT q_paT q_bT q_pbT viT_z vjT_z vkT_z vcT_z vaT_z vpaT_z vbT_z vpbT_z ++ wOut Γ q_ou vou_z ++ wModel Γ q_mo q_tt q_nw q_tr q_ot q_di q_kp q_ik q_wy q_ah q_tg q_ws q_fr q_rw mi_z vtt vnw vtr_z vot vdi vkp vik vwy_z vah_z vtg_z vws_z vfr vrw) ++ R_) H → va_D (fun q : Nat => s.heap.size ≤ q) ((wBF Γ q_bf q_tx q_fl q_flT q_hi q_s1 q_s2 q_fd q_kc q_kr  ++ wFloor Γ q_fl q_k q_c q_a q_pa q_b q_pb vi vj vk vc va vpa vb vpb ++ wFloor Γ q_flT q_kT q_cT q_aT q_paT q_bT q_pbT viT_z vjT_z vkT_z vcT_z vaT_z vpaT_z vbT_z vpbT_z ++ wOut Γ q_ou vou_z ++ wModel Γ q_mo q_tt q_nw q_tr q_ot q_di q_kp q_ik q_wy q_ah q_tg q_ws q_fr q_rw mi_z vtt vnw vtr_z vot vdi vkp vik vwy_z vah_z vtg_z vws_z vfr vrw) ++ R_) → va_S (fun q : Nat => s.heap.size ≤ q) s.heap H locs → lv_has ls 7 [(0, .ref b), (1, .ref q_bf), (2, .ref q_mo), (3, .ref q_ou), (4, .int i)] → W p l e room_1 s m #[Value.ref b] below meth c H locs (nc + 3) (ns + 18) Q (F0 m 2260 ls [])) : W p l e room_1 s m #[Value.ref b] below meth c H locs nc ns Q (F0 m 1830 ls []) := by
  have hA : ∀ q : Nat, s.heap.size ≤ q → (fun q : Nat => s.heap.size ≤ q) q := fun _ h => h
  have hbA : ¬ (fun q : Nat => s.heap.size ≤ q) b := Nat.not_le.mpr hbl
  unfold mLaw_passesIn at hm
  refine lv_aload_n hx hb dL_law_1830 rfl (lv_at hl 1 rfl) ?_
  refine lv_aload_n hx hb dL_law_1831 rfl (lv_at hl 0 rfl) ?_
  refine lv_iload hx hb dL_law_1832 (lv_at hl 4 rfl) ?_
  refine lv_iconst (v := (1 : Int32)) hx hb dL_law_1834 (by decide) ?_
  refine lv_iadd hx hb dL_law_1835 ?_
  refine va_sld hx hb hX hbl hbA hS hi1 dL_law_1836 ?_
  refine lv_aload_n hx hb dL_law_1837 rfl (lv_at hl 3 rfl) ?_
  obtain ⟨r_1, viT_2, vjT_3, vkT_4, vcT_5, vaT_6, vpaT_7, vbT_8, vpbT_9, vou_10, hc_11, hm⟩ := bo10_s hm
  refine my_callRW1 (wc := (wBF Γ q_bf q_tx q_fl q_flT q_hi q_s1 q_s2 q_fd q_kc q_kr  ++ wFloor Γ q_fl q_k q_c q_a q_pa q_b q_pb vi vj vk vc va vpa vb vpb ++ wFloor Γ q_flT q_kT q_cT q_aT q_paT q_bT q_pbT viT vjT vkT vcT vaT vpaT vbT vpbT ++ wOut Γ q_ou vou)) (w1 := (wBF Γ q_bf q_tx q_fl q_flT q_hi q_s1 q_s2 q_fd q_kc q_kr  ++ wFloor Γ q_fl q_k q_c q_a q_pa q_b q_pb vi vj vk vc va vpa vb vpb ++ wFloor Γ q_flT q_kT q_cT q_aT q_paT q_bT q_pbT viT_2 vjT_3 vkT_4 vcT_5 vaT_6 vpaT_7 vbT_8 vpbT_9 ++ wOut Γ q_ou vou_10)) (wa1 := (wBF Γ q_bf q_tx q_fl q_flT q_hi q_s1 q_s2 q_fd q_kc q_kr  ++ wFloor Γ q_fl q_k q_c q_a q_pa q_b q_pb vi vj vk vc va vpa vb vpb ++ wFloor Γ q_flT q_kT q_cT q_aT q_paT q_bT q_pbT viT_2 vjT_3 vkT_4 vcT_5 vaT_6 vpaT_7 vbT_8 vpbT_9 ++ wOut Γ q_ou vou_10 ++ wModel Γ q_mo q_tt q_nw q_tr q_ot q_di q_kp q_ik q_wy q_ah q_tg q_ws q_fr q_rw mi vtt vnw vtr vot vdi vkp vik vwy vah vtg vws vfr vrw)) hP hD hS hA [0, 1, 2, 3, 4, 5, 6, 7, 8, 9, 10, 11, 12, 13, 14, 15] rfl rfl rfl rfl (vx_runSW (As := [.ref q_bf, .int (xs (i + (1 : Int32)).toNatClampNeg), .ref q_ou]) (rest := []) ⟨hx, hb, hml, hown, hts⟩ (kL_passesIn l Γ hfl q_bf q_fl q_k q_c q_a q_pa q_b q_pb q_flT q_kT q_cT q_aT q_paT q_bT q_pbT q_ou q_tx q_hi q_s1 q_s2 q_fd q_kc q_kr vi vj vk vc va vpa vb vpb viT vjT vkT vcT vaT vpaT vbT vpbT vou (xs (i + (1 : Int32)).toNatClampNeg) r_1 viT_2 vjT_3 vkT_4 vcT_5 vaT_6 vpaT_7 vbT_8 vpbT_9 vou_10 hc_11 _) (vx_cwSW 3 hts gL_law_L_passesIn rfl rfl rfl (by decide +kernel) ⟨Nat.le_of_ble_eq_true rfl, Nat.le_of_ble_eq_true rfl⟩) (my_preSW (wc := (wBF Γ q_bf q_tx q_fl q_flT q_hi q_s1 q_s2 q_fd q_kc q_kr  ++ wFloor Γ q_fl q_k q_c q_a q_pa q_b q_pb vi vj vk vc va vpa vb vpb ++ wFloor Γ q_flT q_kT q_cT q_aT q_paT q_bT q_pbT viT vjT vkT vcT vaT vpaT vbT vpbT ++ wOut Γ q_ou vou)) [0, 1, 2, 3, 4, 5, 6, 7, 8, 9, 10, 11, 12, 13, 14, 15] hK hP hD hS hA hZ hstr hnc rfl rfl) rfl rfl hl.1 rfl (lv_room (Nat.le_of_ble_eq_true rfl)) dL_law_1838 ⟨Nat.le_trans (Nat.add_le_add_left (Nat.le_of_ble_eq_true rfl) nc) hn, Nat.le_trans (Nat.add_le_add_left (Nat.le_of_ble_eq_true rfl) ns) hk⟩) (fun H locs hP hD hS => ?_)
  refine W.widen (k := nc + 3) (n := ns + 18) (Nat.add_le_add_left (Nat.le_of_ble_eq_true rfl) nc) (Nat.add_le_add_left (Nat.le_of_ble_eq_true rfl) ns) ?_
  refine lv_istore (lv' := [(5, .int r_1), (0, .ref b), (1, .ref q_bf), (2, .ref q_mo), (3, .ref q_ou), (4, .int i)]) hx hb dL_law_1841 hl (by decide) rfl (fun ls hl => ?_)
  refine lv_aload_n hx hb dL_law_1843 rfl (lv_at hl 3 rfl) ?_
  refine lv_aload_n hx hb dL_law_1844 rfl (lv_at hl 1 rfl) ?_
  refine lv_iload hx hb dL_law_1845 (lv_at hl 5 rfl) ?_
  refine lv_iconst (v := (1 : Int32)) hx hb dL_law_1847 (by decide) ?_
  refine lv_iadd hx hb dL_law_1848 ?_
  refine va_sld hx hb hX hbl hbA hS hi1 dL_law_1849 ?_
  obtain ⟨r_12, mi_13, vtr_14, vwy_15, vah_16, vtg_17, vws_18, hc_19, hm⟩ := bo7_s hm
  refine my_callR1 (wc := (wModel Γ q_mo q_tt q_nw q_tr q_ot q_di q_kp q_ik q_wy q_ah q_tg q_ws q_fr q_rw mi vtt vnw vtr vot vdi vkp vik vwy vah vtg vws vfr vrw)) (w1 := (wModel Γ q_mo q_tt q_nw q_tr q_ot q_di q_kp q_ik q_wy q_ah q_tg q_ws q_fr q_rw mi_13 vtt vnw vtr_14 vot vdi vkp vik vwy_15 vah_16 vtg_17 vws_18 vfr vrw)) (wa1 := (wBF Γ q_bf q_tx q_fl q_flT q_hi q_s1 q_s2 q_fd q_kc q_kr  ++ wFloor Γ q_fl q_k q_c q_a q_pa q_b q_pb vi vj vk vc va vpa vb vpb ++ wFloor Γ q_flT q_kT q_cT q_aT q_paT q_bT q_pbT viT_2 vjT_3 vkT_4 vcT_5 vaT_6 vpaT_7 vbT_8 vpbT_9 ++ wOut Γ q_ou vou_10 ++ wModel Γ q_mo q_tt q_nw q_tr q_ot q_di q_kp q_ik q_wy q_ah q_tg q_ws q_fr q_rw mi_13 vtt vnw vtr_14 vot vdi vkp vik vwy_15 vah_16 vtg_17 vws_18 vfr vrw)) hP hD hS hA [16, 17, 18, 19, 20, 21, 22, 23, 24, 25, 26, 27, 28, 29] rfl rfl rfl rfl (va_runV (As := [.int (xs (i + (1 : Int32)).toNatClampNeg)]) (rest := []) ⟨hx, hb, hml, hown, hts⟩ (kX9_passesIn l Γ q_mo q_tt q_nw q_tr q_ot q_di q_kp q_ik q_wy q_ah q_tg q_ws q_fr q_rw mi vtt vnw vtr vot vdi vkp vik vwy vah vtg vws vfr vrw (xs (i + (1 : Int32)).toNatClampNeg) r_12 mi_13 vtr_14 vwy_15 vah_16 vtg_17 vws_18 hc_19 _) (cwV 1 hts gL_law_X9_passesIn rfl rfl rfl (by decide +kernel) ⟨Nat.le_of_ble_eq_true rfl, Nat.le_of_ble_eq_true rfl⟩) (my_preV (wc := (wModel Γ q_mo q_tt q_nw q_tr q_ot q_di q_kp q_ik q_wy q_ah q_tg q_ws q_fr q_rw mi vtt vnw vtr vot vdi vkp vik vwy vah vtg vws vfr vrw)) (ci := 7) (q0 := 16) [16, 17, 18, 19, 20, 21, 22, 23, 24, 25, 26, 27, 28, 29] hK hP hD rfl rfl rfl rfl) rfl rfl hl.1 rfl (lv_room (Nat.le_of_ble_eq_true rfl)) dL_law_1850 ⟨hn, hk⟩) (fun H locs hP hD hS => ?_)
  refine lv_istore (lv' := [(6, .int r_12), (5, .int r_1), (0, .ref b), (1, .ref q_bf), (2, .ref q_mo), (3, .ref q_ou), (4, .int i)]) hx hb dL_law_1853 hl (by decide) rfl (fun ls hl => ?_)
  refine lv_aload_n hx hb dL_law_1855 rfl (lv_at hl 4 rfl) ?_
  refine my_callR1 (wc := (wMo Γ q_mo q_tt q_nw q_tr q_ot q_di q_kp q_ik q_wy q_ah q_tg q_ws q_fr q_rw mi_13)) (w1 := (wMo Γ q_mo q_tt q_nw q_tr q_ot q_di q_kp q_ik q_wy q_ah q_tg q_ws q_fr q_rw mi_13)) (wa1 := (wBF Γ q_bf q_tx q_fl q_flT q_hi q_s1 q_s2 q_fd q_kc q_kr  ++ wFloor Γ q_fl q_k q_c q_a q_pa q_b q_pb vi vj vk vc va vpa vb vpb ++ wFloor Γ q_flT q_kT q_cT q_aT q_paT q_bT q_pbT viT_2 vjT_3 vkT_4 vcT_5 vaT_6 vpaT_7 vbT_8 vpbT_9 ++ wOut Γ q_ou vou_10 ++ wModel Γ q_mo q_tt q_nw q_tr q_ot q_di q_kp q_ik q_wy q_ah q_tg q_ws q_fr q_rw mi_13 vtt vnw vtr_14 vot vdi vkp vik vwy_15 vah_16 vtg_17 vws_18 vfr vrw)) hP hD hS hA [16] rfl rfl rfl rfl (va_runV (As := []) (rest := []) ⟨hx, hb, hml, hown, hts⟩ (kX9_thrown l Γ q_mo q_tt q_nw q_tr q_ot q_di q_kp q_ik q_wy q_ah q_tg q_ws q_fr q_rw mi_13 (mX9_thrown mi_13) rfl _) (cwV 0 hts gL_law_X9_thrown rfl rfl rfl (by decide +kernel) ⟨Nat.le_of_ble_eq_true rfl, Nat.le_of_ble_eq_true rfl⟩) (my_preV (wc := (wMo Γ q_mo q_tt q_nw q_tr q_ot q_di q_kp q_ik q_wy q_ah q_tg q_ws q_fr q_rw mi_13)) (ci := 7) (q0 := 16) [16] hK hP hD rfl rfl rfl rfl) rfl rfl hl.1 rfl (lv_room (Nat.le_of_ble_eq_true rfl)) dL_law_1856 ⟨hn, hk⟩) (fun H locs hP hD hS => ?_)
  refine lv_iload hx hb dL_law_1859 (lv_at hl 1 rfl) ?_
  refine lv_icmp_eq (tgt := 1866) hx hb dL_law_1861 (by decide) (fun c_20 => ?_) (fun c_20 => ?_)
  · replace hm := if_s hm c_20
    refine lv_iload hx hb dL_law_1866 (lv_at hl 1 rfl) ?_
    refine lv_if_ne (tgt := 1883) hx hb dL_law_1868 (by decide) (fun c_21 => ?_) (fun c_21 => ?_)
    · replace hm := if_f hm c_21
      refine lv_goto (tgt := 2260) hx hb dL_law_1883 (by decide) ?_
      obtain ⟨hf0, hf1, hf2, hf3, hf4, hf5, hf6, hf7, hf8, hf9, hf10, hf11, hf12, hf13, hf14⟩ := si15 hm
      subst hf0
      subst hf1
      subst hf2
      subst hf3
      subst hf4
      subst hf5
      subst hf6
      subst hf7
      subst hf8
      subst hf9
      subst hf10
      subst hf11
      subst hf12
      subst hf13
      subst hf14
      exact kk _ _ _ hP hD hS (lv_sub hl [2, 3, 4, 5, 6] rfl)
    · replace hm := if_s hm c_21
      refine lv_aload_n hx hb dL_law_1871 rfl (lv_at hl 5 rfl) ?_
      refine lv_iconst (v := (0 : Int32)) hx hb dL_law_1872 (by decide) ?_
      refine va_lald hx hb hK hP 15 1 rfl rfl (show vp_in (0 : Int32) 1 from (by decide : ¬ ((0 : Int32) < 0 ∨ 1 ≤ (0 : Int32).toNatClampNeg))) dL_law_1873 ?_
      refine lv_iload hx hb dL_law_1874 (lv_at hl 0 rfl) ?_
      refine lv_i2l (v := r_12.toInt64) hx hb dL_law_1876 rfl ?_
      refine W.lcmp hx hb dL_law_1877 ?_
      refine lv_if_eq (tgt := 1883) hx hb dL_law_1878 (by decide) (fun c_22 => ?_) (fun c_22 => ?_)
      · replace hm := if_s hm c_22
        refine lv_goto (tgt := 2260) hx hb dL_law_1883 (by decide) ?_
        obtain ⟨hf0, hf1, hf2, hf3, hf4, hf5, hf6, hf7, hf8, hf9, hf10, hf11, hf12, hf13, hf14⟩ := si15 hm
        subst hf0
        subst hf1
        subst hf2
        subst hf3
        subst hf4
        subst hf5
        subst hf6
        subst hf7
        subst hf8
        subst hf9
        subst hf10
        subst hf11
        subst hf12
        subst hf13
        subst hf14
        exact kk _ _ _ hP hD hS (lv_sub hl [2, 3, 4, 5, 6] rfl)
      · replace hm := if_f hm c_22
        refine lv_iconst (v := (0 : Int32)) hx hb dL_law_1881 (by decide) ?_
        cases hm
  · replace hm := if_f hm c_20
    refine lv_iconst (v := (0 : Int32)) hx hb dL_law_1864 (by decide) ?_
    cases hm
def mLaw_loopByWaiting (vi : Nat → Int32) (vj : Nat → Int64) (vk : Nat → Int32) (vc : Nat → Int32) (va : Nat → Int32) (vpa : Nat → Int32) (vb : Nat → Int32) (vpb : Nat → Int32) (viT : Nat → Int32) (vjT : Nat → Int64) (vkT : Nat → Int32) (vcT : Nat → Int32) (vaT : Nat → Int32) (vpaT : Nat → Int32) (vbT : Nat → Int32) (vpbT : Nat → Int32) (mi : Nat → Int32) (vnw : Nat → Int32) (vtr : Nat → Int32) (vot : Nat → Int32) (vwy : Nat → Int32) (vah : Nat → Int32) (vtg : Nat → Int32) (vws : Nat → Int32) (xs : Nat → Int32) (i : Int32) : Option ((Nat → Int32) × (Nat → Int64) × (Nat → Int32) × (Nat → Int32) × (Nat → Int32) × (Nat → Int32) × (Nat → Int32) × (Nat → Int32) × (Nat → Int32) × (Nat → Int32) × (Nat → Int32) × (Nat → Int32) × (Nat → Int32) × (Nat → Int32) × (Nat → Int32)) := (bo9 (mX8_loopByWaiting vi vj vk vc va vpa vb vpb viT vjT vkT vcT vaT vpaT vbT vpbT) (fun r_1 viT_2 vjT_3 vkT_4 vcT_5 vaT_6 vpaT_7 vbT_8 vpbT_9 => (bo8 (mX9_loopByWaiting mi vnw vtr vot vwy vah vtg vws) (fun r_11 mi_12 vtr_13 vot_14 vwy_15 vah_16 vtg_17 vws_18 => (if r_1 = r_11 then (some (viT_2, vjT_3, vkT_4, vcT_5, vaT_6, vpaT_7, vbT_8, vpbT_9, mi_12, vtr_13, vot_14, vwy_15, vah_16, vtg_17, vws_18)) else none)))))
set_option maxHeartbeats 4000000 in
set_option maxRecDepth 100000 in
theorem kLaw_loopByWaiting (l : Launch) (Γ : my_G) (hfl : l.stackTraces = false) {p : Program} {e : Env} {s : State} {m : MethodId} {below : List Frame} {meth : Method} {c : Code} {b L : Nat} {xs : Nat → Int32} {Q : State → Prop} (hx : p.tables.exec = Jvm.exec) (hb : c.code = cL_law) (hml : c.maxLocals = 7) (hown : s.vm.findClass RL = some m.cls) (hts : ∀ w ∈ wsL_law, w.before #[Value.ref b] s = true) (hX : va_X b L xs s s.heap) (hbl : b < s.heap.size) (hK : my_K Γ s) (hZ : my_ZZ (fun q : Nat => s.heap.size ≤ q) s s.heap) (hstr : my_str s) (hnc : my_nc s) (q_bf q_fl q_k q_c q_a q_pa q_b q_pb q_flT q_kT q_cT q_aT q_paT q_bT q_pbT q_ou q_mo q_tt q_nw q_tr q_ot q_di q_kp q_ik q_wy q_ah q_tg q_ws q_fr q_rw q_tx q_hi q_s1 q_s2 q_fd q_kc q_kr : Nat) (vi : Nat → Int32) (vj : Nat → Int64) (vk : Nat → Int32) (vc : Nat → Int32) (va : Nat → Int32) (vpa : Nat → Int32) (vb : Nat → Int32) (vpb : Nat → Int32) (viT : Nat → Int32) (vjT : Nat → Int64) (vkT : Nat → Int32) (vcT : Nat → Int32) (vaT : Nat → Int32) (vpaT : Nat → Int32) (vbT : Nat → Int32) (vpbT : Nat → Int32) (vou : Nat → Int64) (mi : Nat → Int32) (vtt : Nat → Int32) (vnw : Nat → Int32) (vtr : Nat → Int32) (vot : Nat → Int32) (vdi : Nat → Int32) (vkp : Nat → Int32) (vik : Nat → Int32) (vwy : Nat → Int32) (vah : Nat → Int32) (vtg : Nat → Int32) (vws : Nat → Int32) (vfr : Nat → Int32) (vrw : Nat → Int32) (i : Int32) (hi1 : vp_in (i + (1 : Int32)) L) (hi2 : vp_in (i + (2 : Int32)) L) (hi3 : vp_in (i + (3 : Int32)) L) (viT_z : Nat → Int32) (vjT_z : Nat → Int64) (vkT_z : Nat → Int32) (vcT_z : Nat → Int32) (vaT_z : Nat → Int32) (vpaT_z : Nat → Int32) (vbT_z : Nat → Int32) (vpbT_z : Nat → Int32) (mi_z : Nat → Int32) (vtr_z : Nat → Int32) (vot_z : Nat → Int32) (vwy_z : Nat → Int32) (vah_z : Nat → Int32) (vtg_z : Nat → Int32) (vws_z : Nat → Int32) (hm : mLaw_loopByWaiting vi vj vk vc va vpa vb vpb viT vjT vkT vcT vaT vpaT vbT vpbT mi vnw vtr vot vwy vah vtg vws xs i = (some (viT_z, vjT_z, vkT_z, vcT_z, vaT_z, vpaT_z, vbT_z, vpbT_z, mi_z, vtr_z, vot_z, vwy_z, vah_z, vtg_z, vws_z))) (R_ : va_W) (nc ns : Nat) (hn : nc + 3 ≤ room_1.cells) (hk : ns + 18 ≤ room_1.slots) (H : Heap) (locs : List Loc) (ls : Array Slot) (hP : va_P (my_D Γ) vwCl ((wBF Γ q_bf q_tx q_fl q_flT q_hi q_s1 q_s2 q_fd q_kc q_kr  ++ wFloor Γ q_fl q_k q_c q_a q_pa q_b q_pb vi vj vk vc va vpa vb vpb ++ wFloor Γ q_flT q_kT q_cT q_aT q_paT q_bT q_pbT viT vjT vkT vcT vaT vpaT vbT vpbT ++ wOut Γ q_ou vou ++ wModel Γ q_mo q_tt q_nw q_tr q_ot q_di q_kp q_ik q_wy q_ah q_tg q_ws q_fr q_rw mi vtt vnw vtr vot vdi vkp vik vwy vah vtg vws vfr vrw) ++ R_) H) (hD : va_D (fun q : Nat => s.heap.size ≤ q) ((wBF Γ q_bf q_tx q_fl q_flT q_hi q_s1 q_s2 q_fd q_kc q_kr  ++ wFloor Γ q_fl q_k q_c q_a q_pa q_b q_pb vi vj vk vc va vpa vb vpb ++ wFloor Γ q_flT q_kT q_cT q_aT q_paT q_bT q_pbT viT vjT vkT vcT vaT vpaT vbT vpbT ++ wOut Γ q_ou vou ++ wModel Γ q_mo q_tt q_nw q_tr q_ot q_di q_kp q_ik q_wy q_ah q_tg q_ws q_fr q_rw mi vtt vnw vtr vot vdi vkp vik vwy vah vtg vws vfr vrw) ++ R_)) (hS : va_S (fun q : Nat => s.heap.size ≤ q) s.heap H locs) (hl : lv_has ls 7 [(0, .ref b), (1, .ref q_bf), (2, .ref q_mo), (3, .ref q_ou), (4, .int i)]) (kk : ∀ (H : Heap) (locs : List Loc) (ls : Array Slot), va_P (my_D Γ) vwCl ((wBF Γ q_bf q_tx q_fl q_flT q_hi q_s1 q_s2 q_fd q_kc q_kr  ++ wFloor Γ q_fl q_k q_c q_a q_pa q_b q_pb vi vj vk vc va vpa vb vpb ++ wFloor Γ q_flT q_kT q_cT q_aT q_paT q_bT q_pbT viT_z vjT_z vkT_z vcT_z vaT_z vpaT_z vbT_z vpbT_z ++ wOut Γ q_ou vou ++ wModel Γ q_mo q_tt q_nw q_tr q_ot q_di q_kp q_ik q_wy q_ah q_tg q_ws q_fr q_rw mi_z vtt vnw vtr_z vot_z vdi vkp vik vwy_z vah_z vtg_z vws_z vfr vrw) ++ R_) H → va_D (fun q : Nat => s.heap.size ≤ q) ((wBF Γ q_bf q_tx q_fl q_flT q_hi q_s1 q_s2 q_fd q_kc q_kr  ++ wFloor Γ q_fl q_k q_c q_a q_pa q_b q_pb vi vj vk vc va vpa vb vpb ++ wFloor Γ q_flT q_kT q_cT q_aT q_paT q_bT q_pbT viT_z vjT_z vkT_z vcT_z vaT_z vpaT_z vbT_z vpbT_z ++ wOut Γ q_ou vou ++ wModel Γ q_mo q_tt q_nw q_tr q_ot q_di q_kp q_ik q_wy q_ah q_tg q_ws q_fr q_rw mi_z vtt vnw vtr_z vot_z vdi vkp vik vwy_z vah_z vtg_z vws_z vfr vrw) ++ R_) → va_S (fun q : Nat => s.heap.size ≤ q) s.heap H locs → lv_has ls 7 [(0, .ref b), (1, .ref q_bf), (2, .ref q_mo), (3, .ref q_ou), (4, .int i)] → W p l e room_1 s m #[Value.ref b] below meth c H locs (nc + 3) (ns + 18) Q (F0 m 2260 ls [])) : W p l e room_1 s m #[Value.ref b] below meth c H locs nc ns Q (F0 m 1886 ls []) := by
  have hA : ∀ q : Nat, s.heap.size ≤ q → (fun q : Nat => s.heap.size ≤ q) q := fun _ h => h
  have hbA : ¬ (fun q : Nat => s.heap.size ≤ q) b := Nat.not_le.mpr hbl
  unfold mLaw_loopByWaiting at hm
  refine W.widen (k := nc + 3) (n := ns + 18) (Nat.le_add_right nc 3) (Nat.le_add_right ns 18) ?_
  refine lv_aload_n hx hb dL_law_1886 rfl (lv_at hl 1 rfl) ?_
  obtain ⟨r_1, viT_2, vjT_3, vkT_4, vcT_5, vaT_6, vpaT_7, vbT_8, vpbT_9, hc_10, hm⟩ := bo9_s hm
  refine my_callR1 (wc := (wBF Γ q_bf q_tx q_fl q_flT q_hi q_s1 q_s2 q_fd q_kc q_kr  ++ wFloor Γ q_fl q_k q_c q_a q_pa q_b q_pb vi vj vk vc va vpa vb vpb ++ wFloor Γ q_flT q_kT q_cT q_aT q_paT q_bT q_pbT viT vjT vkT vcT vaT vpaT vbT vpbT)) (w1 := (wBF Γ q_bf q_tx q_fl q_flT q_hi q_s1 q_s2 q_fd q_kc q_kr  ++ wFloor Γ q_fl q_k q_c q_a q_pa q_b q_pb vi vj vk vc va vpa vb vpb ++ wFloor Γ q_flT q_kT q_cT q_aT q_paT q_bT q_pbT viT_2 vjT_3 vkT_4 vcT_5 vaT_6 vpaT_7 vbT_8 vpbT_9)) (wa1 := (wBF Γ q_bf q_tx q_fl q_flT q_hi q_s1 q_s2 q_fd q_kc q_kr  ++ wFloor Γ q_fl q_k q_c q_a q_pa q_b q_pb vi vj vk vc va vpa vb vpb ++ wFloor Γ q_flT q_kT q_cT q_aT q_paT q_bT q_pbT viT_2 vjT_3 vkT_4 vcT_5 vaT_6 vpaT_7 vbT_8 vpbT_9 ++ wOut Γ q_ou vou ++ wModel Γ q_mo q_tt q_nw q_tr q_ot q_di q_kp q_ik q_wy q_ah q_tg q_ws q_fr q_rw mi vtt vnw vtr vot vdi vkp vik vwy vah vtg vws vfr vrw)) hP hD hS hA [0, 1, 2, 3, 4, 5, 6, 7, 8, 9, 10, 11, 12, 13, 14] rfl rfl rfl rfl (va_runV (As := []) (rest := []) ⟨hx, hb, hml, hown, hts⟩ (kX8_loopByWaiting l Γ q_bf q_fl q_k q_c q_a q_pa q_b q_pb q_flT q_kT q_cT q_aT q_paT q_bT q_pbT q_tx q_hi q_s1 q_s2 q_fd q_kc q_kr vi vj vk vc va vpa vb vpb viT vjT vkT vcT vaT vpaT vbT vpbT r_1 viT_2 vjT_3 vkT_4 vcT_5 vaT_6 vpaT_7 vbT_8 vpbT_9 hc_10 _) (cwV 0 hts gL_law_X8_loopByWaiting rfl rfl rfl (by decide +kernel) ⟨Nat.le_of_ble_eq_true rfl, Nat.le_of_ble_eq_true rfl⟩) (my_preV (wc := (wBF Γ q_bf q_tx q_fl q_flT q_hi q_s1 q_s2 q_fd q_kc q_kr  ++ wFloor Γ q_fl q_k q_c q_a q_pa q_b q_pb vi vj vk vc va vpa vb vpb ++ wFloor Γ q_flT q_kT q_cT q_aT q_paT q_bT q_pbT viT vjT vkT vcT vaT vpaT vbT vpbT)) (ci := 6) (q0 := 0) [0, 1, 2, 3, 4, 5, 6, 7, 8, 9, 10, 11, 12, 13, 14] hK hP hD rfl rfl rfl rfl) rfl rfl hl.1 rfl (lv_room (Nat.le_of_ble_eq_true rfl)) dL_law_1887 ⟨hn, hk⟩) (fun H locs hP hD hS => ?_)
  refine lv_aload_n hx hb dL_law_1890 rfl (lv_at hl 2 rfl) ?_
  obtain ⟨r_11, mi_12, vtr_13, vot_14, vwy_15, vah_16, vtg_17, vws_18, hc_19, hm⟩ := bo8_s hm
  refine my_callR1 (wc := (wModel Γ q_mo q_tt q_nw q_tr q_ot q_di q_kp q_ik q_wy q_ah q_tg q_ws q_fr q_rw mi vtt vnw vtr vot vdi vkp vik vwy vah vtg vws vfr vrw)) (w1 := (wModel Γ q_mo q_tt q_nw q_tr q_ot q_di q_kp q_ik q_wy q_ah q_tg q_ws q_fr q_rw mi_12 vtt vnw vtr_13 vot_14 vdi vkp vik vwy_15 vah_16 vtg_17 vws_18 vfr vrw)) (wa1 := (wBF Γ q_bf q_tx q_fl q_flT q_hi q_s1 q_s2 q_fd q_kc q_kr  ++ wFloor Γ q_fl q_k q_c q_a q_pa q_b q_pb vi vj vk vc va vpa vb vpb ++ wFloor Γ q_flT q_kT q_cT q_aT q_paT q_bT q_pbT viT_2 vjT_3 vkT_4 vcT_5 vaT_6 vpaT_7 vbT_8 vpbT_9 ++ wOut Γ q_ou vou ++ wModel Γ q_mo q_tt q_nw q_tr q_ot q_di q_kp q_ik q_wy q_ah q_tg q_ws q_fr q_rw mi_12 vtt vnw vtr_13 vot_14 vdi vkp vik vwy_15 vah_16 vtg_17 vws_18 vfr vrw)) hP hD hS hA [16, 17, 18, 19, 20, 21, 22, 23, 24, 25, 26, 27, 28, 29] rfl rfl rfl rfl (va_runV (As := []) (rest := [.int r_1]) ⟨hx, hb, hml, hown, hts⟩ (kX9_loopByWaiting l Γ q_mo q_tt q_nw q_tr q_ot q_di q_kp q_ik q_wy q_ah q_tg q_ws q_fr q_rw mi vtt vnw vtr vot vdi vkp vik vwy vah vtg vws vfr vrw r_11 mi_12 vtr_13 vot_14 vwy_15 vah_16 vtg_17 vws_18 hc_19 _) (cwV 0 hts gL_law_X9_loopByWaiting rfl rfl rfl (by decide +kernel) ⟨Nat.le_of_ble_eq_true rfl, Nat.le_of_ble_eq_true rfl⟩) (my_preV (wc := (wModel Γ q_mo q_tt q_nw q_tr q_ot q_di q_kp q_ik q_wy q_ah q_tg q_ws q_fr q_rw mi vtt vnw vtr vot vdi vkp vik vwy vah vtg vws vfr vrw)) (ci := 7) (q0 := 16) [16, 17, 18, 19, 20, 21, 22, 23, 24, 25, 26, 27, 28, 29] hK hP hD rfl rfl rfl rfl) rfl rfl hl.1 rfl (lv_room (Nat.le_of_ble_eq_true rfl)) dL_law_1891 ⟨hn, hk⟩) (fun H locs hP hD hS => ?_)
  refine lv_icmp_eq (tgt := 2260) hx hb dL_law_1894 (by decide) (fun c_20 => ?_) (fun c_20 => ?_)
  · replace hm := if_s hm c_20
    obtain ⟨hf0, hf1, hf2, hf3, hf4, hf5, hf6, hf7, hf8, hf9, hf10, hf11, hf12, hf13, hf14⟩ := si15 hm
    subst hf0
    subst hf1
    subst hf2
    subst hf3
    subst hf4
    subst hf5
    subst hf6
    subst hf7
    subst hf8
    subst hf9
    subst hf10
    subst hf11
    subst hf12
    subst hf13
    subst hf14
    exact kk _ _ _ hP hD hS (lv_sub hl [0, 1, 2, 3, 4] rfl)
  · replace hm := if_f hm c_20
    refine lv_iconst (v := (0 : Int32)) hx hb dL_law_1897 (by decide) ?_
    cases hm
def mLaw_loopByKeeping (vi : Nat → Int32) (vj : Nat → Int64) (vk : Nat → Int32) (vc : Nat → Int32) (va : Nat → Int32) (vpa : Nat → Int32) (vb : Nat → Int32) (vpb : Nat → Int32) (viT : Nat → Int32) (vjT : Nat → Int64) (vkT : Nat → Int32) (vcT : Nat → Int32) (vaT : Nat → Int32) (vpaT : Nat → Int32) (vbT : Nat → Int32) (vpbT : Nat → Int32) (vkc : Nat → Int64) (vkr : Nat → Int64) (mi : Nat → Int32) (vnw : Nat → Int32) (vtr : Nat → Int32) (vot : Nat → Int32) (vwy : Nat → Int32) (vah : Nat → Int32) (vtg : Nat → Int32) (vws : Nat → Int32) (xs : Nat → Int32) (i : Int32) : Option ((Nat → Int32) × (Nat → Int64) × (Nat → Int32) × (Nat → Int32) × (Nat → Int32) × (Nat → Int32) × (Nat → Int32) × (Nat → Int32) × (Nat → Int64) × (Nat → Int64) × (Nat → Int32) × (Nat → Int32) × (Nat → Int32) × (Nat → Int32) × (Nat → Int32) × (Nat → Int32) × (Nat → Int32)) := (bo11 (mX8_loopByKeeping vi vj vk vc va vpa vb vpb viT vjT vkT vcT vaT vpaT vbT vpbT vkc vkr) (fun r_1 viT_2 vjT_3 vkT_4 vcT_5 vaT_6 vpaT_7 vbT_8 vpbT_9 vkc_10 vkr_11 => (bo8 (mX9_loopByKeeping mi vnw vtr vot vwy vah vtg vws) (fun r_13 mi_14 vtr_15 vot_16 vwy_17 vah_18 vtg_19 vws_20 => (if r_1 = r_13 then (some (viT_2, vjT_3, vkT_4, vcT_5, vaT_6, vpaT_7, vbT_8, vpbT_9, vkc_10, vkr_11, mi_14, vtr_15, vot_16, vwy_17, vah_18, vtg_19, vws_20)) else none)))))
set_option maxHeartbeats 4000000 in
set_option maxRecDepth 100000 in
theorem kLaw_loopByKeeping (l : Launch) (Γ : my_G) (hfl : l.stackTraces = false) {p : Program} {e : Env} {s : State} {m : MethodId} {below : List Frame} {meth : Method} {c : Code} {b L : Nat} {xs : Nat → Int32} {Q : State → Prop} (hx : p.tables.exec = Jvm.exec) (hb : c.code = cL_law) (hml : c.maxLocals = 7) (hown : s.vm.findClass RL = some m.cls) (hts : ∀ w ∈ wsL_law, w.before #[Value.ref b] s = true) (hX : va_X b L xs s s.heap) (hbl : b < s.heap.size) (hK : my_K Γ s) (hZ : my_ZZ (fun q : Nat => s.heap.size ≤ q) s s.heap) (hstr : my_str s) (hnc : my_nc s) (q_bf q_fl q_k q_c q_a q_pa q_b q_pb q_flT q_kT q_cT q_aT q_paT q_bT q_pbT q_kc q_kr q_ou q_mo q_tt q_nw q_tr q_ot q_di q_kp q_ik q_wy q_ah q_tg q_ws q_fr q_rw q_tx q_hi q_s1 q_s2 q_fd : Nat) (vi : Nat → Int32) (vj : Nat → Int64) (vk : Nat → Int32) (vc : Nat → Int32) (va : Nat → Int32) (vpa : Nat → Int32) (vb : Nat → Int32) (vpb : Nat → Int32) (viT : Nat → Int32) (vjT : Nat → Int64) (vkT : Nat → Int32) (vcT : Nat → Int32) (vaT : Nat → Int32) (vpaT : Nat → Int32) (vbT : Nat → Int32) (vpbT : Nat → Int32) (vkc : Nat → Int64) (vkr : Nat → Int64) (vou : Nat → Int64) (mi : Nat → Int32) (vtt : Nat → Int32) (vnw : Nat → Int32) (vtr : Nat → Int32) (vot : Nat → Int32) (vdi : Nat → Int32) (vkp : Nat → Int32) (vik : Nat → Int32) (vwy : Nat → Int32) (vah : Nat → Int32) (vtg : Nat → Int32) (vws : Nat → Int32) (vfr : Nat → Int32) (vrw : Nat → Int32) (i : Int32) (hi1 : vp_in (i + (1 : Int32)) L) (hi2 : vp_in (i + (2 : Int32)) L) (hi3 : vp_in (i + (3 : Int32)) L) (viT_z : Nat → Int32) (vjT_z : Nat → Int64) (vkT_z : Nat → Int32) (vcT_z : Nat → Int32) (vaT_z : Nat → Int32) (vpaT_z : Nat → Int32) (vbT_z : Nat → Int32) (vpbT_z : Nat → Int32) (vkc_z : Nat → Int64) (vkr_z : Nat → Int64) (mi_z : Nat → Int32) (vtr_z : Nat → Int32) (vot_z : Nat → Int32) (vwy_z : Nat → Int32) (vah_z : Nat → Int32) (vtg_z : Nat → Int32) (vws_z : Nat → Int32) (hm : mLaw_loopByKeeping vi vj vk vc va vpa vb vpb viT vjT vkT vcT vaT vpaT vbT vpbT vkc vkr mi vnw vtr vot vwy vah vtg vws xs i = (some (viT_z, vjT_z, vkT_z, vcT_z, vaT_z, vpaT_z, vbT_z, vpbT_z, vkc_z, vkr_z, mi_z, vtr_z, vot_z, vwy_z, vah_z, vtg_z, vws_z))) (R_ : va_W) (nc ns : Nat) (hn : nc + 3 ≤ room_1.cells) (hk : ns + 18 ≤ room_1.slots) (H : Heap) (locs : List Loc) (ls : Array Slot) (hP : va_P (my_D Γ) vwCl ((wBF Γ q_bf q_tx q_fl q_flT q_hi q_s1 q_s2 q_fd q_kc q_kr  ++ wFloor Γ q_fl q_k q_c q_a q_pa q_b q_pb vi vj vk vc va vpa vb vpb ++ wFloor Γ q_flT q_kT q_cT q_aT q_paT q_bT q_pbT viT vjT vkT vcT vaT vpaT vbT vpbT ++ wKept Γ q_kc q_kr vkc vkr ++ wOut Γ q_ou vou ++ wModel Γ q_mo q_tt q_nw q_tr q_ot q_di q_kp q_ik q_wy q_ah q_tg q_ws q_fr q_rw mi vtt vnw vtr vot vdi vkp vik vwy vah vtg vws vfr vrw) ++ R_) H) (hD : va_D (fun q : Nat => s.heap.size ≤ q) ((wBF Γ q_bf q_tx q_fl q_flT q_hi q_s1 q_s2 q_fd q_kc q_kr  ++ wFloor Γ q_fl q_k q_c q_a q_pa q_b q_pb vi vj vk vc va vpa vb vpb ++ wFloor Γ q_flT q_kT q_cT q_aT q_paT q_bT q_pbT viT vjT vkT vcT vaT vpaT vbT vpbT ++ wKept Γ q_kc q_kr vkc vkr ++ wOut Γ q_ou vou ++ wModel Γ q_mo q_tt q_nw q_tr q_ot q_di q_kp q_ik q_wy q_ah q_tg q_ws q_fr q_rw mi vtt vnw vtr vot vdi vkp vik vwy vah vtg vws vfr vrw) ++ R_)) (hS : va_S (fun q : Nat => s.heap.size ≤ q) s.heap H locs) (hl : lv_has ls 7 [(0, .ref b), (1, .ref q_bf), (2, .ref q_mo), (3, .ref q_ou), (4, .int i)]) (kk : ∀ (H : Heap) (locs : List Loc) (ls : Array Slot), va_P (my_D Γ) vwCl ((wBF Γ q_bf q_tx q_fl q_flT q_hi q_s1 q_s2 q_fd q_kc q_kr  ++ wFloor Γ q_fl q_k q_c q_a q_pa q_b q_pb vi vj vk vc va vpa vb vpb ++ wFloor Γ q_flT q_kT q_cT q_aT q_paT q_bT q_pbT viT_z vjT_z vkT_z vcT_z vaT_z vpaT_z vbT_z vpbT_z ++ wKept Γ q_kc q_kr vkc_z vkr_z ++ wOut Γ q_ou vou ++ wModel Γ q_mo q_tt q_nw q_tr q_ot q_di q_kp q_ik q_wy q_ah q_tg q_ws q_fr q_rw mi_z vtt vnw vtr_z vot_z vdi vkp vik vwy_z vah_z vtg_z vws_z vfr vrw) ++ R_) H → va_D (fun q : Nat => s.heap.size ≤ q) ((wBF Γ q_bf q_tx q_fl q_flT q_hi q_s1 q_s2 q_fd q_kc q_kr  ++ wFloor Γ q_fl q_k q_c q_a q_pa q_b q_pb vi vj vk vc va vpa vb vpb ++ wFloor Γ q_flT q_kT q_cT q_aT q_paT q_bT q_pbT viT_z vjT_z vkT_z vcT_z vaT_z vpaT_z vbT_z vpbT_z ++ wKept Γ q_kc q_kr vkc_z vkr_z ++ wOut Γ q_ou vou ++ wModel Γ q_mo q_tt q_nw q_tr q_ot q_di q_kp q_ik q_wy q_ah q_tg q_ws q_fr q_rw mi_z vtt vnw vtr_z vot_z vdi vkp vik vwy_z vah_z vtg_z vws_z vfr vrw) ++ R_) → va_S (fun q : Nat => s.heap.size ≤ q) s.heap H locs → lv_has ls 7 [(0, .ref b), (1, .ref q_bf), (2, .ref q_mo), (3, .ref q_ou), (4, .int i)] → W p l e room_1 s m #[Value.ref b] below meth c H locs (nc + 3) (ns + 18) Q (F0 m 2260 ls [])) : W p l e room_1 s m #[Value.ref b] below meth c H locs nc ns Q (F0 m 1899 ls []) := by
  have hA : ∀ q : Nat, s.heap.size ≤ q → (fun q : Nat => s.heap.size ≤ q) q := fun _ h => h
  have hbA : ¬ (fun q : Nat => s.heap.size ≤ q) b := Nat.not_le.mpr hbl
  unfold mLaw_loopByKeeping at hm
  refine W.widen (k := nc + 3) (n := ns + 18) (Nat.le_add_right nc 3) (Nat.le_add_right ns 18) ?_
  refine lv_aload_n hx hb dL_law_1899 rfl (lv_at hl 1 rfl) ?_
  obtain ⟨r_1, viT_2, vjT_3, vkT_4, vcT_5, vaT_6, vpaT_7, vbT_8, vpbT_9, vkc_10, vkr_11, hc_12, hm⟩ := bo11_s hm
  refine my_callR1 (wc := (wBF Γ q_bf q_tx q_fl q_flT q_hi q_s1 q_s2 q_fd q_kc q_kr  ++ wFloor Γ q_fl q_k q_c q_a q_pa q_b q_pb vi vj vk vc va vpa vb vpb ++ wFloor Γ q_flT q_kT q_cT q_aT q_paT q_bT q_pbT viT vjT vkT vcT vaT vpaT vbT vpbT ++ wKept Γ q_kc q_kr vkc vkr)) (w1 := (wBF Γ q_bf q_tx q_fl q_flT q_hi q_s1 q_s2 q_fd q_kc q_kr  ++ wFloor Γ q_fl q_k q_c q_a q_pa q_b q_pb vi vj vk vc va vpa vb vpb ++ wFloor Γ q_flT q_kT q_cT q_aT q_paT q_bT q_pbT viT_2 vjT_3 vkT_4 vcT_5 vaT_6 vpaT_7 vbT_8 vpbT_9 ++ wKept Γ q_kc q_kr vkc_10 vkr_11)) (wa1 := (wBF Γ q_bf q_tx q_fl q_flT q_hi q_s1 q_s2 q_fd q_kc q_kr  ++ wFloor Γ q_fl q_k q_c q_a q_pa q_b q_pb vi vj vk vc va vpa vb vpb ++ wFloor Γ q_flT q_kT q_cT q_aT q_paT q_bT q_pbT viT_2 vjT_3 vkT_4 vcT_5 vaT_6 vpaT_7 vbT_8 vpbT_9 ++ wKept Γ q_kc q_kr vkc_10 vkr_11 ++ wOut Γ q_ou vou ++ wModel Γ q_mo q_tt q_nw q_tr q_ot q_di q_kp q_ik q_wy q_ah q_tg q_ws q_fr q_rw mi vtt vnw vtr vot vdi vkp vik vwy vah vtg vws vfr vrw)) hP hD hS hA [0, 1, 2, 3, 4, 5, 6, 7, 8, 9, 10, 11, 12, 13, 14, 15, 16] rfl rfl rfl rfl (va_runV (As := []) (rest := []) ⟨hx, hb, hml, hown, hts⟩ (kX8_loopByKeeping l Γ q_bf q_fl q_k q_c q_a q_pa q_b q_pb q_flT q_kT q_cT q_aT q_paT q_bT q_pbT q_kc q_kr q_tx q_hi q_s1 q_s2 q_fd vi vj vk vc va vpa vb vpb viT vjT vkT vcT vaT vpaT vbT vpbT vkc vkr r_1 viT_2 vjT_3 vkT_4 vcT_5 vaT_6 vpaT_7 vbT_8 vpbT_9 vkc_10 vkr_11 hc_12 _) (cwV 0 hts gL_law_X8_loopByKeeping rfl rfl rfl (by decide +kernel) ⟨Nat.le_of_ble_eq_true rfl, Nat.le_of_ble_eq_true rfl⟩) (my_preV (wc := (wBF Γ q_bf q_tx q_fl q_flT q_hi q_s1 q_s2 q_fd q_kc q_kr  ++ wFloor Γ q_fl q_k q_c q_a q_pa q_b q_pb vi vj vk vc va vpa vb vpb ++ wFloor Γ q_flT q_kT q_cT q_aT q_paT q_bT q_pbT viT vjT vkT vcT vaT vpaT vbT vpbT ++ wKept Γ q_kc q_kr vkc vkr)) (ci := 6) (q0 := 0) [0, 1, 2, 3, 4, 5, 6, 7, 8, 9, 10, 11, 12, 13, 14, 15, 16] hK hP hD rfl rfl rfl rfl) rfl rfl hl.1 rfl (lv_room (Nat.le_of_ble_eq_true rfl)) dL_law_1900 ⟨hn, hk⟩) (fun H locs hP hD hS => ?_)
  refine lv_aload_n hx hb dL_law_1903 rfl (lv_at hl 2 rfl) ?_
  obtain ⟨r_13, mi_14, vtr_15, vot_16, vwy_17, vah_18, vtg_19, vws_20, hc_21, hm⟩ := bo8_s hm
  refine my_callR1 (wc := (wModel Γ q_mo q_tt q_nw q_tr q_ot q_di q_kp q_ik q_wy q_ah q_tg q_ws q_fr q_rw mi vtt vnw vtr vot vdi vkp vik vwy vah vtg vws vfr vrw)) (w1 := (wModel Γ q_mo q_tt q_nw q_tr q_ot q_di q_kp q_ik q_wy q_ah q_tg q_ws q_fr q_rw mi_14 vtt vnw vtr_15 vot_16 vdi vkp vik vwy_17 vah_18 vtg_19 vws_20 vfr vrw)) (wa1 := (wBF Γ q_bf q_tx q_fl q_flT q_hi q_s1 q_s2 q_fd q_kc q_kr  ++ wFloor Γ q_fl q_k q_c q_a q_pa q_b q_pb vi vj vk vc va vpa vb vpb ++ wFloor Γ q_flT q_kT q_cT q_aT q_paT q_bT q_pbT viT_2 vjT_3 vkT_4 vcT_5 vaT_6 vpaT_7 vbT_8 vpbT_9 ++ wKept Γ q_kc q_kr vkc_10 vkr_11 ++ wOut Γ q_ou vou ++ wModel Γ q_mo q_tt q_nw q_tr q_ot q_di q_kp q_ik q_wy q_ah q_tg q_ws q_fr q_rw mi_14 vtt vnw vtr_15 vot_16 vdi vkp vik vwy_17 vah_18 vtg_19 vws_20 vfr vrw)) hP hD hS hA [18, 19, 20, 21, 22, 23, 24, 25, 26, 27, 28, 29, 30, 31] rfl rfl rfl rfl (va_runV (As := []) (rest := [.int r_1]) ⟨hx, hb, hml, hown, hts⟩ (kX9_loopByKeeping l Γ q_mo q_tt q_nw q_tr q_ot q_di q_kp q_ik q_wy q_ah q_tg q_ws q_fr q_rw mi vtt vnw vtr vot vdi vkp vik vwy vah vtg vws vfr vrw r_13 mi_14 vtr_15 vot_16 vwy_17 vah_18 vtg_19 vws_20 hc_21 _) (cwV 0 hts gL_law_X9_loopByKeeping rfl rfl rfl (by decide +kernel) ⟨Nat.le_of_ble_eq_true rfl, Nat.le_of_ble_eq_true rfl⟩) (my_preV (wc := (wModel Γ q_mo q_tt q_nw q_tr q_ot q_di q_kp q_ik q_wy q_ah q_tg q_ws q_fr q_rw mi vtt vnw vtr vot vdi vkp vik vwy vah vtg vws vfr vrw)) (ci := 7) (q0 := 18) [18, 19, 20, 21, 22, 23, 24, 25, 26, 27, 28, 29, 30, 31] hK hP hD rfl rfl rfl rfl) rfl rfl hl.1 rfl (lv_room (Nat.le_of_ble_eq_true rfl)) dL_law_1904 ⟨hn, hk⟩) (fun H locs hP hD hS => ?_)
  refine lv_icmp_eq (tgt := 2260) hx hb dL_law_1907 (by decide) (fun c_22 => ?_) (fun c_22 => ?_)
  · replace hm := if_s hm c_22
    obtain ⟨hf0, hf1, hf2, hf3, hf4, hf5, hf6, hf7, hf8, hf9, hf10, hf11, hf12, hf13, hf14, hf15, hf16⟩ := si17 hm
    subst hf0
    subst hf1
    subst hf2
    subst hf3
    subst hf4
    subst hf5
    subst hf6
    subst hf7
    subst hf8
    subst hf9
    subst hf10
    subst hf11
    subst hf12
    subst hf13
    subst hf14
    subst hf15
    subst hf16
    exact kk _ _ _ hP hD hS (lv_sub hl [0, 1, 2, 3, 4] rfl)
  · replace hm := if_f hm c_22
    refine lv_iconst (v := (0 : Int32)) hx hb dL_law_1910 (by decide) ?_
    cases hm
def mLaw_fewestBySpreading (vk : Nat → Int32) (va : Nat → Int32) (vb : Nat → Int32) (ds : Nat → Int32) (rc : Nat → Int32) (vou : Nat → Int64) (mi : Nat → Int32) (vnw : Nat → Int32) (vfr : Nat → Int32) (vrw : Nat → Int32) (xs : Nat → Int32) (i : Int32) : Option ((Nat → Int32) × (Nat → Int32) × (Nat → Int64) × (Nat → Int32) × (Nat → Int32) × (Nat → Int32)) := (bo4 (mL_fewestBySpreading vk va vb ds rc vou (xs (i + (1 : Int32)).toNatClampNeg) (xs (i + (2 : Int32)).toNatClampNeg)) (fun r_1 ds_2 rc_3 vou_4 => (bo4 (mX9_fewestBySpreading mi vnw vfr vrw (xs (i + (1 : Int32)).toNatClampNeg) (xs (i + (2 : Int32)).toNatClampNeg)) (fun r_6 mi_7 vfr_8 vrw_9 => (if (mX9_thrown mi_7) = r_1 then (if r_1 = 0 then (if (lg_cmp (vou_4 (0 : Int32).toNatClampNeg) (r_6.toInt64)) = 0 then (some (ds_2, rc_3, vou_4, mi_7, vfr_8, vrw_9)) else none) else (some (ds_2, rc_3, vou_4, mi_7, vfr_8, vrw_9))) else none)))))
set_option maxHeartbeats 4000000 in
set_option maxRecDepth 100000 in
theorem kLaw_fewestBySpreading (l : Launch) (Γ : my_G) (hfl : l.stackTraces = false) {p : Program} {e : Env} {s : State} {m : MethodId} {below : List Frame} {meth : Method} {c : Code} {b L : Nat} {xs : Nat → Int32} {Q : State → Prop} (hx : p.tables.exec = Jvm.exec) (hb : c.code = cL_law) (hml : c.maxLocals = 7) (hown : s.vm.findClass RL = some m.cls) (hts : ∀ w ∈ wsL_law, w.before #[Value.ref b] s = true) (hX : va_X b L xs s s.heap) (hbl : b < s.heap.size) (hK : my_K Γ s) (hZ : my_ZZ (fun q : Nat => s.heap.size ≤ q) s s.heap) (hstr : my_str s) (hnc : my_nc s) (q_bf q_fl q_k q_c q_a q_pa q_b q_pb q_fd q_ds q_rc q_ou q_mo q_tt q_nw q_tr q_ot q_di q_kp q_ik q_wy q_ah q_tg q_ws q_fr q_rw q_tx q_flT q_hi q_s1 q_s2 q_kc q_kr : Nat) (vi : Nat → Int32) (vj : Nat → Int64) (vk : Nat → Int32) (vc : Nat → Int32) (va : Nat → Int32) (vpa : Nat → Int32) (vb : Nat → Int32) (vpb : Nat → Int32) (ds : Nat → Int32) (rc : Nat → Int32) (vou : Nat → Int64) (mi : Nat → Int32) (vtt : Nat → Int32) (vnw : Nat → Int32) (vtr : Nat → Int32) (vot : Nat → Int32) (vdi : Nat → Int32) (vkp : Nat → Int32) (vik : Nat → Int32) (vwy : Nat → Int32) (vah : Nat → Int32) (vtg : Nat → Int32) (vws : Nat → Int32) (vfr : Nat → Int32) (vrw : Nat → Int32) (i : Int32) (hi1 : vp_in (i + (1 : Int32)) L) (hi2 : vp_in (i + (2 : Int32)) L) (hi3 : vp_in (i + (3 : Int32)) L) (ds_z : Nat → Int32) (rc_z : Nat → Int32) (vou_z : Nat → Int64) (mi_z : Nat → Int32) (vfr_z : Nat → Int32) (vrw_z : Nat → Int32) (hm : mLaw_fewestBySpreading vk va vb ds rc vou mi vnw vfr vrw xs i = (some (ds_z, rc_z, vou_z, mi_z, vfr_z, vrw_z))) (R_ : va_W) (nc ns : Nat) (hn : nc + 3 ≤ room_1.cells) (hk : ns + 18 ≤ room_1.slots) (H : Heap) (locs : List Loc) (ls : Array Slot) (hP : va_P (my_D Γ) vwCl ((wBF Γ q_bf q_tx q_fl q_flT q_hi q_s1 q_s2 q_fd q_kc q_kr  ++ wFloor Γ q_fl q_k q_c q_a q_pa q_b q_pb vi vj vk vc va vpa vb vpb ++ wFinder Γ q_fd q_ds q_rc ds rc ++ wOut Γ q_ou vou ++ wModel Γ q_mo q_tt q_nw q_tr q_ot q_di q_kp q_ik q_wy q_ah q_tg q_ws q_fr q_rw mi vtt vnw vtr vot vdi vkp vik vwy vah vtg vws vfr vrw) ++ R_) H) (hD : va_D (fun q : Nat => s.heap.size ≤ q) ((wBF Γ q_bf q_tx q_fl q_flT q_hi q_s1 q_s2 q_fd q_kc q_kr  ++ wFloor Γ q_fl q_k q_c q_a q_pa q_b q_pb vi vj vk vc va vpa vb vpb ++ wFinder Γ q_fd q_ds q_rc ds rc ++ wOut Γ q_ou vou ++ wModel Γ q_mo q_tt q_nw q_tr q_ot q_di q_kp q_ik q_wy q_ah q_tg q_ws q_fr q_rw mi vtt vnw vtr vot vdi vkp vik vwy vah vtg vws vfr vrw) ++ R_)) (hS : va_S (fun q : Nat => s.heap.size ≤ q) s.heap H locs) (hl : lv_has ls 7 [(0, .ref b), (1, .ref q_bf), (2, .ref q_mo), (3, .ref q_ou), (4, .int i)]) (kk : ∀ (H : Heap) (locs : List Loc) (ls : Array Slot), va_P (my_D Γ) vwCl ((wBF Γ q_bf q_tx q_fl q_flT q_hi q_s1 q_s2 q_fd q_kc q_kr  ++ wFloor Γ q_fl q_k q_c q_a q_pa q_b q_pb vi vj vk vc va vpa vb vpb ++ wFinder Γ q_fd q_ds q_rc ds_z rc_z ++ wOut Γ q_ou vou_z ++ wModel Γ q_mo q_tt q_nw q_tr q_ot q_di q_kp q_ik q_wy q_ah q_tg q_ws q_fr q_rw mi_z vtt vnw vtr vot vdi vkp vik vwy vah vtg vws vfr_z vrw_z) ++ R_) H → va_D (fun q : Nat => s.heap.size ≤ q) ((wBF Γ q_bf q_tx q_fl q_flT q_hi q_s1 q_s2 q_fd q_kc q_kr  ++ wFloor Γ q_fl q_k q_c q_a q_pa q_b q_pb vi vj vk vc va vpa vb vpb ++ wFinder Γ q_fd q_ds q_rc ds_z rc_z ++ wOut Γ q_ou vou_z ++ wModel Γ q_mo q_tt q_nw q_tr q_ot q_di q_kp q_ik q_wy q_ah q_tg q_ws q_fr q_rw mi_z vtt vnw vtr vot vdi vkp vik vwy vah vtg vws vfr_z vrw_z) ++ R_) → va_S (fun q : Nat => s.heap.size ≤ q) s.heap H locs → lv_has ls 7 [(0, .ref b), (1, .ref q_bf), (2, .ref q_mo), (3, .ref q_ou), (4, .int i)] → W p l e room_1 s m #[Value.ref b] below meth c H locs (nc + 3) (ns + 18) Q (F0 m 2260 ls [])) : W p l e room_1 s m #[Value.ref b] below meth c H locs nc ns Q (F0 m 1912 ls []) := by
  have hA : ∀ q : Nat, s.heap.size ≤ q → (fun q : Nat => s.heap.size ≤ q) q := fun _ h => h
  have hbA : ¬ (fun q : Nat => s.heap.size ≤ q) b := Nat.not_le.mpr hbl
  unfold mLaw_fewestBySpreading at hm
  refine lv_aload_n hx hb dL_law_1912 rfl (lv_at hl 1 rfl) ?_
  refine lv_aload_n hx hb dL_law_1913 rfl (lv_at hl 0 rfl) ?_
  refine lv_iload hx hb dL_law_1914 (lv_at hl 4 rfl) ?_
  refine lv_iconst (v := (1 : Int32)) hx hb dL_law_1916 (by decide) ?_
  refine lv_iadd hx hb dL_law_1917 ?_
  refine va_sld hx hb hX hbl hbA hS hi1 dL_law_1918 ?_
  refine lv_aload_n hx hb dL_law_1919 rfl (lv_at hl 0 rfl) ?_
  refine lv_iload hx hb dL_law_1920 (lv_at hl 4 rfl) ?_
  refine lv_iconst (v := (2 : Int32)) hx hb dL_law_1922 (by decide) ?_
  refine lv_iadd hx hb dL_law_1923 ?_
  refine va_sld hx hb hX hbl hbA hS hi2 dL_law_1924 ?_
  refine lv_aload_n hx hb dL_law_1925 rfl (lv_at hl 3 rfl) ?_
  obtain ⟨r_1, ds_2, rc_3, vou_4, hc_5, hm⟩ := bo4_s hm
  refine my_callRW1 (wc := (wBF Γ q_bf q_tx q_fl q_flT q_hi q_s1 q_s2 q_fd q_kc q_kr  ++ wFloor Γ q_fl q_k q_c q_a q_pa q_b q_pb vi vj vk vc va vpa vb vpb ++ wFinder Γ q_fd q_ds q_rc ds rc ++ wOut Γ q_ou vou)) (w1 := (wBF Γ q_bf q_tx q_fl q_flT q_hi q_s1 q_s2 q_fd q_kc q_kr  ++ wFloor Γ q_fl q_k q_c q_a q_pa q_b q_pb vi vj vk vc va vpa vb vpb ++ wFinder Γ q_fd q_ds q_rc ds_2 rc_3 ++ wOut Γ q_ou vou_4)) (wa1 := (wBF Γ q_bf q_tx q_fl q_flT q_hi q_s1 q_s2 q_fd q_kc q_kr  ++ wFloor Γ q_fl q_k q_c q_a q_pa q_b q_pb vi vj vk vc va vpa vb vpb ++ wFinder Γ q_fd q_ds q_rc ds_2 rc_3 ++ wOut Γ q_ou vou_4 ++ wModel Γ q_mo q_tt q_nw q_tr q_ot q_di q_kp q_ik q_wy q_ah q_tg q_ws q_fr q_rw mi vtt vnw vtr vot vdi vkp vik vwy vah vtg vws vfr vrw)) hP hD hS hA [0, 1, 2, 3, 4, 5, 6, 7, 8, 9, 10, 11] rfl rfl rfl rfl (vx_runSW (As := [.ref q_bf, .int (xs (i + (1 : Int32)).toNatClampNeg), .int (xs (i + (2 : Int32)).toNatClampNeg), .ref q_ou]) (rest := []) ⟨hx, hb, hml, hown, hts⟩ (kL_fewestBySpreading l Γ hfl q_bf q_fl q_k q_c q_a q_pa q_b q_pb q_fd q_ds q_rc q_ou q_tx q_flT q_hi q_s1 q_s2 q_kc q_kr vi vj vk vc va vpa vb vpb ds rc vou (xs (i + (1 : Int32)).toNatClampNeg) (xs (i + (2 : Int32)).toNatClampNeg) r_1 ds_2 rc_3 vou_4 hc_5 _) (vx_cwSW 4 hts gL_law_L_fewestBySpreading rfl rfl rfl (by decide +kernel) ⟨Nat.le_of_ble_eq_true rfl, Nat.le_of_ble_eq_true rfl⟩) (my_preSW (wc := (wBF Γ q_bf q_tx q_fl q_flT q_hi q_s1 q_s2 q_fd q_kc q_kr  ++ wFloor Γ q_fl q_k q_c q_a q_pa q_b q_pb vi vj vk vc va vpa vb vpb ++ wFinder Γ q_fd q_ds q_rc ds rc ++ wOut Γ q_ou vou)) [0, 1, 2, 3, 4, 5, 6, 7, 8, 9, 10, 11] hK hP hD hS hA hZ hstr hnc rfl rfl) rfl rfl hl.1 rfl (lv_room (Nat.le_of_ble_eq_true rfl)) dL_law_1926 ⟨Nat.le_trans (Nat.add_le_add_left (Nat.le_of_ble_eq_true rfl) nc) hn, Nat.le_trans (Nat.add_le_add_left (Nat.le_of_ble_eq_true rfl) ns) hk⟩) (fun H locs hP hD hS => ?_)
  refine W.widen (k := nc + 3) (n := ns + 18) (Nat.add_le_add_left (Nat.le_of_ble_eq_true rfl) nc) (Nat.add_le_add_left (Nat.le_of_ble_eq_true rfl) ns) ?_
  refine lv_istore (lv' := [(5, .int r_1), (0, .ref b), (1, .ref q_bf), (2, .ref q_mo), (3, .ref q_ou), (4, .int i)]) hx hb dL_law_1929 hl (by decide) rfl (fun ls hl => ?_)
  refine lv_aload_n hx hb dL_law_1931 rfl (lv_at hl 3 rfl) ?_
  refine lv_aload_n hx hb dL_law_1932 rfl (lv_at hl 1 rfl) ?_
  refine lv_iload hx hb dL_law_1933 (lv_at hl 5 rfl) ?_
  refine lv_iconst (v := (1 : Int32)) hx hb dL_law_1935 (by decide) ?_
  refine lv_iadd hx hb dL_law_1936 ?_
  refine va_sld hx hb hX hbl hbA hS hi1 dL_law_1937 ?_
  refine lv_aload_n hx hb dL_law_1938 rfl (lv_at hl 1 rfl) ?_
  refine lv_iload hx hb dL_law_1939 (lv_at hl 5 rfl) ?_
  refine lv_iconst (v := (2 : Int32)) hx hb dL_law_1941 (by decide) ?_
  refine lv_iadd hx hb dL_law_1942 ?_
  refine va_sld hx hb hX hbl hbA hS hi2 dL_law_1943 ?_
  obtain ⟨r_6, mi_7, vfr_8, vrw_9, hc_10, hm⟩ := bo4_s hm
  refine my_callR1 (wc := (wModel Γ q_mo q_tt q_nw q_tr q_ot q_di q_kp q_ik q_wy q_ah q_tg q_ws q_fr q_rw mi vtt vnw vtr vot vdi vkp vik vwy vah vtg vws vfr vrw)) (w1 := (wModel Γ q_mo q_tt q_nw q_tr q_ot q_di q_kp q_ik q_wy q_ah q_tg q_ws q_fr q_rw mi_7 vtt vnw vtr vot vdi vkp vik vwy vah vtg vws vfr_8 vrw_9)) (wa1 := (wBF Γ q_bf q_tx q_fl q_flT q_hi q_s1 q_s2 q_fd q_kc q_kr  ++ wFloor Γ q_fl q_k q_c q_a q_pa q_b q_pb vi vj vk vc va vpa vb vpb ++ wFinder Γ q_fd q_ds q_rc ds_2 rc_3 ++ wOut Γ q_ou vou_4 ++ wModel Γ q_mo q_tt q_nw q_tr q_ot q_di q_kp q_ik q_wy q_ah q_tg q_ws q_fr q_rw mi_7 vtt vnw vtr vot vdi vkp vik vwy vah vtg vws vfr_8 vrw_9)) hP hD hS hA [12, 13, 14, 15, 16, 17, 18, 19, 20, 21, 22, 23, 24, 25] rfl rfl rfl rfl (va_runV (As := [.int (xs (i + (1 : Int32)).toNatClampNeg), .int (xs (i + (2 : Int32)).toNatClampNeg)]) (rest := []) ⟨hx, hb, hml, hown, hts⟩ (kX9_fewestBySpreading l Γ q_mo q_tt q_nw q_tr q_ot q_di q_kp q_ik q_wy q_ah q_tg q_ws q_fr q_rw mi vtt vnw vtr vot vdi vkp vik vwy vah vtg vws vfr vrw (xs (i + (1 : Int32)).toNatClampNeg) (xs (i + (2 : Int32)).toNatClampNeg) r_6 mi_7 vfr_8 vrw_9 hc_10 _) (cwV 2 hts gL_law_X9_fewestBySpreading rfl rfl rfl (by decide +kernel) ⟨Nat.le_of_ble_eq_true rfl, Nat.le_of_ble_eq_true rfl⟩) (my_preV (wc := (wModel Γ q_mo q_tt q_nw q_tr q_ot q_di q_kp q_ik q_wy q_ah q_tg q_ws q_fr q_rw mi vtt vnw vtr vot vdi vkp vik vwy vah vtg vws vfr vrw)) (ci := 7) (q0 := 12) [12, 13, 14, 15, 16, 17, 18, 19, 20, 21, 22, 23, 24, 25] hK hP hD rfl rfl rfl rfl) rfl rfl hl.1 rfl (lv_room (Nat.le_of_ble_eq_true rfl)) dL_law_1944 ⟨hn, hk⟩) (fun H locs hP hD hS => ?_)
  refine lv_istore (lv' := [(6, .int r_6), (5, .int r_1), (0, .ref b), (1, .ref q_bf), (2, .ref q_mo), (3, .ref q_ou), (4, .int i)]) hx hb dL_law_1947 hl (by decide) rfl (fun ls hl => ?_)
  refine lv_aload_n hx hb dL_law_1949 rfl (lv_at hl 4 rfl) ?_
  refine my_callR1 (wc := (wMo Γ q_mo q_tt q_nw q_tr q_ot q_di q_kp q_ik q_wy q_ah q_tg q_ws q_fr q_rw mi_7)) (w1 := (wMo Γ q_mo q_tt q_nw q_tr q_ot q_di q_kp q_ik q_wy q_ah q_tg q_ws q_fr q_rw mi_7)) (wa1 := (wBF Γ q_bf q_tx q_fl q_flT q_hi q_s1 q_s2 q_fd q_kc q_kr  ++ wFloor Γ q_fl q_k q_c q_a q_pa q_b q_pb vi vj vk vc va vpa vb vpb ++ wFinder Γ q_fd q_ds q_rc ds_2 rc_3 ++ wOut Γ q_ou vou_4 ++ wModel Γ q_mo q_tt q_nw q_tr q_ot q_di q_kp q_ik q_wy q_ah q_tg q_ws q_fr q_rw mi_7 vtt vnw vtr vot vdi vkp vik vwy vah vtg vws vfr_8 vrw_9)) hP hD hS hA [12] rfl rfl rfl rfl (va_runV (As := []) (rest := []) ⟨hx, hb, hml, hown, hts⟩ (kX9_thrown l Γ q_mo q_tt q_nw q_tr q_ot q_di q_kp q_ik q_wy q_ah q_tg q_ws q_fr q_rw mi_7 (mX9_thrown mi_7) rfl _) (cwV 0 hts gL_law_X9_thrown rfl rfl rfl (by decide +kernel) ⟨Nat.le_of_ble_eq_true rfl, Nat.le_of_ble_eq_true rfl⟩) (my_preV (wc := (wMo Γ q_mo q_tt q_nw q_tr q_ot q_di q_kp q_ik q_wy q_ah q_tg q_ws q_fr q_rw mi_7)) (ci := 7) (q0 := 12) [12] hK hP hD rfl rfl rfl rfl) rfl rfl hl.1 rfl (lv_room (Nat.le_of_ble_eq_true rfl)) dL_law_1950 ⟨hn, hk⟩) (fun H locs hP hD hS => ?_)
  refine lv_iload hx hb dL_law_1953 (lv_at hl 1 rfl) ?_
  refine lv_icmp_eq (tgt := 1960) hx hb dL_law_1955 (by decide) (fun c_11 => ?_) (fun c_11 => ?_)
  · replace hm := if_s hm c_11
    refine lv_iload hx hb dL_law_1960 (lv_at hl 1 rfl) ?_
    refine lv_if_ne (tgt := 1977) hx hb dL_law_1962 (by decide) (fun c_12 => ?_) (fun c_12 => ?_)
    · replace hm := if_f hm c_12
      refine lv_goto (tgt := 2260) hx hb dL_law_1977 (by decide) ?_
      obtain ⟨hf0, hf1, hf2, hf3, hf4, hf5⟩ := si6 hm
      subst hf0
      subst hf1
      subst hf2
      subst hf3
      subst hf4
      subst hf5
      exact kk _ _ _ hP hD hS (lv_sub hl [2, 3, 4, 5, 6] rfl)
    · replace hm := if_s hm c_12
      refine lv_aload_n hx hb dL_law_1965 rfl (lv_at hl 5 rfl) ?_
      refine lv_iconst (v := (0 : Int32)) hx hb dL_law_1966 (by decide) ?_
      refine va_lald hx hb hK hP 11 1 rfl rfl (show vp_in (0 : Int32) 1 from (by decide : ¬ ((0 : Int32) < 0 ∨ 1 ≤ (0 : Int32).toNatClampNeg))) dL_law_1967 ?_
      refine lv_iload hx hb dL_law_1968 (lv_at hl 0 rfl) ?_
      refine lv_i2l (v := r_6.toInt64) hx hb dL_law_1970 rfl ?_
      refine W.lcmp hx hb dL_law_1971 ?_
      refine lv_if_eq (tgt := 1977) hx hb dL_law_1972 (by decide) (fun c_13 => ?_) (fun c_13 => ?_)
      · replace hm := if_s hm c_13
        refine lv_goto (tgt := 2260) hx hb dL_law_1977 (by decide) ?_
        obtain ⟨hf0, hf1, hf2, hf3, hf4, hf5⟩ := si6 hm
        subst hf0
        subst hf1
        subst hf2
        subst hf3
        subst hf4
        subst hf5
        exact kk _ _ _ hP hD hS (lv_sub hl [2, 3, 4, 5, 6] rfl)
      · replace hm := if_f hm c_13
        refine lv_iconst (v := (0 : Int32)) hx hb dL_law_1975 (by decide) ?_
        cases hm
  · replace hm := if_f hm c_11
    refine lv_iconst (v := (0 : Int32)) hx hb dL_law_1958 (by decide) ?_
    cases hm
def mLaw_fewestBySweeping (vk : Nat → Int32) (va : Nat → Int32) (vb : Nat → Int32) (ds : Nat → Int32) (vou : Nat → Int64) (mi : Nat → Int32) (vnw : Nat → Int32) (vfr : Nat → Int32) (vrw : Nat → Int32) (xs : Nat → Int32) (i : Int32) : Option ((Nat → Int32) × (Nat → Int64) × (Nat → Int32) × (Nat → Int32) × (Nat → Int32)) := (bo3 (mL_fewestBySweeping vk va vb ds vou (xs (i + (1 : Int32)).toNatClampNeg) (xs (i + (2 : Int32)).toNatClampNeg)) (fun r_1 ds_2 vou_3 => (bo4 (mX9_fewestBySweeping mi vnw vfr vrw (xs (i + (1 : Int32)).toNatClampNeg) (xs (i + (2 : Int32)).toNatClampNeg)) (fun r_5 mi_6 vfr_7 vrw_8 => (if (mX9_thrown mi_6) = r_1 then (if r_1 = 0 then (if (lg_cmp (vou_3 (0 : Int32).toNatClampNeg) (r_5.toInt64)) = 0 then (some (ds_2, vou_3, mi_6, vfr_7, vrw_8)) else none) else (some (ds_2, vou_3, mi_6, vfr_7, vrw_8))) else none)))))
set_option maxHeartbeats 4000000 in
set_option maxRecDepth 100000 in
theorem kLaw_fewestBySweeping (l : Launch) (Γ : my_G) (hfl : l.stackTraces = false) {p : Program} {e : Env} {s : State} {m : MethodId} {below : List Frame} {meth : Method} {c : Code} {b L : Nat} {xs : Nat → Int32} {Q : State → Prop} (hx : p.tables.exec = Jvm.exec) (hb : c.code = cL_law) (hml : c.maxLocals = 7) (hown : s.vm.findClass RL = some m.cls) (hts : ∀ w ∈ wsL_law, w.before #[Value.ref b] s = true) (hX : va_X b L xs s s.heap) (hbl : b < s.heap.size) (hK : my_K Γ s) (hZ : my_ZZ (fun q : Nat => s.heap.size ≤ q) s s.heap) (hstr : my_str s) (hnc : my_nc s) (q_bf q_fl q_k q_c q_a q_pa q_b q_pb q_fd q_ds q_rc q_ou q_mo q_tt q_nw q_tr q_ot q_di q_kp q_ik q_wy q_ah q_tg q_ws q_fr q_rw q_tx q_flT q_hi q_s1 q_s2 q_kc q_kr : Nat) (vi : Nat → Int32) (vj : Nat → Int64) (vk : Nat → Int32) (vc : Nat → Int32) (va : Nat → Int32) (vpa : Nat → Int32) (vb : Nat → Int32) (vpb : Nat → Int32) (ds : Nat → Int32) (rc : Nat → Int32) (vou : Nat → Int64) (mi : Nat → Int32) (vtt : Nat → Int32) (vnw : Nat → Int32) (vtr : Nat → Int32) (vot : Nat → Int32) (vdi : Nat → Int32) (vkp : Nat → Int32) (vik : Nat → Int32) (vwy : Nat → Int32) (vah : Nat → Int32) (vtg : Nat → Int32) (vws : Nat → Int32) (vfr : Nat → Int32) (vrw : Nat → Int32) (i : Int32) (hi1 : vp_in (i + (1 : Int32)) L) (hi2 : vp_in (i + (2 : Int32)) L) (hi3 : vp_in (i + (3 : Int32)) L) (ds_z : Nat → Int32) (vou_z : Nat → Int64) (mi_z : Nat → Int32) (vfr_z : Nat → Int32) (vrw_z : Nat → Int32) (hm : mLaw_fewestBySweeping vk va vb ds vou mi vnw vfr vrw xs i = (some (ds_z, vou_z, mi_z, vfr_z, vrw_z))) (R_ : va_W) (nc ns : Nat) (hn : nc + 3 ≤ room_1.cells) (hk : ns + 18 ≤ room_1.slots) (H : Heap) (locs : List Loc) (ls : Array Slot) (hP : va_P (my_D Γ) vwCl ((wBF Γ q_bf q_tx q_fl q_flT q_hi q_s1 q_s2 q_fd q_kc q_kr  ++ wFloor Γ q_fl q_k q_c q_a q_pa q_b q_pb vi vj vk vc va vpa vb vpb ++ wFinder Γ q_fd q_ds q_rc ds rc ++ wOut Γ q_ou vou ++ wModel Γ q_mo q_tt q_nw q_tr q_ot q_di q_kp q_ik q_wy q_ah q_tg q_ws q_fr q_rw mi vtt vnw vtr vot vdi vkp vik vwy vah vtg vws vfr vrw) ++ R_) H) (hD : va_D (fun q : Nat => s.heap.size ≤ q) ((wBF Γ q_bf q_tx q_fl q_flT q_hi q_s1 q_s2 q_fd q_kc q_kr  ++ wFloor Γ q_fl q_k q_c q_a q_pa q_b q_pb vi vj vk vc va vpa vb vpb ++ wFinder Γ q_fd q_ds q_rc ds rc ++ wOut Γ q_ou vou ++ wModel Γ q_mo q_tt q_nw q_tr q_ot q_di q_kp q_ik q_wy q_ah q_tg q_ws q_fr q_rw mi vtt vnw vtr vot vdi vkp vik vwy vah vtg vws vfr vrw) ++ R_)) (hS : va_S (fun q : Nat => s.heap.size ≤ q) s.heap H locs) (hl : lv_has ls 7 [(0, .ref b), (1, .ref q_bf), (2, .ref q_mo), (3, .ref q_ou), (4, .int i)]) (kk : ∀ (H : Heap) (locs : List Loc) (ls : Array Slot), va_P (my_D Γ) vwCl ((wBF Γ q_bf q_tx q_fl q_flT q_hi q_s1 q_s2 q_fd q_kc q_kr  ++ wFloor Γ q_fl q_k q_c q_a q_pa q_b q_pb vi vj vk vc va vpa vb vpb ++ wFinder Γ q_fd q_ds q_rc ds_z rc ++ wOut Γ q_ou vou_z ++ wModel Γ q_mo q_tt q_nw q_tr q_ot q_di q_kp q_ik q_wy q_ah q_tg q_ws q_fr q_rw mi_z vtt vnw vtr vot vdi vkp vik vwy vah vtg vws vfr_z vrw_z) ++ R_) H → va_D (fun q : Nat => s.heap.size ≤ q) ((wBF Γ q_bf q_tx q_fl q_flT q_hi q_s1 q_s2 q_fd q_kc q_kr  ++ wFloor Γ q_fl q_k q_c q_a q_pa q_b q_pb vi vj vk vc va vpa vb vpb ++ wFinder Γ q_fd q_ds q_rc ds_z rc ++ wOut Γ q_ou vou_z ++ wModel Γ q_mo q_tt q_nw q_tr q_ot q_di q_kp q_ik q_wy q_ah q_tg q_ws q_fr q_rw mi_z vtt vnw vtr vot vdi vkp vik vwy vah vtg vws vfr_z vrw_z) ++ R_) → va_S (fun q : Nat => s.heap.size ≤ q) s.heap H locs → lv_has ls 7 [(0, .ref b), (1, .ref q_bf), (2, .ref q_mo), (3, .ref q_ou), (4, .int i)] → W p l e room_1 s m #[Value.ref b] below meth c H locs (nc + 3) (ns + 18) Q (F0 m 2260 ls [])) : W p l e room_1 s m #[Value.ref b] below meth c H locs nc ns Q (F0 m 1980 ls []) := by
  have hA : ∀ q : Nat, s.heap.size ≤ q → (fun q : Nat => s.heap.size ≤ q) q := fun _ h => h
  have hbA : ¬ (fun q : Nat => s.heap.size ≤ q) b := Nat.not_le.mpr hbl
  unfold mLaw_fewestBySweeping at hm
  refine lv_aload_n hx hb dL_law_1980 rfl (lv_at hl 1 rfl) ?_
  refine lv_aload_n hx hb dL_law_1981 rfl (lv_at hl 0 rfl) ?_
  refine lv_iload hx hb dL_law_1982 (lv_at hl 4 rfl) ?_
  refine lv_iconst (v := (1 : Int32)) hx hb dL_law_1984 (by decide) ?_
  refine lv_iadd hx hb dL_law_1985 ?_
  refine va_sld hx hb hX hbl hbA hS hi1 dL_law_1986 ?_
  refine lv_aload_n hx hb dL_law_1987 rfl (lv_at hl 0 rfl) ?_
  refine lv_iload hx hb dL_law_1988 (lv_at hl 4 rfl) ?_
  refine lv_iconst (v := (2 : Int32)) hx hb dL_law_1990 (by decide) ?_
  refine lv_iadd hx hb dL_law_1991 ?_
  refine va_sld hx hb hX hbl hbA hS hi2 dL_law_1992 ?_
  refine lv_aload_n hx hb dL_law_1993 rfl (lv_at hl 3 rfl) ?_
  obtain ⟨r_1, ds_2, vou_3, hc_4, hm⟩ := bo3_s hm
  refine my_callRW1 (wc := (wBF Γ q_bf q_tx q_fl q_flT q_hi q_s1 q_s2 q_fd q_kc q_kr  ++ wFloor Γ q_fl q_k q_c q_a q_pa q_b q_pb vi vj vk vc va vpa vb vpb ++ wFinder Γ q_fd q_ds q_rc ds rc ++ wOut Γ q_ou vou)) (w1 := (wBF Γ q_bf q_tx q_fl q_flT q_hi q_s1 q_s2 q_fd q_kc q_kr  ++ wFloor Γ q_fl q_k q_c q_a q_pa q_b q_pb vi vj vk vc va vpa vb vpb ++ wFinder Γ q_fd q_ds q_rc ds_2 rc ++ wOut Γ q_ou vou_3)) (wa1 := (wBF Γ q_bf q_tx q_fl q_flT q_hi q_s1 q_s2 q_fd q_kc q_kr  ++ wFloor Γ q_fl q_k q_c q_a q_pa q_b q_pb vi vj vk vc va vpa vb vpb ++ wFinder Γ q_fd q_ds q_rc ds_2 rc ++ wOut Γ q_ou vou_3 ++ wModel Γ q_mo q_tt q_nw q_tr q_ot q_di q_kp q_ik q_wy q_ah q_tg q_ws q_fr q_rw mi vtt vnw vtr vot vdi vkp vik vwy vah vtg vws vfr vrw)) hP hD hS hA [0, 1, 2, 3, 4, 5, 6, 7, 8, 9, 10, 11] rfl rfl rfl rfl (vx_runSW (As := [.ref q_bf, .int (xs (i + (1 : Int32)).toNatClampNeg), .int (xs (i + (2 : Int32)).toNatClampNeg), .ref q_ou]) (rest := []) ⟨hx, hb, hml, hown, hts⟩ (kL_fewestBySweeping l Γ hfl q_bf q_fl q_k q_c q_a q_pa q_b q_pb q_fd q_ds q_rc q_ou q_tx q_flT q_hi q_s1 q_s2 q_kc q_kr vi vj vk vc va vpa vb vpb ds rc vou (xs (i + (1 : Int32)).toNatClampNeg) (xs (i + (2 : Int32)).toNatClampNeg) r_1 ds_2 vou_3 hc_4 _) (vx_cwSW 4 hts gL_law_L_fewestBySweeping rfl rfl rfl (by decide +kernel) ⟨Nat.le_of_ble_eq_true rfl, Nat.le_of_ble_eq_true rfl⟩) (my_preSW (wc := (wBF Γ q_bf q_tx q_fl q_flT q_hi q_s1 q_s2 q_fd q_kc q_kr  ++ wFloor Γ q_fl q_k q_c q_a q_pa q_b q_pb vi vj vk vc va vpa vb vpb ++ wFinder Γ q_fd q_ds q_rc ds rc ++ wOut Γ q_ou vou)) [0, 1, 2, 3, 4, 5, 6, 7, 8, 9, 10, 11] hK hP hD hS hA hZ hstr hnc rfl rfl) rfl rfl hl.1 rfl (lv_room (Nat.le_of_ble_eq_true rfl)) dL_law_1994 ⟨Nat.le_trans (Nat.add_le_add_left (Nat.le_of_ble_eq_true rfl) nc) hn, Nat.le_trans (Nat.add_le_add_left (Nat.le_of_ble_eq_true rfl) ns) hk⟩) (fun H locs hP hD hS => ?_)
  refine W.widen (k := nc + 3) (n := ns + 18) (Nat.add_le_add_left (Nat.le_of_ble_eq_true rfl) nc) (Nat.add_le_add_left (Nat.le_of_ble_eq_true rfl) ns) ?_
  refine lv_istore (lv' := [(5, .int r_1), (0, .ref b), (1, .ref q_bf), (2, .ref q_mo), (3, .ref q_ou), (4, .int i)]) hx hb dL_law_1997 hl (by decide) rfl (fun ls hl => ?_)
  refine lv_aload_n hx hb dL_law_1999 rfl (lv_at hl 3 rfl) ?_
  refine lv_aload_n hx hb dL_law_2000 rfl (lv_at hl 1 rfl) ?_
  refine lv_iload hx hb dL_law_2001 (lv_at hl 5 rfl) ?_
  refine lv_iconst (v := (1 : Int32)) hx hb dL_law_2003 (by decide) ?_
  refine lv_iadd hx hb dL_law_2004 ?_
  refine va_sld hx hb hX hbl hbA hS hi1 dL_law_2005 ?_
  refine lv_aload_n hx hb dL_law_2006 rfl (lv_at hl 1 rfl) ?_
  refine lv_iload hx hb dL_law_2007 (lv_at hl 5 rfl) ?_
  refine lv_iconst (v := (2 : Int32)) hx hb dL_law_2009 (by decide) ?_
  refine lv_iadd hx hb dL_law_2010 ?_
  refine va_sld hx hb hX hbl hbA hS hi2 dL_law_2011 ?_
  obtain ⟨r_5, mi_6, vfr_7, vrw_8, hc_9, hm⟩ := bo4_s hm
  refine my_callR1 (wc := (wModel Γ q_mo q_tt q_nw q_tr q_ot q_di q_kp q_ik q_wy q_ah q_tg q_ws q_fr q_rw mi vtt vnw vtr vot vdi vkp vik vwy vah vtg vws vfr vrw)) (w1 := (wModel Γ q_mo q_tt q_nw q_tr q_ot q_di q_kp q_ik q_wy q_ah q_tg q_ws q_fr q_rw mi_6 vtt vnw vtr vot vdi vkp vik vwy vah vtg vws vfr_7 vrw_8)) (wa1 := (wBF Γ q_bf q_tx q_fl q_flT q_hi q_s1 q_s2 q_fd q_kc q_kr  ++ wFloor Γ q_fl q_k q_c q_a q_pa q_b q_pb vi vj vk vc va vpa vb vpb ++ wFinder Γ q_fd q_ds q_rc ds_2 rc ++ wOut Γ q_ou vou_3 ++ wModel Γ q_mo q_tt q_nw q_tr q_ot q_di q_kp q_ik q_wy q_ah q_tg q_ws q_fr q_rw mi_6 vtt vnw vtr vot vdi vkp vik vwy vah vtg vws vfr_7 vrw_8)) hP hD hS hA [12, 13, 14, 15, 16, 17, 18, 19, 20, 21, 22, 23, 24, 25] rfl rfl rfl rfl (va_runV (As := [.int (xs (i + (1 : Int32)).toNatClampNeg), .int (xs (i + (2 : Int32)).toNatClampNeg)]) (rest := []) ⟨hx, hb, hml, hown, hts⟩ (kX9_fewestBySweeping l Γ q_mo q_tt q_nw q_tr q_ot q_di q_kp q_ik q_wy q_ah q_tg q_ws q_fr q_rw mi vtt vnw vtr vot vdi vkp vik vwy vah vtg vws vfr vrw (xs (i + (1 : Int32)).toNatClampNeg) (xs (i + (2 : Int32)).toNatClampNeg) r_5 mi_6 vfr_7 vrw_8 hc_9 _) (cwV 2 hts gL_law_X9_fewestBySweeping rfl rfl rfl (by decide +kernel) ⟨Nat.le_of_ble_eq_true rfl, Nat.le_of_ble_eq_true rfl⟩) (my_preV (wc := (wModel Γ q_mo q_tt q_nw q_tr q_ot q_di q_kp q_ik q_wy q_ah q_tg q_ws q_fr q_rw mi vtt vnw vtr vot vdi vkp vik vwy vah vtg vws vfr vrw)) (ci := 7) (q0 := 12) [12, 13, 14, 15, 16, 17, 18, 19, 20, 21, 22, 23, 24, 25] hK hP hD rfl rfl rfl rfl) rfl rfl hl.1 rfl (lv_room (Nat.le_of_ble_eq_true rfl)) dL_law_2012 ⟨hn, hk⟩) (fun H locs hP hD hS => ?_)
  refine lv_istore (lv' := [(6, .int r_5), (5, .int r_1), (0, .ref b), (1, .ref q_bf), (2, .ref q_mo), (3, .ref q_ou), (4, .int i)]) hx hb dL_law_2015 hl (by decide) rfl (fun ls hl => ?_)
  refine lv_aload_n hx hb dL_law_2017 rfl (lv_at hl 4 rfl) ?_
  refine my_callR1 (wc := (wMo Γ q_mo q_tt q_nw q_tr q_ot q_di q_kp q_ik q_wy q_ah q_tg q_ws q_fr q_rw mi_6)) (w1 := (wMo Γ q_mo q_tt q_nw q_tr q_ot q_di q_kp q_ik q_wy q_ah q_tg q_ws q_fr q_rw mi_6)) (wa1 := (wBF Γ q_bf q_tx q_fl q_flT q_hi q_s1 q_s2 q_fd q_kc q_kr  ++ wFloor Γ q_fl q_k q_c q_a q_pa q_b q_pb vi vj vk vc va vpa vb vpb ++ wFinder Γ q_fd q_ds q_rc ds_2 rc ++ wOut Γ q_ou vou_3 ++ wModel Γ q_mo q_tt q_nw q_tr q_ot q_di q_kp q_ik q_wy q_ah q_tg q_ws q_fr q_rw mi_6 vtt vnw vtr vot vdi vkp vik vwy vah vtg vws vfr_7 vrw_8)) hP hD hS hA [12] rfl rfl rfl rfl (va_runV (As := []) (rest := []) ⟨hx, hb, hml, hown, hts⟩ (kX9_thrown l Γ q_mo q_tt q_nw q_tr q_ot q_di q_kp q_ik q_wy q_ah q_tg q_ws q_fr q_rw mi_6 (mX9_thrown mi_6) rfl _) (cwV 0 hts gL_law_X9_thrown rfl rfl rfl (by decide +kernel) ⟨Nat.le_of_ble_eq_true rfl, Nat.le_of_ble_eq_true rfl⟩) (my_preV (wc := (wMo Γ q_mo q_tt q_nw q_tr q_ot q_di q_kp q_ik q_wy q_ah q_tg q_ws q_fr q_rw mi_6)) (ci := 7) (q0 := 12) [12] hK hP hD rfl rfl rfl rfl) rfl rfl hl.1 rfl (lv_room (Nat.le_of_ble_eq_true rfl)) dL_law_2018 ⟨hn, hk⟩) (fun H locs hP hD hS => ?_)
  refine lv_iload hx hb dL_law_2021 (lv_at hl 1 rfl) ?_
  refine lv_icmp_eq (tgt := 2028) hx hb dL_law_2023 (by decide) (fun c_10 => ?_) (fun c_10 => ?_)
  · replace hm := if_s hm c_10
    refine lv_iload hx hb dL_law_2028 (lv_at hl 1 rfl) ?_
    refine lv_if_ne (tgt := 2045) hx hb dL_law_2030 (by decide) (fun c_11 => ?_) (fun c_11 => ?_)
    · replace hm := if_f hm c_11
      refine lv_goto (tgt := 2260) hx hb dL_law_2045 (by decide) ?_
      obtain ⟨hf0, hf1, hf2, hf3, hf4⟩ := si5 hm
      subst hf0
      subst hf1
      subst hf2
      subst hf3
      subst hf4
      exact kk _ _ _ hP hD hS (lv_sub hl [2, 3, 4, 5, 6] rfl)
    · replace hm := if_s hm c_11
      refine lv_aload_n hx hb dL_law_2033 rfl (lv_at hl 5 rfl) ?_
      refine lv_iconst (v := (0 : Int32)) hx hb dL_law_2034 (by decide) ?_
      refine va_lald hx hb hK hP 11 1 rfl rfl (show vp_in (0 : Int32) 1 from (by decide : ¬ ((0 : Int32) < 0 ∨ 1 ≤ (0 : Int32).toNatClampNeg))) dL_law_2035 ?_
      refine lv_iload hx hb dL_law_2036 (lv_at hl 0 rfl) ?_
      refine lv_i2l (v := r_5.toInt64) hx hb dL_law_2038 rfl ?_
      refine W.lcmp hx hb dL_law_2039 ?_
      refine lv_if_eq (tgt := 2045) hx hb dL_law_2040 (by decide) (fun c_12 => ?_) (fun c_12 => ?_)
      · replace hm := if_s hm c_12
        refine lv_goto (tgt := 2260) hx hb dL_law_2045 (by decide) ?_
        obtain ⟨hf0, hf1, hf2, hf3, hf4⟩ := si5 hm
        subst hf0
        subst hf1
        subst hf2
        subst hf3
        subst hf4
        exact kk _ _ _ hP hD hS (lv_sub hl [2, 3, 4, 5, 6] rfl)
      · replace hm := if_f hm c_12
        refine lv_iconst (v := (0 : Int32)) hx hb dL_law_2043 (by decide) ?_
        cases hm
  · replace hm := if_f hm c_10
    refine lv_iconst (v := (0 : Int32)) hx hb dL_law_2026 (by decide) ?_
    cases hm
def mLaw_simulate (vi : Nat → Int32) (vj : Nat → Int64) (vk : Nat → Int32) (vc : Nat → Int32) (va : Nat → Int32) (vpa : Nat → Int32) (vb : Nat → Int32) (vpb : Nat → Int32) (viT : Nat → Int32) (vjT : Nat → Int64) (vkT : Nat → Int32) (vcT : Nat → Int32) (vaT : Nat → Int32) (vpaT : Nat → Int32) (vbT : Nat → Int32) (vpbT : Nat → Int32) (vou : Nat → Int64) (mi : Nat → Int32) (vnw : Nat → Int32) (vtr : Nat → Int32) (vwy : Nat → Int32) (vah : Nat → Int32) (vtg : Nat → Int32) (vws : Nat → Int32) (xs : Nat → Int32) (i : Int32) : Option ((Nat → Int32) × (Nat → Int64) × (Nat → Int32) × (Nat → Int32) × (Nat → Int32) × (Nat → Int32) × (Nat → Int32) × (Nat → Int32) × (Nat → Int64) × (Nat → Int32) × (Nat → Int32) × (Nat → Int32) × (Nat → Int32) × (Nat → Int32) × (Nat → Int32)) := (bo10 (mL_simulate vi vj vk vc va vpa vb vpb viT vjT vkT vcT vaT vpaT vbT vpbT vou ((jshll ((xs (i + (1 : Int32)).toNatClampNeg).toInt64) (32 : Int32)) ||| (((xs (i + (2 : Int32)).toNatClampNeg).toInt64) &&& (4294967295 : Int64))) (xs (i + (3 : Int32)).toNatClampNeg)) (fun r_1 viT_2 vjT_3 vkT_4 vcT_5 vaT_6 vpaT_7 vbT_8 vpbT_9 vou_10 => (bo7 (mX9_simulate mi vnw vtr vwy vah vtg vws ((jshll ((xs (i + (1 : Int32)).toNatClampNeg).toInt64) (32 : Int32)) ||| (((xs (i + (2 : Int32)).toNatClampNeg).toInt64) &&& (4294967295 : Int64))) (xs (i + (3 : Int32)).toNatClampNeg)) (fun r_12 mi_13 vtr_14 vwy_15 vah_16 vtg_17 vws_18 => (if (mX9_thrown mi_13) = r_1 then (if r_1 = 0 then (if (lg_cmp (vou_10 (0 : Int32).toNatClampNeg) (r_12.toInt64)) = 0 then (some (viT_2, vjT_3, vkT_4, vcT_5, vaT_6, vpaT_7, vbT_8, vpbT_9, vou_10, mi_13, vtr_14, vwy_15, vah_16, vtg_17, vws_18)) else none) else (some (viT_2, vjT_3, vkT_4, vcT_5, vaT_6, vpaT_7, vbT_8, vpbT_9, vou_10, mi_13, vtr_14, vwy_15, vah_16, vtg_17, vws_18))) else none)))))
set_option maxHeartbeats 4000000 in
set_option maxRecDepth 100000 in
theorem kLaw_simulate (l : Launch) (Γ : my_G) (hfl : l.stackTraces = false) {p : Program} {e : Env} {s : State} {m : MethodId} {below : List Frame} {meth : Method} {c : Code} {b L : Nat} {xs : Nat → Int32} {Q : State → Prop} (hx : p.tables.exec = Jvm.exec) (hb : c.code = cL_law) (hml : c.maxLocals = 7) (hown : s.vm.findClass RL = some m.cls) (hts : ∀ w ∈ wsL_law, w.before #[Value.ref b] s = true) (hX : va_X b L xs s s.heap) (hbl : b < s.heap.size) (hK : my_K Γ s) (hZ : my_ZZ (fun q : Nat => s.heap.size ≤ q) s s.heap) (hstr : my_str s) (hnc : my_nc s) (q_bf q_fl q_k q_c q_a q_pa q_b q_pb q_flT q_kT q_cT q_aT q_paT q_bT q_pbT q_ou q_mo q_tt q_nw q_tr q_ot q_di q_kp q_ik q_wy q_ah q_tg q_ws q_fr q_rw q_tx q_hi q_s1 q_s2 q_fd q_kc q_kr : Nat) (vi : Nat → Int32) (vj : Nat → Int64) (vk : Nat → Int32) (vc : Nat → Int32) (va : Nat → Int32) (vpa : Nat → Int32) (vb : Nat → Int32) (vpb : Nat → Int32) (viT : Nat → Int32) (vjT : Nat → Int64) (vkT : Nat → Int32) (vcT : Nat → Int32) (vaT : Nat → Int32) (vpaT : Nat → Int32) (vbT : Nat → Int32) (vpbT : Nat → Int32) (vou : Nat → Int64) (mi : Nat → Int32) (vtt : Nat → Int32) (vnw : Nat → Int32) (vtr : Nat → Int32) (vot : Nat → Int32) (vdi : Nat → Int32) (vkp : Nat → Int32) (vik : Nat → Int32) (vwy : Nat → Int32) (vah : Nat → Int32) (vtg : Nat → Int32) (vws : Nat → Int32) (vfr : Nat → Int32) (vrw : Nat → Int32) (i : Int32) (hi1 : vp_in (i + (1 : Int32)) L) (hi2 : vp_in (i + (2 : Int32)) L) (hi3 : vp_in (i + (3 : Int32)) L) (viT_z : Nat → Int32) (vjT_z : Nat → Int64) (vkT_z : Nat → Int32) (vcT_z : Nat → Int32) (vaT_z : Nat → Int32) (vpaT_z : Nat → Int32) (vbT_z : Nat → Int32) (vpbT_z : Nat → Int32) (vou_z : Nat → Int64) (mi_z : Nat → Int32) (vtr_z : Nat → Int32) (vwy_z : Nat → Int32) (vah_z : Nat → Int32) (vtg_z : Nat → Int32) (vws_z : Nat → Int32) (hm : mLaw_simulate vi vj vk vc va vpa vb vpb viT vjT vkT vcT vaT vpaT vbT vpbT vou mi vnw vtr vwy vah vtg vws xs i = (some (viT_z, vjT_z, vkT_z, vcT_z, vaT_z, vpaT_z, vbT_z, vpbT_z, vou_z, mi_z, vtr_z, vwy_z, vah_z, vtg_z, vws_z))) (R_ : va_W) (nc ns : Nat) (hn : nc + 3 ≤ room_1.cells) (hk : ns + 18 ≤ room_1.slots) (H : Heap) (locs : List Loc) (ls : Array Slot) (hP : va_P (my_D Γ) vwCl ((wBF Γ q_bf q_tx q_fl q_flT q_hi q_s1 q_s2 q_fd q_kc q_kr  ++ wFloor Γ q_fl q_k q_c q_a q_pa q_b q_pb vi vj vk vc va vpa vb vpb ++ wFloor Γ q_flT q_kT q_cT q_aT q_paT q_bT q_pbT viT vjT vkT vcT vaT vpaT vbT vpbT ++ wOut Γ q_ou vou ++ wModel Γ q_mo q_tt q_nw q_tr q_ot q_di q_kp q_ik q_wy q_ah q_tg q_ws q_fr q_rw mi vtt vnw vtr vot vdi vkp vik vwy vah vtg vws vfr vrw) ++ R_) H) (hD : va_D (fun q : Nat => s.heap.size ≤ q) ((wBF Γ q_bf q_tx q_fl q_flT q_hi q_s1 q_s2 q_fd q_kc q_kr  ++ wFloor Γ q_fl q_k q_c q_a q_pa q_b q_pb vi vj vk vc va vpa vb vpb ++ wFloor Γ q_flT q_kT q_cT q_aT q_paT q_bT q_pbT viT vjT vkT vcT vaT vpaT vbT vpbT ++ wOut Γ q_ou vou ++ wModel Γ q_mo q_tt q_nw q_tr q_ot q_di q_kp q_ik q_wy q_ah q_tg q_ws q_fr q_rw mi vtt vnw vtr vot vdi vkp vik vwy vah vtg vws vfr vrw) ++ R_)) (hS : va_S (fun q : Nat => s.heap.size ≤ q) s.heap H locs) (hl : lv_has ls 7 [(0, .ref b), (1, .ref q_bf), (2, .ref q_mo), (3, .ref q_ou), (4, .int i)]) (kk : ∀ (H : Heap) (locs : List Loc) (ls : Array Slot), va_P (my_D Γ) vwCl ((wBF Γ q_bf q_tx q_fl q_flT q_hi q_s1 q_s2 q_fd q_kc q_kr  ++ wFloor Γ q_fl q_k q_c q_a q_pa q_b q_pb vi vj vk vc va vpa vb vpb ++ wFloor Γ q_flT q_kT q_cT q_aT q_paT q_bT q_pbT viT_z vjT_z vkT_z vcT_z vaT_z vpaT_z vbT_z vpbT_z ++ wOut Γ q_ou vou_z ++ wModel Γ q_mo q_tt q_nw q_tr q_ot q_di q_kp q_ik q_wy q_ah q_tg q_ws q_fr q_rw mi_z vtt vnw vtr_z vot vdi vkp vik vwy_z vah_z vtg_z vws_z vfr vrw) ++ R_) H → va_D (fun q : Nat => s.heap.size ≤ q) ((wBF Γ q_bf q_tx q_fl q_flT q_hi q_s1 q_s2 q_fd q_kc q_kr  ++ wFloor Γ q_fl q_k q_c q_a q_pa q_b q_pb vi vj vk vc va vpa vb vpb ++ wFloor Γ q_flT q_kT q_cT q_aT q_paT q_bT q_pbT viT_z vjT_z vkT_z vcT_z vaT_z vpaT_z vbT_z vpbT_z ++ wOut Γ q_ou vou_z ++ wModel Γ q_mo q_tt q_nw q_tr q_ot q_di q_kp q_ik q_wy q_ah q_tg q_ws q_fr q_rw mi_z vtt vnw vtr_z vot vdi vkp vik vwy_z vah_z vtg_z vws_z vfr vrw) ++ R_) → va_S (fun q : Nat => s.heap.size ≤ q) s.heap H locs → lv_has ls 7 [(0, .ref b), (1, .ref q_bf), (2, .ref q_mo), (3, .ref q_ou), (4, .int i)] → W p l e room_1 s m #[Value.ref b] below meth c H locs (nc + 3) (ns + 18) Q (F0 m 2260 ls [])) : W p l e room_1 s m #[Value.ref b] below meth c H locs nc ns Q (F0 m 2048 ls []) := by
  have hA : ∀ q : Nat, s.heap.size ≤ q → (fun q : Nat => s.heap.size ≤ q) q := fun _ h => h
  have hbA : ¬ (fun q : Nat => s.heap.size ≤ q) b := Nat.not_le.mpr hbl
  unfold mLaw_simulate at hm
  refine lv_aload_n hx hb dL_law_2048 rfl (lv_at hl 1 rfl) ?_
  refine lv_aload_n hx hb dL_law_2049 rfl (lv_at hl 0 rfl) ?_
  refine lv_iload hx hb dL_law_2050 (lv_at hl 4 rfl) ?_
  refine lv_iconst (v := (1 : Int32)) hx hb dL_law_2052 (by decide) ?_
  refine lv_iadd hx hb dL_law_2053 ?_
  refine va_sld hx hb hX hbl hbA hS hi1 dL_law_2054 ?_
  refine lv_i2l (v := (xs (i + (1 : Int32)).toNatClampNeg).toInt64) hx hb dL_law_2055 rfl ?_
  refine lv_bipush (v := (32 : Int32)) hx hb dL_law_2056 (by decide) ?_
  refine my_lshl hx hb dL_law_2058 ?_
  refine lv_aload_n hx hb dL_law_2059 rfl (lv_at hl 0 rfl) ?_
  refine lv_iload hx hb dL_law_2060 (lv_at hl 4 rfl) ?_
  refine lv_iconst (v := (2 : Int32)) hx hb dL_law_2062 (by decide) ?_
  refine lv_iadd hx hb dL_law_2063 ?_
  refine va_sld hx hb hX hbl hbA hS hi2 dL_law_2064 ?_
  refine lv_i2l (v := (xs (i + (2 : Int32)).toNatClampNeg).toInt64) hx hb dL_law_2065 rfl ?_
  refine lv_ldc2 (v := (4294967295 : Int64)) hx hb hown (hts (.constantLong RL 258 (4294967295)) (List.mem_of_getElem? (i := 7) rfl)) dL_law_2066 ?_
  refine lv_land hx hb dL_law_2069 ?_
  refine lv_lor hx hb dL_law_2070 ?_
  refine lv_aload_n hx hb dL_law_2071 rfl (lv_at hl 0 rfl) ?_
  refine lv_iload hx hb dL_law_2072 (lv_at hl 4 rfl) ?_
  refine lv_iconst (v := (3 : Int32)) hx hb dL_law_2074 (by decide) ?_
  refine lv_iadd hx hb dL_law_2075 ?_
  refine va_sld hx hb hX hbl hbA hS hi3 dL_law_2076 ?_
  refine lv_aload_n hx hb dL_law_2077 rfl (lv_at hl 3 rfl) ?_
  obtain ⟨r_1, viT_2, vjT_3, vkT_4, vcT_5, vaT_6, vpaT_7, vbT_8, vpbT_9, vou_10, hc_11, hm⟩ := bo10_s hm
  refine my_callRW1 (wc := (wBF Γ q_bf q_tx q_fl q_flT q_hi q_s1 q_s2 q_fd q_kc q_kr  ++ wFloor Γ q_fl q_k q_c q_a q_pa q_b q_pb vi vj vk vc va vpa vb vpb ++ wFloor Γ q_flT q_kT q_cT q_aT q_paT q_bT q_pbT viT vjT vkT vcT vaT vpaT vbT vpbT ++ wOut Γ q_ou vou)) (w1 := (wBF Γ q_bf q_tx q_fl q_flT q_hi q_s1 q_s2 q_fd q_kc q_kr  ++ wFloor Γ q_fl q_k q_c q_a q_pa q_b q_pb vi vj vk vc va vpa vb vpb ++ wFloor Γ q_flT q_kT q_cT q_aT q_paT q_bT q_pbT viT_2 vjT_3 vkT_4 vcT_5 vaT_6 vpaT_7 vbT_8 vpbT_9 ++ wOut Γ q_ou vou_10)) (wa1 := (wBF Γ q_bf q_tx q_fl q_flT q_hi q_s1 q_s2 q_fd q_kc q_kr  ++ wFloor Γ q_fl q_k q_c q_a q_pa q_b q_pb vi vj vk vc va vpa vb vpb ++ wFloor Γ q_flT q_kT q_cT q_aT q_paT q_bT q_pbT viT_2 vjT_3 vkT_4 vcT_5 vaT_6 vpaT_7 vbT_8 vpbT_9 ++ wOut Γ q_ou vou_10 ++ wModel Γ q_mo q_tt q_nw q_tr q_ot q_di q_kp q_ik q_wy q_ah q_tg q_ws q_fr q_rw mi vtt vnw vtr vot vdi vkp vik vwy vah vtg vws vfr vrw)) hP hD hS hA [0, 1, 2, 3, 4, 5, 6, 7, 8, 9, 10, 11, 12, 13, 14, 15] rfl rfl rfl rfl (vx_runSW (As := [.ref q_bf, .long ((jshll ((xs (i + (1 : Int32)).toNatClampNeg).toInt64) (32 : Int32)) ||| (((xs (i + (2 : Int32)).toNatClampNeg).toInt64) &&& (4294967295 : Int64))), .int (xs (i + (3 : Int32)).toNatClampNeg), .ref q_ou]) (rest := []) ⟨hx, hb, hml, hown, hts⟩ (kL_simulate l Γ hfl q_bf q_fl q_k q_c q_a q_pa q_b q_pb q_flT q_kT q_cT q_aT q_paT q_bT q_pbT q_ou q_tx q_hi q_s1 q_s2 q_fd q_kc q_kr vi vj vk vc va vpa vb vpb viT vjT vkT vcT vaT vpaT vbT vpbT vou ((jshll ((xs (i + (1 : Int32)).toNatClampNeg).toInt64) (32 : Int32)) ||| (((xs (i + (2 : Int32)).toNatClampNeg).toInt64) &&& (4294967295 : Int64))) (xs (i + (3 : Int32)).toNatClampNeg) r_1 viT_2 vjT_3 vkT_4 vcT_5 vaT_6 vpaT_7 vbT_8 vpbT_9 vou_10 hc_11 _) (vx_cwSW 4 hts gL_law_L_simulate rfl rfl rfl (by decide +kernel) ⟨Nat.le_of_ble_eq_true rfl, Nat.le_of_ble_eq_true rfl⟩) (my_preSW (wc := (wBF Γ q_bf q_tx q_fl q_flT q_hi q_s1 q_s2 q_fd q_kc q_kr  ++ wFloor Γ q_fl q_k q_c q_a q_pa q_b q_pb vi vj vk vc va vpa vb vpb ++ wFloor Γ q_flT q_kT q_cT q_aT q_paT q_bT q_pbT viT vjT vkT vcT vaT vpaT vbT vpbT ++ wOut Γ q_ou vou)) [0, 1, 2, 3, 4, 5, 6, 7, 8, 9, 10, 11, 12, 13, 14, 15] hK hP hD hS hA hZ hstr hnc rfl rfl) rfl rfl hl.1 rfl (lv_room (Nat.le_of_ble_eq_true rfl)) dL_law_2078 ⟨Nat.le_trans (Nat.add_le_add_left (Nat.le_of_ble_eq_true rfl) nc) hn, Nat.le_trans (Nat.add_le_add_left (Nat.le_of_ble_eq_true rfl) ns) hk⟩) (fun H locs hP hD hS => ?_)
  refine W.widen (k := nc + 3) (n := ns + 18) (Nat.add_le_add_left (Nat.le_of_ble_eq_true rfl) nc) (Nat.add_le_add_left (Nat.le_of_ble_eq_true rfl) ns) ?_
  refine lv_istore (lv' := [(5, .int r_1), (0, .ref b), (1, .ref q_bf), (2, .ref q_mo), (3, .ref q_ou), (4, .int i)]) hx hb dL_law_2081 hl (by decide) rfl (fun ls hl => ?_)
  refine lv_aload_n hx hb dL_law_2083 rfl (lv_at hl 3 rfl) ?_
  refine lv_aload_n hx hb dL_law_2084 rfl (lv_at hl 1 rfl) ?_
  refine lv_iload hx hb dL_law_2085 (lv_at hl 5 rfl) ?_
  refine lv_iconst (v := (1 : Int32)) hx hb dL_law_2087 (by decide) ?_
  refine lv_iadd hx hb dL_law_2088 ?_
  refine va_sld hx hb hX hbl hbA hS hi1 dL_law_2089 ?_
  refine lv_i2l (v := (xs (i + (1 : Int32)).toNatClampNeg).toInt64) hx hb dL_law_2090 rfl ?_
  refine lv_bipush (v := (32 : Int32)) hx hb dL_law_2091 (by decide) ?_
  refine my_lshl hx hb dL_law_2093 ?_
  refine lv_aload_n hx hb dL_law_2094 rfl (lv_at hl 1 rfl) ?_
  refine lv_iload hx hb dL_law_2095 (lv_at hl 5 rfl) ?_
  refine lv_iconst (v := (2 : Int32)) hx hb dL_law_2097 (by decide) ?_
  refine lv_iadd hx hb dL_law_2098 ?_
  refine va_sld hx hb hX hbl hbA hS hi2 dL_law_2099 ?_
  refine lv_i2l (v := (xs (i + (2 : Int32)).toNatClampNeg).toInt64) hx hb dL_law_2100 rfl ?_
  refine lv_ldc2 (v := (4294967295 : Int64)) hx hb hown (hts (.constantLong RL 258 (4294967295)) (List.mem_of_getElem? (i := 7) rfl)) dL_law_2101 ?_
  refine lv_land hx hb dL_law_2104 ?_
  refine lv_lor hx hb dL_law_2105 ?_
  refine lv_aload_n hx hb dL_law_2106 rfl (lv_at hl 1 rfl) ?_
  refine lv_iload hx hb dL_law_2107 (lv_at hl 5 rfl) ?_
  refine lv_iconst (v := (3 : Int32)) hx hb dL_law_2109 (by decide) ?_
  refine lv_iadd hx hb dL_law_2110 ?_
  refine va_sld hx hb hX hbl hbA hS hi3 dL_law_2111 ?_
  obtain ⟨r_12, mi_13, vtr_14, vwy_15, vah_16, vtg_17, vws_18, hc_19, hm⟩ := bo7_s hm
  refine my_callR1 (wc := (wModel Γ q_mo q_tt q_nw q_tr q_ot q_di q_kp q_ik q_wy q_ah q_tg q_ws q_fr q_rw mi vtt vnw vtr vot vdi vkp vik vwy vah vtg vws vfr vrw)) (w1 := (wModel Γ q_mo q_tt q_nw q_tr q_ot q_di q_kp q_ik q_wy q_ah q_tg q_ws q_fr q_rw mi_13 vtt vnw vtr_14 vot vdi vkp vik vwy_15 vah_16 vtg_17 vws_18 vfr vrw)) (wa1 := (wBF Γ q_bf q_tx q_fl q_flT q_hi q_s1 q_s2 q_fd q_kc q_kr  ++ wFloor Γ q_fl q_k q_c q_a q_pa q_b q_pb vi vj vk vc va vpa vb vpb ++ wFloor Γ q_flT q_kT q_cT q_aT q_paT q_bT q_pbT viT_2 vjT_3 vkT_4 vcT_5 vaT_6 vpaT_7 vbT_8 vpbT_9 ++ wOut Γ q_ou vou_10 ++ wModel Γ q_mo q_tt q_nw q_tr q_ot q_di q_kp q_ik q_wy q_ah q_tg q_ws q_fr q_rw mi_13 vtt vnw vtr_14 vot vdi vkp vik vwy_15 vah_16 vtg_17 vws_18 vfr vrw)) hP hD hS hA [16, 17, 18, 19, 20, 21, 22, 23, 24, 25, 26, 27, 28, 29] rfl rfl rfl rfl (va_runV (As := [.long ((jshll ((xs (i + (1 : Int32)).toNatClampNeg).toInt64) (32 : Int32)) ||| (((xs (i + (2 : Int32)).toNatClampNeg).toInt64) &&& (4294967295 : Int64))), .int (xs (i + (3 : Int32)).toNatClampNeg)]) (rest := []) ⟨hx, hb, hml, hown, hts⟩ (kX9_simulate l Γ q_mo q_tt q_nw q_tr q_ot q_di q_kp q_ik q_wy q_ah q_tg q_ws q_fr q_rw mi vtt vnw vtr vot vdi vkp vik vwy vah vtg vws vfr vrw ((jshll ((xs (i + (1 : Int32)).toNatClampNeg).toInt64) (32 : Int32)) ||| (((xs (i + (2 : Int32)).toNatClampNeg).toInt64) &&& (4294967295 : Int64))) (xs (i + (3 : Int32)).toNatClampNeg) r_12 mi_13 vtr_14 vwy_15 vah_16 vtg_17 vws_18 hc_19 _) (cwV 2 hts gL_law_X9_simulate rfl rfl rfl (by decide +kernel) ⟨Nat.le_of_ble_eq_true rfl, Nat.le_of_ble_eq_true rfl⟩) (my_preV (wc := (wModel Γ q_mo q_tt q_nw q_tr q_ot q_di q_kp q_ik q_wy q_ah q_tg q_ws q_fr q_rw mi vtt vnw vtr vot vdi vkp vik vwy vah vtg vws vfr vrw)) (ci := 7) (q0 := 16) [16, 17, 18, 19, 20, 21, 22, 23, 24, 25, 26, 27, 28, 29] hK hP hD rfl rfl rfl rfl) rfl rfl hl.1 rfl (lv_room (Nat.le_of_ble_eq_true rfl)) dL_law_2112 ⟨hn, hk⟩) (fun H locs hP hD hS => ?_)
  refine lv_istore (lv' := [(6, .int r_12), (5, .int r_1), (0, .ref b), (1, .ref q_bf), (2, .ref q_mo), (3, .ref q_ou), (4, .int i)]) hx hb dL_law_2115 hl (by decide) rfl (fun ls hl => ?_)
  refine lv_aload_n hx hb dL_law_2117 rfl (lv_at hl 4 rfl) ?_
  refine my_callR1 (wc := (wMo Γ q_mo q_tt q_nw q_tr q_ot q_di q_kp q_ik q_wy q_ah q_tg q_ws q_fr q_rw mi_13)) (w1 := (wMo Γ q_mo q_tt q_nw q_tr q_ot q_di q_kp q_ik q_wy q_ah q_tg q_ws q_fr q_rw mi_13)) (wa1 := (wBF Γ q_bf q_tx q_fl q_flT q_hi q_s1 q_s2 q_fd q_kc q_kr  ++ wFloor Γ q_fl q_k q_c q_a q_pa q_b q_pb vi vj vk vc va vpa vb vpb ++ wFloor Γ q_flT q_kT q_cT q_aT q_paT q_bT q_pbT viT_2 vjT_3 vkT_4 vcT_5 vaT_6 vpaT_7 vbT_8 vpbT_9 ++ wOut Γ q_ou vou_10 ++ wModel Γ q_mo q_tt q_nw q_tr q_ot q_di q_kp q_ik q_wy q_ah q_tg q_ws q_fr q_rw mi_13 vtt vnw vtr_14 vot vdi vkp vik vwy_15 vah_16 vtg_17 vws_18 vfr vrw)) hP hD hS hA [16] rfl rfl rfl rfl (va_runV (As := []) (rest := []) ⟨hx, hb, hml, hown, hts⟩ (kX9_thrown l Γ q_mo q_tt q_nw q_tr q_ot q_di q_kp q_ik q_wy q_ah q_tg q_ws q_fr q_rw mi_13 (mX9_thrown mi_13) rfl _) (cwV 0 hts gL_law_X9_thrown rfl rfl rfl (by decide +kernel) ⟨Nat.le_of_ble_eq_true rfl, Nat.le_of_ble_eq_true rfl⟩) (my_preV (wc := (wMo Γ q_mo q_tt q_nw q_tr q_ot q_di q_kp q_ik q_wy q_ah q_tg q_ws q_fr q_rw mi_13)) (ci := 7) (q0 := 16) [16] hK hP hD rfl rfl rfl rfl) rfl rfl hl.1 rfl (lv_room (Nat.le_of_ble_eq_true rfl)) dL_law_2118 ⟨hn, hk⟩) (fun H locs hP hD hS => ?_)
  refine lv_iload hx hb dL_law_2121 (lv_at hl 1 rfl) ?_
  refine lv_icmp_eq (tgt := 2128) hx hb dL_law_2123 (by decide) (fun c_20 => ?_) (fun c_20 => ?_)
  · replace hm := if_s hm c_20
    refine lv_iload hx hb dL_law_2128 (lv_at hl 1 rfl) ?_
    refine lv_if_ne (tgt := 2145) hx hb dL_law_2130 (by decide) (fun c_21 => ?_) (fun c_21 => ?_)
    · replace hm := if_f hm c_21
      refine lv_goto (tgt := 2260) hx hb dL_law_2145 (by decide) ?_
      obtain ⟨hf0, hf1, hf2, hf3, hf4, hf5, hf6, hf7, hf8, hf9, hf10, hf11, hf12, hf13, hf14⟩ := si15 hm
      subst hf0
      subst hf1
      subst hf2
      subst hf3
      subst hf4
      subst hf5
      subst hf6
      subst hf7
      subst hf8
      subst hf9
      subst hf10
      subst hf11
      subst hf12
      subst hf13
      subst hf14
      exact kk _ _ _ hP hD hS (lv_sub hl [2, 3, 4, 5, 6] rfl)
    · replace hm := if_s hm c_21
      refine lv_aload_n hx hb dL_law_2133 rfl (lv_at hl 5 rfl) ?_
      refine lv_iconst (v := (0 : Int32)) hx hb dL_law_2134 (by decide) ?_
      refine va_lald hx hb hK hP 15 1 rfl rfl (show vp_in (0 : Int32) 1 from (by decide : ¬ ((0 : Int32) < 0 ∨ 1 ≤ (0 : Int32).toNatClampNeg))) dL_law_2135 ?_
      refine lv_iload hx hb dL_law_2136 (lv_at hl 0 rfl) ?_
      refine lv_i2l (v := r_12.toInt64) hx hb dL_law_2138 rfl ?_
      refine W.lcmp hx hb dL_law_2139 ?_
      refine lv_if_eq (tgt := 2145) hx hb dL_law_2140 (by decide) (fun c_22 => ?_) (fun c_22 => ?_)
      · replace hm := if_s hm c_22
        refine lv_goto (tgt := 2260) hx hb dL_law_2145 (by decide) ?_
        obtain ⟨hf0, hf1, hf2, hf3, hf4, hf5, hf6, hf7, hf8, hf9, hf10, hf11, hf12, hf13, hf14⟩ := si15 hm
        subst hf0
        subst hf1
        subst hf2
        subst hf3
        subst hf4
        subst hf5
        subst hf6
        subst hf7
        subst hf8
        subst hf9
        subst hf10
        subst hf11
        subst hf12
        subst hf13
        subst hf14
        exact kk _ _ _ hP hD hS (lv_sub hl [2, 3, 4, 5, 6] rfl)
      · replace hm := if_f hm c_22
        refine lv_iconst (v := (0 : Int32)) hx hb dL_law_2143 (by decide) ?_
        cases hm
  · replace hm := if_f hm c_20
    refine lv_iconst (v := (0 : Int32)) hx hb dL_law_2126 (by decide) ?_
    cases hm
def mLaw_save (vi : Nat → Int32) (vj : Nat → Int64) (vk : Nat → Int32) (vc : Nat → Int32) (va : Nat → Int32) (vpa : Nat → Int32) (vb : Nat → Int32) (vpb : Nat → Int32) (vs1 : Nat → Int32) (viA : Nat → Int32) (vjA : Nat → Int64) (vkA : Nat → Int32) (vcA : Nat → Int32) (vaA : Nat → Int32) (vpaA : Nat → Int32) (vbA : Nat → Int32) (vpbA : Nat → Int32) (vs2 : Nat → Int32) (viB : Nat → Int32) (vjB : Nat → Int64) (vkB : Nat → Int32) (vcB : Nat → Int32) (vaB : Nat → Int32) (vpaB : Nat → Int32) (vbB : Nat → Int32) (vpbB : Nat → Int32) (vou : Nat → Int64) (mi : Nat → Int32) (vnw : Nat → Int32) (vkp : Nat → Int32) (vik : Nat → Int32) (xs : Nat → Int32) (i : Int32) : Option ((Nat → Int32) × (Nat → Int32) × (Nat → Int64) × (Nat → Int32) × (Nat → Int32) × (Nat → Int32) × (Nat → Int32) × (Nat → Int32) × (Nat → Int32) × (Nat → Int32) × (Nat → Int32) × (Nat → Int64) × (Nat → Int32) × (Nat → Int32) × (Nat → Int32) × (Nat → Int32) × (Nat → Int32) × (Nat → Int32) × (Nat → Int64) × (Nat → Int32) × (Nat → Int32) × (Nat → Int32)) := (bo20 (mL_save vi vj vk vc va vpa vb vpb vs1 viA vjA vkA vcA vaA vpaA vbA vpbA vs2 viB vjB vkB vcB vaB vpaB vbB vpbB vou (xs (i + (1 : Int32)).toNatClampNeg)) (fun r_1 vs1_2 viA_3 vjA_4 vkA_5 vcA_6 vaA_7 vpaA_8 vbA_9 vpbA_10 vs2_11 viB_12 vjB_13 vkB_14 vcB_15 vaB_16 vpaB_17 vbB_18 vpbB_19 vou_20 => (bo4 (mX9_save mi vnw vkp vik (xs (i + (1 : Int32)).toNatClampNeg)) (fun r_22 mi_23 vkp_24 vik_25 => (if (mX9_thrown mi_23) = r_1 then (if r_1 = 0 then (if (lg_cmp (vou_20 (0 : Int32).toNatClampNeg) (r_22.toInt64)) = 0 then (some (vs1_2, viA_3, vjA_4, vkA_5, vcA_6, vaA_7, vpaA_8, vbA_9, vpbA_10, vs2_11, viB_12, vjB_13, vkB_14, vcB_15, vaB_16, vpaB_17, vbB_18, vpbB_19, vou_20, mi_23, vkp_24, vik_25)) else none) else (some (vs1_2, viA_3, vjA_4, vkA_5, vcA_6, vaA_7, vpaA_8, vbA_9, vpbA_10, vs2_11, viB_12, vjB_13, vkB_14, vcB_15, vaB_16, vpaB_17, vbB_18, vpbB_19, vou_20, mi_23, vkp_24, vik_25))) else none)))))
set_option maxHeartbeats 4000000 in
set_option maxRecDepth 100000 in
theorem kLaw_save (l : Launch) (Γ : my_G) (hfl : l.stackTraces = false) {p : Program} {e : Env} {s : State} {m : MethodId} {below : List Frame} {meth : Method} {c : Code} {b L : Nat} {xs : Nat → Int32} {Q : State → Prop} (hx : p.tables.exec = Jvm.exec) (hb : c.code = cL_law) (hml : c.maxLocals = 7) (hown : s.vm.findClass RL = some m.cls) (hts : ∀ w ∈ wsL_law, w.before #[Value.ref b] s = true) (hX : va_X b L xs s s.heap) (hbl : b < s.heap.size) (hK : my_K Γ s) (hZ : my_ZZ (fun q : Nat => s.heap.size ≤ q) s s.heap) (hstr : my_str s) (hnc : my_nc s) (q_bf q_fl q_k q_c q_a q_pa q_b q_pb q_s1 q_flA q_kA q_cA q_aA q_paA q_bA q_pbA q_s2 q_flB q_kB q_cB q_aB q_paB q_bB q_pbB q_ou q_mo q_tt q_nw q_tr q_ot q_di q_kp q_ik q_wy q_ah q_tg q_ws q_fr q_rw q_tx q_flT q_hi q_fd q_kc q_kr : Nat) (vi : Nat → Int32) (vj : Nat → Int64) (vk : Nat → Int32) (vc : Nat → Int32) (va : Nat → Int32) (vpa : Nat → Int32) (vb : Nat → Int32) (vpb : Nat → Int32) (vs1 : Nat → Int32) (viA : Nat → Int32) (vjA : Nat → Int64) (vkA : Nat → Int32) (vcA : Nat → Int32) (vaA : Nat → Int32) (vpaA : Nat → Int32) (vbA : Nat → Int32) (vpbA : Nat → Int32) (vs2 : Nat → Int32) (viB : Nat → Int32) (vjB : Nat → Int64) (vkB : Nat → Int32) (vcB : Nat → Int32) (vaB : Nat → Int32) (vpaB : Nat → Int32) (vbB : Nat → Int32) (vpbB : Nat → Int32) (vou : Nat → Int64) (mi : Nat → Int32) (vtt : Nat → Int32) (vnw : Nat → Int32) (vtr : Nat → Int32) (vot : Nat → Int32) (vdi : Nat → Int32) (vkp : Nat → Int32) (vik : Nat → Int32) (vwy : Nat → Int32) (vah : Nat → Int32) (vtg : Nat → Int32) (vws : Nat → Int32) (vfr : Nat → Int32) (vrw : Nat → Int32) (i : Int32) (hi1 : vp_in (i + (1 : Int32)) L) (hi2 : vp_in (i + (2 : Int32)) L) (hi3 : vp_in (i + (3 : Int32)) L) (vs1_z : Nat → Int32) (viA_z : Nat → Int32) (vjA_z : Nat → Int64) (vkA_z : Nat → Int32) (vcA_z : Nat → Int32) (vaA_z : Nat → Int32) (vpaA_z : Nat → Int32) (vbA_z : Nat → Int32) (vpbA_z : Nat → Int32) (vs2_z : Nat → Int32) (viB_z : Nat → Int32) (vjB_z : Nat → Int64) (vkB_z : Nat → Int32) (vcB_z : Nat → Int32) (vaB_z : Nat → Int32) (vpaB_z : Nat → Int32) (vbB_z : Nat → Int32) (vpbB_z : Nat → Int32) (vou_z : Nat → Int64) (mi_z : Nat → Int32) (vkp_z : Nat → Int32) (vik_z : Nat → Int32) (hm : mLaw_save vi vj vk vc va vpa vb vpb vs1 viA vjA vkA vcA vaA vpaA vbA vpbA vs2 viB vjB vkB vcB vaB vpaB vbB vpbB vou mi vnw vkp vik xs i = (some (vs1_z, viA_z, vjA_z, vkA_z, vcA_z, vaA_z, vpaA_z, vbA_z, vpbA_z, vs2_z, viB_z, vjB_z, vkB_z, vcB_z, vaB_z, vpaB_z, vbB_z, vpbB_z, vou_z, mi_z, vkp_z, vik_z))) (R_ : va_W) (nc ns : Nat) (hn : nc + 3 ≤ room_1.cells) (hk : ns + 18 ≤ room_1.slots) (H : Heap) (locs : List Loc) (ls : Array Slot) (hP : va_P (my_D Γ) vwCl ((wBF Γ q_bf q_tx q_fl q_flT q_hi q_s1 q_s2 q_fd q_kc q_kr  ++ wFloor Γ q_fl q_k q_c q_a q_pa q_b q_pb vi vj vk vc va vpa vb vpb ++ wSlot Γ q_s1 q_flA vs1 ++ wFloor Γ q_flA q_kA q_cA q_aA q_paA q_bA q_pbA viA vjA vkA vcA vaA vpaA vbA vpbA ++ wSlot Γ q_s2 q_flB vs2 ++ wFloor Γ q_flB q_kB q_cB q_aB q_paB q_bB q_pbB viB vjB vkB vcB vaB vpaB vbB vpbB ++ wOut Γ q_ou vou ++ wModel Γ q_mo q_tt q_nw q_tr q_ot q_di q_kp q_ik q_wy q_ah q_tg q_ws q_fr q_rw mi vtt vnw vtr vot vdi vkp vik vwy vah vtg vws vfr vrw) ++ R_) H) (hD : va_D (fun q : Nat => s.heap.size ≤ q) ((wBF Γ q_bf q_tx q_fl q_flT q_hi q_s1 q_s2 q_fd q_kc q_kr  ++ wFloor Γ q_fl q_k q_c q_a q_pa q_b q_pb vi vj vk vc va vpa vb vpb ++ wSlot Γ q_s1 q_flA vs1 ++ wFloor Γ q_flA q_kA q_cA q_aA q_paA q_bA q_pbA viA vjA vkA vcA vaA vpaA vbA vpbA ++ wSlot Γ q_s2 q_flB vs2 ++ wFloor Γ q_flB q_kB q_cB q_aB q_paB q_bB q_pbB viB vjB vkB vcB vaB vpaB vbB vpbB ++ wOut Γ q_ou vou ++ wModel Γ q_mo q_tt q_nw q_tr q_ot q_di q_kp q_ik q_wy q_ah q_tg q_ws q_fr q_rw mi vtt vnw vtr vot vdi vkp vik vwy vah vtg vws vfr vrw) ++ R_)) (hS : va_S (fun q : Nat => s.heap.size ≤ q) s.heap H locs) (hl : lv_has ls 7 [(0, .ref b), (1, .ref q_bf), (2, .ref q_mo), (3, .ref q_ou), (4, .int i)]) (kk : ∀ (H : Heap) (locs : List Loc) (ls : Array Slot), va_P (my_D Γ) vwCl ((wBF Γ q_bf q_tx q_fl q_flT q_hi q_s1 q_s2 q_fd q_kc q_kr  ++ wFloor Γ q_fl q_k q_c q_a q_pa q_b q_pb vi vj vk vc va vpa vb vpb ++ wSlot Γ q_s1 q_flA vs1_z ++ wFloor Γ q_flA q_kA q_cA q_aA q_paA q_bA q_pbA viA_z vjA_z vkA_z vcA_z vaA_z vpaA_z vbA_z vpbA_z ++ wSlot Γ q_s2 q_flB vs2_z ++ wFloor Γ q_flB q_kB q_cB q_aB q_paB q_bB q_pbB viB_z vjB_z vkB_z vcB_z vaB_z vpaB_z vbB_z vpbB_z ++ wOut Γ q_ou vou_z ++ wModel Γ q_mo q_tt q_nw q_tr q_ot q_di q_kp q_ik q_wy q_ah q_tg q_ws q_fr q_rw mi_z vtt vnw vtr vot vdi vkp_z vik_z vwy vah vtg vws vfr vrw) ++ R_) H → va_D (fun q : Nat => s.heap.size ≤ q) ((wBF Γ q_bf q_tx q_fl q_flT q_hi q_s1 q_s2 q_fd q_kc q_kr  ++ wFloor Γ q_fl q_k q_c q_a q_pa q_b q_pb vi vj vk vc va vpa vb vpb ++ wSlot Γ q_s1 q_flA vs1_z ++ wFloor Γ q_flA q_kA q_cA q_aA q_paA q_bA q_pbA viA_z vjA_z vkA_z vcA_z vaA_z vpaA_z vbA_z vpbA_z ++ wSlot Γ q_s2 q_flB vs2_z ++ wFloor Γ q_flB q_kB q_cB q_aB q_paB q_bB q_pbB viB_z vjB_z vkB_z vcB_z vaB_z vpaB_z vbB_z vpbB_z ++ wOut Γ q_ou vou_z ++ wModel Γ q_mo q_tt q_nw q_tr q_ot q_di q_kp q_ik q_wy q_ah q_tg q_ws q_fr q_rw mi_z vtt vnw vtr vot vdi vkp_z vik_z vwy vah vtg vws vfr vrw) ++ R_) → va_S (fun q : Nat => s.heap.size ≤ q) s.heap H locs → lv_has ls 7 [(0, .ref b), (1, .ref q_bf), (2, .ref q_mo), (3, .ref q_ou), (4, .int i)] → W p l e room_1 s m #[Value.ref b] below meth c H locs (nc + 3) (ns + 18) Q (F0 m 2260 ls [])) : W p l e room_1 s m #[Value.ref b] below meth c H locs nc ns Q (F0 m 2148 ls []) := by
  have hA : ∀ q : Nat, s.heap.size ≤ q → (fun q : Nat => s.heap.size ≤ q) q := fun _ h => h
  have hbA : ¬ (fun q : Nat => s.heap.size ≤ q) b := Nat.not_le.mpr hbl
  unfold mLaw_save at hm
  refine lv_aload_n hx hb dL_law_2148 rfl (lv_at hl 1 rfl) ?_
  refine lv_aload_n hx hb dL_law_2149 rfl (lv_at hl 0 rfl) ?_
  refine lv_iload hx hb dL_law_2150 (lv_at hl 4 rfl) ?_
  refine lv_iconst (v := (1 : Int32)) hx hb dL_law_2152 (by decide) ?_
  refine lv_iadd hx hb dL_law_2153 ?_
  refine va_sld hx hb hX hbl hbA hS hi1 dL_law_2154 ?_
  refine lv_aload_n hx hb dL_law_2155 rfl (lv_at hl 3 rfl) ?_
  obtain ⟨r_1, vs1_2, viA_3, vjA_4, vkA_5, vcA_6, vaA_7, vpaA_8, vbA_9, vpbA_10, vs2_11, viB_12, vjB_13, vkB_14, vcB_15, vaB_16, vpaB_17, vbB_18, vpbB_19, vou_20, hc_21, hm⟩ := bo20_s hm
  refine my_callRW1 (wc := (wBF Γ q_bf q_tx q_fl q_flT q_hi q_s1 q_s2 q_fd q_kc q_kr  ++ wFloor Γ q_fl q_k q_c q_a q_pa q_b q_pb vi vj vk vc va vpa vb vpb ++ wSlot Γ q_s1 q_flA vs1 ++ wFloor Γ q_flA q_kA q_cA q_aA q_paA q_bA q_pbA viA vjA vkA vcA vaA vpaA vbA vpbA ++ wSlot Γ q_s2 q_flB vs2 ++ wFloor Γ q_flB q_kB q_cB q_aB q_paB q_bB q_pbB viB vjB vkB vcB vaB vpaB vbB vpbB ++ wOut Γ q_ou vou)) (w1 := (wBF Γ q_bf q_tx q_fl q_flT q_hi q_s1 q_s2 q_fd q_kc q_kr  ++ wFloor Γ q_fl q_k q_c q_a q_pa q_b q_pb vi vj vk vc va vpa vb vpb ++ wSlot Γ q_s1 q_flA vs1_2 ++ wFloor Γ q_flA q_kA q_cA q_aA q_paA q_bA q_pbA viA_3 vjA_4 vkA_5 vcA_6 vaA_7 vpaA_8 vbA_9 vpbA_10 ++ wSlot Γ q_s2 q_flB vs2_11 ++ wFloor Γ q_flB q_kB q_cB q_aB q_paB q_bB q_pbB viB_12 vjB_13 vkB_14 vcB_15 vaB_16 vpaB_17 vbB_18 vpbB_19 ++ wOut Γ q_ou vou_20)) (wa1 := (wBF Γ q_bf q_tx q_fl q_flT q_hi q_s1 q_s2 q_fd q_kc q_kr  ++ wFloor Γ q_fl q_k q_c q_a q_pa q_b q_pb vi vj vk vc va vpa vb vpb ++ wSlot Γ q_s1 q_flA vs1_2 ++ wFloor Γ q_flA q_kA q_cA q_aA q_paA q_bA q_pbA viA_3 vjA_4 vkA_5 vcA_6 vaA_7 vpaA_8 vbA_9 vpbA_10 ++ wSlot Γ q_s2 q_flB vs2_11 ++ wFloor Γ q_flB q_kB q_cB q_aB q_paB q_bB q_pbB viB_12 vjB_13 vkB_14 vcB_15 vaB_16 vpaB_17 vbB_18 vpbB_19 ++ wOut Γ q_ou vou_20 ++ wModel Γ q_mo q_tt q_nw q_tr q_ot q_di q_kp q_ik q_wy q_ah q_tg q_ws q_fr q_rw mi vtt vnw vtr vot vdi vkp vik vwy vah vtg vws vfr vrw)) hP hD hS hA [0, 1, 2, 3, 4, 5, 6, 7, 8, 9, 10, 11, 12, 13, 14, 15, 16, 17, 18, 19, 20, 21, 22, 23, 24] rfl rfl rfl rfl (vx_runSW (As := [.ref q_bf, .int (xs (i + (1 : Int32)).toNatClampNeg), .ref q_ou]) (rest := []) ⟨hx, hb, hml, hown, hts⟩ (kL_save l Γ hfl q_bf q_fl q_k q_c q_a q_pa q_b q_pb q_s1 q_flA q_kA q_cA q_aA q_paA q_bA q_pbA q_s2 q_flB q_kB q_cB q_aB q_paB q_bB q_pbB q_ou q_tx q_flT q_hi q_fd q_kc q_kr vi vj vk vc va vpa vb vpb vs1 viA vjA vkA vcA vaA vpaA vbA vpbA vs2 viB vjB vkB vcB vaB vpaB vbB vpbB vou (xs (i + (1 : Int32)).toNatClampNeg) r_1 vs1_2 viA_3 vjA_4 vkA_5 vcA_6 vaA_7 vpaA_8 vbA_9 vpbA_10 vs2_11 viB_12 vjB_13 vkB_14 vcB_15 vaB_16 vpaB_17 vbB_18 vpbB_19 vou_20 hc_21 _) (vx_cwSW 3 hts gL_law_L_save rfl rfl rfl (by decide +kernel) ⟨Nat.le_of_ble_eq_true rfl, Nat.le_of_ble_eq_true rfl⟩) (my_preSW (wc := (wBF Γ q_bf q_tx q_fl q_flT q_hi q_s1 q_s2 q_fd q_kc q_kr  ++ wFloor Γ q_fl q_k q_c q_a q_pa q_b q_pb vi vj vk vc va vpa vb vpb ++ wSlot Γ q_s1 q_flA vs1 ++ wFloor Γ q_flA q_kA q_cA q_aA q_paA q_bA q_pbA viA vjA vkA vcA vaA vpaA vbA vpbA ++ wSlot Γ q_s2 q_flB vs2 ++ wFloor Γ q_flB q_kB q_cB q_aB q_paB q_bB q_pbB viB vjB vkB vcB vaB vpaB vbB vpbB ++ wOut Γ q_ou vou)) [0, 1, 2, 3, 4, 5, 6, 7, 8, 9, 10, 11, 12, 13, 14, 15, 16, 17, 18, 19, 20, 21, 22, 23, 24] hK hP hD hS hA hZ hstr hnc rfl rfl) rfl rfl hl.1 rfl (lv_room (Nat.le_of_ble_eq_true rfl)) dL_law_2156 ⟨Nat.le_trans (Nat.add_le_add_left (Nat.le_of_ble_eq_true rfl) nc) hn, Nat.le_trans (Nat.add_le_add_left (Nat.le_of_ble_eq_true rfl) ns) hk⟩) (fun H locs hP hD hS => ?_)
  refine W.widen (k := nc + 3) (n := ns + 18) (Nat.add_le_add_left (Nat.le_of_ble_eq_true rfl) nc) (Nat.add_le_add_left (Nat.le_of_ble_eq_true rfl) ns) ?_
  refine lv_istore (lv' := [(5, .int r_1), (0, .ref b), (1, .ref q_bf), (2, .ref q_mo), (3, .ref q_ou), (4, .int i)]) hx hb dL_law_2159 hl (by decide) rfl (fun ls hl => ?_)
  refine lv_aload_n hx hb dL_law_2161 rfl (lv_at hl 3 rfl) ?_
  refine lv_aload_n hx hb dL_law_2162 rfl (lv_at hl 1 rfl) ?_
  refine lv_iload hx hb dL_law_2163 (lv_at hl 5 rfl) ?_
  refine lv_iconst (v := (1 : Int32)) hx hb dL_law_2165 (by decide) ?_
  refine lv_iadd hx hb dL_law_2166 ?_
  refine va_sld hx hb hX hbl hbA hS hi1 dL_law_2167 ?_
  obtain ⟨r_22, mi_23, vkp_24, vik_25, hc_26, hm⟩ := bo4_s hm
  refine my_callR1 (wc := (wModel Γ q_mo q_tt q_nw q_tr q_ot q_di q_kp q_ik q_wy q_ah q_tg q_ws q_fr q_rw mi vtt vnw vtr vot vdi vkp vik vwy vah vtg vws vfr vrw)) (w1 := (wModel Γ q_mo q_tt q_nw q_tr q_ot q_di q_kp q_ik q_wy q_ah q_tg q_ws q_fr q_rw mi_23 vtt vnw vtr vot vdi vkp_24 vik_25 vwy vah vtg vws vfr vrw)) (wa1 := (wBF Γ q_bf q_tx q_fl q_flT q_hi q_s1 q_s2 q_fd q_kc q_kr  ++ wFloor Γ q_fl q_k q_c q_a q_pa q_b q_pb vi vj vk vc va vpa vb vpb ++ wSlot Γ q_s1 q_flA vs1_2 ++ wFloor Γ q_flA q_kA q_cA q_aA q_paA q_bA q_pbA viA_3 vjA_4 vkA_5 vcA_6 vaA_7 vpaA_8 vbA_9 vpbA_10 ++ wSlot Γ q_s2 q_flB vs2_11 ++ wFloor Γ q_flB q_kB q_cB q_aB q_paB q_bB q_pbB viB_12 vjB_13 vkB_14 vcB_15 vaB_16 vpaB_17 vbB_18 vpbB_19 ++ wOut Γ q_ou vou_20 ++ wModel Γ q_mo q_tt q_nw q_tr q_ot q_di q_kp q_ik q_wy q_ah q_tg q_ws q_fr q_rw mi_23 vtt vnw vtr vot vdi vkp_24 vik_25 vwy vah vtg vws vfr vrw)) hP hD hS hA [25, 26, 27, 28, 29, 30, 31, 32, 33, 34, 35, 36, 37, 38] rfl rfl rfl rfl (va_runV (As := [.int (xs (i + (1 : Int32)).toNatClampNeg)]) (rest := []) ⟨hx, hb, hml, hown, hts⟩ (kX9_save l Γ q_mo q_tt q_nw q_tr q_ot q_di q_kp q_ik q_wy q_ah q_tg q_ws q_fr q_rw mi vtt vnw vtr vot vdi vkp vik vwy vah vtg vws vfr vrw (xs (i + (1 : Int32)).toNatClampNeg) r_22 mi_23 vkp_24 vik_25 hc_26 _) (cwV 1 hts gL_law_X9_save rfl rfl rfl (by decide +kernel) ⟨Nat.le_of_ble_eq_true rfl, Nat.le_of_ble_eq_true rfl⟩) (my_preV (wc := (wModel Γ q_mo q_tt q_nw q_tr q_ot q_di q_kp q_ik q_wy q_ah q_tg q_ws q_fr q_rw mi vtt vnw vtr vot vdi vkp vik vwy vah vtg vws vfr vrw)) (ci := 7) (q0 := 25) [25, 26, 27, 28, 29, 30, 31, 32, 33, 34, 35, 36, 37, 38] hK hP hD rfl rfl rfl rfl) rfl rfl hl.1 rfl (lv_room (Nat.le_of_ble_eq_true rfl)) dL_law_2168 ⟨hn, hk⟩) (fun H locs hP hD hS => ?_)
  refine lv_istore (lv' := [(6, .int r_22), (5, .int r_1), (0, .ref b), (1, .ref q_bf), (2, .ref q_mo), (3, .ref q_ou), (4, .int i)]) hx hb dL_law_2171 hl (by decide) rfl (fun ls hl => ?_)
  refine lv_aload_n hx hb dL_law_2173 rfl (lv_at hl 4 rfl) ?_
  refine my_callR1 (wc := (wMo Γ q_mo q_tt q_nw q_tr q_ot q_di q_kp q_ik q_wy q_ah q_tg q_ws q_fr q_rw mi_23)) (w1 := (wMo Γ q_mo q_tt q_nw q_tr q_ot q_di q_kp q_ik q_wy q_ah q_tg q_ws q_fr q_rw mi_23)) (wa1 := (wBF Γ q_bf q_tx q_fl q_flT q_hi q_s1 q_s2 q_fd q_kc q_kr  ++ wFloor Γ q_fl q_k q_c q_a q_pa q_b q_pb vi vj vk vc va vpa vb vpb ++ wSlot Γ q_s1 q_flA vs1_2 ++ wFloor Γ q_flA q_kA q_cA q_aA q_paA q_bA q_pbA viA_3 vjA_4 vkA_5 vcA_6 vaA_7 vpaA_8 vbA_9 vpbA_10 ++ wSlot Γ q_s2 q_flB vs2_11 ++ wFloor Γ q_flB q_kB q_cB q_aB q_paB q_bB q_pbB viB_12 vjB_13 vkB_14 vcB_15 vaB_16 vpaB_17 vbB_18 vpbB_19 ++ wOut Γ q_ou vou_20 ++ wModel Γ q_mo q_tt q_nw q_tr q_ot q_di q_kp q_ik q_wy q_ah q_tg q_ws q_fr q_rw mi_23 vtt vnw vtr vot vdi vkp_24 vik_25 vwy vah vtg vws vfr vrw)) hP hD hS hA [25] rfl rfl rfl rfl (va_runV (As := []) (rest := []) ⟨hx, hb, hml, hown, hts⟩ (kX9_thrown l Γ q_mo q_tt q_nw q_tr q_ot q_di q_kp q_ik q_wy q_ah q_tg q_ws q_fr q_rw mi_23 (mX9_thrown mi_23) rfl _) (cwV 0 hts gL_law_X9_thrown rfl rfl rfl (by decide +kernel) ⟨Nat.le_of_ble_eq_true rfl, Nat.le_of_ble_eq_true rfl⟩) (my_preV (wc := (wMo Γ q_mo q_tt q_nw q_tr q_ot q_di q_kp q_ik q_wy q_ah q_tg q_ws q_fr q_rw mi_23)) (ci := 7) (q0 := 25) [25] hK hP hD rfl rfl rfl rfl) rfl rfl hl.1 rfl (lv_room (Nat.le_of_ble_eq_true rfl)) dL_law_2174 ⟨hn, hk⟩) (fun H locs hP hD hS => ?_)
  refine lv_iload hx hb dL_law_2177 (lv_at hl 1 rfl) ?_
  refine lv_icmp_eq (tgt := 2184) hx hb dL_law_2179 (by decide) (fun c_27 => ?_) (fun c_27 => ?_)
  · replace hm := if_s hm c_27
    refine lv_iload hx hb dL_law_2184 (lv_at hl 1 rfl) ?_
    refine lv_if_ne (tgt := 2201) hx hb dL_law_2186 (by decide) (fun c_28 => ?_) (fun c_28 => ?_)
    · replace hm := if_f hm c_28
      refine lv_goto (tgt := 2260) hx hb dL_law_2201 (by decide) ?_
      obtain ⟨hf0, hf1, hf2, hf3, hf4, hf5, hf6, hf7, hf8, hf9, hf10, hf11, hf12, hf13, hf14, hf15, hf16, hf17, hf18, hf19, hf20, hf21⟩ := si22 hm
      subst hf0
      subst hf1
      subst hf2
      subst hf3
      subst hf4
      subst hf5
      subst hf6
      subst hf7
      subst hf8
      subst hf9
      subst hf10
      subst hf11
      subst hf12
      subst hf13
      subst hf14
      subst hf15
      subst hf16
      subst hf17
      subst hf18
      subst hf19
      subst hf20
      subst hf21
      exact kk _ _ _ hP hD hS (lv_sub hl [2, 3, 4, 5, 6] rfl)
    · replace hm := if_s hm c_28
      refine lv_aload_n hx hb dL_law_2189 rfl (lv_at hl 5 rfl) ?_
      refine lv_iconst (v := (0 : Int32)) hx hb dL_law_2190 (by decide) ?_
      refine va_lald hx hb hK hP 24 1 rfl rfl (show vp_in (0 : Int32) 1 from (by decide : ¬ ((0 : Int32) < 0 ∨ 1 ≤ (0 : Int32).toNatClampNeg))) dL_law_2191 ?_
      refine lv_iload hx hb dL_law_2192 (lv_at hl 0 rfl) ?_
      refine lv_i2l (v := r_22.toInt64) hx hb dL_law_2194 rfl ?_
      refine W.lcmp hx hb dL_law_2195 ?_
      refine lv_if_eq (tgt := 2201) hx hb dL_law_2196 (by decide) (fun c_29 => ?_) (fun c_29 => ?_)
      · replace hm := if_s hm c_29
        refine lv_goto (tgt := 2260) hx hb dL_law_2201 (by decide) ?_
        obtain ⟨hf0, hf1, hf2, hf3, hf4, hf5, hf6, hf7, hf8, hf9, hf10, hf11, hf12, hf13, hf14, hf15, hf16, hf17, hf18, hf19, hf20, hf21⟩ := si22 hm
        subst hf0
        subst hf1
        subst hf2
        subst hf3
        subst hf4
        subst hf5
        subst hf6
        subst hf7
        subst hf8
        subst hf9
        subst hf10
        subst hf11
        subst hf12
        subst hf13
        subst hf14
        subst hf15
        subst hf16
        subst hf17
        subst hf18
        subst hf19
        subst hf20
        subst hf21
        exact kk _ _ _ hP hD hS (lv_sub hl [2, 3, 4, 5, 6] rfl)
      · replace hm := if_f hm c_29
        refine lv_iconst (v := (0 : Int32)) hx hb dL_law_2199 (by decide) ?_
        cases hm
  · replace hm := if_f hm c_27
    refine lv_iconst (v := (0 : Int32)) hx hb dL_law_2182 (by decide) ?_
    cases hm
def mLaw_restore (vi : Nat → Int32) (vj : Nat → Int64) (vk : Nat → Int32) (vc : Nat → Int32) (va : Nat → Int32) (vpa : Nat → Int32) (vb : Nat → Int32) (vpb : Nat → Int32) (vh : Nat → Int32) (vs1 : Nat → Int32) (viA : Nat → Int32) (vjA : Nat → Int64) (vkA : Nat → Int32) (vcA : Nat → Int32) (vaA : Nat → Int32) (vpaA : Nat → Int32) (vbA : Nat → Int32) (vpbA : Nat → Int32) (vs2 : Nat → Int32) (viB : Nat → Int32) (vjB : Nat → Int64) (vkB : Nat → Int32) (vcB : Nat → Int32) (vaB : Nat → Int32) (vpaB : Nat → Int32) (vbB : Nat → Int32) (vpbB : Nat → Int32) (vou : Nat → Int64) (mi : Nat → Int32) (vnw : Nat → Int32) (vkp : Nat → Int32) (vik : Nat → Int32) (xs : Nat → Int32) (i : Int32) : Option ((Nat → Int32) × (Nat → Int64) × (Nat → Int32) × (Nat → Int32) × (Nat → Int32) × (Nat → Int32) × (Nat → Int32) × (Nat → Int32) × (Nat → Int32) × (Nat → Int64) × (Nat → Int32) × (Nat → Int32)) := (bo11 (mL_restore vi vj vk vc va vpa vb vpb vh vs1 viA vjA vkA vcA vaA vpaA vbA vpbA vs2 viB vjB vkB vcB vaB vpaB vbB vpbB vou (xs (i + (1 : Int32)).toNatClampNeg)) (fun r_1 vi_2 vj_3 vk_4 vc_5 va_6 vpa_7 vb_8 vpb_9 vh_10 vou_11 => (bo3 (mX9_restore mi vnw vkp vik (xs (i + (1 : Int32)).toNatClampNeg)) (fun r_13 mi_14 vnw_15 => (if (mX9_thrown mi_14) = r_1 then (if r_1 = 0 then (if (lg_cmp (vou_11 (0 : Int32).toNatClampNeg) (r_13.toInt64)) = 0 then (some (vi_2, vj_3, vk_4, vc_5, va_6, vpa_7, vb_8, vpb_9, vh_10, vou_11, mi_14, vnw_15)) else none) else (some (vi_2, vj_3, vk_4, vc_5, va_6, vpa_7, vb_8, vpb_9, vh_10, vou_11, mi_14, vnw_15))) else none)))))
set_option maxHeartbeats 4000000 in
set_option maxRecDepth 100000 in
theorem kLaw_restore (l : Launch) (Γ : my_G) (hfl : l.stackTraces = false) {p : Program} {e : Env} {s : State} {m : MethodId} {below : List Frame} {meth : Method} {c : Code} {b L : Nat} {xs : Nat → Int32} {Q : State → Prop} (hx : p.tables.exec = Jvm.exec) (hb : c.code = cL_law) (hml : c.maxLocals = 7) (hown : s.vm.findClass RL = some m.cls) (hts : ∀ w ∈ wsL_law, w.before #[Value.ref b] s = true) (hX : va_X b L xs s s.heap) (hbl : b < s.heap.size) (hK : my_K Γ s) (hZ : my_ZZ (fun q : Nat => s.heap.size ≤ q) s s.heap) (hstr : my_str s) (hnc : my_nc s) (q_bf q_fl q_k q_c q_a q_pa q_b q_pb q_hi q_hs q_s1 q_flA q_kA q_cA q_aA q_paA q_bA q_pbA q_s2 q_flB q_kB q_cB q_aB q_paB q_bB q_pbB q_ou q_mo q_tt q_nw q_tr q_ot q_di q_kp q_ik q_wy q_ah q_tg q_ws q_fr q_rw q_tx q_flT q_fd q_kc q_kr : Nat) (vi : Nat → Int32) (vj : Nat → Int64) (vk : Nat → Int32) (vc : Nat → Int32) (va : Nat → Int32) (vpa : Nat → Int32) (vb : Nat → Int32) (vpb : Nat → Int32) (vh : Nat → Int32) (vhs : Nat → Option Nat) (vs1 : Nat → Int32) (viA : Nat → Int32) (vjA : Nat → Int64) (vkA : Nat → Int32) (vcA : Nat → Int32) (vaA : Nat → Int32) (vpaA : Nat → Int32) (vbA : Nat → Int32) (vpbA : Nat → Int32) (vs2 : Nat → Int32) (viB : Nat → Int32) (vjB : Nat → Int64) (vkB : Nat → Int32) (vcB : Nat → Int32) (vaB : Nat → Int32) (vpaB : Nat → Int32) (vbB : Nat → Int32) (vpbB : Nat → Int32) (vou : Nat → Int64) (mi : Nat → Int32) (vtt : Nat → Int32) (vnw : Nat → Int32) (vtr : Nat → Int32) (vot : Nat → Int32) (vdi : Nat → Int32) (vkp : Nat → Int32) (vik : Nat → Int32) (vwy : Nat → Int32) (vah : Nat → Int32) (vtg : Nat → Int32) (vws : Nat → Int32) (vfr : Nat → Int32) (vrw : Nat → Int32) (i : Int32) (hi1 : vp_in (i + (1 : Int32)) L) (hi2 : vp_in (i + (2 : Int32)) L) (hi3 : vp_in (i + (3 : Int32)) L) (vi_z : Nat → Int32) (vj_z : Nat → Int64) (vk_z : Nat → Int32) (vc_z : Nat → Int32) (va_z : Nat → Int32) (vpa_z : Nat → Int32) (vb_z : Nat → Int32) (vpb_z : Nat → Int32) (vh_z : Nat → Int32) (vou_z : Nat → Int64) (mi_z : Nat → Int32) (vnw_z : Nat → Int32) (hm : mLaw_restore vi vj vk vc va vpa vb vpb vh vs1 viA vjA vkA vcA vaA vpaA vbA vpbA vs2 viB vjB vkB vcB vaB vpaB vbB vpbB vou mi vnw vkp vik xs i = (some (vi_z, vj_z, vk_z, vc_z, va_z, vpa_z, vb_z, vpb_z, vh_z, vou_z, mi_z, vnw_z))) (R_ : va_W) (nc ns : Nat) (hn : nc + 3 ≤ room_1.cells) (hk : ns + 18 ≤ room_1.slots) (H : Heap) (locs : List Loc) (ls : Array Slot) (hP : va_P (my_D Γ) vwCl ((wBF Γ q_bf q_tx q_fl q_flT q_hi q_s1 q_s2 q_fd q_kc q_kr  ++ wFloor Γ q_fl q_k q_c q_a q_pa q_b q_pb vi vj vk vc va vpa vb vpb ++ wHist Γ q_hi q_hs vh vhs ++ wSlot Γ q_s1 q_flA vs1 ++ wFloor Γ q_flA q_kA q_cA q_aA q_paA q_bA q_pbA viA vjA vkA vcA vaA vpaA vbA vpbA ++ wSlot Γ q_s2 q_flB vs2 ++ wFloor Γ q_flB q_kB q_cB q_aB q_paB q_bB q_pbB viB vjB vkB vcB vaB vpaB vbB vpbB ++ wOut Γ q_ou vou ++ wModel Γ q_mo q_tt q_nw q_tr q_ot q_di q_kp q_ik q_wy q_ah q_tg q_ws q_fr q_rw mi vtt vnw vtr vot vdi vkp vik vwy vah vtg vws vfr vrw) ++ R_) H) (hD : va_D (fun q : Nat => s.heap.size ≤ q) ((wBF Γ q_bf q_tx q_fl q_flT q_hi q_s1 q_s2 q_fd q_kc q_kr  ++ wFloor Γ q_fl q_k q_c q_a q_pa q_b q_pb vi vj vk vc va vpa vb vpb ++ wHist Γ q_hi q_hs vh vhs ++ wSlot Γ q_s1 q_flA vs1 ++ wFloor Γ q_flA q_kA q_cA q_aA q_paA q_bA q_pbA viA vjA vkA vcA vaA vpaA vbA vpbA ++ wSlot Γ q_s2 q_flB vs2 ++ wFloor Γ q_flB q_kB q_cB q_aB q_paB q_bB q_pbB viB vjB vkB vcB vaB vpaB vbB vpbB ++ wOut Γ q_ou vou ++ wModel Γ q_mo q_tt q_nw q_tr q_ot q_di q_kp q_ik q_wy q_ah q_tg q_ws q_fr q_rw mi vtt vnw vtr vot vdi vkp vik vwy vah vtg vws vfr vrw) ++ R_)) (hS : va_S (fun q : Nat => s.heap.size ≤ q) s.heap H locs) (hl : lv_has ls 7 [(0, .ref b), (1, .ref q_bf), (2, .ref q_mo), (3, .ref q_ou), (4, .int i)]) (kk : ∀ (H : Heap) (locs : List Loc) (ls : Array Slot), va_P (my_D Γ) vwCl ((wBF Γ q_bf q_tx q_fl q_flT q_hi q_s1 q_s2 q_fd q_kc q_kr  ++ wFloor Γ q_fl q_k q_c q_a q_pa q_b q_pb vi_z vj_z vk_z vc_z va_z vpa_z vb_z vpb_z ++ wHist Γ q_hi q_hs vh_z vhs ++ wSlot Γ q_s1 q_flA vs1 ++ wFloor Γ q_flA q_kA q_cA q_aA q_paA q_bA q_pbA viA vjA vkA vcA vaA vpaA vbA vpbA ++ wSlot Γ q_s2 q_flB vs2 ++ wFloor Γ q_flB q_kB q_cB q_aB q_paB q_bB q_pbB viB vjB vkB vcB vaB vpaB vbB vpbB ++ wOut Γ q_ou vou_z ++ wModel Γ q_mo q_tt q_nw q_tr q_ot q_di q_kp q_ik q_wy q_ah q_tg q_ws q_fr q_rw mi_z vtt vnw_z vtr vot vdi vkp vik vwy vah vtg vws vfr vrw) ++ R_) H → va_D (fun q : Nat => s.heap.size ≤ q) ((wBF Γ q_bf q_tx q_fl q_flT q_hi q_s1 q_s2 q_fd q_kc q_kr  ++ wFloor Γ q_fl q_k q_c q_a q_pa q_b q_pb vi_z vj_z vk_z vc_z va_z vpa_z vb_z vpb_z ++ wHist Γ q_hi q_hs vh_z vhs ++ wSlot Γ q_s1 q_flA vs1 ++ wFloor Γ q_flA q_kA q_cA q_aA q_paA q_bA q_pbA viA vjA vkA vcA vaA vpaA vbA vpbA ++ wSlot Γ q_s2 q_flB vs2 ++ wFloor Γ q_flB q_kB q_cB q_aB q_paB q_bB q_pbB viB vjB vkB vcB vaB vpaB vbB vpbB ++ wOut Γ q_ou vou_z ++ wModel Γ q_mo q_tt q_nw q_tr q_ot q_di q_kp q_ik q_wy q_ah q_tg q_ws q_fr q_rw mi_z vtt vnw_z vtr vot vdi vkp vik vwy vah vtg vws vfr vrw) ++ R_) → va_S (fun q : Nat => s.heap.size ≤ q) s.heap H locs → lv_has ls 7 [(0, .ref b), (1, .ref q_bf), (2, .ref q_mo), (3, .ref q_ou), (4, .int i)] → W p l e room_1 s m #[Value.ref b] below meth c H locs (nc + 3) (ns + 18) Q (F0 m 2260 ls [])) : W p l e room_1 s m #[Value.ref b] below meth c H locs nc ns Q (F0 m 2204 ls []) := by
  have hA : ∀ q : Nat, s.heap.size ≤ q → (fun q : Nat => s.heap.size ≤ q) q := fun _ h => h
  have hbA : ¬ (fun q : Nat => s.heap.size ≤ q) b := Nat.not_le.mpr hbl
  unfold mLaw_restore at hm
  refine lv_aload_n hx hb dL_law_2204 rfl (lv_at hl 1 rfl) ?_
  refine lv_aload_n hx hb dL_law_2205 rfl (lv_at hl 0 rfl) ?_
  refine lv_iload hx hb dL_law_2206 (lv_at hl 4 rfl) ?_
  refine lv_iconst (v := (1 : Int32)) hx hb dL_law_2208 (by decide) ?_
  refine lv_iadd hx hb dL_law_2209 ?_
  refine va_sld hx hb hX hbl hbA hS hi1 dL_law_2210 ?_
  refine lv_aload_n hx hb dL_law_2211 rfl (lv_at hl 3 rfl) ?_
  obtain ⟨r_1, vi_2, vj_3, vk_4, vc_5, va_6, vpa_7, vb_8, vpb_9, vh_10, vou_11, hc_12, hm⟩ := bo11_s hm
  refine my_callRW1 (wc := (wBF Γ q_bf q_tx q_fl q_flT q_hi q_s1 q_s2 q_fd q_kc q_kr  ++ wFloor Γ q_fl q_k q_c q_a q_pa q_b q_pb vi vj vk vc va vpa vb vpb ++ wHist Γ q_hi q_hs vh vhs ++ wSlot Γ q_s1 q_flA vs1 ++ wFloor Γ q_flA q_kA q_cA q_aA q_paA q_bA q_pbA viA vjA vkA vcA vaA vpaA vbA vpbA ++ wSlot Γ q_s2 q_flB vs2 ++ wFloor Γ q_flB q_kB q_cB q_aB q_paB q_bB q_pbB viB vjB vkB vcB vaB vpaB vbB vpbB ++ wOut Γ q_ou vou)) (w1 := (wBF Γ q_bf q_tx q_fl q_flT q_hi q_s1 q_s2 q_fd q_kc q_kr  ++ wFloor Γ q_fl q_k q_c q_a q_pa q_b q_pb vi_2 vj_3 vk_4 vc_5 va_6 vpa_7 vb_8 vpb_9 ++ wHist Γ q_hi q_hs vh_10 vhs ++ wSlot Γ q_s1 q_flA vs1 ++ wFloor Γ q_flA q_kA q_cA q_aA q_paA q_bA q_pbA viA vjA vkA vcA vaA vpaA vbA vpbA ++ wSlot Γ q_s2 q_flB vs2 ++ wFloor Γ q_flB q_kB q_cB q_aB q_paB q_bB q_pbB viB vjB vkB vcB vaB vpaB vbB vpbB ++ wOut Γ q_ou vou_11)) (wa1 := (wBF Γ q_bf q_tx q_fl q_flT q_hi q_s1 q_s2 q_fd q_kc q_kr  ++ wFloor Γ q_fl q_k q_c q_a q_pa q_b q_pb vi_2 vj_3 vk_4 vc_5 va_6 vpa_7 vb_8 vpb_9 ++ wHist Γ q_hi q_hs vh_10 vhs ++ wSlot Γ q_s1 q_flA vs1 ++ wFloor Γ q_flA q_kA q_cA q_aA q_paA q_bA q_pbA viA vjA vkA vcA vaA vpaA vbA vpbA ++ wSlot Γ q_s2 q_flB vs2 ++ wFloor Γ q_flB q_kB q_cB q_aB q_paB q_bB q_pbB viB vjB vkB vcB vaB vpaB vbB vpbB ++ wOut Γ q_ou vou_11 ++ wModel Γ q_mo q_tt q_nw q_tr q_ot q_di q_kp q_ik q_wy q_ah q_tg q_ws q_fr q_rw mi vtt vnw vtr vot vdi vkp vik vwy vah vtg vws vfr vrw)) hP hD hS hA [0, 1, 2, 3, 4, 5, 6, 7, 8, 9, 10, 11, 12, 13, 14, 15, 16, 17, 18, 19, 20, 21, 22, 23, 24, 25, 26] rfl rfl rfl rfl (vx_runSW (As := [.ref q_bf, .int (xs (i + (1 : Int32)).toNatClampNeg), .ref q_ou]) (rest := []) ⟨hx, hb, hml, hown, hts⟩ (kL_restore l Γ hfl q_bf q_fl q_k q_c q_a q_pa q_b q_pb q_hi q_hs q_s1 q_flA q_kA q_cA q_aA q_paA q_bA q_pbA q_s2 q_flB q_kB q_cB q_aB q_paB q_bB q_pbB q_ou q_tx q_flT q_fd q_kc q_kr vi vj vk vc va vpa vb vpb vh vhs vs1 viA vjA vkA vcA vaA vpaA vbA vpbA vs2 viB vjB vkB vcB vaB vpaB vbB vpbB vou (xs (i + (1 : Int32)).toNatClampNeg) r_1 vi_2 vj_3 vk_4 vc_5 va_6 vpa_7 vb_8 vpb_9 vh_10 vou_11 hc_12 _) (vx_cwSW 3 hts gL_law_L_restore rfl rfl rfl (by decide +kernel) ⟨Nat.le_of_ble_eq_true rfl, Nat.le_of_ble_eq_true rfl⟩) (my_preSW (wc := (wBF Γ q_bf q_tx q_fl q_flT q_hi q_s1 q_s2 q_fd q_kc q_kr  ++ wFloor Γ q_fl q_k q_c q_a q_pa q_b q_pb vi vj vk vc va vpa vb vpb ++ wHist Γ q_hi q_hs vh vhs ++ wSlot Γ q_s1 q_flA vs1 ++ wFloor Γ q_flA q_kA q_cA q_aA q_paA q_bA q_pbA viA vjA vkA vcA vaA vpaA vbA vpbA ++ wSlot Γ q_s2 q_flB vs2 ++ wFloor Γ q_flB q_kB q_cB q_aB q_paB q_bB q_pbB viB vjB vkB vcB vaB vpaB vbB vpbB ++ wOut Γ q_ou vou)) [0, 1, 2, 3, 4, 5, 6, 7, 8, 9, 10, 11, 12, 13, 14, 15, 16, 17, 18, 19, 20, 21, 22, 23, 24, 25, 26] hK hP hD hS hA hZ hstr hnc rfl rfl) rfl rfl hl.1 rfl (lv_room (Nat.le_of_ble_eq_true rfl)) dL_law_2212 ⟨Nat.le_trans (Nat.add_le_add_left (Nat.le_of_ble_eq_true rfl) nc) hn, Nat.le_trans (Nat.add_le_add_left (Nat.le_of_ble_eq_true rfl) ns) hk⟩) (fun H locs hP hD hS => ?_)
  refine W.widen (k := nc + 3) (n := ns + 18) (Nat.add_le_add_left (Nat.le_of_ble_eq_true rfl) nc) (Nat.add_le_add_left (Nat.le_of_ble_eq_true rfl) ns) ?_
  refine lv_istore (lv' := [(5, .int r_1), (0, .ref b), (1, .ref q_bf), (2, .ref q_mo), (3, .ref q_ou), (4, .int i)]) hx hb dL_law_2215 hl (by decide) rfl (fun ls hl => ?_)
  refine lv_aload_n hx hb dL_law_2217 rfl (lv_at hl 3 rfl) ?_
  refine lv_aload_n hx hb dL_law_2218 rfl (lv_at hl 1 rfl) ?_
  refine lv_iload hx hb dL_law_2219 (lv_at hl 5 rfl) ?_
  refine lv_iconst (v := (1 : Int32)) hx hb dL_law_2221 (by decide) ?_
  refine lv_iadd hx hb dL_law_2222 ?_
  refine va_sld hx hb hX hbl hbA hS hi1 dL_law_2223 ?_
  obtain ⟨r_13, mi_14, vnw_15, hc_16, hm⟩ := bo3_s hm
  refine my_callR1 (wc := (wModel Γ q_mo q_tt q_nw q_tr q_ot q_di q_kp q_ik q_wy q_ah q_tg q_ws q_fr q_rw mi vtt vnw vtr vot vdi vkp vik vwy vah vtg vws vfr vrw)) (w1 := (wModel Γ q_mo q_tt q_nw q_tr q_ot q_di q_kp q_ik q_wy q_ah q_tg q_ws q_fr q_rw mi_14 vtt vnw_15 vtr vot vdi vkp vik vwy vah vtg vws vfr vrw)) (wa1 := (wBF Γ q_bf q_tx q_fl q_flT q_hi q_s1 q_s2 q_fd q_kc q_kr  ++ wFloor Γ q_fl q_k q_c q_a q_pa q_b q_pb vi_2 vj_3 vk_4 vc_5 va_6 vpa_7 vb_8 vpb_9 ++ wHist Γ q_hi q_hs vh_10 vhs ++ wSlot Γ q_s1 q_flA vs1 ++ wFloor Γ q_flA q_kA q_cA q_aA q_paA q_bA q_pbA viA vjA vkA vcA vaA vpaA vbA vpbA ++ wSlot Γ q_s2 q_flB vs2 ++ wFloor Γ q_flB q_kB q_cB q_aB q_paB q_bB q_pbB viB vjB vkB vcB vaB vpaB vbB vpbB ++ wOut Γ q_ou vou_11 ++ wModel Γ q_mo q_tt q_nw q_tr q_ot q_di q_kp q_ik q_wy q_ah q_tg q_ws q_fr q_rw mi_14 vtt vnw_15 vtr vot vdi vkp vik vwy vah vtg vws vfr vrw)) hP hD hS hA [27, 28, 29, 30, 31, 32, 33, 34, 35, 36, 37, 38, 39, 40] rfl rfl rfl rfl (va_runV (As := [.int (xs (i + (1 : Int32)).toNatClampNeg)]) (rest := []) ⟨hx, hb, hml, hown, hts⟩ (kX9_restore l Γ q_mo q_tt q_nw q_tr q_ot q_di q_kp q_ik q_wy q_ah q_tg q_ws q_fr q_rw mi vtt vnw vtr vot vdi vkp vik vwy vah vtg vws vfr vrw (xs (i + (1 : Int32)).toNatClampNeg) r_13 mi_14 vnw_15 hc_16 _) (cwV 1 hts gL_law_X9_restore rfl rfl rfl (by decide +kernel) ⟨Nat.le_of_ble_eq_true rfl, Nat.le_of_ble_eq_true rfl⟩) (my_preV (wc := (wModel Γ q_mo q_tt q_nw q_tr q_ot q_di q_kp q_ik q_wy q_ah q_tg q_ws q_fr q_rw mi vtt vnw vtr vot vdi vkp vik vwy vah vtg vws vfr vrw)) (ci := 7) (q0 := 27) [27, 28, 29, 30, 31, 32, 33, 34, 35, 36, 37, 38, 39, 40] hK hP hD rfl rfl rfl rfl) rfl rfl hl.1 rfl (lv_room (Nat.le_of_ble_eq_true rfl)) dL_law_2224 ⟨hn, hk⟩) (fun H locs hP hD hS => ?_)
  refine lv_istore (lv' := [(6, .int r_13), (5, .int r_1), (0, .ref b), (1, .ref q_bf), (2, .ref q_mo), (3, .ref q_ou), (4, .int i)]) hx hb dL_law_2227 hl (by decide) rfl (fun ls hl => ?_)
  refine lv_aload_n hx hb dL_law_2229 rfl (lv_at hl 4 rfl) ?_
  refine my_callR1 (wc := (wMo Γ q_mo q_tt q_nw q_tr q_ot q_di q_kp q_ik q_wy q_ah q_tg q_ws q_fr q_rw mi_14)) (w1 := (wMo Γ q_mo q_tt q_nw q_tr q_ot q_di q_kp q_ik q_wy q_ah q_tg q_ws q_fr q_rw mi_14)) (wa1 := (wBF Γ q_bf q_tx q_fl q_flT q_hi q_s1 q_s2 q_fd q_kc q_kr  ++ wFloor Γ q_fl q_k q_c q_a q_pa q_b q_pb vi_2 vj_3 vk_4 vc_5 va_6 vpa_7 vb_8 vpb_9 ++ wHist Γ q_hi q_hs vh_10 vhs ++ wSlot Γ q_s1 q_flA vs1 ++ wFloor Γ q_flA q_kA q_cA q_aA q_paA q_bA q_pbA viA vjA vkA vcA vaA vpaA vbA vpbA ++ wSlot Γ q_s2 q_flB vs2 ++ wFloor Γ q_flB q_kB q_cB q_aB q_paB q_bB q_pbB viB vjB vkB vcB vaB vpaB vbB vpbB ++ wOut Γ q_ou vou_11 ++ wModel Γ q_mo q_tt q_nw q_tr q_ot q_di q_kp q_ik q_wy q_ah q_tg q_ws q_fr q_rw mi_14 vtt vnw_15 vtr vot vdi vkp vik vwy vah vtg vws vfr vrw)) hP hD hS hA [27] rfl rfl rfl rfl (va_runV (As := []) (rest := []) ⟨hx, hb, hml, hown, hts⟩ (kX9_thrown l Γ q_mo q_tt q_nw q_tr q_ot q_di q_kp q_ik q_wy q_ah q_tg q_ws q_fr q_rw mi_14 (mX9_thrown mi_14) rfl _) (cwV 0 hts gL_law_X9_thrown rfl rfl rfl (by decide +kernel) ⟨Nat.le_of_ble_eq_true rfl, Nat.le_of_ble_eq_true rfl⟩) (my_preV (wc := (wMo Γ q_mo q_tt q_nw q_tr q_ot q_di q_kp q_ik q_wy q_ah q_tg q_ws q_fr q_rw mi_14)) (ci := 7) (q0 := 27) [27] hK hP hD rfl rfl rfl rfl) rfl rfl hl.1 rfl (lv_room (Nat.le_of_ble_eq_true rfl)) dL_law_2230 ⟨hn, hk⟩) (fun H locs hP hD hS => ?_)
  refine lv_iload hx hb dL_law_2233 (lv_at hl 1 rfl) ?_
  refine lv_icmp_eq (tgt := 2240) hx hb dL_law_2235 (by decide) (fun c_17 => ?_) (fun c_17 => ?_)
  · replace hm := if_s hm c_17
    refine lv_iload hx hb dL_law_2240 (lv_at hl 1 rfl) ?_
    refine lv_if_ne (tgt := 2257) hx hb dL_law_2242 (by decide) (fun c_18 => ?_) (fun c_18 => ?_)
    · replace hm := if_f hm c_18
      refine lv_goto (tgt := 2260) hx hb dL_law_2257 (by decide) ?_
      obtain ⟨hf0, hf1, hf2, hf3, hf4, hf5, hf6, hf7, hf8, hf9, hf10, hf11⟩ := si12 hm
      subst hf0
      subst hf1
      subst hf2
      subst hf3
      subst hf4
      subst hf5
      subst hf6
      subst hf7
      subst hf8
      subst hf9
      subst hf10
      subst hf11
      exact kk _ _ _ hP hD hS (lv_sub hl [2, 3, 4, 5, 6] rfl)
    · replace hm := if_s hm c_18
      refine lv_aload_n hx hb dL_law_2245 rfl (lv_at hl 5 rfl) ?_
      refine lv_iconst (v := (0 : Int32)) hx hb dL_law_2246 (by decide) ?_
      refine va_lald hx hb hK hP 26 1 rfl rfl (show vp_in (0 : Int32) 1 from (by decide : ¬ ((0 : Int32) < 0 ∨ 1 ≤ (0 : Int32).toNatClampNeg))) dL_law_2247 ?_
      refine lv_iload hx hb dL_law_2248 (lv_at hl 0 rfl) ?_
      refine lv_i2l (v := r_13.toInt64) hx hb dL_law_2250 rfl ?_
      refine W.lcmp hx hb dL_law_2251 ?_
      refine lv_if_eq (tgt := 2257) hx hb dL_law_2252 (by decide) (fun c_19 => ?_) (fun c_19 => ?_)
      · replace hm := if_s hm c_19
        refine lv_goto (tgt := 2260) hx hb dL_law_2257 (by decide) ?_
        obtain ⟨hf0, hf1, hf2, hf3, hf4, hf5, hf6, hf7, hf8, hf9, hf10, hf11⟩ := si12 hm
        subst hf0
        subst hf1
        subst hf2
        subst hf3
        subst hf4
        subst hf5
        subst hf6
        subst hf7
        subst hf8
        subst hf9
        subst hf10
        subst hf11
        exact kk _ _ _ hP hD hS (lv_sub hl [2, 3, 4, 5, 6] rfl)
      · replace hm := if_f hm c_19
        refine lv_iconst (v := (0 : Int32)) hx hb dL_law_2255 (by decide) ?_
        cases hm
  · replace hm := if_f hm c_17
    refine lv_iconst (v := (0 : Int32)) hx hb dL_law_2238 (by decide) ?_
    cases hm
