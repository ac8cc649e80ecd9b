def mL_kindOf (vk : Nat → Int32) (vou : Nat → Int64) (x1 : Int32) : Option (Int32 × (Nat → Int64)) := (bh1 (mX8_kindOf vk x1) (fun r_1 => (some ((0 : Int32), (vp_updL vou (0 : Int32).toNatClampNeg (r_1.toInt64))))) (fun E_ => (if E_ = "java/lang/IndexOutOfBoundsException" then (some ((1 : Int32), vou)) else none)))
set_option maxHeartbeats 4000000 in
set_option maxRecDepth 100000 in
theorem kL_kindOf (l : Launch) (Γ : my_G) (hfl : l.stackTraces = false) (q_bf q_fl q_k q_c q_a q_pa q_b q_pb q_ou q_tx q_flT q_hi q_s1 q_s2 q_fd q_kc q_kr : Nat) (vi : Nat → Int32) (vj : Nat → Int64) (vk : Nat → Int32) (vc : Nat → Int32) (va : Nat → Int32) (vpa : Nat → Int32) (vb : Nat → Int32) (vpb : Nat → Int32) (vou : Nat → Int64) (x1 : Int32) (rr : Int32) (vou_z : Nat → Int64) (hm : mL_kindOf vk vou x1 = (some (rr, vou_z))) : MnW l yL_kindOf wsL_kindOf ({ frames := 8, cells := 1, slots := 6, locals := 137 } : Room) Γ [.ref q_bf, .int x1, .ref q_ou] (wBF Γ q_bf q_tx q_fl q_flT q_hi q_s1 q_s2 q_fd q_kc q_kr  ++ wFloor Γ q_fl q_k q_c q_a q_pa q_b q_pb vi vj vk vc va vpa vb vpb ++ wOut Γ q_ou vou) (some (.int rr)) (wBF Γ q_bf q_tx q_fl q_flT q_hi q_s1 q_s2 q_fd q_kc q_kr  ++ wFloor Γ q_fl q_k q_c q_a q_pa q_b q_pb vi vj vk vc va vpa vb vpb ++ wOut Γ q_ou vou_z) 1 6 := by
  intro sz
  refine va_MetW (cc := cL_kindOf) (maxL := 4) (ret := (some .int)) (by decide) rfl ?_
  intro p e s m args below meth c s₁ B hml hv
  obtain ⟨rfl, ⟨hsz, hP, hK, hD0⟩, hZ, hstr, hnc⟩ := hv
  have htab := vx_table (x := yL_kindOf) (hh := [(0, 9, 12, 24)]) B (atoms_spec (ws := wsL_kindOf) B.pre _ List.mem_cons_self)
  have hx := B.exec
  have hb := B.bytes
  have hr := B.returns
  have hts := atoms_spec (ws := wsL_kindOf) B.pre
  have hown : s.vm.findClass RL = some m.cls := findClass_of_methodNamed B.named
  have hlocks := B.notSynchronized
  have hinX1 : ∀ w ∈ u_ws RX1 TX1 12, w ∈ wsL_kindOf := fun w h => List.mem_cons_of_mem _ (List.mem_append_left _ (List.mem_append_right _ h))
  have hinX8 : ∀ w ∈ u_ws RX8 TX8 9, w ∈ wsL_kindOf := fun w h => List.mem_cons_of_mem _ (List.mem_append_left _ (List.mem_append_left _ (List.mem_append_right _ h)))
  subst hsz
  have hD := hD0.self (sz := s.heap.size)
  have hA : ∀ q : Nat, s.heap.size ≤ q → va_A (wBF Γ q_bf q_tx q_fl q_flT q_hi q_s1 q_s2 q_fd q_kc q_kr  ++ wFloor Γ q_fl q_k q_c q_a q_pa q_b q_pb vi vj vk vc va vpa vb vpb ++ wOut Γ q_ou vou) s.heap.size q := fun q h => Or.inr h
  generalize va_A (wBF Γ q_bf q_tx q_fl q_flT q_hi q_s1 q_s2 q_fd q_kc q_kr  ++ wFloor Γ q_fl q_k q_c q_a q_pa q_b q_pb vi vj vk vc va vpa vb vpb ++ wOut Γ q_ou vou) s.heap.size = A at hD hA hZ ⊢
  have hS : va_S A s.heap s.heap [] := va_S.rf
  have hl := lv_entry ([.ref q_bf, .int x1, .ref q_ou]) (n := 4) (Nat.le_of_ble_eq_true rfl)
  rw [lg_entry_eq]
  generalize (lg_sl ([.ref q_bf, .int x1, .ref q_ou]) ++ List.replicate (4 - (lg_sl ([.ref q_bf, .int x1, .ref q_ou])).length) Slot.unset).toArray = ls at hl ⊢
  replace hl : lv_has ls 4 [(0, .ref q_bf), (1, .int x1), (2, .ref q_ou)] := hl
  unfold mL_kindOf at hm
  refine lv_aload_n hx hb dL_kindOf_0 rfl (lv_at hl 2 rfl) ?_
  refine lv_iconst (v := (0 : Int32)) hx hb dL_kindOf_1 (by decide) ?_
  refine lv_aload_n hx hb dL_kindOf_2 rfl (lv_at hl 0 rfl) ?_
  refine lv_iload_n hx hb dL_kindOf_3 rfl (lv_at hl 1 rfl) ?_
  refine my_callPX (wc := (wBF Γ q_bf q_tx q_fl q_flT q_hi q_s1 q_s2 q_fd q_kc q_kr  ++ wFloor Γ q_fl q_k q_c q_a q_pa q_b q_pb vi vj vk vc va vpa vb vpb)) hP hD hS hA [0, 1, 2, 3, 4, 5, 6, 7] rfl rfl (fun res w1 h9 => my_had2 h9 (fun q => rfl)) (vx_runV (As := [.int x1]) (rest := [.int (0 : Int32), .ref q_ou]) ⟨hx, hb, hml, hown, hts⟩ (kX8_kindOf l Γ hfl q_bf q_fl q_k q_c q_a q_pa q_b q_pb q_tx q_flT q_hi q_s1 q_s2 q_fd q_kc q_kr vi vj vk vc va vpa vb vpb x1 _ rfl _) (cwV 1 hts gL_kindOf_X8_kindOf rfl rfl rfl (by decide +kernel) ⟨Nat.le_of_ble_eq_true rfl, Nat.le_of_ble_eq_true rfl⟩) (my_preVX (wc := (wBF Γ q_bf q_tx q_fl q_flT q_hi q_s1 q_s2 q_fd q_kc q_kr  ++ wFloor Γ q_fl q_k q_c q_a q_pa q_b q_pb vi vj vk vc va vpa vb vpb)) (ci := 6) (q0 := 0) [0, 1, 2, 3, 4, 5, 6, 7] hK hP hD hS hA hZ hstr rfl rfl rfl rfl) rfl rfl hl.1 rfl (lv_room (Nat.le_of_ble_eq_true rfl)) dL_kindOf_4 ⟨Nat.le_of_ble_eq_true rfl, Nat.le_of_ble_eq_true rfl⟩) (fun E_ H locs q9 ce hro hP hS h1_ h2_ h3_ => ?_) (fun res_ w1_ H locs hro hP hD hS => ?_)
  · rcases bh1_s hm with ⟨r_1, hc_, hm⟩ | ⟨E2_, hc_, hm⟩
    · rw [hc_] at hro; exact (my_map_lr hro).elim
    · rw [hc_] at hro
      have hE_ := my_map_rr hro
      subst hE_
      by_cases ck_2 : E2_ = "java/lang/IndexOutOfBoundsException"
      · replace hm := if_s hm ck_2
        subst ck_2
        refine vx_catch (name := "java/lang/IndexOutOfBoundsException") hown [] ⟨0, 9, 12, 24⟩ [] (htab.trans rfl) (fun z hz => nomatch hz) rfl (by decide) (hts (.classLink RL 24 "java/lang/IndexOutOfBoundsException") (List.mem_of_getElem? (i := 1) rfl)) (va_Nw.use rfl hstr.2.1) h1_ h2_ h3_ ?_
        refine lv_astore_n (lv' := [(3, .ref q9), (0, .ref q_bf), (1, .int x1), (2, .ref q_ou)]) hx hb dL_kindOf_12 rfl hl (by decide) rfl (fun ls hl => ?_)
        refine lv_iconst (v := (1 : Int32)) hx hb dL_kindOf_13 (by decide) ?_
        obtain ⟨hf0, hf1⟩ := si2 hm
        subst hf0
        subst hf1
        exact W.widen (k := 1) (n := 6) (Nat.le_of_ble_eq_true rfl) (Nat.le_of_ble_eq_true rfl) (W.iret (v := (1 : Int32)) hx hb hr (fun t ht hW => ⟨⟨rfl, by rw [ht]; exact hP⟩, hS.F ht⟩) hS.2.2 dL_kindOf_14)
      · replace hm := if_f hm ck_2
        cases hm
  rcases bh1_s hm with ⟨r_1, hc_, hm⟩ | ⟨E2_, hc_, hm⟩
  rotate_left
  · rw [hc_] at hro; exact (my_map_rl hro).elim
  rw [hc_] at hro
  obtain ⟨rfl, rfl⟩ := my_map_ll hro
  replace hP : va_P (my_D Γ) vwCl (wBF Γ q_bf q_tx q_fl q_flT q_hi q_s1 q_s2 q_fd q_kc q_kr  ++ wFloor Γ q_fl q_k q_c q_a q_pa q_b q_pb vi vj vk vc va vpa vb vpb ++ wOut Γ q_ou vou) H := hP
  replace hD : va_D A (wBF Γ q_bf q_tx q_fl q_flT q_hi q_s1 q_s2 q_fd q_kc q_kr  ++ wFloor Γ q_fl q_k q_c q_a q_pa q_b q_pb vi vj vk vc va vpa vb vpb ++ wOut Γ q_ou vou) := hD
  refine lv_i2l (v := r_1.toInt64) hx hb dL_kindOf_7 rfl ?_
  refine lv_topl (fun y_3 ey_3 => ?_)
  refine va_last hx hb hK hP hD hS 8 1 rfl rfl (show vp_in (0 : Int32) 1 from (by decide : ¬ ((0 : Int32) < 0 ∨ 1 ≤ (0 : Int32).toNatClampNeg))) dL_kindOf_8 (fun H locs hP hD hS => ?_)
  replace hP : va_P (my_D Γ) vwCl (wBF Γ q_bf q_tx q_fl q_flT q_hi q_s1 q_s2 q_fd q_kc q_kr  ++ wFloor Γ q_fl q_k q_c q_a q_pa q_b q_pb vi vj vk vc va vpa vb vpb ++ wOut Γ q_ou (vp_updL vou (0 : Int32).toNatClampNeg y_3)) H := hP
  replace hD : va_D A (wBF Γ q_bf q_tx q_fl q_flT q_hi q_s1 q_s2 q_fd q_kc q_kr  ++ wFloor Γ q_fl q_k q_c q_a q_pa q_b q_pb vi vj vk vc va vpa vb vpb ++ wOut Γ q_ou (vp_updL vou (0 : Int32).toNatClampNeg y_3)) := hD
  subst ey_3
  refine lv_goto (tgt := 15) hx hb dL_kindOf_9 (by decide) ?_
  refine lv_iconst (v := (0 : Int32)) hx hb dL_kindOf_15 (by decide) ?_
  obtain ⟨hf0, hf1⟩ := si2 hm
  subst hf0
  subst hf1
  exact W.widen (k := 1) (n := 6) (Nat.le_of_ble_eq_true rfl) (Nat.le_of_ble_eq_true rfl) (W.iret (v := (0 : Int32)) hx hb hr (fun t ht hW => ⟨⟨rfl, by rw [ht]; exact hP⟩, hS.F ht⟩) hS.2.2 dL_kindOf_16)
def mL_hasCrate (vj : Nat → Int64) (vou : Nat → Int64) (x1 : Int32) : Option (Int32 × (Nat → Int64)) := (bh1 (mX8_hasCrate vj x1) (fun r_1 => (if r_1 = 0 then (some ((0 : Int32), (vp_updL vou (0 : Int32).toNatClampNeg (0 : Int64)))) else (some ((0 : Int32), (vp_updL vou (0 : Int32).toNatClampNeg (1 : Int64)))))) (fun E_ => (if E_ = "java/lang/IndexOutOfBoundsException" then (some ((1 : Int32), vou)) else none)))
set_option maxHeartbeats 4000000 in
set_option maxRecDepth 100000 in
theorem kL_hasCrate (l : Launch) (Γ : my_G) (hfl : l.stackTraces = false) (q_bf q_fl q_k q_c q_a q_pa q_b q_pb q_ou q_tx q_flT q_hi q_s1 q_s2 q_fd q_kc q_kr : Nat) (vi : Nat → Int32) (vj : Nat → Int64) (vk : Nat → Int32) (vc : Nat → Int32) (va : Nat → Int32) (vpa : Nat → Int32) (vb : Nat → Int32) (vpb : Nat → Int32) (vou : Nat → Int64) (x1 : Int32) (rr : Int32) (vou_z : Nat → Int64) (hm : mL_hasCrate vj vou x1 = (some (rr, vou_z))) : MnW l yL_hasCrate wsL_hasCrate ({ frames := 8, cells := 1, slots := 6, locals := 137 } : Room) Γ [.ref q_bf, .int x1, .ref q_ou] (wBF Γ q_bf q_tx q_fl q_flT q_hi q_s1 q_s2 q_fd q_kc q_kr  ++ wFloor Γ q_fl q_k q_c q_a q_pa q_b q_pb vi vj vk vc va vpa vb vpb ++ wOut Γ q_ou vou) (some (.int rr)) (wBF Γ q_bf q_tx q_fl q_flT q_hi q_s1 q_s2 q_fd q_kc q_kr  ++ wFloor Γ q_fl q_k q_c q_a q_pa q_b q_pb vi vj vk vc va vpa vb vpb ++ wOut Γ q_ou vou_z) 1 6 := by
  intro sz
  refine va_MetW (cc := cL_hasCrate) (maxL := 4) (ret := (some .int)) (by decide) rfl ?_
  intro p e s m args below meth c s₁ B hml hv
  obtain ⟨rfl, ⟨hsz, hP, hK, hD0⟩, hZ, hstr, hnc⟩ := hv
  have htab := vx_table (x := yL_hasCrate) (hh := [(0, 16, 19, 24)]) B (atoms_spec (ws := wsL_hasCrate) B.pre _ List.mem_cons_self)
  have hx := B.exec
  have hb := B.bytes
  have hr := B.returns
  have hts := atoms_spec (ws := wsL_hasCrate) B.pre
  have hown : s.vm.findClass RL = some m.cls := findClass_of_methodNamed B.named
  have hlocks := B.notSynchronized
  have hinX1 : ∀ w ∈ u_ws RX1 TX1 12, w ∈ wsL_hasCrate := fun w h => List.mem_cons_of_mem _ (List.mem_append_left _ (List.mem_append_right _ h))
  have hinX8 : ∀ w ∈ u_ws RX8 TX8 9, w ∈ wsL_hasCrate := fun w h => List.mem_cons_of_mem _ (List.mem_append_left _ (List.mem_append_left _ (List.mem_append_right _ h)))
  subst hsz
  have hD := hD0.self (sz := s.heap.size)
  have hA : ∀ q : Nat, s.heap.size ≤ q → va_A (wBF Γ q_bf q_tx q_fl q_flT q_hi q_s1 q_s2 q_fd q_kc q_kr  ++ wFloor Γ q_fl q_k q_c q_a q_pa q_b q_pb vi vj vk vc va vpa vb vpb ++ wOut Γ q_ou vou) s.heap.size q := fun q h => Or.inr h
  generalize va_A (wBF Γ q_bf q_tx q_fl q_flT q_hi q_s1 q_s2 q_fd q_kc q_kr  ++ wFloor Γ q_fl q_k q_c q_a q_pa q_b q_pb vi vj vk vc va vpa vb vpb ++ wOut Γ q_ou vou) s.heap.size = A at hD hA hZ ⊢
  have hS : va_S A s.heap s.heap [] := va_S.rf
  have hl := lv_entry ([.ref q_bf, .int x1, .ref q_ou]) (n := 4) (Nat.le_of_ble_eq_true rfl)
  rw [lg_entry_eq]
  generalize (lg_sl ([.ref q_bf, .int x1, .ref q_ou]) ++ List.replicate (4 - (lg_sl ([.ref q_bf, .int x1, .ref q_ou])).length) Slot.unset).toArray = ls at hl ⊢
  replace hl : lv_has ls 4 [(0, .ref q_bf), (1, .int x1), (2, .ref q_ou)] := hl
  unfold mL_hasCrate at hm
  refine lv_aload_n hx hb dL_hasCrate_0 rfl (lv_at hl 2 rfl) ?_
  refine lv_iconst (v := (0 : Int32)) hx hb dL_hasCrate_1 (by decide) ?_
  refine lv_aload_n hx hb dL_hasCrate_2 rfl (lv_at hl 0 rfl) ?_
  refine lv_iload_n hx hb dL_hasCrate_3 rfl (lv_at hl 1 rfl) ?_
  refine my_callPX (wc := (wBF Γ q_bf q_tx q_fl q_flT q_hi q_s1 q_s2 q_fd q_kc q_kr  ++ wFloor Γ q_fl q_k q_c q_a q_pa q_b q_pb vi vj vk vc va vpa vb vpb)) hP hD hS hA [0, 1, 2, 3, 4, 5, 6, 7] rfl rfl (fun res w1 h9 => my_had2 h9 (fun q => rfl)) (vx_runV (As := [.int x1]) (rest := [.int (0 : Int32), .ref q_ou]) ⟨hx, hb, hml, hown, hts⟩ (kX8_hasCrate l Γ hfl q_bf q_fl q_k q_c q_a q_pa q_b q_pb q_tx q_flT q_hi q_s1 q_s2 q_fd q_kc q_kr vi vj vk vc va vpa vb vpb x1 _ rfl _) (cwV 1 hts gL_hasCrate_X8_hasCrate rfl rfl rfl (by decide +kernel) ⟨Nat.le_of_ble_eq_true rfl, Nat.le_of_ble_eq_true rfl⟩) (my_preVX (wc := (wBF Γ q_bf q_tx q_fl q_flT q_hi q_s1 q_s2 q_fd q_kc q_kr  ++ wFloor Γ q_fl q_k q_c q_a q_pa q_b q_pb vi vj vk vc va vpa vb vpb)) (ci := 6) (q0 := 0) [0, 1, 2, 3, 4, 5, 6, 7] hK hP hD hS hA hZ hstr rfl rfl rfl rfl) rfl rfl hl.1 rfl (lv_room (Nat.le_of_ble_eq_true rfl)) dL_hasCrate_4 ⟨Nat.le_of_ble_eq_true rfl, Nat.le_of_ble_eq_true rfl⟩) (fun E_ H locs q9 ce hro hP hS h1_ h2_ h3_ => ?_) (fun res_ w1_ H locs hro hP hD hS => ?_)
  · rcases bh1_s hm with ⟨r_1, hc_, hm⟩ | ⟨E2_, hc_, hm⟩
    · rw [hc_] at hro; exact (my_map_lr hro).elim
    · rw [hc_] at hro
      have hE_ := my_map_rr hro
      subst hE_
      by_cases ck_2 : E2_ = "java/lang/IndexOutOfBoundsException"
      · replace hm := if_s hm ck_2
        subst ck_2
        refine vx_catch (name := "java/lang/IndexOutOfBoundsException") hown [] ⟨0, 16, 19, 24⟩ [] (htab.trans rfl) (fun z hz => nomatch hz) rfl (by decide) (hts (.classLink RL 24 "java/lang/IndexOutOfBoundsException") (List.mem_of_getElem? (i := 1) rfl)) (va_Nw.use rfl hstr.2.1) h1_ h2_ h3_ ?_
        refine lv_astore_n (lv' := [(3, .ref q9), (0, .ref q_bf), (1, .int x1), (2, .ref q_ou)]) hx hb dL_hasCrate_19 rfl hl (by decide) rfl (fun ls hl => ?_)
        refine lv_iconst (v := (1 : Int32)) hx hb dL_hasCrate_20 (by decide) ?_
        obtain ⟨hf0, hf1⟩ := si2 hm
        subst hf0
        subst hf1
        exact W.widen (k := 1) (n := 6) (Nat.le_of_ble_eq_true rfl) (Nat.le_of_ble_eq_true rfl) (W.iret (v := (1 : Int32)) hx hb hr (fun t ht hW => ⟨⟨rfl, by rw [ht]; exact hP⟩, hS.F ht⟩) hS.2.2 dL_hasCrate_21)
      · replace hm := if_f hm ck_2
        cases hm
  rcases bh1_s hm with ⟨r_1, hc_, hm⟩ | ⟨E2_, hc_, hm⟩
  rotate_left
  · rw [hc_] at hro; exact (my_map_rl hro).elim
  rw [hc_] at hro
  obtain ⟨rfl, rfl⟩ := my_map_ll hro
  replace hP : va_P (my_D Γ) vwCl (wBF Γ q_bf q_tx q_fl q_flT q_hi q_s1 q_s2 q_fd q_kc q_kr  ++ wFloor Γ q_fl q_k q_c q_a q_pa q_b q_pb vi vj vk vc va vpa vb vpb ++ wOut Γ q_ou vou) H := hP
  replace hD : va_D A (wBF Γ q_bf q_tx q_fl q_flT q_hi q_s1 q_s2 q_fd q_kc q_kr  ++ wFloor Γ q_fl q_k q_c q_a q_pa q_b q_pb vi vj vk vc va vpa vb vpb ++ wOut Γ q_ou vou) := hD
  refine lv_if_eq (tgt := 14) hx hb dL_hasCrate_7 (by decide) (fun c_3 => ?_) (fun c_3 => ?_)
  · replace hm := if_s hm c_3
    refine lv_lconst (v := (0 : Int64)) hx hb dL_hasCrate_14 (by decide) ?_
    refine va_last hx hb hK hP hD hS 8 1 rfl rfl (show vp_in (0 : Int32) 1 from (by decide : ¬ ((0 : Int32) < 0 ∨ 1 ≤ (0 : Int32).toNatClampNeg))) dL_hasCrate_15 (fun H locs hP hD hS => ?_)
    replace hP : va_P (my_D Γ) vwCl (wBF Γ q_bf q_tx q_fl q_flT q_hi q_s1 q_s2 q_fd q_kc q_kr  ++ wFloor Γ q_fl q_k q_c q_a q_pa q_b q_pb vi vj vk vc va vpa vb vpb ++ wOut Γ q_ou (vp_updL vou (0 : Int32).toNatClampNeg (0 : Int64))) H := hP
    replace hD : va_D A (wBF Γ q_bf q_tx q_fl q_flT q_hi q_s1 q_s2 q_fd q_kc q_kr  ++ wFloor Γ q_fl q_k q_c q_a q_pa q_b q_pb vi vj vk vc va vpa vb vpb ++ wOut Γ q_ou (vp_updL vou (0 : Int32).toNatClampNeg (0 : Int64))) := hD
    refine lv_goto (tgt := 22) hx hb dL_hasCrate_16 (by decide) ?_
    refine lv_iconst (v := (0 : Int32)) hx hb dL_hasCrate_22 (by decide) ?_
    obtain ⟨hf0, hf1⟩ := si2 hm
    subst hf0
    subst hf1
    exact W.widen (k := 1) (n := 6) (Nat.le_of_ble_eq_true rfl) (Nat.le_of_ble_eq_true rfl) (W.iret (v := (0 : Int32)) hx hb hr (fun t ht hW => ⟨⟨rfl, by rw [ht]; exact hP⟩, hS.F ht⟩) hS.2.2 dL_hasCrate_23)
  · replace hm := if_f hm c_3
    refine lv_lconst (v := (1 : Int64)) hx hb dL_hasCrate_10 (by decide) ?_
    refine lv_goto (tgt := 15) hx hb dL_hasCrate_11 (by decide) ?_
    refine va_last hx hb hK hP hD hS 8 1 rfl rfl (show vp_in (0 : Int32) 1 from (by decide : ¬ ((0 : Int32) < 0 ∨ 1 ≤ (0 : Int32).toNatClampNeg))) dL_hasCrate_15 (fun H locs hP hD hS => ?_)
    replace hP : va_P (my_D Γ) vwCl (wBF Γ q_bf q_tx q_fl q_flT q_hi q_s1 q_s2 q_fd q_kc q_kr  ++ wFloor Γ q_fl q_k q_c q_a q_pa q_b q_pb vi vj vk vc va vpa vb vpb ++ wOut Γ q_ou (vp_updL vou (0 : Int32).toNatClampNeg (1 : Int64))) H := hP
    replace hD : va_D A (wBF Γ q_bf q_tx q_fl q_flT q_hi q_s1 q_s2 q_fd q_kc q_kr  ++ wFloor Γ q_fl q_k q_c q_a q_pa q_b q_pb vi vj vk vc va vpa vb vpb ++ wOut Γ q_ou (vp_updL vou (0 : Int32).toNatClampNeg (1 : Int64))) := hD
    refine lv_goto (tgt := 22) hx hb dL_hasCrate_16 (by decide) ?_
    refine lv_iconst (v := (0 : Int32)) hx hb dL_hasCrate_22 (by decide) ?_
    obtain ⟨hf0, hf1⟩ := si2 hm
    subst hf0
    subst hf1
    exact W.widen (k := 1) (n := 6) (Nat.le_of_ble_eq_true rfl) (Nat.le_of_ble_eq_true rfl) (W.iret (v := (0 : Int32)) hx hb hr (fun t ht hW => ⟨⟨rfl, by rw [ht]; exact hP⟩, hS.F ht⟩) hS.2.2 dL_hasCrate_23)
def mL_cellOfCheckpoint (vi : Nat → Int32) (vc : Nat → Int32) (vou : Nat → Int64) (x1 : Int32) : Option (Int32 × (Nat → Int64)) := (bo1 (mX8_cellOfCheckpoint vi vc x1) (fun mr_ => (bh1 mr_ (fun r_1 => (some ((0 : Int32), (vp_updL vou (0 : Int32).toNatClampNeg (r_1.toInt64))))) (fun E_ => (if E_ = "java/lang/IndexOutOfBoundsException" then (some ((1 : Int32), vou)) else none)))))
set_option maxHeartbeats 4000000 in
set_option maxRecDepth 100000 in
theorem kL_cellOfCheckpoint (l : Launch) (Γ : my_G) (hfl : l.stackTraces = false) (q_bf q_fl q_k q_c q_a q_pa q_b q_pb q_ou q_tx q_flT q_hi q_s1 q_s2 q_fd q_kc q_kr : Nat) (vi : Nat → Int32) (vj : Nat → Int64) (vk : Nat → Int32) (vc : Nat → Int32) (va : Nat → Int32) (vpa : Nat → Int32) (vb : Nat → Int32) (vpb : Nat → Int32) (vou : Nat → Int64) (x1 : Int32) (rr : Int32) (vou_z : Nat → Int64) (hm : mL_cellOfCheckpoint vi vc vou x1 = (some (rr, vou_z))) : MnW l yL_cellOfCheckpoint wsL_cellOfCheckpoint ({ frames := 7, cells := 1, slots := 6, locals := 120 } : Room) Γ [.ref q_bf, .int x1, .ref q_ou] (wBF Γ q_bf q_tx q_fl q_flT q_hi q_s1 q_s2 q_fd q_kc q_kr  ++ wFloor Γ q_fl q_k q_c q_a q_pa q_b q_pb vi vj vk vc va vpa vb vpb ++ wOut Γ q_ou vou) (some (.int rr)) (wBF Γ q_bf q_tx q_fl q_flT q_hi q_s1 q_s2 q_fd q_kc q_kr  ++ wFloor Γ q_fl q_k q_c q_a q_pa q_b q_pb vi vj vk vc va vpa vb vpb ++ wOut Γ q_ou vou_z) 1 6 := by
  intro sz
  refine va_MetW (cc := cL_cellOfCheckpoint) (maxL := 4) (ret := (some .int)) (by decide) rfl ?_
  intro p e s m args below meth c s₁ B hml hv
  obtain ⟨rfl, ⟨hsz, hP, hK, hD0⟩, hZ, hstr, hnc⟩ := hv
  have htab := vx_table (x := yL_cellOfCheckpoint) (hh := [(0, 9, 12, 24)]) B (atoms_spec (ws := wsL_cellOfCheckpoint) B.pre _ List.mem_cons_self)
  have hx := B.exec
  have hb := B.bytes
  have hr := B.returns
  have hts := atoms_spec (ws := wsL_cellOfCheckpoint) B.pre
  have hown : s.vm.findClass RL = some m.cls := findClass_of_methodNamed B.named
  have hlocks := B.notSynchronized
  have hinX1 : ∀ w ∈ u_ws RX1 TX1 12, w ∈ wsL_cellOfCheckpoint := fun w h => List.mem_cons_of_mem _ (List.mem_append_left _ (List.mem_append_right _ h))
  have hinX8 : ∀ w ∈ u_ws RX8 TX8 9, w ∈ wsL_cellOfCheckpoint := fun w h => List.mem_cons_of_mem _ (List.mem_append_left _ (List.mem_append_left _ (List.mem_append_right _ h)))
  subst hsz
  have hD := hD0.self (sz := s.heap.size)
  have hA : ∀ q : Nat, s.heap.size ≤ q → va_A (wBF Γ q_bf q_tx q_fl q_flT q_hi q_s1 q_s2 q_fd q_kc q_kr  ++ wFloor Γ q_fl q_k q_c q_a q_pa q_b q_pb vi vj vk vc va vpa vb vpb ++ wOut Γ q_ou vou) s.heap.size q := fun q h => Or.inr h
  generalize va_A (wBF Γ q_bf q_tx q_fl q_flT q_hi q_s1 q_s2 q_fd q_kc q_kr  ++ wFloor Γ q_fl q_k q_c q_a q_pa q_b q_pb vi vj vk vc va vpa vb vpb ++ wOut Γ q_ou vou) s.heap.size = A at hD hA hZ ⊢
  have hS : va_S A s.heap s.heap [] := va_S.rf
  have hl := lv_entry ([.ref q_bf, .int x1, .ref q_ou]) (n := 4) (Nat.le_of_ble_eq_true rfl)
  rw [lg_entry_eq]
  generalize (lg_sl ([.ref q_bf, .int x1, .ref q_ou]) ++ List.replicate (4 - (lg_sl ([.ref q_bf, .int x1, .ref q_ou])).length) Slot.unset).toArray = ls at hl ⊢
  replace hl : lv_has ls 4 [(0, .ref q_bf), (1, .int x1), (2, .ref q_ou)] := hl
  unfold mL_cellOfCheckpoint at hm
  refine lv_aload_n hx hb dL_cellOfCheckpoint_0 rfl (lv_at hl 2 rfl) ?_
  refine lv_iconst (v := (0 : Int32)) hx hb dL_cellOfCheckpoint_1 (by decide) ?_
  refine lv_aload_n hx hb dL_cellOfCheckpoint_2 rfl (lv_at hl 0 rfl) ?_
  refine lv_iload_n hx hb dL_cellOfCheckpoint_3 rfl (lv_at hl 1 rfl) ?_
  obtain ⟨mr_, hc0_, hm⟩ := bo1_s hm
  refine my_callPX (wc := (wBF Γ q_bf q_tx q_fl q_flT q_hi q_s1 q_s2 q_fd q_kc q_kr  ++ wFloor Γ q_fl q_k q_c q_a q_pa q_b q_pb vi vj vk vc va vpa vb vpb)) hP hD hS hA [0, 1, 2, 3, 4, 5, 6, 7] rfl rfl (fun res w1 h9 => my_had2 h9 (fun q => rfl)) (vx_runV (As := [.int x1]) (rest := [.int (0 : Int32), .ref q_ou]) ⟨hx, hb, hml, hown, hts⟩ (kX8_cellOfCheckpoint l Γ hfl q_bf q_fl q_k q_c q_a q_pa q_b q_pb q_tx q_flT q_hi q_s1 q_s2 q_fd q_kc q_kr vi vj vk vc va vpa vb vpb x1 mr_ hc0_ _) (cwV 1 hts gL_cellOfCheckpoint_X8_cellOfCheckpoint rfl rfl rfl (by decide +kernel) ⟨Nat.le_of_ble_eq_true rfl, Nat.le_of_ble_eq_true rfl⟩) (my_preVX (wc := (wBF Γ q_bf q_tx q_fl q_flT q_hi q_s1 q_s2 q_fd q_kc q_kr  ++ wFloor Γ q_fl q_k q_c q_a q_pa q_b q_pb vi vj vk vc va vpa vb vpb)) (ci := 6) (q0 := 0) [0, 1, 2, 3, 4, 5, 6, 7] hK hP hD hS hA hZ hstr rfl rfl rfl rfl) rfl rfl hl.1 rfl (lv_room (Nat.le_of_ble_eq_true rfl)) dL_cellOfCheckpoint_4 ⟨Nat.le_of_ble_eq_true rfl, Nat.le_of_ble_eq_true rfl⟩) (fun E_ H locs q9 ce hro hP hS h1_ h2_ h3_ => ?_) (fun res_ w1_ H locs hro hP hD hS => ?_)
  · rcases bh1_s hm with ⟨r_1, hc_, hm⟩ | ⟨E2_, hc_, hm⟩
    · rw [hc_] at hro; exact (my_map_lr hro).elim
    · rw [hc_] at hro
      have hE_ := my_map_rr hro
      subst hE_
      by_cases ck_2 : E2_ = "java/lang/IndexOutOfBoundsException"
      · replace hm := if_s hm ck_2
        subst ck_2
        refine vx_catch (name := "java/lang/IndexOutOfBoundsException") hown [] ⟨0, 9, 12, 24⟩ [] (htab.trans rfl) (fun z hz => nomatch hz) rfl (by decide) (hts (.classLink RL 24 "java/lang/IndexOutOfBoundsException") (List.mem_of_getElem? (i := 1) rfl)) (va_Nw.use rfl hstr.2.1) h1_ h2_ h3_ ?_
        refine lv_astore_n (lv' := [(3, .ref q9), (0, .ref q_bf), (1, .int x1), (2, .ref q_ou)]) hx hb dL_cellOfCheckpoint_12 rfl hl (by decide) rfl (fun ls hl => ?_)
        refine lv_iconst (v := (1 : Int32)) hx hb dL_cellOfCheckpoint_13 (by decide) ?_
        obtain ⟨hf0, hf1⟩ := si2 hm
        subst hf0
        subst hf1
        exact W.widen (k := 1) (n := 6) (Nat.le_of_ble_eq_true rfl) (Nat.le_of_ble_eq_true rfl) (W.iret (v := (1 : Int32)) hx hb hr (fun t ht hW => ⟨⟨rfl, by rw [ht]; exact hP⟩, hS.F ht⟩) hS.2.2 dL_cellOfCheckpoint_14)
      · replace hm := if_f hm ck_2
        cases hm
  rcases bh1_s hm with ⟨r_1, hc_, hm⟩ | ⟨E2_, hc_, hm⟩
  rotate_left
  · rw [hc_] at hro; exact (my_map_rl hro).elim
  rw [hc_] at hro
  obtain ⟨rfl, rfl⟩ := my_map_ll hro
  replace hP : va_P (my_D Γ) vwCl (wBF Γ q_bf q_tx q_fl q_flT q_hi q_s1 q_s2 q_fd q_kc q_kr  ++ wFloor Γ q_fl q_k q_c q_a q_pa q_b q_pb vi vj vk vc va vpa vb vpb ++ wOut Γ q_ou vou) H := hP
  replace hD : va_D A (wBF Γ q_bf q_tx q_fl q_flT q_hi q_s1 q_s2 q_fd q_kc q_kr  ++ wFloor Γ q_fl q_k q_c q_a q_pa q_b q_pb vi vj vk vc va vpa vb vpb ++ wOut Γ q_ou vou) := hD
  refine lv_i2l (v := r_1.toInt64) hx hb dL_cellOfCheckpoint_7 rfl ?_
  refine lv_topl (fun y_3 ey_3 => ?_)
  refine va_last hx hb hK hP hD hS 8 1 rfl rfl (show vp_in (0 : Int32) 1 from (by decide : ¬ ((0 : Int32) < 0 ∨ 1 ≤ (0 : Int32).toNatClampNeg))) dL_cellOfCheckpoint_8 (fun H locs hP hD hS => ?_)
  replace hP : va_P (my_D Γ) vwCl (wBF Γ q_bf q_tx q_fl q_flT q_hi q_s1 q_s2 q_fd q_kc q_kr  ++ wFloor Γ q_fl q_k q_c q_a q_pa q_b q_pb vi vj vk vc va vpa vb vpb ++ wOut Γ q_ou (vp_updL vou (0 : Int32).toNatClampNeg y_3)) H := hP
  replace hD : va_D A (wBF Γ q_bf q_tx q_fl q_flT q_hi q_s1 q_s2 q_fd q_kc q_kr  ++ wFloor Γ q_fl q_k q_c q_a q_pa q_b q_pb vi vj vk vc va vpa vb vpb ++ wOut Γ q_ou (vp_updL vou (0 : Int32).toNatClampNeg y_3)) := hD
  subst ey_3
  refine lv_goto (tgt := 15) hx hb dL_cellOfCheckpoint_9 (by decide) ?_
  refine lv_iconst (v := (0 : Int32)) hx hb dL_cellOfCheckpoint_15 (by decide) ?_
  obtain ⟨hf0, hf1⟩ := si2 hm
  subst hf0
  subst hf1
  exact W.widen (k := 1) (n := 6) (Nat.le_of_ble_eq_true rfl) (Nat.le_of_ble_eq_true rfl) (W.iret (v := (0 : Int32)) hx hb hr (fun t ht hW => ⟨⟨rfl, by rw [ht]; exact hP⟩, hS.F ht⟩) hS.2.2 dL_cellOfCheckpoint_16)
def mL_cellOf (va : Nat → Int32) (vb : Nat → Int32) (vou : Nat → Int64) (x1 : Int32) : Option (Int32 × (Nat → Int64)) := (bh1 (mX8_cellOf va vb x1) (fun r_1 => (some ((0 : Int32), (vp_updL vou (0 : Int32).toNatClampNeg (r_1.toInt64))))) (fun E_ => (if E_ = "java/lang/IndexOutOfBoundsException" then (some ((1 : Int32), vou)) else none)))
set_option maxHeartbeats 4000000 in
set_option maxRecDepth 100000 in
theorem kL_cellOf (l : Launch) (Γ : my_G) (hfl : l.stackTraces = false) (q_bf q_fl q_k q_c q_a q_pa q_b q_pb q_ou q_tx q_flT q_hi q_s1 q_s2 q_fd q_kc q_kr : Nat) (vi : Nat → Int32) (vj : Nat → Int64) (vk : Nat → Int32) (vc : Nat → Int32) (va : Nat → Int32) (vpa : Nat → Int32) (vb : Nat → Int32) (vpb : Nat → Int32) (vou : Nat → Int64) (x1 : Int32) (rr : Int32) (vou_z : Nat → Int64) (hm : mL_cellOf va vb vou x1 = (some (rr, vou_z))) : MnW l yL_cellOf wsL_cellOf ({ frames := 8, cells := 1, slots := 6, locals := 137 } : Room) Γ [.ref q_bf, .int x1, .ref q_ou] (wBF Γ q_bf q_tx q_fl q_flT q_hi q_s1 q_s2 q_fd q_kc q_kr  ++ wFloor Γ q_fl q_k q_c q_a q_pa q_b q_pb vi vj vk vc va vpa vb vpb ++ wOut Γ q_ou vou) (some (.int rr)) (wBF Γ q_bf q_tx q_fl q_flT q_hi q_s1 q_s2 q_fd q_kc q_kr  ++ wFloor Γ q_fl q_k q_c q_a q_pa q_b q_pb vi vj vk vc va vpa vb vpb ++ wOut Γ q_ou vou_z) 1 6 := by
  intro sz
  refine va_MetW (cc := cL_cellOf) (maxL := 4) (ret := (some .int)) (by decide) rfl ?_
  intro p e s m args below meth c s₁ B hml hv
  obtain ⟨rfl, ⟨hsz, hP, hK, hD0⟩, hZ, hstr, hnc⟩ := hv
  have htab := vx_table (x := yL_cellOf) (hh := [(0, 9, 12, 24)]) B (atoms_spec (ws := wsL_cellOf) B.pre _ List.mem_cons_self)
  have hx := B.exec
  have hb := B.bytes
  have hr := B.returns
  have hts := atoms_spec (ws := wsL_cellOf) B.pre
  have hown : s.vm.findClass RL = some m.cls := findClass_of_methodNamed B.named
  have hlocks := B.notSynchronized
  have hinX1 : ∀ w ∈ u_ws RX1 TX1 12, w ∈ wsL_cellOf := fun w h => List.mem_cons_of_mem _ (List.mem_append_left _ (List.mem_append_right _ h))
  have hinX4 : ∀ w ∈ u_ws RX4 TX4 10, w ∈ wsL_cellOf := fun w h => List.mem_cons_of_mem _ (List.mem_append_left _ (List.mem_append_left _ (List.mem_append_right _ h)))
  have hinX8 : ∀ w ∈ u_ws RX8 TX8 9, w ∈ wsL_cellOf := fun w h => List.mem_cons_of_mem _ (List.mem_append_left _ (List.mem_append_left _ (List.mem_append_left _ (List.mem_append_right _ h))))
  subst hsz
  have hD := hD0.self (sz := s.heap.size)
  have hA : ∀ q : Nat, s.heap.size ≤ q → va_A (wBF Γ q_bf q_tx q_fl q_flT q_hi q_s1 q_s2 q_fd q_kc q_kr  ++ wFloor Γ q_fl q_k q_c q_a q_pa q_b q_pb vi vj vk vc va vpa vb vpb ++ wOut Γ q_ou vou) s.heap.size q := fun q h => Or.inr h
  generalize va_A (wBF Γ q_bf q_tx q_fl q_flT q_hi q_s1 q_s2 q_fd q_kc q_kr  ++ wFloor Γ q_fl q_k q_c q_a q_pa q_b q_pb vi vj vk vc va vpa vb vpb ++ wOut Γ q_ou vou) s.heap.size = A at hD hA hZ ⊢
  have hS : va_S A s.heap s.heap [] := va_S.rf
  have hl := lv_entry ([.ref q_bf, .int x1, .ref q_ou]) (n := 4) (Nat.le_of_ble_eq_true rfl)
  rw [lg_entry_eq]
  generalize (lg_sl ([.ref q_bf, .int x1, .ref q_ou]) ++ List.replicate (4 - (lg_sl ([.ref q_bf, .int x1, .ref q_ou])).length) Slot.unset).toArray = ls at hl ⊢
  replace hl : lv_has ls 4 [(0, .ref q_bf), (1, .int x1), (2, .ref q_ou)] := hl
  unfold mL_cellOf at hm
  refine lv_aload_n hx hb dL_cellOf_0 rfl (lv_at hl 2 rfl) ?_
  refine lv_iconst (v := (0 : Int32)) hx hb dL_cellOf_1 (by decide) ?_
  refine lv_aload_n hx hb dL_cellOf_2 rfl (lv_at hl 0 rfl) ?_
  refine lv_iload_n hx hb dL_cellOf_3 rfl (lv_at hl 1 rfl) ?_
  refine my_callPX (wc := (wBF Γ q_bf q_tx q_fl q_flT q_hi q_s1 q_s2 q_fd q_kc q_kr  ++ wFloor Γ q_fl q_k q_c q_a q_pa q_b q_pb vi vj vk vc va vpa vb vpb)) hP hD hS hA [0, 1, 2, 3, 4, 5, 6, 7] rfl rfl (fun res w1 h9 => my_had2 h9 (fun q => rfl)) (vx_runV (As := [.int x1]) (rest := [.int (0 : Int32), .ref q_ou]) ⟨hx, hb, hml, hown, hts⟩ (kX8_cellOf l Γ hfl q_bf q_fl q_k q_c q_a q_pa q_b q_pb q_tx q_flT q_hi q_s1 q_s2 q_fd q_kc q_kr vi vj vk vc va vpa vb vpb x1 _ rfl _) (cwV 1 hts gL_cellOf_X8_cellOf rfl rfl rfl (by decide +kernel) ⟨Nat.le_of_ble_eq_true rfl, Nat.le_of_ble_eq_true rfl⟩) (my_preVX (wc := (wBF Γ q_bf q_tx q_fl q_flT q_hi q_s1 q_s2 q_fd q_kc q_kr  ++ wFloor Γ q_fl q_k q_c q_a q_pa q_b q_pb vi vj vk vc va vpa vb vpb)) (ci := 6) (q0 := 0) [0, 1, 2, 3, 4, 5, 6, 7] hK hP hD hS hA hZ hstr rfl rfl rfl rfl) rfl rfl hl.1 rfl (lv_room (Nat.le_of_ble_eq_true rfl)) dL_cellOf_4 ⟨Nat.le_of_ble_eq_true rfl, Nat.le_of_ble_eq_true rfl⟩) (fun E_ H locs q9 ce hro hP hS h1_ h2_ h3_ => ?_) (fun res_ w1_ H locs hro hP hD hS => ?_)
  · rcases bh1_s hm with ⟨r_1, hc_, hm⟩ | ⟨E2_, hc_, hm⟩
    · rw [hc_] at hro; exact (my_map_lr hro).elim
    · rw [hc_] at hro
      have hE_ := my_map_rr hro
      subst hE_
      by_cases ck_2 : E2_ = "java/lang/IndexOutOfBoundsException"
      · replace hm := if_s hm ck_2
        subst ck_2
        refine vx_catch (name := "java/lang/IndexOutOfBoundsException") hown [] ⟨0, 9, 12, 24⟩ [] (htab.trans rfl) (fun z hz => nomatch hz) rfl (by decide) (hts (.classLink RL 24 "java/lang/IndexOutOfBoundsException") (List.mem_of_getElem? (i := 1) rfl)) (va_Nw.use rfl hstr.2.1) h1_ h2_ h3_ ?_
        refine lv_astore_n (lv' := [(3, .ref q9), (0, .ref q_bf), (1, .int x1), (2, .ref q_ou)]) hx hb dL_cellOf_12 rfl hl (by decide) rfl (fun ls hl => ?_)
        refine lv_iconst (v := (1 : Int32)) hx hb dL_cellOf_13 (by decide) ?_
        obtain ⟨hf0, hf1⟩ := si2 hm
        subst hf0
        subst hf1
        exact W.widen (k := 1) (n := 6) (Nat.le_of_ble_eq_true rfl) (Nat.le_of_ble_eq_true rfl) (W.iret (v := (1 : Int32)) hx hb hr (fun t ht hW => ⟨⟨rfl, by rw [ht]; exact hP⟩, hS.F ht⟩) hS.2.2 dL_cellOf_14)
      · replace hm := if_f hm ck_2
        cases hm
  rcases bh1_s hm with ⟨r_1, hc_, hm⟩ | ⟨E2_, hc_, hm⟩
  rotate_left
  · rw [hc_] at hro; exact (my_map_rl hro).elim
  rw [hc_] at hro
  obtain ⟨rfl, rfl⟩ := my_map_ll hro
  replace hP : va_P (my_D Γ) vwCl (wBF Γ q_bf q_tx q_fl q_flT q_hi q_s1 q_s2 q_fd q_kc q_kr  ++ wFloor Γ q_fl q_k q_c q_a q_pa q_b q_pb vi vj vk vc va vpa vb vpb ++ wOut Γ q_ou vou) H := hP
  replace hD : va_D A (wBF Γ q_bf q_tx q_fl q_flT q_hi q_s1 q_s2 q_fd q_kc q_kr  ++ wFloor Γ q_fl q_k q_c q_a q_pa q_b q_pb vi vj vk vc va vpa vb vpb ++ wOut Γ q_ou vou) := hD
  refine lv_i2l (v := r_1.toInt64) hx hb dL_cellOf_7 rfl ?_
  refine lv_topl (fun y_3 ey_3 => ?_)
  refine va_last hx hb hK hP hD hS 8 1 rfl rfl (show vp_in (0 : Int32) 1 from (by decide : ¬ ((0 : Int32) < 0 ∨ 1 ≤ (0 : Int32).toNatClampNeg))) dL_cellOf_8 (fun H locs hP hD hS => ?_)
  replace hP : va_P (my_D Γ) vwCl (wBF Γ q_bf q_tx q_fl q_flT q_hi q_s1 q_s2 q_fd q_kc q_kr  ++ wFloor Γ q_fl q_k q_c q_a q_pa q_b q_pb vi vj vk vc va vpa vb vpb ++ wOut Γ q_ou (vp_updL vou (0 : Int32).toNatClampNeg y_3)) H := hP
  replace hD : va_D A (wBF Γ q_bf q_tx q_fl q_flT q_hi q_s1 q_s2 q_fd q_kc q_kr  ++ wFloor Γ q_fl q_k q_c q_a q_pa q_b q_pb vi vj vk vc va vpa vb vpb ++ wOut Γ q_ou (vp_updL vou (0 : Int32).toNatClampNeg y_3)) := hD
  subst ey_3
  refine lv_goto (tgt := 15) hx hb dL_cellOf_9 (by decide) ?_
  refine lv_iconst (v := (0 : Int32)) hx hb dL_cellOf_15 (by decide) ?_
  obtain ⟨hf0, hf1⟩ := si2 hm
  subst hf0
  subst hf1
  exact W.widen (k := 1) (n := 6) (Nat.le_of_ble_eq_true rfl) (Nat.le_of_ble_eq_true rfl) (W.iret (v := (0 : Int32)) hx hb hr (fun t ht hW => ⟨⟨rfl, by rw [ht]; exact hP⟩, hS.F ht⟩) hS.2.2 dL_cellOf_16)
def mL_facingOf (va : Nat → Int32) (vb : Nat → Int32) (vou : Nat → Int64) (x1 : Int32) : Option (Int32 × (Nat → Int64)) := (bh1 (mX8_facingOf va vb x1) (fun r_1 => (some ((0 : Int32), (vp_updL vou (0 : Int32).toNatClampNeg (r_1.toInt64))))) (fun E_ => (if E_ = "java/lang/IndexOutOfBoundsException" then (some ((1 : Int32), vou)) else none)))
set_option maxHeartbeats 4000000 in
set_option maxRecDepth 100000 in
theorem kL_facingOf (l : Launch) (Γ : my_G) (hfl : l.stackTraces = false) (q_bf q_fl q_k q_c q_a q_pa q_b q_pb q_ou q_tx q_flT q_hi q_s1 q_s2 q_fd q_kc q_kr : Nat) (vi : Nat → Int32) (vj : Nat → Int64) (vk : Nat → Int32) (vc : Nat → Int32) (va : Nat → Int32) (vpa : Nat → Int32) (vb : Nat → Int32) (vpb : Nat → Int32) (vou : Nat → Int64) (x1 : Int32) (rr : Int32) (vou_z : Nat → Int64) (hm : mL_facingOf va vb vou x1 = (some (rr, vou_z))) : MnW l yL_facingOf wsL_facingOf ({ frames := 8, cells := 1, slots := 6, locals := 137 } : Room) Γ [.ref q_bf, .int x1, .ref q_ou] (wBF Γ q_bf q_tx q_fl q_flT q_hi q_s1 q_s2 q_fd q_kc q_kr  ++ wFloor Γ q_fl q_k q_c q_a q_pa q_b q_pb vi vj vk vc va vpa vb vpb ++ wOut Γ q_ou vou) (some (.int rr)) (wBF Γ q_bf q_tx q_fl q_flT q_hi q_s1 q_s2 q_fd q_kc q_kr  ++ wFloor Γ q_fl q_k q_c q_a q_pa q_b q_pb vi vj vk vc va vpa vb vpb ++ wOut Γ q_ou vou_z) 1 6 := by
  intro sz
  refine va_MetW (cc := cL_facingOf) (maxL := 4) (ret := (some .int)) (by decide) rfl ?_
  intro p e s m args below meth c s₁ B hml hv
  obtain ⟨rfl, ⟨hsz, hP, hK, hD0⟩, hZ, hstr, hnc⟩ := hv
  have htab := vx_table (x := yL_facingOf) (hh := [(0, 9, 12, 24)]) B (atoms_spec (ws := wsL_facingOf) B.pre _ List.mem_cons_self)
  have hx := B.exec
  have hb := B.bytes
  have hr := B.returns
  have hts := atoms_spec (ws := wsL_facingOf) B.pre
  have hown : s.vm.findClass RL = some m.cls := findClass_of_methodNamed B.named
  have hlocks := B.notSynchronized
  have hinX1 : ∀ w ∈ u_ws RX1 TX1 12, w ∈ wsL_facingOf := fun w h => List.mem_cons_of_mem _ (List.mem_append_left _ (List.mem_append_right _ h))
  have hinX4 : ∀ w ∈ u_ws RX4 TX4 10, w ∈ wsL_facingOf := fun w h => List.mem_cons_of_mem _ (List.mem_append_left _ (List.mem_append_left _ (List.mem_append_right _ h)))
  have hinX8 : ∀ w ∈ u_ws RX8 TX8 9, w ∈ wsL_facingOf := fun w h => List.mem_cons_of_mem _ (List.mem_append_left _ (List.mem_append_left _ (List.mem_append_left _ (List.mem_append_right _ h))))
  subst hsz
  have hD := hD0.self (sz := s.heap.size)
  have hA : ∀ q : Nat, s.heap.size ≤ q → va_A (wBF Γ q_bf q_tx q_fl q_flT q_hi q_s1 q_s2 q_fd q_kc q_kr  ++ wFloor Γ q_fl q_k q_c q_a q_pa q_b q_pb vi vj vk vc va vpa vb vpb ++ wOut Γ q_ou vou) s.heap.size q := fun q h => Or.inr h
  generalize va_A (wBF Γ q_bf q_tx q_fl q_flT q_hi q_s1 q_s2 q_fd q_kc q_kr  ++ wFloor Γ q_fl q_k q_c q_a q_pa q_b q_pb vi vj vk vc va vpa vb vpb ++ wOut Γ q_ou vou) s.heap.size = A at hD hA hZ ⊢
  have hS : va_S A s.heap s.heap [] := va_S.rf
  have hl := lv_entry ([.ref q_bf, .int x1, .ref q_ou]) (n := 4) (Nat.le_of_ble_eq_true rfl)
  rw [lg_entry_eq]
  generalize (lg_sl ([.ref q_bf, .int x1, .ref q_ou]) ++ List.replicate (4 - (lg_sl ([.ref q_bf, .int x1, .ref q_ou])).length) Slot.unset).toArray = ls at hl ⊢
  replace hl : lv_has ls 4 [(0, .ref q_bf), (1, .int x1), (2, .ref q_ou)] := hl
  unfold mL_facingOf at hm
  refine lv_aload_n hx hb dL_facingOf_0 rfl (lv_at hl 2 rfl) ?_
  refine lv_iconst (v := (0 : Int32)) hx hb dL_facingOf_1 (by decide) ?_
  refine lv_aload_n hx hb dL_facingOf_2 rfl (lv_at hl 0 rfl) ?_
  refine lv_iload_n hx hb dL_facingOf_3 rfl (lv_at hl 1 rfl) ?_
  refine my_callPX (wc := (wBF Γ q_bf q_tx q_fl q_flT q_hi q_s1 q_s2 q_fd q_kc q_kr  ++ wFloor Γ q_fl q_k q_c q_a q_pa q_b q_pb vi vj vk vc va vpa vb vpb)) hP hD hS hA [0, 1, 2, 3, 4, 5, 6, 7] rfl rfl (fun res w1 h9 => my_had2 h9 (fun q => rfl)) (vx_runV (As := [.int x1]) (rest := [.int (0 : Int32), .ref q_ou]) ⟨hx, hb, hml, hown, hts⟩ (kX8_facingOf l Γ hfl q_bf q_fl q_k q_c q_a q_pa q_b q_pb q_tx q_flT q_hi q_s1 q_s2 q_fd q_kc q_kr vi vj vk vc va vpa vb vpb x1 _ rfl _) (cwV 1 hts gL_facingOf_X8_facingOf rfl rfl rfl (by decide +kernel) ⟨Nat.le_of_ble_eq_true rfl, Nat.le_of_ble_eq_true rfl⟩) (my_preVX (wc := (wBF Γ q_bf q_tx q_fl q_flT q_hi q_s1 q_s2 q_fd q_kc q_kr  ++ wFloor Γ q_fl q_k q_c q_a q_pa q_b q_pb vi vj vk vc va vpa vb vpb)) (ci := 6) (q0 := 0) [0, 1, 2, 3, 4, 5, 6, 7] hK hP hD hS hA hZ hstr rfl rfl rfl rfl) rfl rfl hl.1 rfl (lv_room (Nat.le_of_ble_eq_true rfl)) dL_facingOf_4 ⟨Nat.le_of_ble_eq_true rfl, Nat.le_of_ble_eq_true rfl⟩) (fun E_ H locs q9 ce hro hP hS h1_ h2_ h3_ => ?_) (fun res_ w1_ H locs hro hP hD hS => ?_)
  · rcases bh1_s hm with ⟨r_1, hc_, hm⟩ | ⟨E2_, hc_, hm⟩
    · rw [hc_] at hro; exact (my_map_lr hro).elim
    · rw [hc_] at hro
      have hE_ := my_map_rr hro
      subst hE_
      by_cases ck_2 : E2_ = "java/lang/IndexOutOfBoundsException"
      · replace hm := if_s hm ck_2
        subst ck_2
        refine vx_catch (name := "java/lang/IndexOutOfBoundsException") hown [] ⟨0, 9, 12, 24⟩ [] (htab.trans rfl) (fun z hz => nomatch hz) rfl (by decide) (hts (.classLink RL 24 "java/lang/IndexOutOfBoundsException") (List.mem_of_getElem? (i := 1) rfl)) (va_Nw.use rfl hstr.2.1) h1_ h2_ h3_ ?_
        refine lv_astore_n (lv' := [(3, .ref q9), (0, .ref q_bf), (1, .int x1), (2, .ref q_ou)]) hx hb dL_facingOf_12 rfl hl (by decide) rfl (fun ls hl => ?_)
        refine lv_iconst (v := (1 : Int32)) hx hb dL_facingOf_13 (by decide) ?_
        obtain ⟨hf0, hf1⟩ := si2 hm
        subst hf0
        subst hf1
        exact W.widen (k := 1) (n := 6) (Nat.le_of_ble_eq_true rfl) (Nat.le_of_ble_eq_true rfl) (W.iret (v := (1 : Int32)) hx hb hr (fun t ht hW => ⟨⟨rfl, by rw [ht]; exact hP⟩, hS.F ht⟩) hS.2.2 dL_facingOf_14)
      · replace hm := if_f hm ck_2
        cases hm
  rcases bh1_s hm with ⟨r_1, hc_, hm⟩ | ⟨E2_, hc_, hm⟩
  rotate_left
  · rw [hc_] at hro; exact (my_map_rl hro).elim
  rw [hc_] at hro
  obtain ⟨rfl, rfl⟩ := my_map_ll hro
  replace hP : va_P (my_D Γ) vwCl (wBF Γ q_bf q_tx q_fl q_flT q_hi q_s1 q_s2 q_fd q_kc q_kr  ++ wFloor Γ q_fl q_k q_c q_a q_pa q_b q_pb vi vj vk vc va vpa vb vpb ++ wOut Γ q_ou vou) H := hP
  replace hD : va_D A (wBF Γ q_bf q_tx q_fl q_flT q_hi q_s1 q_s2 q_fd q_kc q_kr  ++ wFloor Γ q_fl q_k q_c q_a q_pa q_b q_pb vi vj vk vc va vpa vb vpb ++ wOut Γ q_ou vou) := hD
  refine lv_i2l (v := r_1.toInt64) hx hb dL_facingOf_7 rfl ?_
  refine lv_topl (fun y_3 ey_3 => ?_)
  refine va_last hx hb hK hP hD hS 8 1 rfl rfl (show vp_in (0 : Int32) 1 from (by decide : ¬ ((0 : Int32) < 0 ∨ 1 ≤ (0 : Int32).toNatClampNeg))) dL_facingOf_8 (fun H locs hP hD hS => ?_)
  replace hP : va_P (my_D Γ) vwCl (wBF Γ q_bf q_tx q_fl q_flT q_hi q_s1 q_s2 q_fd q_kc q_kr  ++ wFloor Γ q_fl q_k q_c q_a q_pa q_b q_pb vi vj vk vc va vpa vb vpb ++ wOut Γ q_ou (vp_updL vou (0 : Int32).toNatClampNeg y_3)) H := hP
  replace hD : va_D A (wBF Γ q_bf q_tx q_fl q_flT q_hi q_s1 q_s2 q_fd q_kc q_kr  ++ wFloor Γ q_fl q_k q_c q_a q_pa q_b q_pb vi vj vk vc va vpa vb vpb ++ wOut Γ q_ou (vp_updL vou (0 : Int32).toNatClampNeg y_3)) := hD
  subst ey_3
  refine lv_goto (tgt := 15) hx hb dL_facingOf_9 (by decide) ?_
  refine lv_iconst (v := (0 : Int32)) hx hb dL_facingOf_15 (by decide) ?_
  obtain ⟨hf0, hf1⟩ := si2 hm
  subst hf0
  subst hf1
  exact W.widen (k := 1) (n := 6) (Nat.le_of_ble_eq_true rfl) (Nat.le_of_ble_eq_true rfl) (W.iret (v := (0 : Int32)) hx hb hr (fun t ht hW => ⟨⟨rfl, by rw [ht]; exact hP⟩, hS.F ht⟩) hS.2.2 dL_facingOf_16)
def mL_nextOf (va : Nat → Int32) (vb : Nat → Int32) (vou : Nat → Int64) (x1 : Int32) : Option (Int32 × (Nat → Int64)) := (bh1 (mX8_nextOf va vb x1) (fun r_1 => (some ((0 : Int32), (vp_updL vou (0 : Int32).toNatClampNeg (r_1.toInt64))))) (fun E_ => (if E_ = "java/lang/IndexOutOfBoundsException" then (some ((1 : Int32), vou)) else none)))
set_option maxHeartbeats 4000000 in
set_option maxRecDepth 100000 in
theorem kL_nextOf (l : Launch) (Γ : my_G) (hfl : l.stackTraces = false) (q_bf q_fl q_k q_c q_a q_pa q_b q_pb q_ou q_tx q_flT q_hi q_s1 q_s2 q_fd q_kc q_kr : Nat) (vi : Nat → Int32) (vj : Nat → Int64) (vk : Nat → Int32) (vc : Nat → Int32) (va : Nat → Int32) (vpa : Nat → Int32) (vb : Nat → Int32) (vpb : Nat → Int32) (vou : Nat → Int64) (x1 : Int32) (rr : Int32) (vou_z : Nat → Int64) (hm : mL_nextOf va vb vou x1 = (some (rr, vou_z))) : MnW l yL_nextOf wsL_nextOf ({ frames := 8, cells := 1, slots := 6, locals := 137 } : Room) Γ [.ref q_bf, .int x1, .ref q_ou] (wBF Γ q_bf q_tx q_fl q_flT q_hi q_s1 q_s2 q_fd q_kc q_kr  ++ wFloor Γ q_fl q_k q_c q_a q_pa q_b q_pb vi vj vk vc va vpa vb vpb ++ wOut Γ q_ou vou) (some (.int rr)) (wBF Γ q_bf q_tx q_fl q_flT q_hi q_s1 q_s2 q_fd q_kc q_kr  ++ wFloor Γ q_fl q_k q_c q_a q_pa q_b q_pb vi vj vk vc va vpa vb vpb ++ wOut Γ q_ou vou_z) 1 6 := by
  intro sz
  refine va_MetW (cc := cL_nextOf) (maxL := 4) (ret := (some .int)) (by decide) rfl ?_
  intro p e s m args below meth c s₁ B hml hv
  obtain ⟨rfl, ⟨hsz, hP, hK, hD0⟩, hZ, hstr, hnc⟩ := hv
  have htab := vx_table (x := yL_nextOf) (hh := [(0, 9, 12, 24)]) B (atoms_spec (ws := wsL_nextOf) B.pre _ List.mem_cons_self)
  have hx := B.exec
  have hb := B.bytes
  have hr := B.returns
  have hts := atoms_spec (ws := wsL_nextOf) B.pre
  have hown : s.vm.findClass RL = some m.cls := findClass_of_methodNamed B.named
  have hlocks := B.notSynchronized
  have hinX1 : ∀ w ∈ u_ws RX1 TX1 12, w ∈ wsL_nextOf := fun w h => List.mem_cons_of_mem _ (List.mem_append_left _ (List.mem_append_right _ h))
  have hinX4 : ∀ w ∈ u_ws RX4 TX4 10, w ∈ wsL_nextOf := fun w h => List.mem_cons_of_mem _ (List.mem_append_left _ (List.mem_append_left _ (List.mem_append_right _ h)))
  have hinX8 : ∀ w ∈ u_ws RX8 TX8 9, w ∈ wsL_nextOf := fun w h => List.mem_cons_of_mem _ (List.mem_append_left _ (List.mem_append_left _ (List.mem_append_left _ (List.mem_append_right _ h))))
  subst hsz
  have hD := hD0.self (sz := s.heap.size)
  have hA : ∀ q : Nat, s.heap.size ≤ q → va_A (wBF Γ q_bf q_tx q_fl q_flT q_hi q_s1 q_s2 q_fd q_kc q_kr  ++ wFloor Γ q_fl q_k q_c q_a q_pa q_b q_pb vi vj vk vc va vpa vb vpb ++ wOut Γ q_ou vou) s.heap.size q := fun q h => Or.inr h
  generalize va_A (wBF Γ q_bf q_tx q_fl q_flT q_hi q_s1 q_s2 q_fd q_kc q_kr  ++ wFloor Γ q_fl q_k q_c q_a q_pa q_b q_pb vi vj vk vc va vpa vb vpb ++ wOut Γ q_ou vou) s.heap.size = A at hD hA hZ ⊢
  have hS : va_S A s.heap s.heap [] := va_S.rf
  have hl := lv_entry ([.ref q_bf, .int x1, .ref q_ou]) (n := 4) (Nat.le_of_ble_eq_true rfl)
  rw [lg_entry_eq]
  generalize (lg_sl ([.ref q_bf, .int x1, .ref q_ou]) ++ List.replicate (4 - (lg_sl ([.ref q_bf, .int x1, .ref q_ou])).length) Slot.unset).toArray = ls at hl ⊢
  replace hl : lv_has ls 4 [(0, .ref q_bf), (1, .int x1), (2, .ref q_ou)] := hl
  unfold mL_nextOf at hm
  refine lv_aload_n hx hb dL_nextOf_0 rfl (lv_at hl 2 rfl) ?_
  refine lv_iconst (v := (0 : Int32)) hx hb dL_nextOf_1 (by decide) ?_
  refine lv_aload_n hx hb dL_nextOf_2 rfl (lv_at hl 0 rfl) ?_
  refine lv_iload_n hx hb dL_nextOf_3 rfl (lv_at hl 1 rfl) ?_
  refine my_callPX (wc := (wBF Γ q_bf q_tx q_fl q_flT q_hi q_s1 q_s2 q_fd q_kc q_kr  ++ wFloor Γ q_fl q_k q_c q_a q_pa q_b q_pb vi vj vk vc va vpa vb vpb)) hP hD hS hA [0, 1, 2, 3, 4, 5, 6, 7] rfl rfl (fun res w1 h9 => my_had2 h9 (fun q => rfl)) (vx_runV (As := [.int x1]) (rest := [.int (0 : Int32), .ref q_ou]) ⟨hx, hb, hml, hown, hts⟩ (kX8_nextOf l Γ hfl q_bf q_fl q_k q_c q_a q_pa q_b q_pb q_tx q_flT q_hi q_s1 q_s2 q_fd q_kc q_kr vi vj vk vc va vpa vb vpb x1 _ rfl _) (cwV 1 hts gL_nextOf_X8_nextOf rfl rfl rfl (by decide +kernel) ⟨Nat.le_of_ble_eq_true rfl, Nat.le_of_ble_eq_true rfl⟩) (my_preVX (wc := (wBF Γ q_bf q_tx q_fl q_flT q_hi q_s1 q_s2 q_fd q_kc q_kr  ++ wFloor Γ q_fl q_k q_c q_a q_pa q_b q_pb vi vj vk vc va vpa vb vpb)) (ci := 6) (q0 := 0) [0, 1, 2, 3, 4, 5, 6, 7] hK hP hD hS hA hZ hstr rfl rfl rfl rfl) rfl rfl hl.1 rfl (lv_room (Nat.le_of_ble_eq_true rfl)) dL_nextOf_4 ⟨Nat.le_of_ble_eq_true rfl, Nat.le_of_ble_eq_true rfl⟩) (fun E_ H locs q9 ce hro hP hS h1_ h2_ h3_ => ?_) (fun res_ w1_ H locs hro hP hD hS => ?_)
  · rcases bh1_s hm with ⟨r_1, hc_, hm⟩ | ⟨E2_, hc_, hm⟩
    · rw [hc_] at hro; exact (my_map_lr hro).elim
    · rw [hc_] at hro
      have hE_ := my_map_rr hro
      subst hE_
      by_cases ck_2 : E2_ = "java/lang/IndexOutOfBoundsException"
      · replace hm := if_s hm ck_2
        subst ck_2
        refine vx_catch (name := "java/lang/IndexOutOfBoundsException") hown [] ⟨0, 9, 12, 24⟩ [] (htab.trans rfl) (fun z hz => nomatch hz) rfl (by decide) (hts (.classLink RL 24 "java/lang/IndexOutOfBoundsException") (List.mem_of_getElem? (i := 1) rfl)) (va_Nw.use rfl hstr.2.1) h1_ h2_ h3_ ?_
        refine lv_astore_n (lv' := [(3, .ref q9), (0, .ref q_bf), (1, .int x1), (2, .ref q_ou)]) hx hb dL_nextOf_12 rfl hl (by decide) rfl (fun ls hl => ?_)
        refine lv_iconst (v := (1 : Int32)) hx hb dL_nextOf_13 (by decide) ?_
        obtain ⟨hf0, hf1⟩ := si2 hm
        subst hf0
        subst hf1
        exact W.widen (k := 1) (n := 6) (Nat.le_of_ble_eq_true rfl) (Nat.le_of_ble_eq_true rfl) (W.iret (v := (1 : Int32)) hx hb hr (fun t ht hW => ⟨⟨rfl, by rw [ht]; exact hP⟩, hS.F ht⟩) hS.2.2 dL_nextOf_14)
      · replace hm := if_f hm ck_2
        cases hm
  rcases bh1_s hm with ⟨r_1, hc_, hm⟩ | ⟨E2_, hc_, hm⟩
  rotate_left
  · rw [hc_] at hro; exact (my_map_rl hro).elim
  rw [hc_] at hro
  obtain ⟨rfl, rfl⟩ := my_map_ll hro
  replace hP : va_P (my_D Γ) vwCl (wBF Γ q_bf q_tx q_fl q_flT q_hi q_s1 q_s2 q_fd q_kc q_kr  ++ wFloor Γ q_fl q_k q_c q_a q_pa q_b q_pb vi vj vk vc va vpa vb vpb ++ wOut Γ q_ou vou) H := hP
  replace hD : va_D A (wBF Γ q_bf q_tx q_fl q_flT q_hi q_s1 q_s2 q_fd q_kc q_kr  ++ wFloor Γ q_fl q_k q_c q_a q_pa q_b q_pb vi vj vk vc va vpa vb vpb ++ wOut Γ q_ou vou) := hD
  refine lv_i2l (v := r_1.toInt64) hx hb dL_nextOf_7 rfl ?_
  refine lv_topl (fun y_3 ey_3 => ?_)
  refine va_last hx hb hK hP hD hS 8 1 rfl rfl (show vp_in (0 : Int32) 1 from (by decide : ¬ ((0 : Int32) < 0 ∨ 1 ≤ (0 : Int32).toNatClampNeg))) dL_nextOf_8 (fun H locs hP hD hS => ?_)
  replace hP : va_P (my_D Γ) vwCl (wBF Γ q_bf q_tx q_fl q_flT q_hi q_s1 q_s2 q_fd q_kc q_kr  ++ wFloor Γ q_fl q_k q_c q_a q_pa q_b q_pb vi vj vk vc va vpa vb vpb ++ wOut Γ q_ou (vp_updL vou (0 : Int32).toNatClampNeg y_3)) H := hP
  replace hD : va_D A (wBF Γ q_bf q_tx q_fl q_flT q_hi q_s1 q_s2 q_fd q_kc q_kr  ++ wFloor Γ q_fl q_k q_c q_a q_pa q_b q_pb vi vj vk vc va vpa vb vpb ++ wOut Γ q_ou (vp_updL vou (0 : Int32).toNatClampNeg y_3)) := hD
  subst ey_3
  refine lv_goto (tgt := 15) hx hb dL_nextOf_9 (by decide) ?_
  refine lv_iconst (v := (0 : Int32)) hx hb dL_nextOf_15 (by decide) ?_
  obtain ⟨hf0, hf1⟩ := si2 hm
  subst hf0
  subst hf1
  exact W.widen (k := 1) (n := 6) (Nat.le_of_ble_eq_true rfl) (Nat.le_of_ble_eq_true rfl) (W.iret (v := (0 : Int32)) hx hb hr (fun t ht hW => ⟨⟨rfl, by rw [ht]; exact hP⟩, hS.F ht⟩) hS.2.2 dL_nextOf_16)
def mL_isHome (vi : Nat → Int32) (va : Nat → Int32) (vb : Nat → Int32) (vou : Nat → Int64) (x1 : Int32) : Option (Int32 × (Nat → Int64)) := (bh1 (mX8_isHome vi va vb x1) (fun r_1 => (if r_1 = 0 then (some ((0 : Int32), (vp_updL vou (0 : Int32).toNatClampNeg (0 : Int64)))) else (some ((0 : Int32), (vp_updL vou (0 : Int32).toNatClampNeg (1 : Int64)))))) (fun E_ => (if E_ = "java/lang/IndexOutOfBoundsException" then (some ((1 : Int32), vou)) else none)))
set_option maxHeartbeats 4000000 in
set_option maxRecDepth 100000 in
theorem kL_isHome (l : Launch) (Γ : my_G) (hfl : l.stackTraces = false) (q_bf q_fl q_k q_c q_a q_pa q_b q_pb q_ou q_tx q_flT q_hi q_s1 q_s2 q_fd q_kc q_kr : Nat) (vi : Nat → Int32) (vj : Nat → Int64) (vk : Nat → Int32) (vc : Nat → Int32) (va : Nat → Int32) (vpa : Nat → Int32) (vb : Nat → Int32) (vpb : Nat → Int32) (vou : Nat → Int64) (x1 : Int32) (rr : Int32) (vou_z : Nat → Int64) (hm : mL_isHome vi va vb vou x1 = (some (rr, vou_z))) : MnW l yL_isHome wsL_isHome ({ frames := 8, cells := 1, slots := 6, locals := 137 } : Room) Γ [.ref q_bf, .int x1, .ref q_ou] (wBF Γ q_bf q_tx q_fl q_flT q_hi q_s1 q_s2 q_fd q_kc q_kr  ++ wFloor Γ q_fl q_k q_c q_a q_pa q_b q_pb vi vj vk vc va vpa vb vpb ++ wOut Γ q_ou vou) (some (.int rr)) (wBF Γ q_bf q_tx q_fl q_flT q_hi q_s1 q_s2 q_fd q_kc q_kr  ++ wFloor Γ q_fl q_k q_c q_a q_pa q_b q_pb vi vj vk vc va vpa vb vpb ++ wOut Γ q_ou vou_z) 1 6 := by
  intro sz
  refine va_MetW (cc := cL_isHome) (maxL := 4) (ret := (some .int)) (by decide) rfl ?_
  intro p e s m args below meth c s₁ B hml hv
  obtain ⟨rfl, ⟨hsz, hP, hK, hD0⟩, hZ, hstr, hnc⟩ := hv
  have htab := vx_table (x := yL_isHome) (hh := [(0, 16, 19, 24)]) B (atoms_spec (ws := wsL_isHome) B.pre _ List.mem_cons_self)
  have hx := B.exec
  have hb := B.bytes
  have hr := B.returns
  have hts := atoms_spec (ws := wsL_isHome) B.pre
  have hown : s.vm.findClass RL = some m.cls := findClass_of_methodNamed B.named
  have hlocks := B.notSynchronized
  have hinX1 : ∀ w ∈ u_ws RX1 TX1 12, w ∈ wsL_isHome := fun w h => List.mem_cons_of_mem _ (List.mem_append_left _ (List.mem_append_left _ (List.mem_append_right _ h)))
  have hinX4 : ∀ w ∈ u_ws RX4 TX4 10, w ∈ wsL_isHome := fun w h => List.mem_cons_of_mem _ (List.mem_append_left _ (List.mem_append_right _ h))
  have hinX8 : ∀ w ∈ u_ws RX8 TX8 9, w ∈ wsL_isHome := fun w h => List.mem_cons_of_mem _ (List.mem_append_left _ (List.mem_append_left _ (List.mem_append_left _ (List.mem_append_right _ h))))
  subst hsz
  have hD := hD0.self (sz := s.heap.size)
  have hA : ∀ q : Nat, s.heap.size ≤ q → va_A (wBF Γ q_bf q_tx q_fl q_flT q_hi q_s1 q_s2 q_fd q_kc q_kr  ++ wFloor Γ q_fl q_k q_c q_a q_pa q_b q_pb vi vj vk vc va vpa vb vpb ++ wOut Γ q_ou vou) s.heap.size q := fun q h => Or.inr h
  generalize va_A (wBF Γ q_bf q_tx q_fl q_flT q_hi q_s1 q_s2 q_fd q_kc q_kr  ++ wFloor Γ q_fl q_k q_c q_a q_pa q_b q_pb vi vj vk vc va vpa vb vpb ++ wOut Γ q_ou vou) s.heap.size = A at hD hA hZ ⊢
  have hS : va_S A s.heap s.heap [] := va_S.rf
  have hl := lv_entry ([.ref q_bf, .int x1, .ref q_ou]) (n := 4) (Nat.le_of_ble_eq_true rfl)
  rw [lg_entry_eq]
  generalize (lg_sl ([.ref q_bf, .int x1, .ref q_ou]) ++ List.replicate (4 - (lg_sl ([.ref q_bf, .int x1, .ref q_ou])).length) Slot.unset).toArray = ls at hl ⊢
  replace hl : lv_has ls 4 [(0, .ref q_bf), (1, .int x1), (2, .ref q_ou)] := hl
  unfold mL_isHome at hm
  refine lv_aload_n hx hb dL_isHome_0 rfl (lv_at hl 2 rfl) ?_
  refine lv_iconst (v := (0 : Int32)) hx hb dL_isHome_1 (by decide) ?_
  refine lv_aload_n hx hb dL_isHome_2 rfl (lv_at hl 0 rfl) ?_
  refine lv_iload_n hx hb dL_isHome_3 rfl (lv_at hl 1 rfl) ?_
  refine my_callPX (wc := (wBF Γ q_bf q_tx q_fl q_flT q_hi q_s1 q_s2 q_fd q_kc q_kr  ++ wFloor Γ q_fl q_k q_c q_a q_pa q_b q_pb vi vj vk vc va vpa vb vpb)) hP hD hS hA [0, 1, 2, 3, 4, 5, 6, 7] rfl rfl (fun res w1 h9 => my_had2 h9 (fun q => rfl)) (vx_runV (As := [.int x1]) (rest := [.int (0 : Int32), .ref q_ou]) ⟨hx, hb, hml, hown, hts⟩ (kX8_isHome l Γ hfl q_bf q_fl q_k q_c q_a q_pa q_b q_pb q_tx q_flT q_hi q_s1 q_s2 q_fd q_kc q_kr vi vj vk vc va vpa vb vpb x1 _ rfl _) (cwV 1 hts gL_isHome_X8_isHome rfl rfl rfl (by decide +kernel) ⟨Nat.le_of_ble_eq_true rfl, Nat.le_of_ble_eq_true rfl⟩) (my_preVX (wc := (wBF Γ q_bf q_tx q_fl q_flT q_hi q_s1 q_s2 q_fd q_kc q_kr  ++ wFloor Γ q_fl q_k q_c q_a q_pa q_b q_pb vi vj vk vc va vpa vb vpb)) (ci := 6) (q0 := 0) [0, 1, 2, 3, 4, 5, 6, 7] hK hP hD hS hA hZ hstr rfl rfl rfl rfl) rfl rfl hl.1 rfl (lv_room (Nat.le_of_ble_eq_true rfl)) dL_isHome_4 ⟨Nat.le_of_ble_eq_true rfl, Nat.le_of_ble_eq_true rfl⟩) (fun E_ H locs q9 ce hro hP hS h1_ h2_ h3_ => ?_) (fun res_ w1_ H locs hro hP hD hS => ?_)
  · rcases bh1_s hm with ⟨r_1, hc_, hm⟩ | ⟨E2_, hc_, hm⟩
    · rw [hc_] at hro; exact (my_map_lr hro).elim
    · rw [hc_] at hro
      have hE_ := my_map_rr hro
      subst hE_
      by_cases ck_2 : E2_ = "java/lang/IndexOutOfBoundsException"
      · replace hm := if_s hm ck_2
        subst ck_2
        refine vx_catch (name := "java/lang/IndexOutOfBoundsException") hown [] ⟨0, 16, 19, 24⟩ [] (htab.trans rfl) (fun z hz => nomatch hz) rfl (by decide) (hts (.classLink RL 24 "java/lang/IndexOutOfBoundsException") (List.mem_of_getElem? (i := 1) rfl)) (va_Nw.use rfl hstr.2.1) h1_ h2_ h3_ ?_
        refine lv_astore_n (lv' := [(3, .ref q9), (0, .ref q_bf), (1, .int x1), (2, .ref q_ou)]) hx hb dL_isHome_19 rfl hl (by decide) rfl (fun ls hl => ?_)
        refine lv_iconst (v := (1 : Int32)) hx hb dL_isHome_20 (by decide) ?_
        obtain ⟨hf0, hf1⟩ := si2 hm
        subst hf0
        subst hf1
        exact W.widen (k := 1) (n := 6) (Nat.le_of_ble_eq_true rfl) (Nat.le_of_ble_eq_true rfl) (W.iret (v := (1 : Int32)) hx hb hr (fun t ht hW => ⟨⟨rfl, by rw [ht]; exact hP⟩, hS.F ht⟩) hS.2.2 dL_isHome_21)
      · replace hm := if_f hm ck_2
        cases hm
  rcases bh1_s hm with ⟨r_1, hc_, hm⟩ | ⟨E2_, hc_, hm⟩
  rotate_left
  · rw [hc_] at hro; exact (my_map_rl hro).elim
  rw [hc_] at hro
  obtain ⟨rfl, rfl⟩ := my_map_ll hro
  replace hP : va_P (my_D Γ) vwCl (wBF Γ q_bf q_tx q_fl q_flT q_hi q_s1 q_s2 q_fd q_kc q_kr  ++ wFloor Γ q_fl q_k q_c q_a q_pa q_b q_pb vi vj vk vc va vpa vb vpb ++ wOut Γ q_ou vou) H := hP
  replace hD : va_D A (wBF Γ q_bf q_tx q_fl q_flT q_hi q_s1 q_s2 q_fd q_kc q_kr  ++ wFloor Γ q_fl q_k q_c q_a q_pa q_b q_pb vi vj vk vc va vpa vb vpb ++ wOut Γ q_ou vou) := hD
  refine lv_if_eq (tgt := 14) hx hb dL_isHome_7 (by decide) (fun c_3 => ?_) (fun c_3 => ?_)
  · replace hm := if_s hm c_3
    refine lv_lconst (v := (0 : Int64)) hx hb dL_isHome_14 (by decide) ?_
    refine va_last hx hb hK hP hD hS 8 1 rfl rfl (show vp_in (0 : Int32) 1 from (by decide : ¬ ((0 : Int32) < 0 ∨ 1 ≤ (0 : Int32).toNatClampNeg))) dL_isHome_15 (fun H locs hP hD hS => ?_)
    replace hP : va_P (my_D Γ) vwCl (wBF Γ q_bf q_tx q_fl q_flT q_hi q_s1 q_s2 q_fd q_kc q_kr  ++ wFloor Γ q_fl q_k q_c q_a q_pa q_b q_pb vi vj vk vc va vpa vb vpb ++ wOut Γ q_ou (vp_updL vou (0 : Int32).toNatClampNeg (0 : Int64))) H := hP
    replace hD : va_D A (wBF Γ q_bf q_tx q_fl q_flT q_hi q_s1 q_s2 q_fd q_kc q_kr  ++ wFloor Γ q_fl q_k q_c q_a q_pa q_b q_pb vi vj vk vc va vpa vb vpb ++ wOut Γ q_ou (vp_updL vou (0 : Int32).toNatClampNeg (0 : Int64))) := hD
    refine lv_goto (tgt := 22) hx hb dL_isHome_16 (by decide) ?_
    refine lv_iconst (v := (0 : Int32)) hx hb dL_isHome_22 (by decide) ?_
    obtain ⟨hf0, hf1⟩ := si2 hm
    subst hf0
    subst hf1
    exact W.widen (k := 1) (n := 6) (Nat.le_of_ble_eq_true rfl) (Nat.le_of_ble_eq_true rfl) (W.iret (v := (0 : Int32)) hx hb hr (fun t ht hW => ⟨⟨rfl, by rw [ht]; exact hP⟩, hS.F ht⟩) hS.2.2 dL_isHome_23)
  · replace hm := if_f hm c_3
    refine lv_lconst (v := (1 : Int64)) hx hb dL_isHome_10 (by decide) ?_
    refine lv_goto (tgt := 15) hx hb dL_isHome_11 (by decide) ?_
    refine va_last hx hb hK hP hD hS 8 1 rfl rfl (show vp_in (0 : Int32) 1 from (by decide : ¬ ((0 : Int32) < 0 ∨ 1 ≤ (0 : Int32).toNatClampNeg))) dL_isHome_15 (fun H locs hP hD hS => ?_)
    replace hP : va_P (my_D Γ) vwCl (wBF Γ q_bf q_tx q_fl q_flT q_hi q_s1 q_s2 q_fd q_kc q_kr  ++ wFloor Γ q_fl q_k q_c q_a q_pa q_b q_pb vi vj vk vc va vpa vb vpb ++ wOut Γ q_ou (vp_updL vou (0 : Int32).toNatClampNeg (1 : Int64))) H := hP
    replace hD : va_D A (wBF Γ q_bf q_tx q_fl q_flT q_hi q_s1 q_s2 q_fd q_kc q_kr  ++ wFloor Γ q_fl q_k q_c q_a q_pa q_b q_pb vi vj vk vc va vpa vb vpb ++ wOut Γ q_ou (vp_updL vou (0 : Int32).toNatClampNeg (1 : Int64))) := hD
    refine lv_goto (tgt := 22) hx hb dL_isHome_16 (by decide) ?_
    refine lv_iconst (v := (0 : Int32)) hx hb dL_isHome_22 (by decide) ?_
    obtain ⟨hf0, hf1⟩ := si2 hm
    subst hf0
    subst hf1
    exact W.widen (k := 1) (n := 6) (Nat.le_of_ble_eq_true rfl) (Nat.le_of_ble_eq_true rfl) (W.iret (v := (0 : Int32)) hx hb hr (fun t ht hW => ⟨⟨rfl, by rw [ht]; exact hP⟩, hS.F ht⟩) hS.2.2 dL_isHome_23)
def mL_movesOf (va : Nat → Int32) (vb : Nat → Int32) (vou : Nat → Int64) (x1 : Int32) : Option (Int32 × (Nat → Int64)) := (bh1 (mX8_movesOf va vb x1) (fun r_1 => (some ((0 : Int32), (vp_updL vou (0 : Int32).toNatClampNeg (r_1.toInt64))))) (fun E_ => (if E_ = "java/lang/IndexOutOfBoundsException" then (some ((1 : Int32), vou)) else none)))
set_option maxHeartbeats 4000000 in
set_option maxRecDepth 100000 in
theorem kL_movesOf (l : Launch) (Γ : my_G) (hfl : l.stackTraces = false) (q_bf q_fl q_k q_c q_a q_pa q_b q_pb q_ou q_tx q_flT q_hi q_s1 q_s2 q_fd q_kc q_kr : Nat) (vi : Nat → Int32) (vj : Nat → Int64) (vk : Nat → Int32) (vc : Nat → Int32) (va : Nat → Int32) (vpa : Nat → Int32) (vb : Nat → Int32) (vpb : Nat → Int32) (vou : Nat → Int64) (x1 : Int32) (rr : Int32) (vou_z : Nat → Int64) (hm : mL_movesOf va vb vou x1 = (some (rr, vou_z))) : MnW l yL_movesOf wsL_movesOf ({ frames := 8, cells := 1, slots := 6, locals := 137 } : Room) Γ [.ref q_bf, .int x1, .ref q_ou] (wBF Γ q_bf q_tx q_fl q_flT q_hi q_s1 q_s2 q_fd q_kc q_kr  ++ wFloor Γ q_fl q_k q_c q_a q_pa q_b q_pb vi vj vk vc va vpa vb vpb ++ wOut Γ q_ou vou) (some (.int rr)) (wBF Γ q_bf q_tx q_fl q_flT q_hi q_s1 q_s2 q_fd q_kc q_kr  ++ wFloor Γ q_fl q_k q_c q_a q_pa q_b q_pb vi vj vk vc va vpa vb vpb ++ wOut Γ q_ou vou_z) 1 6 := by
  intro sz
  refine va_MetW (cc := cL_movesOf) (maxL := 4) (ret := (some .int)) (by decide) rfl ?_
  intro p e s m args below meth c s₁ B hml hv
  obtain ⟨rfl, ⟨hsz, hP, hK, hD0⟩, hZ, hstr, hnc⟩ := hv
  have htab := vx_table (x := yL_movesOf) (hh := [(0, 9, 12, 24)]) B (atoms_spec (ws := wsL_movesOf) B.pre _ List.mem_cons_self)
  have hx := B.exec
  have hb := B.bytes
  have hr := B.returns
  have hts := atoms_spec (ws := wsL_movesOf) B.pre
  have hown : s.vm.findClass RL = some m.cls := findClass_of_methodNamed B.named
  have hlocks := B.notSynchronized
  have hinX1 : ∀ w ∈ u_ws RX1 TX1 12, w ∈ wsL_movesOf := fun w h => List.mem_cons_of_mem _ (List.mem_append_left _ (List.mem_append_right _ h))
  have hinX4 : ∀ w ∈ u_ws RX4 TX4 10, w ∈ wsL_movesOf := fun w h => List.mem_cons_of_mem _ (List.mem_append_left _ (List.mem_append_left _ (List.mem_append_right _ h)))
  have hinX8 : ∀ w ∈ u_ws RX8 TX8 9, w ∈ wsL_movesOf := fun w h => List.mem_cons_of_mem _ (List.mem_append_left _ (List.mem_append_left _ (List.mem_append_left _ (List.mem_append_right _ h))))
  subst hsz
  have hD := hD0.self (sz := s.heap.size)
  have hA : ∀ q : Nat, s.heap.size ≤ q → va_A (wBF Γ q_bf q_tx q_fl q_flT q_hi q_s1 q_s2 q_fd q_kc q_kr  ++ wFloor Γ q_fl q_k q_c q_a q_pa q_b q_pb vi vj vk vc va vpa vb vpb ++ wOut Γ q_ou vou) s.heap.size q := fun q h => Or.inr h
  generalize va_A (wBF Γ q_bf q_tx q_fl q_flT q_hi q_s1 q_s2 q_fd q_kc q_kr  ++ wFloor Γ q_fl q_k q_c q_a q_pa q_b q_pb vi vj vk vc va vpa vb vpb ++ wOut Γ q_ou vou) s.heap.size = A at hD hA hZ ⊢
  have hS : va_S A s.heap s.heap [] := va_S.rf
  have hl := lv_entry ([.ref q_bf, .int x1, .ref q_ou]) (n := 4) (Nat.le_of_ble_eq_true rfl)
  rw [lg_entry_eq]
  generalize (lg_sl ([.ref q_bf, .int x1, .ref q_ou]) ++ List.replicate (4 - (lg_sl ([.ref q_bf, .int x1, .ref q_ou])).length) Slot.unset).toArray = ls at hl ⊢
  replace hl : lv_has ls 4 [(0, .ref q_bf), (1, .int x1), (2, .ref q_ou)] := hl
  unfold mL_movesOf at hm
  refine lv_aload_n hx hb dL_movesOf_0 rfl (lv_at hl 2 rfl) ?_
  refine lv_iconst (v := (0 : Int32)) hx hb dL_movesOf_1 (by decide) ?_
  refine lv_aload_n hx hb dL_movesOf_2 rfl (lv_at hl 0 rfl) ?_
  refine lv_iload_n hx hb dL_movesOf_3 rfl (lv_at hl 1 rfl) ?_
  refine my_callPX (wc := (wBF Γ q_bf q_tx q_fl q_flT q_hi q_s1 q_s2 q_fd q_kc q_kr  ++ wFloor Γ q_fl q_k q_c q_a q_pa q_b q_pb vi vj vk vc va vpa vb vpb)) hP hD hS hA [0, 1, 2, 3, 4, 5, 6, 7] rfl rfl (fun res w1 h9 => my_had2 h9 (fun q => rfl)) (vx_runV (As := [.int x1]) (rest := [.int (0 : Int32), .ref q_ou]) ⟨hx, hb, hml, hown, hts⟩ (kX8_movesOf l Γ hfl q_bf q_fl q_k q_c q_a q_pa q_b q_pb q_tx q_flT q_hi q_s1 q_s2 q_fd q_kc q_kr vi vj vk vc va vpa vb vpb x1 _ rfl _) (cwV 1 hts gL_movesOf_X8_movesOf rfl rfl rfl (by decide +kernel) ⟨Nat.le_of_ble_eq_true rfl, Nat.le_of_ble_eq_true rfl⟩) (my_preVX (wc := (wBF Γ q_bf q_tx q_fl q_flT q_hi q_s1 q_s2 q_fd q_kc q_kr  ++ wFloor Γ q_fl q_k q_c q_a q_pa q_b q_pb vi vj vk vc va vpa vb vpb)) (ci := 6) (q0 := 0) [0, 1, 2, 3, 4, 5, 6, 7] hK hP hD hS hA hZ hstr rfl rfl rfl rfl) rfl rfl hl.1 rfl (lv_room (Nat.le_of_ble_eq_true rfl)) dL_movesOf_4 ⟨Nat.le_of_ble_eq_true rfl, Nat.le_of_ble_eq_true rfl⟩) (fun E_ H locs q9 ce hro hP hS h1_ h2_ h3_ => ?_) (fun res_ w1_ H locs hro hP hD hS => ?_)
  · rcases bh1_s hm with ⟨r_1, hc_, hm⟩ | ⟨E2_, hc_, hm⟩
    · rw [hc_] at hro; exact (my_map_lr hro).elim
    · rw [hc_] at hro
      have hE_ := my_map_rr hro
      subst hE_
      by_cases ck_2 : E2_ = "java/lang/IndexOutOfBoundsException"
      · replace hm := if_s hm ck_2
        subst ck_2
        refine vx_catch (name := "java/lang/IndexOutOfBoundsException") hown [] ⟨0, 9, 12, 24⟩ [] (htab.trans rfl) (fun z hz => nomatch hz) rfl (by decide) (hts (.classLink RL 24 "java/lang/IndexOutOfBoundsException") (List.mem_of_getElem? (i := 1) rfl)) (va_Nw.use rfl hstr.2.1) h1_ h2_ h3_ ?_
        refine lv_astore_n (lv' := [(3, .ref q9), (0, .ref q_bf), (1, .int x1), (2, .ref q_ou)]) hx hb dL_movesOf_12 rfl hl (by decide) rfl (fun ls hl => ?_)
        refine lv_iconst (v := (1 : Int32)) hx hb dL_movesOf_13 (by decide) ?_
        obtain ⟨hf0, hf1⟩ := si2 hm
        subst hf0
        subst hf1
        exact W.widen (k := 1) (n := 6) (Nat.le_of_ble_eq_true rfl) (Nat.le_of_ble_eq_true rfl) (W.iret (v := (1 : Int32)) hx hb hr (fun t ht hW => ⟨⟨rfl, by rw [ht]; exact hP⟩, hS.F ht⟩) hS.2.2 dL_movesOf_14)
      · replace hm := if_f hm ck_2
        cases hm
  rcases bh1_s hm with ⟨r_1, hc_, hm⟩ | ⟨E2_, hc_, hm⟩
  rotate_left
  · rw [hc_] at hro; exact (my_map_rl hro).elim
  rw [hc_] at hro
  obtain ⟨rfl, rfl⟩ := my_map_ll hro
  replace hP : va_P (my_D Γ) vwCl (wBF Γ q_bf q_tx q_fl q_flT q_hi q_s1 q_s2 q_fd q_kc q_kr  ++ wFloor Γ q_fl q_k q_c q_a q_pa q_b q_pb vi vj vk vc va vpa vb vpb ++ wOut Γ q_ou vou) H := hP
  replace hD : va_D A (wBF Γ q_bf q_tx q_fl q_flT q_hi q_s1 q_s2 q_fd q_kc q_kr  ++ wFloor Γ q_fl q_k q_c q_a q_pa q_b q_pb vi vj vk vc va vpa vb vpb ++ wOut Γ q_ou vou) := hD
  refine lv_i2l (v := r_1.toInt64) hx hb dL_movesOf_7 rfl ?_
  refine lv_topl (fun y_3 ey_3 => ?_)
  refine va_last hx hb hK hP hD hS 8 1 rfl rfl (show vp_in (0 : Int32) 1 from (by decide : ¬ ((0 : Int32) < 0 ∨ 1 ≤ (0 : Int32).toNatClampNeg))) dL_movesOf_8 (fun H locs hP hD hS => ?_)
  replace hP : va_P (my_D Γ) vwCl (wBF Γ q_bf q_tx q_fl q_flT q_hi q_s1 q_s2 q_fd q_kc q_kr  ++ wFloor Γ q_fl q_k q_c q_a q_pa q_b q_pb vi vj vk vc va vpa vb vpb ++ wOut Γ q_ou (vp_updL vou (0 : Int32).toNatClampNeg y_3)) H := hP
  replace hD : va_D A (wBF Γ q_bf q_tx q_fl q_flT q_hi q_s1 q_s2 q_fd q_kc q_kr  ++ wFloor Γ q_fl q_k q_c q_a q_pa q_b q_pb vi vj vk vc va vpa vb vpb ++ wOut Γ q_ou (vp_updL vou (0 : Int32).toNatClampNeg y_3)) := hD
  subst ey_3
  refine lv_goto (tgt := 15) hx hb dL_movesOf_9 (by decide) ?_
  refine lv_iconst (v := (0 : Int32)) hx hb dL_movesOf_15 (by decide) ?_
  obtain ⟨hf0, hf1⟩ := si2 hm
  subst hf0
  subst hf1
  exact W.widen (k := 1) (n := 6) (Nat.le_of_ble_eq_true rfl) (Nat.le_of_ble_eq_true rfl) (W.iret (v := (0 : Int32)) hx hb hr (fun t ht hW => ⟨⟨rfl, by rw [ht]; exact hP⟩, hS.F ht⟩) hS.2.2 dL_movesOf_16)
def mL_bumpsOf (va : Nat → Int32) (vb : Nat → Int32) (vou : Nat → Int64) (x1 : Int32) : Option (Int32 × (Nat → Int64)) := (bh1 (mX8_bumpsOf va vb x1) (fun r_1 => (some ((0 : Int32), (vp_updL vou (0 : Int32).toNatClampNeg (r_1.toInt64))))) (fun E_ => (if E_ = "java/lang/IndexOutOfBoundsException" then (some ((1 : Int32), vou)) else none)))
set_option maxHeartbeats 4000000 in
set_option maxRecDepth 100000 in
theorem kL_bumpsOf (l : Launch) (Γ : my_G) (hfl : l.stackTraces = false) (q_bf q_fl q_k q_c q_a q_pa q_b q_pb q_ou q_tx q_flT q_hi q_s1 q_s2 q_fd q_kc q_kr : Nat) (vi : Nat → Int32) (vj : Nat → Int64) (vk : Nat → Int32) (vc : Nat → Int32) (va : Nat → Int32) (vpa : Nat → Int32) (vb : Nat → Int32) (vpb : Nat → Int32) (vou : Nat → Int64) (x1 : Int32) (rr : Int32) (vou_z : Nat → Int64) (hm : mL_bumpsOf va vb vou x1 = (some (rr, vou_z))) : MnW l yL_bumpsOf wsL_bumpsOf ({ frames := 8, cells := 1, slots := 6, locals := 137 } : Room) Γ [.ref q_bf, .int x1, .ref q_ou] (wBF Γ q_bf q_tx q_fl q_flT q_hi q_s1 q_s2 q_fd q_kc q_kr  ++ wFloor Γ q_fl q_k q_c q_a q_pa q_b q_pb vi vj vk vc va vpa vb vpb ++ wOut Γ q_ou vou) (some (.int rr)) (wBF Γ q_bf q_tx q_fl q_flT q_hi q_s1 q_s2 q_fd q_kc q_kr  ++ wFloor Γ q_fl q_k q_c q_a q_pa q_b q_pb vi vj vk vc va vpa vb vpb ++ wOut Γ q_ou vou_z) 1 6 := by
  intro sz
  refine va_MetW (cc := cL_bumpsOf) (maxL := 4) (ret := (some .int)) (by decide) rfl ?_
  intro p e s m args below meth c s₁ B hml hv
  obtain ⟨rfl, ⟨hsz, hP, hK, hD0⟩, hZ, hstr, hnc⟩ := hv
  have htab := vx_table (x := yL_bumpsOf) (hh := [(0, 9, 12, 24)]) B (atoms_spec (ws := wsL_bumpsOf) B.pre _ List.mem_cons_self)
  have hx := B.exec
  have hb := B.bytes
  have hr := B.returns
  have hts := atoms_spec (ws := wsL_bumpsOf) B.pre
  have hown : s.vm.findClass RL = some m.cls := findClass_of_methodNamed B.named
  have hlocks := B.notSynchronized
  have hinX1 : ∀ w ∈ u_ws RX1 TX1 12, w ∈ wsL_bumpsOf := fun w h => List.mem_cons_of_mem _ (List.mem_append_left _ (List.mem_append_right _ h))
  have hinX4 : ∀ w ∈ u_ws RX4 TX4 10, w ∈ wsL_bumpsOf := fun w h => List.mem_cons_of_mem _ (List.mem_append_left _ (List.mem_append_left _ (List.mem_append_right _ h)))
  have hinX8 : ∀ w ∈ u_ws RX8 TX8 9, w ∈ wsL_bumpsOf := fun w h => List.mem_cons_of_mem _ (List.mem_append_left _ (List.mem_append_left _ (List.mem_append_left _ (List.mem_append_right _ h))))
  subst hsz
  have hD := hD0.self (sz := s.heap.size)
  have hA : ∀ q : Nat, s.heap.size ≤ q → va_A (wBF Γ q_bf q_tx q_fl q_flT q_hi q_s1 q_s2 q_fd q_kc q_kr  ++ wFloor Γ q_fl q_k q_c q_a q_pa q_b q_pb vi vj vk vc va vpa vb vpb ++ wOut Γ q_ou vou) s.heap.size q := fun q h => Or.inr h
  generalize va_A (wBF Γ q_bf q_tx q_fl q_flT q_hi q_s1 q_s2 q_fd q_kc q_kr  ++ wFloor Γ q_fl q_k q_c q_a q_pa q_b q_pb vi vj vk vc va vpa vb vpb ++ wOut Γ q_ou vou) s.heap.size = A at hD hA hZ ⊢
  have hS : va_S A s.heap s.heap [] := va_S.rf
  have hl := lv_entry ([.ref q_bf, .int x1, .ref q_ou]) (n := 4) (Nat.le_of_ble_eq_true rfl)
  rw [lg_entry_eq]
  generalize (lg_sl ([.ref q_bf, .int x1, .ref q_ou]) ++ List.replicate (4 - (lg_sl ([.ref q_bf, .int x1, .ref q_ou])).length) Slot.unset).toArray = ls at hl ⊢
  replace hl : lv_has ls 4 [(0, .ref q_bf), (1, .int x1), (2, .ref q_ou)] := hl
  unfold mL_bumpsOf at hm
  refine lv_aload_n hx hb dL_bumpsOf_0 rfl (lv_at hl 2 rfl) ?_
  refine lv_iconst (v := (0 : Int32)) hx hb dL_bumpsOf_1 (by decide) ?_
  refine lv_aload_n hx hb dL_bumpsOf_2 rfl (lv_at hl 0 rfl) ?_
  refine lv_iload_n hx hb dL_bumpsOf_3 rfl (lv_at hl 1 rfl) ?_
  refine my_callPX (wc := (wBF Γ q_bf q_tx q_fl q_flT q_hi q_s1 q_s2 q_fd q_kc q_kr  ++ wFloor Γ q_fl q_k q_c q_a q_pa q_b q_pb vi vj vk vc va vpa vb vpb)) hP hD hS hA [0, 1, 2, 3, 4, 5, 6, 7] rfl rfl (fun res w1 h9 => my_had2 h9 (fun q => rfl)) (vx_runV (As := [.int x1]) (rest := [.int (0 : Int32), .ref q_ou]) ⟨hx, hb, hml, hown, hts⟩ (kX8_bumpsOf l Γ hfl q_bf q_fl q_k q_c q_a q_pa q_b q_pb q_tx q_flT q_hi q_s1 q_s2 q_fd q_kc q_kr vi vj vk vc va vpa vb vpb x1 _ rfl _) (cwV 1 hts gL_bumpsOf_X8_bumpsOf rfl rfl rfl (by decide +kernel) ⟨Nat.le_of_ble_eq_true rfl, Nat.le_of_ble_eq_true rfl⟩) (my_preVX (wc := (wBF Γ q_bf q_tx q_fl q_flT q_hi q_s1 q_s2 q_fd q_kc q_kr  ++ wFloor Γ q_fl q_k q_c q_a q_pa q_b q_pb vi vj vk vc va vpa vb vpb)) (ci := 6) (q0 := 0) [0, 1, 2, 3, 4, 5, 6, 7] hK hP hD hS hA hZ hstr rfl rfl rfl rfl) rfl rfl hl.1 rfl (lv_room (Nat.le_of_ble_eq_true rfl)) dL_bumpsOf_4 ⟨Nat.le_of_ble_eq_true rfl, Nat.le_of_ble_eq_true rfl⟩) (fun E_ H locs q9 ce hro hP hS h1_ h2_ h3_ => ?_) (fun res_ w1_ H locs hro hP hD hS => ?_)
  · rcases bh1_s hm with ⟨r_1, hc_, hm⟩ | ⟨E2_, hc_, hm⟩
    · rw [hc_] at hro; exact (my_map_lr hro).elim
    · rw [hc_] at hro
      have hE_ := my_map_rr hro
      subst hE_
      by_cases ck_2 : E2_ = "java/lang/IndexOutOfBoundsException"
      · replace hm := if_s hm ck_2
        subst ck_2
        refine vx_catch (name := "java/lang/IndexOutOfBoundsException") hown [] ⟨0, 9, 12, 24⟩ [] (htab.trans rfl) (fun z hz => nomatch hz) rfl (by decide) (hts (.classLink RL 24 "java/lang/IndexOutOfBoundsException") (List.mem_of_getElem? (i := 1) rfl)) (va_Nw.use rfl hstr.2.1) h1_ h2_ h3_ ?_
        refine lv_astore_n (lv' := [(3, .ref q9), (0, .ref q_bf), (1, .int x1), (2, .ref q_ou)]) hx hb dL_bumpsOf_12 rfl hl (by decide) rfl (fun ls hl => ?_)
        refine lv_iconst (v := (1 : Int32)) hx hb dL_bumpsOf_13 (by decide) ?_
        obtain ⟨hf0, hf1⟩ := si2 hm
        subst hf0
        subst hf1
        exact W.widen (k := 1) (n := 6) (Nat.le_of_ble_eq_true rfl) (Nat.le_of_ble_eq_true rfl) (W.iret (v := (1 : Int32)) hx hb hr (fun t ht hW => ⟨⟨rfl, by rw [ht]; exact hP⟩, hS.F ht⟩) hS.2.2 dL_bumpsOf_14)
      · replace hm := if_f hm ck_2
        cases hm
  rcases bh1_s hm with ⟨r_1, hc_, hm⟩ | ⟨E2_, hc_, hm⟩
  rotate_left
  · rw [hc_] at hro; exact (my_map_rl hro).elim
  rw [hc_] at hro
  obtain ⟨rfl, rfl⟩ := my_map_ll hro
  replace hP : va_P (my_D Γ) vwCl (wBF Γ q_bf q_tx q_fl q_flT q_hi q_s1 q_s2 q_fd q_kc q_kr  ++ wFloor Γ q_fl q_k q_c q_a q_pa q_b q_pb vi vj vk vc va vpa vb vpb ++ wOut Γ q_ou vou) H := hP
  replace hD : va_D A (wBF Γ q_bf q_tx q_fl q_flT q_hi q_s1 q_s2 q_fd q_kc q_kr  ++ wFloor Γ q_fl q_k q_c q_a q_pa q_b q_pb vi vj vk vc va vpa vb vpb ++ wOut Γ q_ou vou) := hD
  refine lv_i2l (v := r_1.toInt64) hx hb dL_bumpsOf_7 rfl ?_
  refine lv_topl (fun y_3 ey_3 => ?_)
  refine va_last hx hb hK hP hD hS 8 1 rfl rfl (show vp_in (0 : Int32) 1 from (by decide : ¬ ((0 : Int32) < 0 ∨ 1 ≤ (0 : Int32).toNatClampNeg))) dL_bumpsOf_8 (fun H locs hP hD hS => ?_)
  replace hP : va_P (my_D Γ) vwCl (wBF Γ q_bf q_tx q_fl q_flT q_hi q_s1 q_s2 q_fd q_kc q_kr  ++ wFloor Γ q_fl q_k q_c q_a q_pa q_b q_pb vi vj vk vc va vpa vb vpb ++ wOut Γ q_ou (vp_updL vou (0 : Int32).toNatClampNeg y_3)) H := hP
  replace hD : va_D A (wBF Γ q_bf q_tx q_fl q_flT q_hi q_s1 q_s2 q_fd q_kc q_kr  ++ wFloor Γ q_fl q_k q_c q_a q_pa q_b q_pb vi vj vk vc va vpa vb vpb ++ wOut Γ q_ou (vp_updL vou (0 : Int32).toNatClampNeg y_3)) := hD
  subst ey_3
  refine lv_goto (tgt := 15) hx hb dL_bumpsOf_9 (by decide) ?_
  refine lv_iconst (v := (0 : Int32)) hx hb dL_bumpsOf_15 (by decide) ?_
  obtain ⟨hf0, hf1⟩ := si2 hm
  subst hf0
  subst hf1
  exact W.widen (k := 1) (n := 6) (Nat.le_of_ble_eq_true rfl) (Nat.le_of_ble_eq_true rfl) (W.iret (v := (0 : Int32)) hx hb hr (fun t ht hW => ⟨⟨rfl, by rw [ht]; exact hP⟩, hS.F ht⟩) hS.2.2 dL_bumpsOf_16)
def mL_pushesOf (va : Nat → Int32) (vb : Nat → Int32) (vou : Nat → Int64) (x1 : Int32) : Option (Int32 × (Nat → Int64)) := (bh1 (mX8_pushesOf va vb x1) (fun r_1 => (some ((0 : Int32), (vp_updL vou (0 : Int32).toNatClampNeg (r_1.toInt64))))) (fun E_ => (if E_ = "java/lang/IndexOutOfBoundsException" then (some ((1 : Int32), vou)) else none)))
set_option maxHeartbeats 4000000 in
set_option maxRecDepth 100000 in
theorem kL_pushesOf (l : Launch) (Γ : my_G) (hfl : l.stackTraces = false) (q_bf q_fl q_k q_c q_a q_pa q_b q_pb q_ou q_tx q_flT q_hi q_s1 q_s2 q_fd q_kc q_kr : Nat) (vi : Nat → Int32) (vj : Nat → Int64) (vk : Nat → Int32) (vc : Nat → Int32) (va : Nat → Int32) (vpa : Nat → Int32) (vb : Nat → Int32) (vpb : Nat → Int32) (vou : Nat → Int64) (x1 : Int32) (rr : Int32) (vou_z : Nat → Int64) (hm : mL_pushesOf va vb vou x1 = (some (rr, vou_z))) : MnW l yL_pushesOf wsL_pushesOf ({ frames := 8, cells := 1, slots := 6, locals := 137 } : Room) Γ [.ref q_bf, .int x1, .ref q_ou] (wBF Γ q_bf q_tx q_fl q_flT q_hi q_s1 q_s2 q_fd q_kc q_kr  ++ wFloor Γ q_fl q_k q_c q_a q_pa q_b q_pb vi vj vk vc va vpa vb vpb ++ wOut Γ q_ou vou) (some (.int rr)) (wBF Γ q_bf q_tx q_fl q_flT q_hi q_s1 q_s2 q_fd q_kc q_kr  ++ wFloor Γ q_fl q_k q_c q_a q_pa q_b q_pb vi vj vk vc va vpa vb vpb ++ wOut Γ q_ou vou_z) 1 6 := by
  intro sz
  refine va_MetW (cc := cL_pushesOf) (maxL := 4) (ret := (some .int)) (by decide) rfl ?_
  intro p e s m args below meth c s₁ B hml hv
  obtain ⟨rfl, ⟨hsz, hP, hK, hD0⟩, hZ, hstr, hnc⟩ := hv
  have htab := vx_table (x := yL_pushesOf) (hh := [(0, 9, 12, 24)]) B (atoms_spec (ws := wsL_pushesOf) B.pre _ List.mem_cons_self)
  have hx := B.exec
  have hb := B.bytes
  have hr := B.returns
  have hts := atoms_spec (ws := wsL_pushesOf) B.pre
  have hown : s.vm.findClass RL = some m.cls := findClass_of_methodNamed B.named
  have hlocks := B.notSynchronized
  have hinX1 : ∀ w ∈ u_ws RX1 TX1 12, w ∈ wsL_pushesOf := fun w h => List.mem_cons_of_mem _ (List.mem_append_left _ (List.mem_append_right _ h))
  have hinX4 : ∀ w ∈ u_ws RX4 TX4 10, w ∈ wsL_pushesOf := fun w h => List.mem_cons_of_mem _ (List.mem_append_left _ (List.mem_append_left _ (List.mem_append_right _ h)))
  have hinX8 : ∀ w ∈ u_ws RX8 TX8 9, w ∈ wsL_pushesOf := fun w h => List.mem_cons_of_mem _ (List.mem_append_left _ (List.mem_append_left _ (List.mem_append_left _ (List.mem_append_right _ h))))
  subst hsz
  have hD := hD0.self (sz := s.heap.size)
  have hA : ∀ q : Nat, s.heap.size ≤ q → va_A (wBF Γ q_bf q_tx q_fl q_flT q_hi q_s1 q_s2 q_fd q_kc q_kr  ++ wFloor Γ q_fl q_k q_c q_a q_pa q_b q_pb vi vj vk vc va vpa vb vpb ++ wOut Γ q_ou vou) s.heap.size q := fun q h => Or.inr h
  generalize va_A (wBF Γ q_bf q_tx q_fl q_flT q_hi q_s1 q_s2 q_fd q_kc q_kr  ++ wFloor Γ q_fl q_k q_c q_a q_pa q_b q_pb vi vj vk vc va vpa vb vpb ++ wOut Γ q_ou vou) s.heap.size = A at hD hA hZ ⊢
  have hS : va_S A s.heap s.heap [] := va_S.rf
  have hl := lv_entry ([.ref q_bf, .int x1, .ref q_ou]) (n := 4) (Nat.le_of_ble_eq_true rfl)
  rw [lg_entry_eq]
  generalize (lg_sl ([.ref q_bf, .int x1, .ref q_ou]) ++ List.replicate (4 - (lg_sl ([.ref q_bf, .int x1, .ref q_ou])).length) Slot.unset).toArray = ls at hl ⊢
  replace hl : lv_has ls 4 [(0, .ref q_bf), (1, .int x1), (2, .ref q_ou)] := hl
  unfold mL_pushesOf at hm
  refine lv_aload_n hx hb dL_pushesOf_0 rfl (lv_at hl 2 rfl) ?_
  refine lv_iconst (v := (0 : Int32)) hx hb dL_pushesOf_1 (by decide) ?_
  refine lv_aload_n hx hb dL_pushesOf_2 rfl (lv_at hl 0 rfl) ?_
  refine lv_iload_n hx hb dL_pushesOf_3 rfl (lv_at hl 1 rfl) ?_
  refine my_callPX (wc := (wBF Γ q_bf q_tx q_fl q_flT q_hi q_s1 q_s2 q_fd q_kc q_kr  ++ wFloor Γ q_fl q_k q_c q_a q_pa q_b q_pb vi vj vk vc va vpa vb vpb)) hP hD hS hA [0, 1, 2, 3, 4, 5, 6, 7] rfl rfl (fun res w1 h9 => my_had2 h9 (fun q => rfl)) (vx_runV (As := [.int x1]) (rest := [.int (0 : Int32), .ref q_ou]) ⟨hx, hb, hml, hown, hts⟩ (kX8_pushesOf l Γ hfl q_bf q_fl q_k q_c q_a q_pa q_b q_pb q_tx q_flT q_hi q_s1 q_s2 q_fd q_kc q_kr vi vj vk vc va vpa vb vpb x1 _ rfl _) (cwV 1 hts gL_pushesOf_X8_pushesOf rfl rfl rfl (by decide +kernel) ⟨Nat.le_of_ble_eq_true rfl, Nat.le_of_ble_eq_true rfl⟩) (my_preVX (wc := (wBF Γ q_bf q_tx q_fl q_flT q_hi q_s1 q_s2 q_fd q_kc q_kr  ++ wFloor Γ q_fl q_k q_c q_a q_pa q_b q_pb vi vj vk vc va vpa vb vpb)) (ci := 6) (q0 := 0) [0, 1, 2, 3, 4, 5, 6, 7] hK hP hD hS hA hZ hstr rfl rfl rfl rfl) rfl rfl hl.1 rfl (lv_room (Nat.le_of_ble_eq_true rfl)) dL_pushesOf_4 ⟨Nat.le_of_ble_eq_true rfl, Nat.le_of_ble_eq_true rfl⟩) (fun E_ H locs q9 ce hro hP hS h1_ h2_ h3_ => ?_) (fun res_ w1_ H locs hro hP hD hS => ?_)
  · rcases bh1_s hm with ⟨r_1, hc_, hm⟩ | ⟨E2_, hc_, hm⟩
    · rw [hc_] at hro; exact (my_map_lr hro).elim
    · rw [hc_] at hro
      have hE_ := my_map_rr hro
      subst hE_
      by_cases ck_2 : E2_ = "java/lang/IndexOutOfBoundsException"
      · replace hm := if_s hm ck_2
        subst ck_2
        refine vx_catch (name := "java/lang/IndexOutOfBoundsException") hown [] ⟨0, 9, 12, 24⟩ [] (htab.trans rfl) (fun z hz => nomatch hz) rfl (by decide) (hts (.classLink RL 24 "java/lang/IndexOutOfBoundsException") (List.mem_of_getElem? (i := 1) rfl)) (va_Nw.use rfl hstr.2.1) h1_ h2_ h3_ ?_
        refine lv_astore_n (lv' := [(3, .ref q9), (0, .ref q_bf), (1, .int x1), (2, .ref q_ou)]) hx hb dL_pushesOf_12 rfl hl (by decide) rfl (fun ls hl => ?_)
        refine lv_iconst (v := (1 : Int32)) hx hb dL_pushesOf_13 (by decide) ?_
        obtain ⟨hf0, hf1⟩ := si2 hm
        subst hf0
        subst hf1
        exact W.widen (k := 1) (n := 6) (Nat.le_of_ble_eq_true rfl) (Nat.le_of_ble_eq_true rfl) (W.iret (v := (1 : Int32)) hx hb hr (fun t ht hW => ⟨⟨rfl, by rw [ht]; exact hP⟩, hS.F ht⟩) hS.2.2 dL_pushesOf_14)
      · replace hm := if_f hm ck_2
        cases hm
  rcases bh1_s hm with ⟨r_1, hc_, hm⟩ | ⟨E2_, hc_, hm⟩
  rotate_left
  · rw [hc_] at hro; exact (my_map_rl hro).elim
  rw [hc_] at hro
  obtain ⟨rfl, rfl⟩ := my_map_ll hro
  replace hP : va_P (my_D Γ) vwCl (wBF Γ q_bf q_tx q_fl q_flT q_hi q_s1 q_s2 q_fd q_kc q_kr  ++ wFloor Γ q_fl q_k q_c q_a q_pa q_b q_pb vi vj vk vc va vpa vb vpb ++ wOut Γ q_ou vou) H := hP
  replace hD : va_D A (wBF Γ q_bf q_tx q_fl q_flT q_hi q_s1 q_s2 q_fd q_kc q_kr  ++ wFloor Γ q_fl q_k q_c q_a q_pa q_b q_pb vi vj vk vc va vpa vb vpb ++ wOut Γ q_ou vou) := hD
  refine lv_i2l (v := r_1.toInt64) hx hb dL_pushesOf_7 rfl ?_
  refine lv_topl (fun y_3 ey_3 => ?_)
  refine va_last hx hb hK hP hD hS 8 1 rfl rfl (show vp_in (0 : Int32) 1 from (by decide : ¬ ((0 : Int32) < 0 ∨ 1 ≤ (0 : Int32).toNatClampNeg))) dL_pushesOf_8 (fun H locs hP hD hS => ?_)
  replace hP : va_P (my_D Γ) vwCl (wBF Γ q_bf q_tx q_fl q_flT q_hi q_s1 q_s2 q_fd q_kc q_kr  ++ wFloor Γ q_fl q_k q_c q_a q_pa q_b q_pb vi vj vk vc va vpa vb vpb ++ wOut Γ q_ou (vp_updL vou (0 : Int32).toNatClampNeg y_3)) H := hP
  replace hD : va_D A (wBF Γ q_bf q_tx q_fl q_flT q_hi q_s1 q_s2 q_fd q_kc q_kr  ++ wFloor Γ q_fl q_k q_c q_a q_pa q_b q_pb vi vj vk vc va vpa vb vpb ++ wOut Γ q_ou (vp_updL vou (0 : Int32).toNatClampNeg y_3)) := hD
  subst ey_3
  refine lv_goto (tgt := 15) hx hb dL_pushesOf_9 (by decide) ?_
  refine lv_iconst (v := (0 : Int32)) hx hb dL_pushesOf_15 (by decide) ?_
  obtain ⟨hf0, hf1⟩ := si2 hm
  subst hf0
  subst hf1
  exact W.widen (k := 1) (n := 6) (Nat.le_of_ble_eq_true rfl) (Nat.le_of_ble_eq_true rfl) (W.iret (v := (0 : Int32)) hx hb hr (fun t ht hW => ⟨⟨rfl, by rw [ht]; exact hP⟩, hS.F ht⟩) hS.2.2 dL_pushesOf_16)
def mL_fallsOf (va : Nat → Int32) (vb : Nat → Int32) (vou : Nat → Int64) (x1 : Int32) : Option (Int32 × (Nat → Int64)) := (bh1 (mX8_fallsOf va vb x1) (fun r_1 => (some ((0 : Int32), (vp_updL vou (0 : Int32).toNatClampNeg (r_1.toInt64))))) (fun E_ => (if E_ = "java/lang/IndexOutOfBoundsException" then (some ((1 : Int32), vou)) else none)))
set_option maxHeartbeats 4000000 in
set_option maxRecDepth 100000 in
theorem kL_fallsOf (l : Launch) (Γ : my_G) (hfl : l.stackTraces = false) (q_bf q_fl q_k q_c q_a q_pa q_b q_pb q_ou q_tx q_flT q_hi q_s1 q_s2 q_fd q_kc q_kr : Nat) (vi : Nat → Int32) (vj : Nat → Int64) (vk : Nat → Int32) (vc : Nat → Int32) (va : Nat → Int32) (vpa : Nat → Int32) (vb : Nat → Int32) (vpb : Nat → Int32) (vou : Nat → Int64) (x1 : Int32) (rr : Int32) (vou_z : Nat → Int64) (hm : mL_fallsOf va vb vou x1 = (some (rr, vou_z))) : MnW l yL_fallsOf wsL_fallsOf ({ frames := 8, cells := 1, slots := 6, locals := 137 } : Room) Γ [.ref q_bf, .int x1, .ref q_ou] (wBF Γ q_bf q_tx q_fl q_flT q_hi q_s1 q_s2 q_fd q_kc q_kr  ++ wFloor Γ q_fl q_k q_c q_a q_pa q_b q_pb vi vj vk vc va vpa vb vpb ++ wOut Γ q_ou vou) (some (.int rr)) (wBF Γ q_bf q_tx q_fl q_flT q_hi q_s1 q_s2 q_fd q_kc q_kr  ++ wFloor Γ q_fl q_k q_c q_a q_pa q_b q_pb vi vj vk vc va vpa vb vpb ++ wOut Γ q_ou vou_z) 1 6 := by
  intro sz
  refine va_MetW (cc := cL_fallsOf) (maxL := 4) (ret := (some .int)) (by decide) rfl ?_
  intro p e s m args below meth c s₁ B hml hv
  obtain ⟨rfl, ⟨hsz, hP, hK, hD0⟩, hZ, hstr, hnc⟩ := hv
  have htab := vx_table (x := yL_fallsOf) (hh := [(0, 9, 12, 24)]) B (atoms_spec (ws := wsL_fallsOf) B.pre _ List.mem_cons_self)
  have hx := B.exec
  have hb := B.bytes
  have hr := B.returns
  have hts := atoms_spec (ws := wsL_fallsOf) B.pre
  have hown : s.vm.findClass RL = some m.cls := findClass_of_methodNamed B.named
  have hlocks := B.notSynchronized
  have hinX1 : ∀ w ∈ u_ws RX1 TX1 12, w ∈ wsL_fallsOf := fun w h => List.mem_cons_of_mem _ (List.mem_append_left _ (List.mem_append_right _ h))
  have hinX4 : ∀ w ∈ u_ws RX4 TX4 10, w ∈ wsL_fallsOf := fun w h => List.mem_cons_of_mem _ (List.mem_append_left _ (List.mem_append_left _ (List.mem_append_right _ h)))
  have hinX8 : ∀ w ∈ u_ws RX8 TX8 9, w ∈ wsL_fallsOf := fun w h => List.mem_cons_of_mem _ (List.mem_append_left _ (List.mem_append_left _ (List.mem_append_left _ (List.mem_append_right _ h))))
  subst hsz
  have hD := hD0.self (sz := s.heap.size)
  have hA : ∀ q : Nat, s.heap.size ≤ q → va_A (wBF Γ q_bf q_tx q_fl q_flT q_hi q_s1 q_s2 q_fd q_kc q_kr  ++ wFloor Γ q_fl q_k q_c q_a q_pa q_b q_pb vi vj vk vc va vpa vb vpb ++ wOut Γ q_ou vou) s.heap.size q := fun q h => Or.inr h
  generalize va_A (wBF Γ q_bf q_tx q_fl q_flT q_hi q_s1 q_s2 q_fd q_kc q_kr  ++ wFloor Γ q_fl q_k q_c q_a q_pa q_b q_pb vi vj vk vc va vpa vb vpb ++ wOut Γ q_ou vou) s.heap.size = A at hD hA hZ ⊢
  have hS : va_S A s.heap s.heap [] := va_S.rf
  have hl := lv_entry ([.ref q_bf, .int x1, .ref q_ou]) (n := 4) (Nat.le_of_ble_eq_true rfl)
  rw [lg_entry_eq]
  generalize (lg_sl ([.ref q_bf, .int x1, .ref q_ou]) ++ List.replicate (4 - (lg_sl ([.ref q_bf, .int x1, .ref q_ou])).length) Slot.unset).toArray = ls at hl ⊢
  replace hl : lv_has ls 4 [(0, .ref q_bf), (1, .int x1), (2, .ref q_ou)] := hl
  unfold mL_fallsOf at hm
  refine lv_aload_n hx hb dL_fallsOf_0 rfl (lv_at hl 2 rfl) ?_
  refine lv_iconst (v := (0 : Int32)) hx hb dL_fallsOf_1 (by decide) ?_
  refine lv_aload_n hx hb dL_fallsOf_2 rfl (lv_at hl 0 rfl) ?_
  refine lv_iload_n hx hb dL_fallsOf_3 rfl (lv_at hl 1 rfl) ?_
  refine my_callPX (wc := (wBF Γ q_bf q_tx q_fl q_flT q_hi q_s1 q_s2 q_fd q_kc q_kr  ++ wFloor Γ q_fl q_k q_c q_a q_pa q_b q_pb vi vj vk vc va vpa vb vpb)) hP hD hS hA [0, 1, 2, 3, 4, 5, 6, 7] rfl rfl (fun res w1 h9 => my_had2 h9 (fun q => rfl)) (vx_runV (As := [.int x1]) (rest := [.int (0 : Int32), .ref q_ou]) ⟨hx, hb, hml, hown, hts⟩ (kX8_fallsOf l Γ hfl q_bf q_fl q_k q_c q_a q_pa q_b q_pb q_tx q_flT q_hi q_s1 q_s2 q_fd q_kc q_kr vi vj vk vc va vpa vb vpb x1 _ rfl _) (cwV 1 hts gL_fallsOf_X8_fallsOf rfl rfl rfl (by decide +kernel) ⟨Nat.le_of_ble_eq_true rfl, Nat.le_of_ble_eq_true rfl⟩) (my_preVX (wc := (wBF Γ q_bf q_tx q_fl q_flT q_hi q_s1 q_s2 q_fd q_kc q_kr  ++ wFloor Γ q_fl q_k q_c q_a q_pa q_b q_pb vi vj vk vc va vpa vb vpb)) (ci := 6) (q0 := 0) [0, 1, 2, 3, 4, 5, 6, 7] hK hP hD hS hA hZ hstr rfl rfl rfl rfl) rfl rfl hl.1 rfl (lv_room (Nat.le_of_ble_eq_true rfl)) dL_fallsOf_4 ⟨Nat.le_of_ble_eq_true rfl, Nat.le_of_ble_eq_true rfl⟩) (fun E_ H locs q9 ce hro hP hS h1_ h2_ h3_ => ?_) (fun res_ w1_ H locs hro hP hD hS => ?_)
  · rcases bh1_s hm with ⟨r_1, hc_, hm⟩ | ⟨E2_, hc_, hm⟩
    · rw [hc_] at hro; exact (my_map_lr hro).elim
    · rw [hc_] at hro
      have hE_ := my_map_rr hro
      subst hE_
      by_cases ck_2 : E2_ = "java/lang/IndexOutOfBoundsException"
      · replace hm := if_s hm ck_2
        subst ck_2
        refine vx_catch (name := "java/lang/IndexOutOfBoundsException") hown [] ⟨0, 9, 12, 24⟩ [] (htab.trans rfl) (fun z hz => nomatch hz) rfl (by decide) (hts (.classLink RL 24 "java/lang/IndexOutOfBoundsException") (List.mem_of_getElem? (i := 1) rfl)) (va_Nw.use rfl hstr.2.1) h1_ h2_ h3_ ?_
        refine lv_astore_n (lv' := [(3, .ref q9), (0, .ref q_bf), (1, .int x1), (2, .ref q_ou)]) hx hb dL_fallsOf_12 rfl hl (by decide) rfl (fun ls hl => ?_)
        refine lv_iconst (v := (1 : Int32)) hx hb dL_fallsOf_13 (by decide) ?_
        obtain ⟨hf0, hf1⟩ := si2 hm
        subst hf0
        subst hf1
        exact W.widen (k := 1) (n := 6) (Nat.le_of_ble_eq_true rfl) (Nat.le_of_ble_eq_true rfl) (W.iret (v := (1 : Int32)) hx hb hr (fun t ht hW => ⟨⟨rfl, by rw [ht]; exact hP⟩, hS.F ht⟩) hS.2.2 dL_fallsOf_14)
      · replace hm := if_f hm ck_2
        cases hm
  rcases bh1_s hm with ⟨r_1, hc_, hm⟩ | ⟨E2_, hc_, hm⟩
  rotate_left
  · rw [hc_] at hro; exact (my_map_rl hro).elim
  rw [hc_] at hro
  obtain ⟨rfl, rfl⟩ := my_map_ll hro
  replace hP : va_P (my_D Γ) vwCl (wBF Γ q_bf q_tx q_fl q_flT q_hi q_s1 q_s2 q_fd q_kc q_kr  ++ wFloor Γ q_fl q_k q_c q_a q_pa q_b q_pb vi vj vk vc va vpa vb vpb ++ wOut Γ q_ou vou) H := hP
  replace hD : va_D A (wBF Γ q_bf q_tx q_fl q_flT q_hi q_s1 q_s2 q_fd q_kc q_kr  ++ wFloor Γ q_fl q_k q_c q_a q_pa q_b q_pb vi vj vk vc va vpa vb vpb ++ wOut Γ q_ou vou) := hD
  refine lv_i2l (v := r_1.toInt64) hx hb dL_fallsOf_7 rfl ?_
  refine lv_topl (fun y_3 ey_3 => ?_)
  refine va_last hx hb hK hP hD hS 8 1 rfl rfl (show vp_in (0 : Int32) 1 from (by decide : ¬ ((0 : Int32) < 0 ∨ 1 ≤ (0 : Int32).toNatClampNeg))) dL_fallsOf_8 (fun H locs hP hD hS => ?_)
  replace hP : va_P (my_D Γ) vwCl (wBF Γ q_bf q_tx q_fl q_flT q_hi q_s1 q_s2 q_fd q_kc q_kr  ++ wFloor Γ q_fl q_k q_c q_a q_pa q_b q_pb vi vj vk vc va vpa vb vpb ++ wOut Γ q_ou (vp_updL vou (0 : Int32).toNatClampNeg y_3)) H := hP
  replace hD : va_D A (wBF Γ q_bf q_tx q_fl q_flT q_hi q_s1 q_s2 q_fd q_kc q_kr  ++ wFloor Γ q_fl q_k q_c q_a q_pa q_b q_pb vi vj vk vc va vpa vb vpb ++ wOut Γ q_ou (vp_updL vou (0 : Int32).toNatClampNeg y_3)) := hD
  subst ey_3
  refine lv_goto (tgt := 15) hx hb dL_fallsOf_9 (by decide) ?_
  refine lv_iconst (v := (0 : Int32)) hx hb dL_fallsOf_15 (by decide) ?_
  obtain ⟨hf0, hf1⟩ := si2 hm
  subst hf0
  subst hf1
  exact W.widen (k := 1) (n := 6) (Nat.le_of_ble_eq_true rfl) (Nat.le_of_ble_eq_true rfl) (W.iret (v := (0 : Int32)) hx hb hr (fun t ht hW => ⟨⟨rfl, by rw [ht]; exact hP⟩, hS.F ht⟩) hS.2.2 dL_fallsOf_16)
def mL_lengthOf (va : Nat → Int32) (vb : Nat → Int32) (vou : Nat → Int64) (x1 : Int32) : Option (Int32 × (Nat → Int64)) := (bh1 (mX8_lengthOf va vb x1) (fun r_1 => (some ((0 : Int32), (vp_updL vou (0 : Int32).toNatClampNeg (r_1.toInt64))))) (fun E_ => (if E_ = "java/lang/IndexOutOfBoundsException" then (some ((1 : Int32), vou)) else none)))
set_option maxHeartbeats 4000000 in
set_option maxRecDepth 100000 in
theorem kL_lengthOf (l : Launch) (Γ : my_G) (hfl : l.stackTraces = false) (q_bf q_fl q_k q_c q_a q_pa q_b q_pb q_ou q_tx q_flT q_hi q_s1 q_s2 q_fd q_kc q_kr : Nat) (vi : Nat → Int32) (vj : Nat → Int64) (vk : Nat → Int32) (vc : Nat → Int32) (va : Nat → Int32) (vpa : Nat → Int32) (vb : Nat → Int32) (vpb : Nat → Int32) (vou : Nat → Int64) (x1 : Int32) (rr : Int32) (vou_z : Nat → Int64) (hm : mL_lengthOf va vb vou x1 = (some (rr, vou_z))) : MnW l yL_lengthOf wsL_lengthOf ({ frames := 8, cells := 1, slots := 6, locals := 137 } : Room) Γ [.ref q_bf, .int x1, .ref q_ou] (wBF Γ q_bf q_tx q_fl q_flT q_hi q_s1 q_s2 q_fd q_kc q_kr  ++ wFloor Γ q_fl q_k q_c q_a q_pa q_b q_pb vi vj vk vc va vpa vb vpb ++ wOut Γ q_ou vou) (some (.int rr)) (wBF Γ q_bf q_tx q_fl q_flT q_hi q_s1 q_s2 q_fd q_kc q_kr  ++ wFloor Γ q_fl q_k q_c q_a q_pa q_b q_pb vi vj vk vc va vpa vb vpb ++ wOut Γ q_ou vou_z) 1 6 := by
  intro sz
  refine va_MetW (cc := cL_lengthOf) (maxL := 4) (ret := (some .int)) (by decide) rfl ?_
  intro p e s m args below meth c s₁ B hml hv
  obtain ⟨rfl, ⟨hsz, hP, hK, hD0⟩, hZ, hstr, hnc⟩ := hv
  have htab := vx_table (x := yL_lengthOf) (hh := [(0, 9, 12, 24)]) B (atoms_spec (ws := wsL_lengthOf) B.pre _ List.mem_cons_self)
  have hx := B.exec
  have hb := B.bytes
  have hr := B.returns
  have hts := atoms_spec (ws := wsL_lengthOf) B.pre
  have hown : s.vm.findClass RL = some m.cls := findClass_of_methodNamed B.named
  have hlocks := B.notSynchronized
  have hinX1 : ∀ w ∈ u_ws RX1 TX1 12, w ∈ wsL_lengthOf := fun w h => List.mem_cons_of_mem _ (List.mem_append_left _ (List.mem_append_right _ h))
  have hinX4 : ∀ w ∈ u_ws RX4 TX4 10, w ∈ wsL_lengthOf := fun w h => List.mem_cons_of_mem _ (List.mem_append_left _ (List.mem_append_left _ (List.mem_append_right _ h)))
  have hinX8 : ∀ w ∈ u_ws RX8 TX8 9, w ∈ wsL_lengthOf := fun w h => List.mem_cons_of_mem _ (List.mem_append_left _ (List.mem_append_left _ (List.mem_append_left _ (List.mem_append_right _ h))))
  subst hsz
  have hD := hD0.self (sz := s.heap.size)
  have hA : ∀ q : Nat, s.heap.size ≤ q → va_A (wBF Γ q_bf q_tx q_fl q_flT q_hi q_s1 q_s2 q_fd q_kc q_kr  ++ wFloor Γ q_fl q_k q_c q_a q_pa q_b q_pb vi vj vk vc va vpa vb vpb ++ wOut Γ q_ou vou) s.heap.size q := fun q h => Or.inr h
  generalize va_A (wBF Γ q_bf q_tx q_fl q_flT q_hi q_s1 q_s2 q_fd q_kc q_kr  ++ wFloor Γ q_fl q_k q_c q_a q_pa q_b q_pb vi vj vk vc va vpa vb vpb ++ wOut Γ q_ou vou) s.heap.size = A at hD hA hZ ⊢
  have hS : va_S A s.heap s.heap [] := va_S.rf
  have hl := lv_entry ([.ref q_bf, .int x1, .ref q_ou]) (n := 4) (Nat.le_of_ble_eq_true rfl)
  rw [lg_entry_eq]
  generalize (lg_sl ([.ref q_bf, .int x1, .ref q_ou]) ++ List.replicate (4 - (lg_sl ([.ref q_bf, .int x1, .ref q_ou])).length) Slot.unset).toArray = ls at hl ⊢
  replace hl : lv_has ls 4 [(0, .ref q_bf), (1, .int x1), (2, .ref q_ou)] := hl
  unfold mL_lengthOf at hm
  refine lv_aload_n hx hb dL_lengthOf_0 rfl (lv_at hl 2 rfl) ?_
  refine lv_iconst (v := (0 : Int32)) hx hb dL_lengthOf_1 (by decide) ?_
  refine lv_aload_n hx hb dL_lengthOf_2 rfl (lv_at hl 0 rfl) ?_
  refine lv_iload_n hx hb dL_lengthOf_3 rfl (lv_at hl 1 rfl) ?_
  refine my_callPX (wc := (wBF Γ q_bf q_tx q_fl q_flT q_hi q_s1 q_s2 q_fd q_kc q_kr  ++ wFloor Γ q_fl q_k q_c q_a q_pa q_b q_pb vi vj vk vc va vpa vb vpb)) hP hD hS hA [0, 1, 2, 3, 4, 5, 6, 7] rfl rfl (fun res w1 h9 => my_had2 h9 (fun q => rfl)) (vx_runV (As := [.int x1]) (rest := [.int (0 : Int32), .ref q_ou]) ⟨hx, hb, hml, hown, hts⟩ (kX8_lengthOf l Γ hfl q_bf q_fl q_k q_c q_a q_pa q_b q_pb q_tx q_flT q_hi q_s1 q_s2 q_fd q_kc q_kr vi vj vk vc va vpa vb vpb x1 _ rfl _) (cwV 1 hts gL_lengthOf_X8_lengthOf rfl rfl rfl (by decide +kernel) ⟨Nat.le_of_ble_eq_true rfl, Nat.le_of_ble_eq_true rfl⟩) (my_preVX (wc := (wBF Γ q_bf q_tx q_fl q_flT q_hi q_s1 q_s2 q_fd q_kc q_kr  ++ wFloor Γ q_fl q_k q_c q_a q_pa q_b q_pb vi vj vk vc va vpa vb vpb)) (ci := 6) (q0 := 0) [0, 1, 2, 3, 4, 5, 6, 7] hK hP hD hS hA hZ hstr rfl rfl rfl rfl) rfl rfl hl.1 rfl (lv_room (Nat.le_of_ble_eq_true rfl)) dL_lengthOf_4 ⟨Nat.le_of_ble_eq_true rfl, Nat.le_of_ble_eq_true rfl⟩) (fun E_ H locs q9 ce hro hP hS h1_ h2_ h3_ => ?_) (fun res_ w1_ H locs hro hP hD hS => ?_)
  · rcases bh1_s hm with ⟨r_1, hc_, hm⟩ | ⟨E2_, hc_, hm⟩
    · rw [hc_] at hro; exact (my_map_lr hro).elim
    · rw [hc_] at hro
      have hE_ := my_map_rr hro
      subst hE_
      by_cases ck_2 : E2_ = "java/lang/IndexOutOfBoundsException"
      · replace hm := if_s hm ck_2
        subst ck_2
        refine vx_catch (name := "java/lang/IndexOutOfBoundsException") hown [] ⟨0, 9, 12, 24⟩ [] (htab.trans rfl) (fun z hz => nomatch hz) rfl (by decide) (hts (.classLink RL 24 "java/lang/IndexOutOfBoundsException") (List.mem_of_getElem? (i := 1) rfl)) (va_Nw.use rfl hstr.2.1) h1_ h2_ h3_ ?_
        refine lv_astore_n (lv' := [(3, .ref q9), (0, .ref q_bf), (1, .int x1), (2, .ref q_ou)]) hx hb dL_lengthOf_12 rfl hl (by decide) rfl (fun ls hl => ?_)
        refine lv_iconst (v := (1 : Int32)) hx hb dL_lengthOf_13 (by decide) ?_
        obtain ⟨hf0, hf1⟩ := si2 hm
        subst hf0
        subst hf1
        exact W.widen (k := 1) (n := 6) (Nat.le_of_ble_eq_true rfl) (Nat.le_of_ble_eq_true rfl) (W.iret (v := (1 : Int32)) hx hb hr (fun t ht hW => ⟨⟨rfl, by rw [ht]; exact hP⟩, hS.F ht⟩) hS.2.2 dL_lengthOf_14)
      · replace hm := if_f hm ck_2
        cases hm
  rcases bh1_s hm with ⟨r_1, hc_, hm⟩ | ⟨E2_, hc_, hm⟩
  rotate_left
  · rw [hc_] at hro; exact (my_map_rl hro).elim
  rw [hc_] at hro
  obtain ⟨rfl, rfl⟩ := my_map_ll hro
  replace hP : va_P (my_D Γ) vwCl (wBF Γ q_bf q_tx q_fl q_flT q_hi q_s1 q_s2 q_fd q_kc q_kr  ++ wFloor Γ q_fl q_k q_c q_a q_pa q_b q_pb vi vj vk vc va vpa vb vpb ++ wOut Γ q_ou vou) H := hP
  replace hD : va_D A (wBF Γ q_bf q_tx q_fl q_flT q_hi q_s1 q_s2 q_fd q_kc q_kr  ++ wFloor Γ q_fl q_k q_c q_a q_pa q_b q_pb vi vj vk vc va vpa vb vpb ++ wOut Γ q_ou vou) := hD
  refine lv_i2l (v := r_1.toInt64) hx hb dL_lengthOf_7 rfl ?_
  refine lv_topl (fun y_3 ey_3 => ?_)
  refine va_last hx hb hK hP hD hS 8 1 rfl rfl (show vp_in (0 : Int32) 1 from (by decide : ¬ ((0 : Int32) < 0 ∨ 1 ≤ (0 : Int32).toNatClampNeg))) dL_lengthOf_8 (fun H locs hP hD hS => ?_)
  replace hP : va_P (my_D Γ) vwCl (wBF Γ q_bf q_tx q_fl q_flT q_hi q_s1 q_s2 q_fd q_kc q_kr  ++ wFloor Γ q_fl q_k q_c q_a q_pa q_b q_pb vi vj vk vc va vpa vb vpb ++ wOut Γ q_ou (vp_updL vou (0 : Int32).toNatClampNeg y_3)) H := hP
  replace hD : va_D A (wBF Γ q_bf q_tx q_fl q_flT q_hi q_s1 q_s2 q_fd q_kc q_kr  ++ wFloor Γ q_fl q_k q_c q_a q_pa q_b q_pb vi vj vk vc va vpa vb vpb ++ wOut Γ q_ou (vp_updL vou (0 : Int32).toNatClampNeg y_3)) := hD
  subst ey_3
  refine lv_goto (tgt := 15) hx hb dL_lengthOf_9 (by decide) ?_
  refine lv_iconst (v := (0 : Int32)) hx hb dL_lengthOf_15 (by decide) ?_
  obtain ⟨hf0, hf1⟩ := si2 hm
  subst hf0
  subst hf1
  exact W.widen (k := 1) (n := 6) (Nat.le_of_ble_eq_true rfl) (Nat.le_of_ble_eq_true rfl) (W.iret (v := (0 : Int32)) hx hb hr (fun t ht hW => ⟨⟨rfl, by rw [ht]; exact hP⟩, hS.F ht⟩) hS.2.2 dL_lengthOf_16)
def mL_instructionAt (va : Nat → Int32) (vpa : Nat → Int32) (vb : Nat → Int32) (vpb : Nat → Int32) (vou : Nat → Int64) (x1 : Int32) (x2 : Int32) : Option (Int32 × (Nat → Int64)) := (bh1 (mX8_instructionAt va vpa vb vpb x1 x2) (fun r_1 => (some ((0 : Int32), (vp_updL vou (0 : Int32).toNatClampNeg (r_1.toInt64))))) (fun E_ => (if E_ = "java/lang/IndexOutOfBoundsException" then (some ((1 : Int32), vou)) else none)))
set_option maxHeartbeats 4000000 in
set_option maxRecDepth 100000 in
theorem kL_instructionAt (l : Launch) (Γ : my_G) (hfl : l.stackTraces = false) (q_bf q_fl q_k q_c q_a q_pa q_b q_pb q_ou q_tx q_flT q_hi q_s1 q_s2 q_fd q_kc q_kr : Nat) (vi : Nat → Int32) (vj : Nat → Int64) (vk : Nat → Int32) (vc : Nat → Int32) (va : Nat → Int32) (vpa : Nat → Int32) (vb : Nat → Int32) (vpb : Nat → Int32) (vou : Nat → Int64) (x1 : Int32) (x2 : Int32) (rr : Int32) (vou_z : Nat → Int64) (hm : mL_instructionAt va vpa vb vpb vou x1 x2 = (some (rr, vou_z))) : MnW l yL_instructionAt wsL_instructionAt ({ frames := 8, cells := 2, slots := 12, locals := 139 } : Room) Γ [.ref q_bf, .int x1, .int x2, .ref q_ou] (wBF Γ q_bf q_tx q_fl q_flT q_hi q_s1 q_s2 q_fd q_kc q_kr  ++ wFloor Γ q_fl q_k q_c q_a q_pa q_b q_pb vi vj vk vc va vpa vb vpb ++ wOut Γ q_ou vou) (some (.int rr)) (wBF Γ q_bf q_tx q_fl q_flT q_hi q_s1 q_s2 q_fd q_kc q_kr  ++ wFloor Γ q_fl q_k q_c q_a q_pa q_b q_pb vi vj vk vc va vpa vb vpb ++ wOut Γ q_ou vou_z) 2 12 := by
  intro sz
  refine va_MetW (cc := cL_instructionAt) (maxL := 5) (ret := (some .int)) (by decide) rfl ?_
  intro p e s m args below meth c s₁ B hml hv
  obtain ⟨rfl, ⟨hsz, hP, hK, hD0⟩, hZ, hstr, hnc⟩ := hv
  have htab := vx_table (x := yL_instructionAt) (hh := [(0, 10, 13, 24)]) B (atoms_spec (ws := wsL_instructionAt) B.pre _ List.mem_cons_self)
  have hx := B.exec
  have hb := B.bytes
  have hr := B.returns
  have hts := atoms_spec (ws := wsL_instructionAt) B.pre
  have hown : s.vm.findClass RL = some m.cls := findClass_of_methodNamed B.named
  have hlocks := B.notSynchronized
  have hinX1 : ∀ w ∈ u_ws RX1 TX1 12, w ∈ wsL_instructionAt := fun w h => List.mem_cons_of_mem _ (List.mem_append_left _ (List.mem_append_left _ (List.mem_append_right _ h)))
  have hinX4 : ∀ w ∈ u_ws RX4 TX4 10, w ∈ wsL_instructionAt := fun w h => List.mem_cons_of_mem _ (List.mem_append_left _ (List.mem_append_right _ h))
  have hinX8 : ∀ w ∈ u_ws RX8 TX8 9, w ∈ wsL_instructionAt := fun w h => List.mem_cons_of_mem _ (List.mem_append_left _ (List.mem_append_left _ (List.mem_append_left _ (List.mem_append_right _ h))))
  subst hsz
  have hD := hD0.self (sz := s.heap.size)
  have hA : ∀ q : Nat, s.heap.size ≤ q → va_A (wBF Γ q_bf q_tx q_fl q_flT q_hi q_s1 q_s2 q_fd q_kc q_kr  ++ wFloor Γ q_fl q_k q_c q_a q_pa q_b q_pb vi vj vk vc va vpa vb vpb ++ wOut Γ q_ou vou) s.heap.size q := fun q h => Or.inr h
  generalize va_A (wBF Γ q_bf q_tx q_fl q_flT q_hi q_s1 q_s2 q_fd q_kc q_kr  ++ wFloor Γ q_fl q_k q_c q_a q_pa q_b q_pb vi vj vk vc va vpa vb vpb ++ wOut Γ q_ou vou) s.heap.size = A at hD hA hZ ⊢
  have hS : va_S A s.heap s.heap [] := va_S.rf
  have hl := lv_entry ([.ref q_bf, .int x1, .int x2, .ref q_ou]) (n := 5) (Nat.le_of_ble_eq_true rfl)
  rw [lg_entry_eq]
  generalize (lg_sl ([.ref q_bf, .int x1, .int x2, .ref q_ou]) ++ List.replicate (5 - (lg_sl ([.ref q_bf, .int x1, .int x2, .ref q_ou])).length) Slot.unset).toArray = ls at hl ⊢
  replace hl : lv_has ls 5 [(0, .ref q_bf), (1, .int x1), (2, .int x2), (3, .ref q_ou)] := hl
  unfold mL_instructionAt at hm
  refine lv_aload_n hx hb dL_instructionAt_0 rfl (lv_at hl 3 rfl) ?_
  refine lv_iconst (v := (0 : Int32)) hx hb dL_instructionAt_1 (by decide) ?_
  refine lv_aload_n hx hb dL_instructionAt_2 rfl (lv_at hl 0 rfl) ?_
  refine lv_iload_n hx hb dL_instructionAt_3 rfl (lv_at hl 1 rfl) ?_
  refine lv_iload_n hx hb dL_instructionAt_4 rfl (lv_at hl 2 rfl) ?_
  refine my_callPX (wc := (wBF Γ q_bf q_tx q_fl q_flT q_hi q_s1 q_s2 q_fd q_kc q_kr  ++ wFloor Γ q_fl q_k q_c q_a q_pa q_b q_pb vi vj vk vc va vpa vb vpb)) hP hD hS hA [0, 1, 2, 3, 4, 5, 6, 7] rfl rfl (fun res w1 h9 => my_had2 h9 (fun q => rfl)) (vx_runV (As := [.int x1, .int x2]) (rest := [.int (0 : Int32), .ref q_ou]) ⟨hx, hb, hml, hown, hts⟩ (kX8_instructionAt l Γ hfl q_bf q_fl q_k q_c q_a q_pa q_b q_pb q_tx q_flT q_hi q_s1 q_s2 q_fd q_kc q_kr vi vj vk vc va vpa vb vpb x1 x2 _ rfl _) (cwV 2 hts gL_instructionAt_X8_instructionAt rfl rfl rfl (by decide +kernel) ⟨Nat.le_of_ble_eq_true rfl, Nat.le_of_ble_eq_true rfl⟩) (my_preVX (wc := (wBF Γ q_bf q_tx q_fl q_flT q_hi q_s1 q_s2 q_fd q_kc q_kr  ++ wFloor Γ q_fl q_k q_c q_a q_pa q_b q_pb vi vj vk vc va vpa vb vpb)) (ci := 6) (q0 := 0) [0, 1, 2, 3, 4, 5, 6, 7] hK hP hD hS hA hZ hstr rfl rfl rfl rfl) rfl rfl hl.1 rfl (lv_room (Nat.le_of_ble_eq_true rfl)) dL_instructionAt_5 ⟨Nat.le_of_ble_eq_true rfl, Nat.le_of_ble_eq_true rfl⟩) (fun E_ H locs q9 ce hro hP hS h1_ h2_ h3_ => ?_) (fun res_ w1_ H locs hro hP hD hS => ?_)
  · rcases bh1_s hm with ⟨r_1, hc_, hm⟩ | ⟨E2_, hc_, hm⟩
    · rw [hc_] at hro; exact (my_map_lr hro).elim
    · rw [hc_] at hro
      have hE_ := my_map_rr hro
      subst hE_
      by_cases ck_2 : E2_ = "java/lang/IndexOutOfBoundsException"
      · replace hm := if_s hm ck_2
        subst ck_2
        refine vx_catch (name := "java/lang/IndexOutOfBoundsException") hown [] ⟨0, 10, 13, 24⟩ [] (htab.trans rfl) (fun z hz => nomatch hz) rfl (by decide) (hts (.classLink RL 24 "java/lang/IndexOutOfBoundsException") (List.mem_of_getElem? (i := 1) rfl)) (va_Nw.use rfl hstr.2.1) h1_ h2_ h3_ ?_
        refine lv_astore (lv' := [(4, .ref q9), (0, .ref q_bf), (1, .int x1), (2, .int x2), (3, .ref q_ou)]) hx hb dL_instructionAt_13 hl (by decide) rfl (fun ls hl => ?_)
        refine lv_iconst (v := (1 : Int32)) hx hb dL_instructionAt_15 (by decide) ?_
        obtain ⟨hf0, hf1⟩ := si2 hm
        subst hf0
        subst hf1
        exact W.widen (k := 2) (n := 12) (Nat.le_of_ble_eq_true rfl) (Nat.le_of_ble_eq_true rfl) (W.iret (v := (1 : Int32)) hx hb hr (fun t ht hW => ⟨⟨rfl, by rw [ht]; exact hP⟩, hS.F ht⟩) hS.2.2 dL_instructionAt_16)
      · replace hm := if_f hm ck_2
        cases hm
  rcases bh1_s hm with ⟨r_1, hc_, hm⟩ | ⟨E2_, hc_, hm⟩
  rotate_left
  · rw [hc_] at hro; exact (my_map_rl hro).elim
  rw [hc_] at hro
  obtain ⟨rfl, rfl⟩ := my_map_ll hro
  replace hP : va_P (my_D Γ) vwCl (wBF Γ q_bf q_tx q_fl q_flT q_hi q_s1 q_s2 q_fd q_kc q_kr  ++ wFloor Γ q_fl q_k q_c q_a q_pa q_b q_pb vi vj vk vc va vpa vb vpb ++ wOut Γ q_ou vou) H := hP
  replace hD : va_D A (wBF Γ q_bf q_tx q_fl q_flT q_hi q_s1 q_s2 q_fd q_kc q_kr  ++ wFloor Γ q_fl q_k q_c q_a q_pa q_b q_pb vi vj vk vc va vpa vb vpb ++ wOut Γ q_ou vou) := hD
  refine lv_i2l (v := r_1.toInt64) hx hb dL_instructionAt_8 rfl ?_
  refine lv_topl (fun y_3 ey_3 => ?_)
  refine va_last hx hb hK hP hD hS 8 1 rfl rfl (show vp_in (0 : Int32) 1 from (by decide : ¬ ((0 : Int32) < 0 ∨ 1 ≤ (0 : Int32).toNatClampNeg))) dL_instructionAt_9 (fun H locs hP hD hS => ?_)
  replace hP : va_P (my_D Γ) vwCl (wBF Γ q_bf q_tx q_fl q_flT q_hi q_s1 q_s2 q_fd q_kc q_kr  ++ wFloor Γ q_fl q_k q_c q_a q_pa q_b q_pb vi vj vk vc va vpa vb vpb ++ wOut Γ q_ou (vp_updL vou (0 : Int32).toNatClampNeg y_3)) H := hP
  replace hD : va_D A (wBF Γ q_bf q_tx q_fl q_flT q_hi q_s1 q_s2 q_fd q_kc q_kr  ++ wFloor Γ q_fl q_k q_c q_a q_pa q_b q_pb vi vj vk vc va vpa vb vpb ++ wOut Γ q_ou (vp_updL vou (0 : Int32).toNatClampNeg y_3)) := hD
  subst ey_3
  refine lv_goto (tgt := 17) hx hb dL_instructionAt_10 (by decide) ?_
  refine lv_iconst (v := (0 : Int32)) hx hb dL_instructionAt_17 (by decide) ?_
  obtain ⟨hf0, hf1⟩ := si2 hm
  subst hf0
  subst hf1
  exact W.widen (k := 2) (n := 12) (Nat.le_of_ble_eq_true rfl) (Nat.le_of_ble_eq_true rfl) (W.iret (v := (0 : Int32)) hx hb hr (fun t ht hW => ⟨⟨rfl, by rw [ht]; exact hP⟩, hS.F ht⟩) hS.2.2 dL_instructionAt_18)
def mL_placeOf (va : Nat → Int32) (vb : Nat → Int32) (vou : Nat → Int64) (x1 : Int32) : Option (Int32 × (Nat → Int64)) := (bh1 (mX8_placeOf va vb x1) (fun r_1 => (some ((0 : Int32), (vp_updL vou (0 : Int32).toNatClampNeg (r_1.toInt64))))) (fun E_ => (if E_ = "java/lang/IndexOutOfBoundsException" then (some ((1 : Int32), vou)) else none)))
set_option maxHeartbeats 4000000 in
set_option maxRecDepth 100000 in
theorem kL_placeOf (l : Launch) (Γ : my_G) (hfl : l.stackTraces = false) (q_bf q_fl q_k q_c q_a q_pa q_b q_pb q_ou q_tx q_flT q_hi q_s1 q_s2 q_fd q_kc q_kr : Nat) (vi : Nat → Int32) (vj : Nat → Int64) (vk : Nat → Int32) (vc : Nat → Int32) (va : Nat → Int32) (vpa : Nat → Int32) (vb : Nat → Int32) (vpb : Nat → Int32) (vou : Nat → Int64) (x1 : Int32) (rr : Int32) (vou_z : Nat → Int64) (hm : mL_placeOf va vb vou x1 = (some (rr, vou_z))) : MnW l yL_placeOf wsL_placeOf ({ frames := 8, cells := 1, slots := 6, locals := 137 } : Room) Γ [.ref q_bf, .int x1, .ref q_ou] (wBF Γ q_bf q_tx q_fl q_flT q_hi q_s1 q_s2 q_fd q_kc q_kr  ++ wFloor Γ q_fl q_k q_c q_a q_pa q_b q_pb vi vj vk vc va vpa vb vpb ++ wOut Γ q_ou vou) (some (.int rr)) (wBF Γ q_bf q_tx q_fl q_flT q_hi q_s1 q_s2 q_fd q_kc q_kr  ++ wFloor Γ q_fl q_k q_c q_a q_pa q_b q_pb vi vj vk vc va vpa vb vpb ++ wOut Γ q_ou vou_z) 1 6 := by
  intro sz
  refine va_MetW (cc := cL_placeOf) (maxL := 4) (ret := (some .int)) (by decide) rfl ?_
  intro p e s m args below meth c s₁ B hml hv
  obtain ⟨rfl, ⟨hsz, hP, hK, hD0⟩, hZ, hstr, hnc⟩ := hv
  have htab := vx_table (x := yL_placeOf) (hh := [(0, 9, 12, 24)]) B (atoms_spec (ws := wsL_placeOf) B.pre _ List.mem_cons_self)
  have hx := B.exec
  have hb := B.bytes
  have hr := B.returns
  have hts := atoms_spec (ws := wsL_placeOf) B.pre
  have hown : s.vm.findClass RL = some m.cls := findClass_of_methodNamed B.named
  have hlocks := B.notSynchronized
  have hinX1 : ∀ w ∈ u_ws RX1 TX1 12, w ∈ wsL_placeOf := fun w h => List.mem_cons_of_mem _ (List.mem_append_left _ (List.mem_append_right _ h))
  have hinX4 : ∀ w ∈ u_ws RX4 TX4 10, w ∈ wsL_placeOf := fun w h => List.mem_cons_of_mem _ (List.mem_append_left _ (List.mem_append_left _ (List.mem_append_right _ h)))
  have hinX8 : ∀ w ∈ u_ws RX8 TX8 9, w ∈ wsL_placeOf := fun w h => List.mem_cons_of_mem _ (List.mem_append_left _ (List.mem_append_left _ (List.mem_append_left _ (List.mem_append_right _ h))))
  subst hsz
  have hD := hD0.self (sz := s.heap.size)
  have hA : ∀ q : Nat, s.heap.size ≤ q → va_A (wBF Γ q_bf q_tx q_fl q_flT q_hi q_s1 q_s2 q_fd q_kc q_kr  ++ wFloor Γ q_fl q_k q_c q_a q_pa q_b q_pb vi vj vk vc va vpa vb vpb ++ wOut Γ q_ou vou) s.heap.size q := fun q h => Or.inr h
  generalize va_A (wBF Γ q_bf q_tx q_fl q_flT q_hi q_s1 q_s2 q_fd q_kc q_kr  ++ wFloor Γ q_fl q_k q_c q_a q_pa q_b q_pb vi vj vk vc va vpa vb vpb ++ wOut Γ q_ou vou) s.heap.size = A at hD hA hZ ⊢
  have hS : va_S A s.heap s.heap [] := va_S.rf
  have hl := lv_entry ([.ref q_bf, .int x1, .ref q_ou]) (n := 4) (Nat.le_of_ble_eq_true rfl)
  rw [lg_entry_eq]
  generalize (lg_sl ([.ref q_bf, .int x1, .ref q_ou]) ++ List.replicate (4 - (lg_sl ([.ref q_bf, .int x1, .ref q_ou])).length) Slot.unset).toArray = ls at hl ⊢
  replace hl : lv_has ls 4 [(0, .ref q_bf), (1, .int x1), (2, .ref q_ou)] := hl
  unfold mL_placeOf at hm
  refine lv_aload_n hx hb dL_placeOf_0 rfl (lv_at hl 2 rfl) ?_
  refine lv_iconst (v := (0 : Int32)) hx hb dL_placeOf_1 (by decide) ?_
  refine lv_aload_n hx hb dL_placeOf_2 rfl (lv_at hl 0 rfl) ?_
  refine lv_iload_n hx hb dL_placeOf_3 rfl (lv_at hl 1 rfl) ?_
  refine my_callPX (wc := (wBF Γ q_bf q_tx q_fl q_flT q_hi q_s1 q_s2 q_fd q_kc q_kr  ++ wFloor Γ q_fl q_k q_c q_a q_pa q_b q_pb vi vj vk vc va vpa vb vpb)) hP hD hS hA [0, 1, 2, 3, 4, 5, 6, 7] rfl rfl (fun res w1 h9 => my_had2 h9 (fun q => rfl)) (vx_runV (As := [.int x1]) (rest := [.int (0 : Int32), .ref q_ou]) ⟨hx, hb, hml, hown, hts⟩ (kX8_placeOf l Γ hfl q_bf q_fl q_k q_c q_a q_pa q_b q_pb q_tx q_flT q_hi q_s1 q_s2 q_fd q_kc q_kr vi vj vk vc va vpa vb vpb x1 _ rfl _) (cwV 1 hts gL_placeOf_X8_placeOf rfl rfl rfl (by decide +kernel) ⟨Nat.le_of_ble_eq_true rfl, Nat.le_of_ble_eq_true rfl⟩) (my_preVX (wc := (wBF Γ q_bf q_tx q_fl q_flT q_hi q_s1 q_s2 q_fd q_kc q_kr  ++ wFloor Γ q_fl q_k q_c q_a q_pa q_b q_pb vi vj vk vc va vpa vb vpb)) (ci := 6) (q0 := 0) [0, 1, 2, 3, 4, 5, 6, 7] hK hP hD hS hA hZ hstr rfl rfl rfl rfl) rfl rfl hl.1 rfl (lv_room (Nat.le_of_ble_eq_true rfl)) dL_placeOf_4 ⟨Nat.le_of_ble_eq_true rfl, Nat.le_of_ble_eq_true rfl⟩) (fun E_ H locs q9 ce hro hP hS h1_ h2_ h3_ => ?_) (fun res_ w1_ H locs hro hP hD hS => ?_)
  · rcases bh1_s hm with ⟨r_1, hc_, hm⟩ | ⟨E2_, hc_, hm⟩
    · rw [hc_] at hro; exact (my_map_lr hro).elim
    · rw [hc_] at hro
      have hE_ := my_map_rr hro
      subst hE_
      by_cases ck_2 : E2_ = "java/lang/IndexOutOfBoundsException"
      · replace hm := if_s hm ck_2
        subst ck_2
        refine vx_catch (name := "java/lang/IndexOutOfBoundsException") hown [] ⟨0, 9, 12, 24⟩ [] (htab.trans rfl) (fun z hz => nomatch hz) rfl (by decide) (hts (.classLink RL 24 "java/lang/IndexOutOfBoundsException") (List.mem_of_getElem? (i := 1) rfl)) (va_Nw.use rfl hstr.2.1) h1_ h2_ h3_ ?_
        refine lv_astore_n (lv' := [(3, .ref q9), (0, .ref q_bf), (1, .int x1), (2, .ref q_ou)]) hx hb dL_placeOf_12 rfl hl (by decide) rfl (fun ls hl => ?_)
        refine lv_iconst (v := (1 : Int32)) hx hb dL_placeOf_13 (by decide) ?_
        obtain ⟨hf0, hf1⟩ := si2 hm
        subst hf0
        subst hf1
        exact W.widen (k := 1) (n := 6) (Nat.le_of_ble_eq_true rfl) (Nat.le_of_ble_eq_true rfl) (W.iret (v := (1 : Int32)) hx hb hr (fun t ht hW => ⟨⟨rfl, by rw [ht]; exact hP⟩, hS.F ht⟩) hS.2.2 dL_placeOf_14)
      · replace hm := if_f hm ck_2
        cases hm
  rcases bh1_s hm with ⟨r_1, hc_, hm⟩ | ⟨E2_, hc_, hm⟩
  rotate_left
  · rw [hc_] at hro; exact (my_map_rl hro).elim
  rw [hc_] at hro
  obtain ⟨rfl, rfl⟩ := my_map_ll hro
  replace hP : va_P (my_D Γ) vwCl (wBF Γ q_bf q_tx q_fl q_flT q_hi q_s1 q_s2 q_fd q_kc q_kr  ++ wFloor Γ q_fl q_k q_c q_a q_pa q_b q_pb vi vj vk vc va vpa vb vpb ++ wOut Γ q_ou vou) H := hP
  replace hD : va_D A (wBF Γ q_bf q_tx q_fl q_flT q_hi q_s1 q_s2 q_fd q_kc q_kr  ++ wFloor Γ q_fl q_k q_c q_a q_pa q_b q_pb vi vj vk vc va vpa vb vpb ++ wOut Γ q_ou vou) := hD
  refine lv_i2l (v := r_1.toInt64) hx hb dL_placeOf_7 rfl ?_
  refine lv_topl (fun y_3 ey_3 => ?_)
  refine va_last hx hb hK hP hD hS 8 1 rfl rfl (show vp_in (0 : Int32) 1 from (by decide : ¬ ((0 : Int32) < 0 ∨ 1 ≤ (0 : Int32).toNatClampNeg))) dL_placeOf_8 (fun H locs hP hD hS => ?_)
  replace hP : va_P (my_D Γ) vwCl (wBF Γ q_bf q_tx q_fl q_flT q_hi q_s1 q_s2 q_fd q_kc q_kr  ++ wFloor Γ q_fl q_k q_c q_a q_pa q_b q_pb vi vj vk vc va vpa vb vpb ++ wOut Γ q_ou (vp_updL vou (0 : Int32).toNatClampNeg y_3)) H := hP
  replace hD : va_D A (wBF Γ q_bf q_tx q_fl q_flT q_hi q_s1 q_s2 q_fd q_kc q_kr  ++ wFloor Γ q_fl q_k q_c q_a q_pa q_b q_pb vi vj vk vc va vpa vb vpb ++ wOut Γ q_ou (vp_updL vou (0 : Int32).toNatClampNeg y_3)) := hD
  subst ey_3
  refine lv_goto (tgt := 15) hx hb dL_placeOf_9 (by decide) ?_
  refine lv_iconst (v := (0 : Int32)) hx hb dL_placeOf_15 (by decide) ?_
  obtain ⟨hf0, hf1⟩ := si2 hm
  subst hf0
  subst hf1
  exact W.widen (k := 1) (n := 6) (Nat.le_of_ble_eq_true rfl) (Nat.le_of_ble_eq_true rfl) (W.iret (v := (0 : Int32)) hx hb hr (fun t ht hW => ⟨⟨rfl, by rw [ht]; exact hP⟩, hS.F ht⟩) hS.2.2 dL_placeOf_16)
def mL_rowAhead (vj : Nat → Int64) (vk : Nat → Int32) (va : Nat → Int32) (vb : Nat → Int32) (vou : Nat → Int64) (x1 : Int32) : Option (Int32 × (Nat → Int64)) := (bo1 (mX8_rowAhead vj vk va vb x1) (fun mr_ => (bh1 mr_ (fun r_1 => (some ((0 : Int32), (vp_updL vou (0 : Int32).toNatClampNeg (r_1.toInt64))))) (fun E_ => (if E_ = "java/lang/IndexOutOfBoundsException" then (some ((1 : Int32), vou)) else none)))))
set_option maxHeartbeats 4000000 in
set_option maxRecDepth 100000 in
theorem kL_rowAhead (l : Launch) (Γ : my_G) (hfl : l.stackTraces = false) (q_bf q_fl q_k q_c q_a q_pa q_b q_pb q_ou q_tx q_flT q_hi q_s1 q_s2 q_fd q_kc q_kr : Nat) (vi : Nat → Int32) (vj : Nat → Int64) (vk : Nat → Int32) (vc : Nat → Int32) (va : Nat → Int32) (vpa : Nat → Int32) (vb : Nat → Int32) (vpb : Nat → Int32) (vou : Nat → Int64) (x1 : Int32) (rr : Int32) (vou_z : Nat → Int64) (hm : mL_rowAhead vj vk va vb vou x1 = (some (rr, vou_z))) : MnW l yL_rowAhead wsL_rowAhead ({ frames := 8, cells := 1, slots := 6, locals := 140 } : Room) Γ [.ref q_bf, .int x1, .ref q_ou] (wBF Γ q_bf q_tx q_fl q_flT q_hi q_s1 q_s2 q_fd q_kc q_kr  ++ wFloor Γ q_fl q_k q_c q_a q_pa q_b q_pb vi vj vk vc va vpa vb vpb ++ wOut Γ q_ou vou) (some (.int rr)) (wBF Γ q_bf q_tx q_fl q_flT q_hi q_s1 q_s2 q_fd q_kc q_kr  ++ wFloor Γ q_fl q_k q_c q_a q_pa q_b q_pb vi vj vk vc va vpa vb vpb ++ wOut Γ q_ou vou_z) 1 6 := by
  intro sz
  refine va_MetW (cc := cL_rowAhead) (maxL := 4) (ret := (some .int)) (by decide) rfl ?_
  intro p e s m args below meth c s₁ B hml hv
  obtain ⟨rfl, ⟨hsz, hP, hK, hD0⟩, hZ, hstr, hnc⟩ := hv
  have htab := vx_table (x := yL_rowAhead) (hh := [(0, 9, 12, 24)]) B (atoms_spec (ws := wsL_rowAhead) B.pre _ List.mem_cons_self)
  have hx := B.exec
  have hb := B.bytes
  have hr := B.returns
  have hts := atoms_spec (ws := wsL_rowAhead) B.pre
  have hown : s.vm.findClass RL = some m.cls := findClass_of_methodNamed B.named
  have hlocks := B.notSynchronized
  have hinX1 : ∀ w ∈ u_ws RX1 TX1 12, w ∈ wsL_rowAhead := fun w h => List.mem_cons_of_mem _ (List.mem_append_left _ (List.mem_append_right _ h))
  have hinX4 : ∀ w ∈ u_ws RX4 TX4 10, w ∈ wsL_rowAhead := fun w h => List.mem_cons_of_mem _ (List.mem_append_left _ (List.mem_append_left _ (List.mem_append_right _ h)))
  have hinX8 : ∀ w ∈ u_ws RX8 TX8 9, w ∈ wsL_rowAhead := fun w h => List.mem_cons_of_mem _ (List.mem_append_left _ (List.mem_append_left _ (List.mem_append_left _ (List.mem_append_right _ h))))
  subst hsz
  have hD := hD0.self (sz := s.heap.size)
  have hA : ∀ q : Nat, s.heap.size ≤ q → va_A (wBF Γ q_bf q_tx q_fl q_flT q_hi q_s1 q_s2 q_fd q_kc q_kr  ++ wFloor Γ q_fl q_k q_c q_a q_pa q_b q_pb vi vj vk vc va vpa vb vpb ++ wOut Γ q_ou vou) s.heap.size q := fun q h => Or.inr h
  generalize va_A (wBF Γ q_bf q_tx q_fl q_flT q_hi q_s1 q_s2 q_fd q_kc q_kr  ++ wFloor Γ q_fl q_k q_c q_a q_pa q_b q_pb vi vj vk vc va vpa vb vpb ++ wOut Γ q_ou vou) s.heap.size = A at hD hA hZ ⊢
  have hS : va_S A s.heap s.heap [] := va_S.rf
  have hl := lv_entry ([.ref q_bf, .int x1, .ref q_ou]) (n := 4) (Nat.le_of_ble_eq_true rfl)
  rw [lg_entry_eq]
  generalize (lg_sl ([.ref q_bf, .int x1, .ref q_ou]) ++ List.replicate (4 - (lg_sl ([.ref q_bf, .int x1, .ref q_ou])).length) Slot.unset).toArray = ls at hl ⊢
  replace hl : lv_has ls 4 [(0, .ref q_bf), (1, .int x1), (2, .ref q_ou)] := hl
  unfold mL_rowAhead at hm
  refine lv_aload_n hx hb dL_rowAhead_0 rfl (lv_at hl 2 rfl) ?_
  refine lv_iconst (v := (0 : Int32)) hx hb dL_rowAhead_1 (by decide) ?_
  refine lv_aload_n hx hb dL_rowAhead_2 rfl (lv_at hl 0 rfl) ?_
  refine lv_iload_n hx hb dL_rowAhead_3 rfl (lv_at hl 1 rfl) ?_
  obtain ⟨mr_, hc0_, hm⟩ := bo1_s hm
  refine my_callPX (wc := (wBF Γ q_bf q_tx q_fl q_flT q_hi q_s1 q_s2 q_fd q_kc q_kr  ++ wFloor Γ q_fl q_k q_c q_a q_pa q_b q_pb vi vj vk vc va vpa vb vpb)) hP hD hS hA [0, 1, 2, 3, 4, 5, 6, 7] rfl rfl (fun res w1 h9 => my_had2 h9 (fun q => rfl)) (vx_runV (As := [.int x1]) (rest := [.int (0 : Int32), .ref q_ou]) ⟨hx, hb, hml, hown, hts⟩ (kX8_rowAhead l Γ hfl q_bf q_fl q_k q_c q_a q_pa q_b q_pb q_tx q_flT q_hi q_s1 q_s2 q_fd q_kc q_kr vi vj vk vc va vpa vb vpb x1 mr_ hc0_ _) (cwV 1 hts gL_rowAhead_X8_rowAhead rfl rfl rfl (by decide +kernel) ⟨Nat.le_of_ble_eq_true rfl, Nat.le_of_ble_eq_true rfl⟩) (my_preVX (wc := (wBF Γ q_bf q_tx q_fl q_flT q_hi q_s1 q_s2 q_fd q_kc q_kr  ++ wFloor Γ q_fl q_k q_c q_a q_pa q_b q_pb vi vj vk vc va vpa vb vpb)) (ci := 6) (q0 := 0) [0, 1, 2, 3, 4, 5, 6, 7] hK hP hD hS hA hZ hstr rfl rfl rfl rfl) rfl rfl hl.1 rfl (lv_room (Nat.le_of_ble_eq_true rfl)) dL_rowAhead_4 ⟨Nat.le_of_ble_eq_true rfl, Nat.le_of_ble_eq_true rfl⟩) (fun E_ H locs q9 ce hro hP hS h1_ h2_ h3_ => ?_) (fun res_ w1_ H locs hro hP hD hS => ?_)
  · rcases bh1_s hm with ⟨r_1, hc_, hm⟩ | ⟨E2_, hc_, hm⟩
    · rw [hc_] at hro; exact (my_map_lr hro).elim
    · rw [hc_] at hro
      have hE_ := my_map_rr hro
      subst hE_
      by_cases ck_2 : E2_ = "java/lang/IndexOutOfBoundsException"
      · replace hm := if_s hm ck_2
        subst ck_2
        refine vx_catch (name := "java/lang/IndexOutOfBoundsException") hown [] ⟨0, 9, 12, 24⟩ [] (htab.trans rfl) (fun z hz => nomatch hz) rfl (by decide) (hts (.classLink RL 24 "java/lang/IndexOutOfBoundsException") (List.mem_of_getElem? (i := 1) rfl)) (va_Nw.use rfl hstr.2.1) h1_ h2_ h3_ ?_
        refine lv_astore_n (lv' := [(3, .ref q9), (0, .ref q_bf), (1, .int x1), (2, .ref q_ou)]) hx hb dL_rowAhead_12 rfl hl (by decide) rfl (fun ls hl => ?_)
        refine lv_iconst (v := (1 : Int32)) hx hb dL_rowAhead_13 (by decide) ?_
        obtain ⟨hf0, hf1⟩ := si2 hm
        subst hf0
        subst hf1
        exact W.widen (k := 1) (n := 6) (Nat.le_of_ble_eq_true rfl) (Nat.le_of_ble_eq_true rfl) (W.iret (v := (1 : Int32)) hx hb hr (fun t ht hW => ⟨⟨rfl, by rw [ht]; exact hP⟩, hS.F ht⟩) hS.2.2 dL_rowAhead_14)
      · replace hm := if_f hm ck_2
        cases hm
  rcases bh1_s hm with ⟨r_1, hc_, hm⟩ | ⟨E2_, hc_, hm⟩
  rotate_left
  · rw [hc_] at hro; exact (my_map_rl hro).elim
  rw [hc_] at hro
  obtain ⟨rfl, rfl⟩ := my_map_ll hro
  replace hP : va_P (my_D Γ) vwCl (wBF Γ q_bf q_tx q_fl q_flT q_hi q_s1 q_s2 q_fd q_kc q_kr  ++ wFloor Γ q_fl q_k q_c q_a q_pa q_b q_pb vi vj vk vc va vpa vb vpb ++ wOut Γ q_ou vou) H := hP
  replace hD : va_D A (wBF Γ q_bf q_tx q_fl q_flT q_hi q_s1 q_s2 q_fd q_kc q_kr  ++ wFloor Γ q_fl q_k q_c q_a q_pa q_b q_pb vi vj vk vc va vpa vb vpb ++ wOut Γ q_ou vou) := hD
  refine lv_i2l (v := r_1.toInt64) hx hb dL_rowAhead_7 rfl ?_
  refine lv_topl (fun y_3 ey_3 => ?_)
  refine va_last hx hb hK hP hD hS 8 1 rfl rfl (show vp_in (0 : Int32) 1 from (by decide : ¬ ((0 : Int32) < 0 ∨ 1 ≤ (0 : Int32).toNatClampNeg))) dL_rowAhead_8 (fun H locs hP hD hS => ?_)
  replace hP : va_P (my_D Γ) vwCl (wBF Γ q_bf q_tx q_fl q_flT q_hi q_s1 q_s2 q_fd q_kc q_kr  ++ wFloor Γ q_fl q_k q_c q_a q_pa q_b q_pb vi vj vk vc va vpa vb vpb ++ wOut Γ q_ou (vp_updL vou (0 : Int32).toNatClampNeg y_3)) H := hP
  replace hD : va_D A (wBF Γ q_bf q_tx q_fl q_flT q_hi q_s1 q_s2 q_fd q_kc q_kr  ++ wFloor Γ q_fl q_k q_c q_a q_pa q_b q_pb vi vj vk vc va vpa vb vpb ++ wOut Γ q_ou (vp_updL vou (0 : Int32).toNatClampNeg y_3)) := hD
  subst ey_3
  refine lv_goto (tgt := 15) hx hb dL_rowAhead_9 (by decide) ?_
  refine lv_iconst (v := (0 : Int32)) hx hb dL_rowAhead_15 (by decide) ?_
  obtain ⟨hf0, hf1⟩ := si2 hm
  subst hf0
  subst hf1
  exact W.widen (k := 1) (n := 6) (Nat.le_of_ble_eq_true rfl) (Nat.le_of_ble_eq_true rfl) (W.iret (v := (0 : Int32)) hx hb hr (fun t ht hW => ⟨⟨rfl, by rw [ht]; exact hP⟩, hS.F ht⟩) hS.2.2 dL_rowAhead_16)
def mL_append (ti : Nat → Int32) (sg : Nat → Int32) (vou : Nat → Int64) (x1 : Int32) : Option (Int32 × (Nat → Int32) × (Nat → Int32) × (Nat → Int64)) := (bh3 (mX8_append ti sg x1) (fun r_1 ti_2 sg_3 => (some ((0 : Int32), ti_2, sg_3, (vp_updL vou (0 : Int32).toNatClampNeg (r_1.toInt64))))) (fun E_ => (if E_ = "java/lang/IllegalArgumentException" then (some ((1 : Int32), ti, sg, vou)) else (if E_ = "java/lang/IllegalStateException" then (some ((2 : Int32), ti, sg, vou)) else none))))
set_option maxHeartbeats 4000000 in
set_option maxRecDepth 100000 in
theorem kL_append (l : Launch) (Γ : my_G) (hfl : l.stackTraces = false) (q_bf q_tx q_sg q_ou q_fl q_flT q_hi q_s1 q_s2 q_fd q_kc q_kr : Nat) (ti : Nat → Int32) (sg : Nat → Int32) (vou : Nat → Int64) (x1 : Int32) (rr : Int32) (ti_z : Nat → Int32) (sg_z : Nat → Int32) (vou_z : Nat → Int64) (hm : mL_append ti sg vou x1 = (some (rr, ti_z, sg_z, vou_z))) : MnW l yL_append wsL_append ({ frames := 7, cells := 1, slots := 6, locals := 120 } : Room) Γ [.ref q_bf, .int x1, .ref q_ou] (wBF Γ q_bf q_tx q_fl q_flT q_hi q_s1 q_s2 q_fd q_kc q_kr  ++ wText Γ q_tx q_sg ti sg ++ wOut Γ q_ou vou) (some (.int rr)) (wBF Γ q_bf q_tx q_fl q_flT q_hi q_s1 q_s2 q_fd q_kc q_kr  ++ wText Γ q_tx q_sg ti_z sg_z ++ wOut Γ q_ou vou_z) 1 6 := by
  intro sz
  refine va_MetW (cc := cL_append) (maxL := 4) (ret := (some .int)) (by decide) rfl ?_
  intro p e s m args below meth c s₁ B hml hv
  obtain ⟨rfl, ⟨hsz, hP, hK, hD0⟩, hZ, hstr, hnc⟩ := hv
  have htab := vx_table (x := yL_append) (hh := [(0, 9, 12, 13), (0, 9, 15, 15)]) B (atoms_spec (ws := wsL_append) B.pre _ List.mem_cons_self)
  have hx := B.exec
  have hb := B.bytes
  have hr := B.returns
  have hts := atoms_spec (ws := wsL_append) B.pre
  have hown : s.vm.findClass RL = some m.cls := findClass_of_methodNamed B.named
  have hlocks := B.notSynchronized
  have hinX7 : ∀ w ∈ u_ws RX7 TX7 2, w ∈ wsL_append := fun w h => List.mem_cons_of_mem _ (List.mem_append_left _ (List.mem_append_left _ (List.mem_append_right _ h)))
  have hinX8 : ∀ w ∈ u_ws RX8 TX8 9, w ∈ wsL_append := fun w h => List.mem_cons_of_mem _ (List.mem_append_left _ (List.mem_append_left _ (List.mem_append_left _ (List.mem_append_right _ h))))
  subst hsz
  have hD := hD0.self (sz := s.heap.size)
  have hA : ∀ q : Nat, s.heap.size ≤ q → va_A (wBF Γ q_bf q_tx q_fl q_flT q_hi q_s1 q_s2 q_fd q_kc q_kr  ++ wText Γ q_tx q_sg ti sg ++ wOut Γ q_ou vou) s.heap.size q := fun q h => Or.inr h
  generalize va_A (wBF Γ q_bf q_tx q_fl q_flT q_hi q_s1 q_s2 q_fd q_kc q_kr  ++ wText Γ q_tx q_sg ti sg ++ wOut Γ q_ou vou) s.heap.size = A at hD hA hZ ⊢
  have hS : va_S A s.heap s.heap [] := va_S.rf
  have hl := lv_entry ([.ref q_bf, .int x1, .ref q_ou]) (n := 4) (Nat.le_of_ble_eq_true rfl)
  rw [lg_entry_eq]
  generalize (lg_sl ([.ref q_bf, .int x1, .ref q_ou]) ++ List.replicate (4 - (lg_sl ([.ref q_bf, .int x1, .ref q_ou])).length) Slot.unset).toArray = ls at hl ⊢
  replace hl : lv_has ls 4 [(0, .ref q_bf), (1, .int x1), (2, .ref q_ou)] := hl
  unfold mL_append at hm
  refine lv_aload_n hx hb dL_append_0 rfl (lv_at hl 2 rfl) ?_
  refine lv_iconst (v := (0 : Int32)) hx hb dL_append_1 (by decide) ?_
  refine lv_aload_n hx hb dL_append_2 rfl (lv_at hl 0 rfl) ?_
  refine lv_iload_n hx hb dL_append_3 rfl (lv_at hl 1 rfl) ?_
  refine my_callPX (wc := (wBF Γ q_bf q_tx q_fl q_flT q_hi q_s1 q_s2 q_fd q_kc q_kr  ++ wText Γ q_tx q_sg ti sg)) hP hD hS hA [0, 1, 2] rfl rfl (fun res w1 h9 => my_had2 h9 (fun q => rfl)) (vx_runV (As := [.int x1]) (rest := [.int (0 : Int32), .ref q_ou]) ⟨hx, hb, hml, hown, hts⟩ (kX8_append l Γ hfl q_bf q_tx q_sg q_fl q_flT q_hi q_s1 q_s2 q_fd q_kc q_kr ti sg x1 _ rfl _) (cwV 1 hts gL_append_X8_append rfl rfl rfl (by decide +kernel) ⟨Nat.le_of_ble_eq_true rfl, Nat.le_of_ble_eq_true rfl⟩) (my_preVX (wc := (wBF Γ q_bf q_tx q_fl q_flT q_hi q_s1 q_s2 q_fd q_kc q_kr  ++ wText Γ q_tx q_sg ti sg)) (ci := 6) (q0 := 0) [0, 1, 2] hK hP hD hS hA hZ hstr rfl rfl rfl rfl) rfl rfl hl.1 rfl (lv_room (Nat.le_of_ble_eq_true rfl)) dL_append_4 ⟨Nat.le_of_ble_eq_true rfl, Nat.le_of_ble_eq_true rfl⟩) (fun E_ H locs q9 ce hro hP hS h1_ h2_ h3_ => ?_) (fun res_ w1_ H locs hro hP hD hS => ?_)
  · rcases bh3_s hm with ⟨r_1, ti_2, sg_3, hc_, hm⟩ | ⟨E2_, hc_, hm⟩
    · rw [hc_] at hro; exact (my_map_lr hro).elim
    · rw [hc_] at hro
      have hE_ := my_map_rr hro
      subst hE_
      by_cases ck_4 : E2_ = "java/lang/IllegalArgumentException"
      · replace hm := if_s hm ck_4
        subst ck_4
        refine vx_catch (name := "java/lang/IllegalArgumentException") hown [] ⟨0, 9, 12, 13⟩ [⟨0, 9, 15, 15⟩] (htab.trans rfl) (fun z hz => nomatch hz) rfl (by decide) (hts (.classLink RL 13 "java/lang/IllegalArgumentException") (List.mem_of_getElem? (i := 1) rfl)) (va_Nw.use rfl hstr.2.2.1) h1_ h2_ h3_ ?_
        refine lv_astore_n (lv' := [(3, .ref q9), (0, .ref q_bf), (1, .int x1), (2, .ref q_ou)]) hx hb dL_append_12 rfl hl (by decide) rfl (fun ls hl => ?_)
        refine lv_iconst (v := (1 : Int32)) hx hb dL_append_13 (by decide) ?_
        obtain ⟨hf0, hf1, hf2, hf3⟩ := si4 hm
        subst hf0
        subst hf1
        subst hf2
        subst hf3
        exact W.widen (k := 1) (n := 6) (Nat.le_of_ble_eq_true rfl) (Nat.le_of_ble_eq_true rfl) (W.iret (v := (1 : Int32)) hx hb hr (fun t ht hW => ⟨⟨rfl, by rw [ht]; exact hP⟩, hS.F ht⟩) hS.2.2 dL_append_14)
      · replace hm := if_f hm ck_4
        by_cases ck_5 : E2_ = "java/lang/IllegalStateException"
        · replace hm := if_s hm ck_5
          subst ck_5
          refine vx_catch (name := "java/lang/IllegalStateException") hown [⟨0, 9, 12, 13⟩] ⟨0, 9, 15, 15⟩ [] (htab.trans rfl) (List.forall_mem_cons.mpr ⟨Or.inr ⟨by decide, "java/lang/IllegalArgumentException", (hts (.classLink RL 13 "java/lang/IllegalArgumentException") (List.mem_of_getElem? (i := 1) rfl)), hnc ("java/lang/IllegalStateException", "java/lang/IllegalArgumentException") (by decide)⟩, (fun z hz => nomatch hz)⟩) rfl (by decide) (hts (.classLink RL 15 "java/lang/IllegalStateException") (List.mem_of_getElem? (i := 2) rfl)) (va_Nw.use rfl hstr.2.2.2.1) h1_ h2_ h3_ ?_
          refine lv_astore_n (lv' := [(3, .ref q9), (0, .ref q_bf), (1, .int x1), (2, .ref q_ou)]) hx hb dL_append_15 rfl hl (by decide) rfl (fun ls hl => ?_)
          refine lv_iconst (v := (2 : Int32)) hx hb dL_append_16 (by decide) ?_
          obtain ⟨hf0, hf1, hf2, hf3⟩ := si4 hm
          subst hf0
          subst hf1
          subst hf2
          subst hf3
          exact W.widen (k := 1) (n := 6) (Nat.le_of_ble_eq_true rfl) (Nat.le_of_ble_eq_true rfl) (W.iret (v := (2 : Int32)) hx hb hr (fun t ht hW => ⟨⟨rfl, by rw [ht]; exact hP⟩, hS.F ht⟩) hS.2.2 dL_append_17)
        · replace hm := if_f hm ck_5
          cases hm
  rcases bh3_s hm with ⟨r_1, ti_2, sg_3, hc_, hm⟩ | ⟨E2_, hc_, hm⟩
  rotate_left
  · rw [hc_] at hro; exact (my_map_rl hro).elim
  rw [hc_] at hro
  obtain ⟨rfl, rfl⟩ := my_map_ll hro
  replace hP : va_P (my_D Γ) vwCl (wBF Γ q_bf q_tx q_fl q_flT q_hi q_s1 q_s2 q_fd q_kc q_kr  ++ wText Γ q_tx q_sg ti_2 sg_3 ++ wOut Γ q_ou vou) H := hP
  replace hD : va_D A (wBF Γ q_bf q_tx q_fl q_flT q_hi q_s1 q_s2 q_fd q_kc q_kr  ++ wText Γ q_tx q_sg ti_2 sg_3 ++ wOut Γ q_ou vou) := hD
  refine lv_i2l (v := r_1.toInt64) hx hb dL_append_7 rfl ?_
  refine lv_topl (fun y_6 ey_6 => ?_)
  refine va_last hx hb hK hP hD hS 3 1 rfl rfl (show vp_in (0 : Int32) 1 from (by decide : ¬ ((0 : Int32) < 0 ∨ 1 ≤ (0 : Int32).toNatClampNeg))) dL_append_8 (fun H locs hP hD hS => ?_)
  replace hP : va_P (my_D Γ) vwCl (wBF Γ q_bf q_tx q_fl q_flT q_hi q_s1 q_s2 q_fd q_kc q_kr  ++ wText Γ q_tx q_sg ti_2 sg_3 ++ wOut Γ q_ou (vp_updL vou (0 : Int32).toNatClampNeg y_6)) H := hP
  replace hD : va_D A (wBF Γ q_bf q_tx q_fl q_flT q_hi q_s1 q_s2 q_fd q_kc q_kr  ++ wText Γ q_tx q_sg ti_2 sg_3 ++ wOut Γ q_ou (vp_updL vou (0 : Int32).toNatClampNeg y_6)) := hD
  subst ey_6
  refine lv_goto (tgt := 18) hx hb dL_append_9 (by decide) ?_
  refine lv_iconst (v := (0 : Int32)) hx hb dL_append_18 (by decide) ?_
  obtain ⟨hf0, hf1, hf2, hf3⟩ := si4 hm
  subst hf0
  subst hf1
  subst hf2
  subst hf3
  exact W.widen (k := 1) (n := 6) (Nat.le_of_ble_eq_true rfl) (Nat.le_of_ble_eq_true rfl) (W.iret (v := (0 : Int32)) hx hb hr (fun t ht hW => ⟨⟨rfl, by rw [ht]; exact hP⟩, hS.F ht⟩) hS.2.2 dL_append_19)
def mL_setKind (vi : Nat → Int32) (vj : Nat → Int64) (vk : Nat → Int32) (vc : Nat → Int32) (va : Nat → Int32) (vpa : Nat → Int32) (vb : Nat → Int32) (vpb : Nat → Int32) (vh : Nat → Int32) (vhs : Nat → Option Nat) (vi2 : Nat → Int32) (vj2 : Nat → Int64) (vk2 : Nat → Int32) (vc2 : Nat → Int32) (va2 : Nat → Int32) (vpa2 : Nat → Int32) (vb2 : Nat → Int32) (vpb2 : Nat → Int32) (vou : Nat → Int64) (q_fl2 : Nat) (x1 : Int32) (x2 : Int32) : Option (Int32 × (Nat → Int64) × (Nat → Int32) × (Nat → Int32) × (Nat → Int32) × (Nat → Int64) × (Nat → Int32) × (Nat → Int32) × (Nat → Int32) × (Nat → Int32) × (Nat → Int32) × (Nat → Int32) × (Nat → Int64)) := (bo1 (mX8_setKind vi vj vk vc va vpa vb vpb vh vhs vi2 vj2 vk2 vc2 va2 vpa2 vb2 vpb2 q_fl2 x1 x2) (fun mr_ => (bh12 mr_ (fun r_1 vj_2 vk_3 vh_4 vi2_5 vj2_6 vk2_7 vc2_8 va2_9 vpa2_10 vb2_11 vpb2_12 => (some ((0 : Int32), vj_2, vk_3, vh_4, vi2_5, vj2_6, vk2_7, vc2_8, va2_9, vpa2_10, vb2_11, vpb2_12, (vp_updL vou (0 : Int32).toNatClampNeg (r_1.toInt64))))) (fun E_ => (if E_ = "java/lang/IndexOutOfBoundsException" then (some ((1 : Int32), vj, vk, vh, vi2, vj2, vk2, vc2, va2, vpa2, vb2, vpb2, vou)) else (if E_ = "java/lang/IllegalArgumentException" then (some ((2 : Int32), vj, vk, vh, vi2, vj2, vk2, vc2, va2, vpa2, vb2, vpb2, vou)) else (if E_ = "java/lang/IllegalStateException" then (some ((3 : Int32), vj, vk, vh, vi2, vj2, vk2, vc2, va2, vpa2, vb2, vpb2, vou)) else none)))))))
set_option maxHeartbeats 4000000 in
set_option maxRecDepth 100000 in
theorem kL_setKind (l : Launch) (Γ : my_G) (hfl : l.stackTraces = false) (q_bf q_fl q_k q_c q_a q_pa q_b q_pb q_hi q_hs q_fl2 q_k2 q_c2 q_a2 q_pa2 q_b2 q_pb2 q_ou q_tx q_flT q_s1 q_s2 q_fd q_kc q_kr : Nat) (vi : Nat → Int32) (vj : Nat → Int64) (vk : Nat → Int32) (vc : Nat → Int32) (va : Nat → Int32) (vpa : Nat → Int32) (vb : Nat → Int32) (vpb : Nat → Int32) (vh : Nat → Int32) (vhs : Nat → Option Nat) (vi2 : Nat → Int32) (vj2 : Nat → Int64) (vk2 : Nat → Int32) (vc2 : Nat → Int32) (va2 : Nat → Int32) (vpa2 : Nat → Int32) (vb2 : Nat → Int32) (vpb2 : Nat → Int32) (vou : Nat → Int64) (x1 : Int32) (x2 : Int32) (rr : Int32) (vj_z : Nat → Int64) (vk_z : Nat → Int32) (vh_z : Nat → Int32) (vi2_z : Nat → Int32) (vj2_z : Nat → Int64) (vk2_z : Nat → Int32) (vc2_z : Nat → Int32) (va2_z : Nat → Int32) (vpa2_z : Nat → Int32) (vb2_z : Nat → Int32) (vpb2_z : Nat → Int32) (vou_z : Nat → Int64) (hm : mL_setKind vi vj vk vc va vpa vb vpb vh vhs vi2 vj2 vk2 vc2 va2 vpa2 vb2 vpb2 vou q_fl2 x1 x2 = (some (rr, vj_z, vk_z, vh_z, vi2_z, vj2_z, vk2_z, vc2_z, va2_z, vpa2_z, vb2_z, vpb2_z, vou_z))) : MnW l yL_setKind wsL_setKind ({ frames := 8, cells := 2, slots := 12, locals := 139 } : Room) Γ [.ref q_bf, .int x1, .int x2, .ref q_ou] (wBF Γ q_bf q_tx q_fl q_flT q_hi q_s1 q_s2 q_fd q_kc q_kr  ++ wFloor Γ q_fl q_k q_c q_a q_pa q_b q_pb vi vj vk vc va vpa vb vpb ++ wHist Γ q_hi q_hs vh vhs ++ wFloor Γ q_fl2 q_k2 q_c2 q_a2 q_pa2 q_b2 q_pb2 vi2 vj2 vk2 vc2 va2 vpa2 vb2 vpb2 ++ wOut Γ q_ou vou) (some (.int rr)) (wBF Γ q_bf q_tx q_fl q_flT q_hi q_s1 q_s2 q_fd q_kc q_kr  ++ wFloor Γ q_fl q_k q_c q_a q_pa q_b q_pb vi vj_z vk_z vc va vpa vb vpb ++ wHist Γ q_hi q_hs vh_z vhs ++ wFloor Γ q_fl2 q_k2 q_c2 q_a2 q_pa2 q_b2 q_pb2 vi2_z vj2_z vk2_z vc2_z va2_z vpa2_z vb2_z vpb2_z ++ wOut Γ q_ou vou_z) 2 12 := by
  intro sz
  refine va_MetW (cc := cL_setKind) (maxL := 5) (ret := (some .int)) (by decide) rfl ?_
  intro p e s m args below meth c s₁ B hml hv
  obtain ⟨rfl, ⟨hsz, hP, hK, hD0⟩, hZ, hstr, hnc⟩ := hv
  have htab := vx_table (x := yL_setKind) (hh := [(0, 10, 13, 24), (0, 10, 17, 13), (0, 10, 21, 15)]) B (atoms_spec (ws := wsL_setKind) B.pre _ List.mem_cons_self)
  have hx := B.exec
  have hb := B.bytes
  have hr := B.returns
  have hts := atoms_spec (ws := wsL_setKind) B.pre
  have hown : s.vm.findClass RL = some m.cls := findClass_of_methodNamed B.named
  have hlocks := B.notSynchronized
  have hinX1 : ∀ w ∈ u_ws RX1 TX1 12, w ∈ wsL_setKind := fun w h => List.mem_cons_of_mem _ (List.mem_append_left _ (List.mem_append_left _ (List.mem_append_left _ (List.mem_append_left _ (List.mem_append_left _ (List.mem_append_right _ h))))))
  have hinX3 : ∀ w ∈ u_ws RX3 TX3 3, w ∈ wsL_setKind := fun w h => List.mem_cons_of_mem _ (List.mem_append_left _ (List.mem_append_left _ (List.mem_append_left _ (List.mem_append_right _ h))))
  have hinX4 : ∀ w ∈ u_ws RX4 TX4 10, w ∈ wsL_setKind := fun w h => List.mem_cons_of_mem _ (List.mem_append_left _ (List.mem_append_left _ (List.mem_append_left _ (List.mem_append_left _ (List.mem_append_right _ h)))))
  have hinX8 : ∀ w ∈ u_ws RX8 TX8 9, w ∈ wsL_setKind := fun w h => List.mem_cons_of_mem _ (List.mem_append_left _ (List.mem_append_left _ (List.mem_append_left _ (List.mem_append_left _ (List.mem_append_left _ (List.mem_append_left _ (List.mem_append_right _ h)))))))
  subst hsz
  have hD := hD0.self (sz := s.heap.size)
  have hA : ∀ q : Nat, s.heap.size ≤ q → va_A (wBF Γ q_bf q_tx q_fl q_flT q_hi q_s1 q_s2 q_fd q_kc q_kr  ++ wFloor Γ q_fl q_k q_c q_a q_pa q_b q_pb vi vj vk vc va vpa vb vpb ++ wHist Γ q_hi q_hs vh vhs ++ wFloor Γ q_fl2 q_k2 q_c2 q_a2 q_pa2 q_b2 q_pb2 vi2 vj2 vk2 vc2 va2 vpa2 vb2 vpb2 ++ wOut Γ q_ou vou) s.heap.size q := fun q h => Or.inr h
  generalize va_A (wBF Γ q_bf q_tx q_fl q_flT q_hi q_s1 q_s2 q_fd q_kc q_kr  ++ wFloor Γ q_fl q_k q_c q_a q_pa q_b q_pb vi vj vk vc va vpa vb vpb ++ wHist Γ q_hi q_hs vh vhs ++ wFloor Γ q_fl2 q_k2 q_c2 q_a2 q_pa2 q_b2 q_pb2 vi2 vj2 vk2 vc2 va2 vpa2 vb2 vpb2 ++ wOut Γ q_ou vou) s.heap.size = A at hD hA hZ ⊢
  have hS : va_S A s.heap s.heap [] := va_S.rf
  have hl := lv_entry ([.ref q_bf, .int x1, .int x2, .ref q_ou]) (n := 5) (Nat.le_of_ble_eq_true rfl)
  rw [lg_entry_eq]
  generalize (lg_sl ([.ref q_bf, .int x1, .int x2, .ref q_ou]) ++ List.replicate (5 - (lg_sl ([.ref q_bf, .int x1, .int x2, .ref q_ou])).length) Slot.unset).toArray = ls at hl ⊢
  replace hl : lv_has ls 5 [(0, .ref q_bf), (1, .int x1), (2, .int x2), (3, .ref q_ou)] := hl
  unfold mL_setKind at hm
  refine lv_aload_n hx hb dL_setKind_0 rfl (lv_at hl 3 rfl) ?_
  refine lv_iconst (v := (0 : Int32)) hx hb dL_setKind_1 (by decide) ?_
  refine lv_aload_n hx hb dL_setKind_2 rfl (lv_at hl 0 rfl) ?_
  refine lv_iload_n hx hb dL_setKind_3 rfl (lv_at hl 1 rfl) ?_
  refine lv_iload_n hx hb dL_setKind_4 rfl (lv_at hl 2 rfl) ?_
  obtain ⟨mr_, hc0_, hm⟩ := bo1_s hm
  refine my_callPX (wc := (wBF Γ q_bf q_tx q_fl q_flT q_hi q_s1 q_s2 q_fd q_kc q_kr  ++ wFloor Γ q_fl q_k q_c q_a q_pa q_b q_pb vi vj vk vc va vpa vb vpb ++ wHist Γ q_hi q_hs vh vhs ++ wFloor Γ q_fl2 q_k2 q_c2 q_a2 q_pa2 q_b2 q_pb2 vi2 vj2 vk2 vc2 va2 vpa2 vb2 vpb2)) hP hD hS hA [0, 1, 2, 3, 4, 5, 6, 7, 8, 9, 10, 11, 12, 13, 14, 15, 16] rfl rfl (fun res w1 h9 => my_had2 h9 (fun q => rfl)) (vx_runV (As := [.int x1, .int x2]) (rest := [.int (0 : Int32), .ref q_ou]) ⟨hx, hb, hml, hown, hts⟩ (kX8_setKind l Γ hfl q_bf q_fl q_k q_c q_a q_pa q_b q_pb q_hi q_hs q_fl2 q_k2 q_c2 q_a2 q_pa2 q_b2 q_pb2 q_tx q_flT q_s1 q_s2 q_fd q_kc q_kr vi vj vk vc va vpa vb vpb vh vhs vi2 vj2 vk2 vc2 va2 vpa2 vb2 vpb2 x1 x2 mr_ hc0_ _) (cwV 2 hts gL_setKind_X8_setKind rfl rfl rfl (by decide +kernel) ⟨Nat.le_of_ble_eq_true rfl, Nat.le_of_ble_eq_true rfl⟩) (my_preVX (wc := (wBF Γ q_bf q_tx q_fl q_flT q_hi q_s1 q_s2 q_fd q_kc q_kr  ++ wFloor Γ q_fl q_k q_c q_a q_pa q_b q_pb vi vj vk vc va vpa vb vpb ++ wHist Γ q_hi q_hs vh vhs ++ wFloor Γ q_fl2 q_k2 q_c2 q_a2 q_pa2 q_b2 q_pb2 vi2 vj2 vk2 vc2 va2 vpa2 vb2 vpb2)) (ci := 6) (q0 := 0) [0, 1, 2, 3, 4, 5, 6, 7, 8, 9, 10, 11, 12, 13, 14, 15, 16] hK hP hD hS hA hZ hstr rfl rfl rfl rfl) rfl rfl hl.1 rfl (lv_room (Nat.le_of_ble_eq_true rfl)) dL_setKind_5 ⟨Nat.le_of_ble_eq_true rfl, Nat.le_of_ble_eq_true rfl⟩) (fun E_ H locs q9 ce hro hP hS h1_ h2_ h3_ => ?_) (fun res_ w1_ H locs hro hP hD hS => ?_)
  · rcases bh12_s hm with ⟨r_1, vj_2, vk_3, vh_4, vi2_5, vj2_6, vk2_7, vc2_8, va2_9, vpa2_10, vb2_11, vpb2_12, hc_, hm⟩ | ⟨E2_, hc_, hm⟩
    · rw [hc_] at hro; exact (my_map_lr hro).elim
    · rw [hc_] at hro
      have hE_ := my_map_rr hro
      subst hE_
      by_cases ck_13 : E2_ = "java/lang/IndexOutOfBoundsException"
      · replace hm := if_s hm ck_13
        subst ck_13
        refine vx_catch (name := "java/lang/IndexOutOfBoundsException") hown [] ⟨0, 10, 13, 24⟩ [⟨0, 10, 17, 13⟩, ⟨0, 10, 21, 15⟩] (htab.trans rfl) (fun z hz => nomatch hz) rfl (by decide) (hts (.classLink RL 24 "java/lang/IndexOutOfBoundsException") (List.mem_of_getElem? (i := 1) rfl)) (va_Nw.use rfl hstr.2.1) h1_ h2_ h3_ ?_
        refine lv_astore (lv' := [(4, .ref q9), (0, .ref q_bf), (1, .int x1), (2, .int x2), (3, .ref q_ou)]) hx hb dL_setKind_13 hl (by decide) rfl (fun ls hl => ?_)
        refine lv_iconst (v := (1 : Int32)) hx hb dL_setKind_15 (by decide) ?_
        obtain ⟨hf0, hf1, hf2, hf3, hf4, hf5, hf6, hf7, hf8, hf9, hf10, hf11, hf12⟩ := si13 hm
        subst hf0
        subst hf1
        subst hf2
        subst hf3
        subst hf4
        subst hf5
        subst hf6
        subst hf7
        subst hf8
        subst hf9
        subst hf10
        subst hf11
        subst hf12
        exact W.widen (k := 2) (n := 12) (Nat.le_of_ble_eq_true rfl) (Nat.le_of_ble_eq_true rfl) (W.iret (v := (1 : Int32)) hx hb hr (fun t ht hW => ⟨⟨rfl, by rw [ht]; exact hP⟩, hS.F ht⟩) hS.2.2 dL_setKind_16)
      · replace hm := if_f hm ck_13
        by_cases ck_14 : E2_ = "java/lang/IllegalArgumentException"
        · replace hm := if_s hm ck_14
          subst ck_14
          refine vx_catch (name := "java/lang/IllegalArgumentException") hown [⟨0, 10, 13, 24⟩] ⟨0, 10, 17, 13⟩ [⟨0, 10, 21, 15⟩] (htab.trans rfl) (List.forall_mem_cons.mpr ⟨Or.inr ⟨by decide, "java/lang/IndexOutOfBoundsException", (hts (.classLink RL 24 "java/lang/IndexOutOfBoundsException") (List.mem_of_getElem? (i := 1) rfl)), hnc ("java/lang/IllegalArgumentException", "java/lang/IndexOutOfBoundsException") (by decide)⟩, (fun z hz => nomatch hz)⟩) rfl (by decide) (hts (.classLink RL 13 "java/lang/IllegalArgumentException") (List.mem_of_getElem? (i := 2) rfl)) (va_Nw.use rfl hstr.2.2.1) h1_ h2_ h3_ ?_
          refine lv_astore (lv' := [(4, .ref q9), (0, .ref q_bf), (1, .int x1), (2, .int x2), (3, .ref q_ou)]) hx hb dL_setKind_17 hl (by decide) rfl (fun ls hl => ?_)
          refine lv_iconst (v := (2 : Int32)) hx hb dL_setKind_19 (by decide) ?_
          obtain ⟨hf0, hf1, hf2, hf3, hf4, hf5, hf6, hf7, hf8, hf9, hf10, hf11, hf12⟩ := si13 hm
          subst hf0
          subst hf1
          subst hf2
          subst hf3
          subst hf4
          subst hf5
          subst hf6
          subst hf7
          subst hf8
          subst hf9
          subst hf10
          subst hf11
          subst hf12
          exact W.widen (k := 2) (n := 12) (Nat.le_of_ble_eq_true rfl) (Nat.le_of_ble_eq_true rfl) (W.iret (v := (2 : Int32)) hx hb hr (fun t ht hW => ⟨⟨rfl, by rw [ht]; exact hP⟩, hS.F ht⟩) hS.2.2 dL_setKind_20)
        · replace hm := if_f hm ck_14
          by_cases ck_15 : E2_ = "java/lang/IllegalStateException"
          · replace hm := if_s hm ck_15
            subst ck_15
            refine vx_catch (name := "java/lang/IllegalStateException") hown [⟨0, 10, 13, 24⟩, ⟨0, 10, 17, 13⟩] ⟨0, 10, 21, 15⟩ [] (htab.trans rfl) (List.forall_mem_cons.mpr ⟨Or.inr ⟨by decide, "java/lang/IndexOutOfBoundsException", (hts (.classLink RL 24 "java/lang/IndexOutOfBoundsException") (List.mem_of_getElem? (i := 1) rfl)), hnc ("java/lang/IllegalStateException", "java/lang/IndexOutOfBoundsException") (by decide)⟩, (List.forall_mem_cons.mpr ⟨Or.inr ⟨by decide, "java/lang/IllegalArgumentException", (hts (.classLink RL 13 "java/lang/IllegalArgumentException") (List.mem_of_getElem? (i := 2) rfl)), hnc ("java/lang/IllegalStateException", "java/lang/IllegalArgumentException") (by decide)⟩, (fun z hz => nomatch hz)⟩)⟩) rfl (by decide) (hts (.classLink RL 15 "java/lang/IllegalStateException") (List.mem_of_getElem? (i := 3) rfl)) (va_Nw.use rfl hstr.2.2.2.1) h1_ h2_ h3_ ?_
            refine lv_astore (lv' := [(4, .ref q9), (0, .ref q_bf), (1, .int x1), (2, .int x2), (3, .ref q_ou)]) hx hb dL_setKind_21 hl (by decide) rfl (fun ls hl => ?_)
            refine lv_iconst (v := (3 : Int32)) hx hb dL_setKind_23 (by decide) ?_
            obtain ⟨hf0, hf1, hf2, hf3, hf4, hf5, hf6, hf7, hf8, hf9, hf10, hf11, hf12⟩ := si13 hm
            subst hf0
            subst hf1
            subst hf2
            subst hf3
            subst hf4
            subst hf5
            subst hf6
            subst hf7
            subst hf8
            subst hf9
            subst hf10
            subst hf11
            subst hf12
            exact W.widen (k := 2) (n := 12) (Nat.le_of_ble_eq_true rfl) (Nat.le_of_ble_eq_true rfl) (W.iret (v := (3 : Int32)) hx hb hr (fun t ht hW => ⟨⟨rfl, by rw [ht]; exact hP⟩, hS.F ht⟩) hS.2.2 dL_setKind_24)
          · replace hm := if_f hm ck_15
            cases hm
  rcases bh12_s hm with ⟨r_1, vj_2, vk_3, vh_4, vi2_5, vj2_6, vk2_7, vc2_8, va2_9, vpa2_10, vb2_11, vpb2_12, hc_, hm⟩ | ⟨E2_, hc_, hm⟩
  rotate_left
  · rw [hc_] at hro; exact (my_map_rl hro).elim
  rw [hc_] at hro
  obtain ⟨rfl, rfl⟩ := my_map_ll hro
  replace hP : va_P (my_D Γ) vwCl (wBF Γ q_bf q_tx q_fl q_flT q_hi q_s1 q_s2 q_fd q_kc q_kr  ++ wFloor Γ q_fl q_k q_c q_a q_pa q_b q_pb vi vj_2 vk_3 vc va vpa vb vpb ++ wHist Γ q_hi q_hs vh_4 vhs ++ wFloor Γ q_fl2 q_k2 q_c2 q_a2 q_pa2 q_b2 q_pb2 vi2_5 vj2_6 vk2_7 vc2_8 va2_9 vpa2_10 vb2_11 vpb2_12 ++ wOut Γ q_ou vou) H := hP
  replace hD : va_D A (wBF Γ q_bf q_tx q_fl q_flT q_hi q_s1 q_s2 q_fd q_kc q_kr  ++ wFloor Γ q_fl q_k q_c q_a q_pa q_b q_pb vi vj_2 vk_3 vc va vpa vb vpb ++ wHist Γ q_hi q_hs vh_4 vhs ++ wFloor Γ q_fl2 q_k2 q_c2 q_a2 q_pa2 q_b2 q_pb2 vi2_5 vj2_6 vk2_7 vc2_8 va2_9 vpa2_10 vb2_11 vpb2_12 ++ wOut Γ q_ou vou) := hD
  refine lv_i2l (v := r_1.toInt64) hx hb dL_setKind_8 rfl ?_
  refine lv_topl (fun y_16 ey_16 => ?_)
  refine va_last hx hb hK hP hD hS 17 1 rfl rfl (show vp_in (0 : Int32) 1 from (by decide : ¬ ((0 : Int32) < 0 ∨ 1 ≤ (0 : Int32).toNatClampNeg))) dL_setKind_9 (fun H locs hP hD hS => ?_)
  replace hP : va_P (my_D Γ) vwCl (wBF Γ q_bf q_tx q_fl q_flT q_hi q_s1 q_s2 q_fd q_kc q_kr  ++ wFloor Γ q_fl q_k q_c q_a q_pa q_b q_pb vi vj_2 vk_3 vc va vpa vb vpb ++ wHist Γ q_hi q_hs vh_4 vhs ++ wFloor Γ q_fl2 q_k2 q_c2 q_a2 q_pa2 q_b2 q_pb2 vi2_5 vj2_6 vk2_7 vc2_8 va2_9 vpa2_10 vb2_11 vpb2_12 ++ wOut Γ q_ou (vp_updL vou (0 : Int32).toNatClampNeg y_16)) H := hP
  replace hD : va_D A (wBF Γ q_bf q_tx q_fl q_flT q_hi q_s1 q_s2 q_fd q_kc q_kr  ++ wFloor Γ q_fl q_k q_c q_a q_pa q_b q_pb vi vj_2 vk_3 vc va vpa vb vpb ++ wHist Γ q_hi q_hs vh_4 vhs ++ wFloor Γ q_fl2 q_k2 q_c2 q_a2 q_pa2 q_b2 q_pb2 vi2_5 vj2_6 vk2_7 vc2_8 va2_9 vpa2_10 vb2_11 vpb2_12 ++ wOut Γ q_ou (vp_updL vou (0 : Int32).toNatClampNeg y_16)) := hD
  subst ey_16
  refine lv_goto (tgt := 25) hx hb dL_setKind_10 (by decide) ?_
  refine lv_iconst (v := (0 : Int32)) hx hb dL_setKind_25 (by decide) ?_
  obtain ⟨hf0, hf1, hf2, hf3, hf4, hf5, hf6, hf7, hf8, hf9, hf10, hf11, hf12⟩ := si13 hm
  subst hf0
  subst hf1
  subst hf2
  subst hf3
  subst hf4
  subst hf5
  subst hf6
  subst hf7
  subst hf8
  subst hf9
  subst hf10
  subst hf11
  subst hf12
  exact W.widen (k := 2) (n := 12) (Nat.le_of_ble_eq_true rfl) (Nat.le_of_ble_eq_true rfl) (W.iret (v := (0 : Int32)) hx hb hr (fun t ht hW => ⟨⟨rfl, by rw [ht]; exact hP⟩, hS.F ht⟩) hS.2.2 dL_setKind_26)
def mL_addCrate (vi : Nat → Int32) (vj : Nat → Int64) (vk : Nat → Int32) (vc : Nat → Int32) (va : Nat → Int32) (vpa : Nat → Int32) (vb : Nat → Int32) (vpb : Nat → Int32) (vh : Nat → Int32) (vhs : Nat → Option Nat) (vi2 : Nat → Int32) (vj2 : Nat → Int64) (vk2 : Nat → Int32) (vc2 : Nat → Int32) (va2 : Nat → Int32) (vpa2 : Nat → Int32) (vb2 : Nat → Int32) (vpb2 : Nat → Int32) (vou : Nat → Int64) (q_fl2 : Nat) (x1 : Int32) : Option (Int32 × (Nat → Int32) × (Nat → Int64) × (Nat → Int32) × (Nat → Int32) × (Nat → Int64) × (Nat → Int32) × (Nat → Int32) × (Nat → Int32) × (Nat → Int32) × (Nat → Int32) × (Nat → Int32) × (Nat → Int64)) := (bo1 (mX8_addCrate vi vj vk vc va vpa vb vpb vh vhs vi2 vj2 vk2 vc2 va2 vpa2 vb2 vpb2 q_fl2 x1) (fun mr_ => (bh12 mr_ (fun r_1 vi_2 vj_3 vh_4 vi2_5 vj2_6 vk2_7 vc2_8 va2_9 vpa2_10 vb2_11 vpb2_12 => (some ((0 : Int32), vi_2, vj_3, vh_4, vi2_5, vj2_6, vk2_7, vc2_8, va2_9, vpa2_10, vb2_11, vpb2_12, (vp_updL vou (0 : Int32).toNatClampNeg (r_1.toInt64))))) (fun E_ => (if E_ = "java/lang/IndexOutOfBoundsException" then (some ((1 : Int32), vi, vj, vh, vi2, vj2, vk2, vc2, va2, vpa2, vb2, vpb2, vou)) else (if E_ = "java/lang/IllegalStateException" then (some ((2 : Int32), vi, vj, vh, vi2, vj2, vk2, vc2, va2, vpa2, vb2, vpb2, vou)) else none))))))
set_option maxHeartbeats 4000000 in
set_option maxRecDepth 100000 in
theorem kL_addCrate (l : Launch) (Γ : my_G) (hfl : l.stackTraces = false) (q_bf q_fl q_k q_c q_a q_pa q_b q_pb q_hi q_hs q_fl2 q_k2 q_c2 q_a2 q_pa2 q_b2 q_pb2 q_ou q_tx q_flT q_s1 q_s2 q_fd q_kc q_kr : Nat) (vi : Nat → Int32) (vj : Nat → Int64) (vk : Nat → Int32) (vc : Nat → Int32) (va : Nat → Int32) (vpa : Nat → Int32) (vb : Nat → Int32) (vpb : Nat → Int32) (vh : Nat → Int32) (vhs : Nat → Option Nat) (vi2 : Nat → Int32) (vj2 : Nat → Int64) (vk2 : Nat → Int32) (vc2 : Nat → Int32) (va2 : Nat → Int32) (vpa2 : Nat → Int32) (vb2 : Nat → Int32) (vpb2 : Nat → Int32) (vou : Nat → Int64) (x1 : Int32) (rr : Int32) (vi_z : Nat → Int32) (vj_z : Nat → Int64) (vh_z : Nat → Int32) (vi2_z : Nat → Int32) (vj2_z : Nat → Int64) (vk2_z : Nat → Int32) (vc2_z : Nat → Int32) (va2_z : Nat → Int32) (vpa2_z : Nat → Int32) (vb2_z : Nat → Int32) (vpb2_z : Nat → Int32) (vou_z : Nat → Int64) (hm : mL_addCrate vi vj vk vc va vpa vb vpb vh vhs vi2 vj2 vk2 vc2 va2 vpa2 vb2 vpb2 vou q_fl2 x1 = (some (rr, vi_z, vj_z, vh_z, vi2_z, vj2_z, vk2_z, vc2_z, va2_z, vpa2_z, vb2_z, vpb2_z, vou_z))) : MnW l yL_addCrate wsL_addCrate ({ frames := 8, cells := 2, slots := 12, locals := 137 } : Room) Γ [.ref q_bf, .int x1, .ref q_ou] (wBF Γ q_bf q_tx q_fl q_flT q_hi q_s1 q_s2 q_fd q_kc q_kr  ++ wFloor Γ q_fl q_k q_c q_a q_pa q_b q_pb vi vj vk vc va vpa vb vpb ++ wHist Γ q_hi q_hs vh vhs ++ wFloor Γ q_fl2 q_k2 q_c2 q_a2 q_pa2 q_b2 q_pb2 vi2 vj2 vk2 vc2 va2 vpa2 vb2 vpb2 ++ wOut Γ q_ou vou) (some (.int rr)) (wBF Γ q_bf q_tx q_fl q_flT q_hi q_s1 q_s2 q_fd q_kc q_kr  ++ wFloor Γ q_fl q_k q_c q_a q_pa q_b q_pb vi_z vj_z vk vc va vpa vb vpb ++ wHist Γ q_hi q_hs vh_z vhs ++ wFloor Γ q_fl2 q_k2 q_c2 q_a2 q_pa2 q_b2 q_pb2 vi2_z vj2_z vk2_z vc2_z va2_z vpa2_z vb2_z vpb2_z ++ wOut Γ q_ou vou_z) 2 12 := by
  intro sz
  refine va_MetW (cc := cL_addCrate) (maxL := 4) (ret := (some .int)) (by decide) rfl ?_
  intro p e s m args below meth c s₁ B hml hv
  obtain ⟨rfl, ⟨hsz, hP, hK, hD0⟩, hZ, hstr, hnc⟩ := hv
  have htab := vx_table (x := yL_addCrate) (hh := [(0, 9, 12, 24), (0, 9, 15, 15)]) B (atoms_spec (ws := wsL_addCrate) B.pre _ List.mem_cons_self)
  have hx := B.exec
  have hb := B.bytes
  have hr := B.returns
  have hts := atoms_spec (ws := wsL_addCrate) B.pre
  have hown : s.vm.findClass RL = some m.cls := findClass_of_methodNamed B.named
  have hlocks := B.notSynchronized
  have hinX1 : ∀ w ∈ u_ws RX1 TX1 12, w ∈ wsL_addCrate := fun w h => List.mem_cons_of_mem _ (List.mem_append_left _ (List.mem_append_left _ (List.mem_append_left _ (List.mem_append_left _ (List.mem_append_right _ h)))))
  have hinX3 : ∀ w ∈ u_ws RX3 TX3 3, w ∈ wsL_addCrate := fun w h => List.mem_cons_of_mem _ (List.mem_append_left _ (List.mem_append_left _ (List.mem_append_right _ h)))
  have hinX4 : ∀ w ∈ u_ws RX4 TX4 10, w ∈ wsL_addCrate := fun w h => List.mem_cons_of_mem _ (List.mem_append_left _ (List.mem_append_left _ (List.mem_append_left _ (List.mem_append_right _ h))))
  have hinX8 : ∀ w ∈ u_ws RX8 TX8 9, w ∈ wsL_addCrate := fun w h => List.mem_cons_of_mem _ (List.mem_append_left _ (List.mem_append_left _ (List.mem_append_left _ (List.mem_append_left _ (List.mem_append_left _ (List.mem_append_right _ h))))))
  subst hsz
  have hD := hD0.self (sz := s.heap.size)
  have hA : ∀ q : Nat, s.heap.size ≤ q → va_A (wBF Γ q_bf q_tx q_fl q_flT q_hi q_s1 q_s2 q_fd q_kc q_kr  ++ wFloor Γ q_fl q_k q_c q_a q_pa q_b q_pb vi vj vk vc va vpa vb vpb ++ wHist Γ q_hi q_hs vh vhs ++ wFloor Γ q_fl2 q_k2 q_c2 q_a2 q_pa2 q_b2 q_pb2 vi2 vj2 vk2 vc2 va2 vpa2 vb2 vpb2 ++ wOut Γ q_ou vou) s.heap.size q := fun q h => Or.inr h
  generalize va_A (wBF Γ q_bf q_tx q_fl q_flT q_hi q_s1 q_s2 q_fd q_kc q_kr  ++ wFloor Γ q_fl q_k q_c q_a q_pa q_b q_pb vi vj vk vc va vpa vb vpb ++ wHist Γ q_hi q_hs vh vhs ++ wFloor Γ q_fl2 q_k2 q_c2 q_a2 q_pa2 q_b2 q_pb2 vi2 vj2 vk2 vc2 va2 vpa2 vb2 vpb2 ++ wOut Γ q_ou vou) s.heap.size = A at hD hA hZ ⊢
  have hS : va_S A s.heap s.heap [] := va_S.rf
  have hl := lv_entry ([.ref q_bf, .int x1, .ref q_ou]) (n := 4) (Nat.le_of_ble_eq_true rfl)
  rw [lg_entry_eq]
  generalize (lg_sl ([.ref q_bf, .int x1, .ref q_ou]) ++ List.replicate (4 - (lg_sl ([.ref q_bf, .int x1, .ref q_ou])).length) Slot.unset).toArray = ls at hl ⊢
  replace hl : lv_has ls 4 [(0, .ref q_bf), (1, .int x1), (2, .ref q_ou)] := hl
  unfold mL_addCrate at hm
  refine lv_aload_n hx hb dL_addCrate_0 rfl (lv_at hl 2 rfl) ?_
  refine lv_iconst (v := (0 : Int32)) hx hb dL_addCrate_1 (by decide) ?_
  refine lv_aload_n hx hb dL_addCrate_2 rfl (lv_at hl 0 rfl) ?_
  refine lv_iload_n hx hb dL_addCrate_3 rfl (lv_at hl 1 rfl) ?_
  obtain ⟨mr_, hc0_, hm⟩ := bo1_s hm
  refine my_callPX (wc := (wBF Γ q_bf q_tx q_fl q_flT q_hi q_s1 q_s2 q_fd q_kc q_kr  ++ wFloor Γ q_fl q_k q_c q_a q_pa q_b q_pb vi vj vk vc va vpa vb vpb ++ wHist Γ q_hi q_hs vh vhs ++ wFloor Γ q_fl2 q_k2 q_c2 q_a2 q_pa2 q_b2 q_pb2 vi2 vj2 vk2 vc2 va2 vpa2 vb2 vpb2)) hP hD hS hA [0, 1, 2, 3, 4, 5, 6, 7, 8, 9, 10, 11, 12, 13, 14, 15, 16] rfl rfl (fun res w1 h9 => my_had2 h9 (fun q => rfl)) (vx_runV (As := [.int x1]) (rest := [.int (0 : Int32), .ref q_ou]) ⟨hx, hb, hml, hown, hts⟩ (kX8_addCrate l Γ hfl q_bf q_fl q_k q_c q_a q_pa q_b q_pb q_hi q_hs q_fl2 q_k2 q_c2 q_a2 q_pa2 q_b2 q_pb2 q_tx q_flT q_s1 q_s2 q_fd q_kc q_kr vi vj vk vc va vpa vb vpb vh vhs vi2 vj2 vk2 vc2 va2 vpa2 vb2 vpb2 x1 mr_ hc0_ _) (cwV 1 hts gL_addCrate_X8_addCrate rfl rfl rfl (by decide +kernel) ⟨Nat.le_of_ble_eq_true rfl, Nat.le_of_ble_eq_true rfl⟩) (my_preVX (wc := (wBF Γ q_bf q_tx q_fl q_flT q_hi q_s1 q_s2 q_fd q_kc q_kr  ++ wFloor Γ q_fl q_k q_c q_a q_pa q_b q_pb vi vj vk vc va vpa vb vpb ++ wHist Γ q_hi q_hs vh vhs ++ wFloor Γ q_fl2 q_k2 q_c2 q_a2 q_pa2 q_b2 q_pb2 vi2 vj2 vk2 vc2 va2 vpa2 vb2 vpb2)) (ci := 6) (q0 := 0) [0, 1, 2, 3, 4, 5, 6, 7, 8, 9, 10, 11, 12, 13, 14, 15, 16] hK hP hD hS hA hZ hstr rfl rfl rfl rfl) rfl rfl hl.1 rfl (lv_room (Nat.le_of_ble_eq_true rfl)) dL_addCrate_4 ⟨Nat.le_of_ble_eq_true rfl, Nat.le_of_ble_eq_true rfl⟩) (fun E_ H locs q9 ce hro hP hS h1_ h2_ h3_ => ?_) (fun res_ w1_ H locs hro hP hD hS => ?_)
  · rcases bh12_s hm with ⟨r_1, vi_2, vj_3, vh_4, vi2_5, vj2_6, vk2_7, vc2_8, va2_9, vpa2_10, vb2_11, vpb2_12, hc_, hm⟩ | ⟨E2_, hc_, hm⟩
    · rw [hc_] at hro; exact (my_map_lr hro).elim
    · rw [hc_] at hro
      have hE_ := my_map_rr hro
      subst hE_
      by_cases ck_13 : E2_ = "java/lang/IndexOutOfBoundsException"
      · replace hm := if_s hm ck_13
        subst ck_13
        refine vx_catch (name := "java/lang/IndexOutOfBoundsException") hown [] ⟨0, 9, 12, 24⟩ [⟨0, 9, 15, 15⟩] (htab.trans rfl) (fun z hz => nomatch hz) rfl (by decide) (hts (.classLink RL 24 "java/lang/IndexOutOfBoundsException") (List.mem_of_getElem? (i := 1) rfl)) (va_Nw.use rfl hstr.2.1) h1_ h2_ h3_ ?_
        refine lv_astore_n (lv' := [(3, .ref q9), (0, .ref q_bf), (1, .int x1), (2, .ref q_ou)]) hx hb dL_addCrate_12 rfl hl (by decide) rfl (fun ls hl => ?_)
        refine lv_iconst (v := (1 : Int32)) hx hb dL_addCrate_13 (by decide) ?_
        obtain ⟨hf0, hf1, hf2, hf3, hf4, hf5, hf6, hf7, hf8, hf9, hf10, hf11, hf12⟩ := si13 hm
        subst hf0
        subst hf1
        subst hf2
        subst hf3
        subst hf4
        subst hf5
        subst hf6
        subst hf7
        subst hf8
        subst hf9
        subst hf10
        subst hf11
        subst hf12
        exact W.widen (k := 2) (n := 12) (Nat.le_of_ble_eq_true rfl) (Nat.le_of_ble_eq_true rfl) (W.iret (v := (1 : Int32)) hx hb hr (fun t ht hW => ⟨⟨rfl, by rw [ht]; exact hP⟩, hS.F ht⟩) hS.2.2 dL_addCrate_14)
      · replace hm := if_f hm ck_13
        by_cases ck_14 : E2_ = "java/lang/IllegalStateException"
        · replace hm := if_s hm ck_14
          subst ck_14
          refine vx_catch (name := "java/lang/IllegalStateException") hown [⟨0, 9, 12, 24⟩] ⟨0, 9, 15, 15⟩ [] (htab.trans rfl) (List.forall_mem_cons.mpr ⟨Or.inr ⟨by decide, "java/lang/IndexOutOfBoundsException", (hts (.classLink RL 24 "java/lang/IndexOutOfBoundsException") (List.mem_of_getElem? (i := 1) rfl)), hnc ("java/lang/IllegalStateException", "java/lang/IndexOutOfBoundsException") (by decide)⟩, (fun z hz => nomatch hz)⟩) rfl (by decide) (hts (.classLink RL 15 "java/lang/IllegalStateException") (List.mem_of_getElem? (i := 2) rfl)) (va_Nw.use rfl hstr.2.2.2.1) h1_ h2_ h3_ ?_
          refine lv_astore_n (lv' := [(3, .ref q9), (0, .ref q_bf), (1, .int x1), (2, .ref q_ou)]) hx hb dL_addCrate_15 rfl hl (by decide) rfl (fun ls hl => ?_)
          refine lv_iconst (v := (2 : Int32)) hx hb dL_addCrate_16 (by decide) ?_
          obtain ⟨hf0, hf1, hf2, hf3, hf4, hf5, hf6, hf7, hf8, hf9, hf10, hf11, hf12⟩ := si13 hm
          subst hf0
          subst hf1
          subst hf2
          subst hf3
          subst hf4
          subst hf5
          subst hf6
          subst hf7
          subst hf8
          subst hf9
          subst hf10
          subst hf11
          subst hf12
          exact W.widen (k := 2) (n := 12) (Nat.le_of_ble_eq_true rfl) (Nat.le_of_ble_eq_true rfl) (W.iret (v := (2 : Int32)) hx hb hr (fun t ht hW => ⟨⟨rfl, by rw [ht]; exact hP⟩, hS.F ht⟩) hS.2.2 dL_addCrate_17)
        · replace hm := if_f hm ck_14
          cases hm
  rcases bh12_s hm with ⟨r_1, vi_2, vj_3, vh_4, vi2_5, vj2_6, vk2_7, vc2_8, va2_9, vpa2_10, vb2_11, vpb2_12, hc_, hm⟩ | ⟨E2_, hc_, hm⟩
  rotate_left
  · rw [hc_] at hro; exact (my_map_rl hro).elim
  rw [hc_] at hro
  obtain ⟨rfl, rfl⟩ := my_map_ll hro
  replace hP : va_P (my_D Γ) vwCl (wBF Γ q_bf q_tx q_fl q_flT q_hi q_s1 q_s2 q_fd q_kc q_kr  ++ wFloor Γ q_fl q_k q_c q_a q_pa q_b q_pb vi_2 vj_3 vk vc va vpa vb vpb ++ wHist Γ q_hi q_hs vh_4 vhs ++ wFloor Γ q_fl2 q_k2 q_c2 q_a2 q_pa2 q_b2 q_pb2 vi2_5 vj2_6 vk2_7 vc2_8 va2_9 vpa2_10 vb2_11 vpb2_12 ++ wOut Γ q_ou vou) H := hP
  replace hD : va_D A (wBF Γ q_bf q_tx q_fl q_flT q_hi q_s1 q_s2 q_fd q_kc q_kr  ++ wFloor Γ q_fl q_k q_c q_a q_pa q_b q_pb vi_2 vj_3 vk vc va vpa vb vpb ++ wHist Γ q_hi q_hs vh_4 vhs ++ wFloor Γ q_fl2 q_k2 q_c2 q_a2 q_pa2 q_b2 q_pb2 vi2_5 vj2_6 vk2_7 vc2_8 va2_9 vpa2_10 vb2_11 vpb2_12 ++ wOut Γ q_ou vou) := hD
  refine lv_i2l (v := r_1.toInt64) hx hb dL_addCrate_7 rfl ?_
  refine lv_topl (fun y_15 ey_15 => ?_)
  refine va_last hx hb hK hP hD hS 17 1 rfl rfl (show vp_in (0 : Int32) 1 from (by decide : ¬ ((0 : Int32) < 0 ∨ 1 ≤ (0 : Int32).toNatClampNeg))) dL_addCrate_8 (fun H locs hP hD hS => ?_)
  replace hP : va_P (my_D Γ) vwCl (wBF Γ q_bf q_tx q_fl q_flT q_hi q_s1 q_s2 q_fd q_kc q_kr  ++ wFloor Γ q_fl q_k q_c q_a q_pa q_b q_pb vi_2 vj_3 vk vc va vpa vb vpb ++ wHist Γ q_hi q_hs vh_4 vhs ++ wFloor Γ q_fl2 q_k2 q_c2 q_a2 q_pa2 q_b2 q_pb2 vi2_5 vj2_6 vk2_7 vc2_8 va2_9 vpa2_10 vb2_11 vpb2_12 ++ wOut Γ q_ou (vp_updL vou (0 : Int32).toNatClampNeg y_15)) H := hP
  replace hD : va_D A (wBF Γ q_bf q_tx q_fl q_flT q_hi q_s1 q_s2 q_fd q_kc q_kr  ++ wFloor Γ q_fl q_k q_c q_a q_pa q_b q_pb vi_2 vj_3 vk vc va vpa vb vpb ++ wHist Γ q_hi q_hs vh_4 vhs ++ wFloor Γ q_fl2 q_k2 q_c2 q_a2 q_pa2 q_b2 q_pb2 vi2_5 vj2_6 vk2_7 vc2_8 va2_9 vpa2_10 vb2_11 vpb2_12 ++ wOut Γ q_ou (vp_updL vou (0 : Int32).toNatClampNeg y_15)) := hD
  subst ey_15
  refine lv_goto (tgt := 18) hx hb dL_addCrate_9 (by decide) ?_
  refine lv_iconst (v := (0 : Int32)) hx hb dL_addCrate_18 (by decide) ?_
  obtain ⟨hf0, hf1, hf2, hf3, hf4, hf5, hf6, hf7, hf8, hf9, hf10, hf11, hf12⟩ := si13 hm
  subst hf0
  subst hf1
  subst hf2
  subst hf3
  subst hf4
  subst hf5
  subst hf6
  subst hf7
  subst hf8
  subst hf9
  subst hf10
  subst hf11
  subst hf12
  exact W.widen (k := 2) (n := 12) (Nat.le_of_ble_eq_true rfl) (Nat.le_of_ble_eq_true rfl) (W.iret (v := (0 : Int32)) hx hb hr (fun t ht hW => ⟨⟨rfl, by rw [ht]; exact hP⟩, hS.F ht⟩) hS.2.2 dL_addCrate_19)
def mL_takeCrate (vi : Nat → Int32) (vj : Nat → Int64) (vk : Nat → Int32) (vc : Nat → Int32) (va : Nat → Int32) (vpa : Nat → Int32) (vb : Nat → Int32) (vpb : Nat → Int32) (vh : Nat → Int32) (vhs : Nat → Option Nat) (vi2 : Nat → Int32) (vj2 : Nat → Int64) (vk2 : Nat → Int32) (vc2 : Nat → Int32) (va2 : Nat → Int32) (vpa2 : Nat → Int32) (vb2 : Nat → Int32) (vpb2 : Nat → Int32) (vou : Nat → Int64) (q_fl2 : Nat) (x1 : Int32) : Option (Int32 × (Nat → Int32) × (Nat → Int64) × (Nat → Int32) × (Nat → Int32) × (Nat → Int64) × (Nat → Int32) × (Nat → Int32) × (Nat → Int32) × (Nat → Int32) × (Nat → Int32) × (Nat → Int32) × (Nat → Int64)) := (bo1 (mX8_takeCrate vi vj vk vc va vpa vb vpb vh vhs vi2 vj2 vk2 vc2 va2 vpa2 vb2 vpb2 q_fl2 x1) (fun mr_ => (bh12 mr_ (fun r_1 vi_2 vj_3 vh_4 vi2_5 vj2_6 vk2_7 vc2_8 va2_9 vpa2_10 vb2_11 vpb2_12 => (some ((0 : Int32), vi_2, vj_3, vh_4, vi2_5, vj2_6, vk2_7, vc2_8, va2_9, vpa2_10, vb2_11, vpb2_12, (vp_updL vou (0 : Int32).toNatClampNeg (r_1.toInt64))))) (fun E_ => (if E_ = "java/lang/IndexOutOfBoundsException" then (some ((1 : Int32), vi, vj, vh, vi2, vj2, vk2, vc2, va2, vpa2, vb2, vpb2, vou)) else (if E_ = "java/lang/IllegalStateException" then (some ((2 : Int32), vi, vj, vh, vi2, vj2, vk2, vc2, va2, vpa2, vb2, vpb2, vou)) else none))))))
set_option maxHeartbeats 4000000 in
set_option maxRecDepth 100000 in
theorem kL_takeCrate (l : Launch) (Γ : my_G) (hfl : l.stackTraces = false) (q_bf q_fl q_k q_c q_a q_pa q_b q_pb q_hi q_hs q_fl2 q_k2 q_c2 q_a2 q_pa2 q_b2 q_pb2 q_ou q_tx q_flT q_s1 q_s2 q_fd q_kc q_kr : Nat) (vi : Nat → Int32) (vj : Nat → Int64) (vk : Nat → Int32) (vc : Nat → Int32) (va : Nat → Int32) (vpa : Nat → Int32) (vb : Nat → Int32) (vpb : Nat → Int32) (vh : Nat → Int32) (vhs : Nat → Option Nat) (vi2 : Nat → Int32) (vj2 : Nat → Int64) (vk2 : Nat → Int32) (vc2 : Nat → Int32) (va2 : Nat → Int32) (vpa2 : Nat → Int32) (vb2 : Nat → Int32) (vpb2 : Nat → Int32) (vou : Nat → Int64) (x1 : Int32) (rr : Int32) (vi_z : Nat → Int32) (vj_z : Nat → Int64) (vh_z : Nat → Int32) (vi2_z : Nat → Int32) (vj2_z : Nat → Int64) (vk2_z : Nat → Int32) (vc2_z : Nat → Int32) (va2_z : Nat → Int32) (vpa2_z : Nat → Int32) (vb2_z : Nat → Int32) (vpb2_z : Nat → Int32) (vou_z : Nat → Int64) (hm : mL_takeCrate vi vj vk vc va vpa vb vpb vh vhs vi2 vj2 vk2 vc2 va2 vpa2 vb2 vpb2 vou q_fl2 x1 = (some (rr, vi_z, vj_z, vh_z, vi2_z, vj2_z, vk2_z, vc2_z, va2_z, vpa2_z, vb2_z, vpb2_z, vou_z))) : MnW l yL_takeCrate wsL_takeCrate ({ frames := 8, cells := 2, slots := 12, locals := 137 } : Room) Γ [.ref q_bf, .int x1, .ref q_ou] (wBF Γ q_bf q_tx q_fl q_flT q_hi q_s1 q_s2 q_fd q_kc q_kr  ++ wFloor Γ q_fl q_k q_c q_a q_pa q_b q_pb vi vj vk vc va vpa vb vpb ++ wHist Γ q_hi q_hs vh vhs ++ wFloor Γ q_fl2 q_k2 q_c2 q_a2 q_pa2 q_b2 q_pb2 vi2 vj2 vk2 vc2 va2 vpa2 vb2 vpb2 ++ wOut Γ q_ou vou) (some (.int rr)) (wBF Γ q_bf q_tx q_fl q_flT q_hi q_s1 q_s2 q_fd q_kc q_kr  ++ wFloor Γ q_fl q_k q_c q_a q_pa q_b q_pb vi_z vj_z vk vc va vpa vb vpb ++ wHist Γ q_hi q_hs vh_z vhs ++ wFloor Γ q_fl2 q_k2 q_c2 q_a2 q_pa2 q_b2 q_pb2 vi2_z vj2_z vk2_z vc2_z va2_z vpa2_z vb2_z vpb2_z ++ wOut Γ q_ou vou_z) 2 12 := by
  intro sz
  refine va_MetW (cc := cL_takeCrate) (maxL := 4) (ret := (some .int)) (by decide) rfl ?_
  intro p e s m args below meth c s₁ B hml hv
  obtain ⟨rfl, ⟨hsz, hP, hK, hD0⟩, hZ, hstr, hnc⟩ := hv
  have htab := vx_table (x := yL_takeCrate) (hh := [(0, 9, 12, 24), (0, 9, 15, 15)]) B (atoms_spec (ws := wsL_takeCrate) B.pre _ List.mem_cons_self)
  have hx := B.exec
  have hb := B.bytes
  have hr := B.returns
  have hts := atoms_spec (ws := wsL_takeCrate) B.pre
  have hown : s.vm.findClass RL = some m.cls := findClass_of_methodNamed B.named
  have hlocks := B.notSynchronized
  have hinX1 : ∀ w ∈ u_ws RX1 TX1 12, w ∈ wsL_takeCrate := fun w h => List.mem_cons_of_mem _ (List.mem_append_left _ (List.mem_append_left _ (List.mem_append_left _ (List.mem_append_left _ (List.mem_append_right _ h)))))
  have hinX3 : ∀ w ∈ u_ws RX3 TX3 3, w ∈ wsL_takeCrate := fun w h => List.mem_cons_of_mem _ (List.mem_append_left _ (List.mem_append_left _ (List.mem_append_left _ (List.mem_append_right _ h))))
  have hinX4 : ∀ w ∈ u_ws RX4 TX4 10, w ∈ wsL_takeCrate := fun w h => List.mem_cons_of_mem _ (List.mem_append_left _ (List.mem_append_left _ (List.mem_append_right _ h)))
  have hinX8 : ∀ w ∈ u_ws RX8 TX8 9, w ∈ wsL_takeCrate := fun w h => List.mem_cons_of_mem _ (List.mem_append_left _ (List.mem_append_left _ (List.mem_append_left _ (List.mem_append_left _ (List.mem_append_left _ (List.mem_append_right _ h))))))
  subst hsz
  have hD := hD0.self (sz := s.heap.size)
  have hA : ∀ q : Nat, s.heap.size ≤ q → va_A (wBF Γ q_bf q_tx q_fl q_flT q_hi q_s1 q_s2 q_fd q_kc q_kr  ++ wFloor Γ q_fl q_k q_c q_a q_pa q_b q_pb vi vj vk vc va vpa vb vpb ++ wHist Γ q_hi q_hs vh vhs ++ wFloor Γ q_fl2 q_k2 q_c2 q_a2 q_pa2 q_b2 q_pb2 vi2 vj2 vk2 vc2 va2 vpa2 vb2 vpb2 ++ wOut Γ q_ou vou) s.heap.size q := fun q h => Or.inr h
  generalize va_A (wBF Γ q_bf q_tx q_fl q_flT q_hi q_s1 q_s2 q_fd q_kc q_kr  ++ wFloor Γ q_fl q_k q_c q_a q_pa q_b q_pb vi vj vk vc va vpa vb vpb ++ wHist Γ q_hi q_hs vh vhs ++ wFloor Γ q_fl2 q_k2 q_c2 q_a2 q_pa2 q_b2 q_pb2 vi2 vj2 vk2 vc2 va2 vpa2 vb2 vpb2 ++ wOut Γ q_ou vou) s.heap.size = A at hD hA hZ ⊢
  have hS : va_S A s.heap s.heap [] := va_S.rf
  have hl := lv_entry ([.ref q_bf, .int x1, .ref q_ou]) (n := 4) (Nat.le_of_ble_eq_true rfl)
  rw [lg_entry_eq]
  generalize (lg_sl ([.ref q_bf, .int x1, .ref q_ou]) ++ List.replicate (4 - (lg_sl ([.ref q_bf, .int x1, .ref q_ou])).length) Slot.unset).toArray = ls at hl ⊢
  replace hl : lv_has ls 4 [(0, .ref q_bf), (1, .int x1), (2, .ref q_ou)] := hl
  unfold mL_takeCrate at hm
  refine lv_aload_n hx hb dL_takeCrate_0 rfl (lv_at hl 2 rfl) ?_
  refine lv_iconst (v := (0 : Int32)) hx hb dL_takeCrate_1 (by decide) ?_
  refine lv_aload_n hx hb dL_takeCrate_2 rfl (lv_at hl 0 rfl) ?_
  refine lv_iload_n hx hb dL_takeCrate_3 rfl (lv_at hl 1 rfl) ?_
  obtain ⟨mr_, hc0_, hm⟩ := bo1_s hm
  refine my_callPX (wc := (wBF Γ q_bf q_tx q_fl q_flT q_hi q_s1 q_s2 q_fd q_kc q_kr  ++ wFloor Γ q_fl q_k q_c q_a q_pa q_b q_pb vi vj vk vc va vpa vb vpb ++ wHist Γ q_hi q_hs vh vhs ++ wFloor Γ q_fl2 q_k2 q_c2 q_a2 q_pa2 q_b2 q_pb2 vi2 vj2 vk2 vc2 va2 vpa2 vb2 vpb2)) hP hD hS hA [0, 1, 2, 3, 4, 5, 6, 7, 8, 9, 10, 11, 12, 13, 14, 15, 16] rfl rfl (fun res w1 h9 => my_had2 h9 (fun q => rfl)) (vx_runV (As := [.int x1]) (rest := [.int (0 : Int32), .ref q_ou]) ⟨hx, hb, hml, hown, hts⟩ (kX8_takeCrate l Γ hfl q_bf q_fl q_k q_c q_a q_pa q_b q_pb q_hi q_hs q_fl2 q_k2 q_c2 q_a2 q_pa2 q_b2 q_pb2 q_tx q_flT q_s1 q_s2 q_fd q_kc q_kr vi vj vk vc va vpa vb vpb vh vhs vi2 vj2 vk2 vc2 va2 vpa2 vb2 vpb2 x1 mr_ hc0_ _) (cwV 1 hts gL_takeCrate_X8_takeCrate rfl rfl rfl (by decide +kernel) ⟨Nat.le_of_ble_eq_true rfl, Nat.le_of_ble_eq_true rfl⟩) (my_preVX (wc := (wBF Γ q_bf q_tx q_fl q_flT q_hi q_s1 q_s2 q_fd q_kc q_kr  ++ wFloor Γ q_fl q_k q_c q_a q_pa q_b q_pb vi vj vk vc va vpa vb vpb ++ wHist Γ q_hi q_hs vh vhs ++ wFloor Γ q_fl2 q_k2 q_c2 q_a2 q_pa2 q_b2 q_pb2 vi2 vj2 vk2 vc2 va2 vpa2 vb2 vpb2)) (ci := 6) (q0 := 0) [0, 1, 2, 3, 4, 5, 6, 7, 8, 9, 10, 11, 12, 13, 14, 15, 16] hK hP hD hS hA hZ hstr rfl rfl rfl rfl) rfl rfl hl.1 rfl (lv_room (Nat.le_of_ble_eq_true rfl)) dL_takeCrate_4 ⟨Nat.le_of_ble_eq_true rfl, Nat.le_of_ble_eq_true rfl⟩) (fun E_ H locs q9 ce hro hP hS h1_ h2_ h3_ => ?_) (fun res_ w1_ H locs hro hP hD hS => ?_)
  · rcases bh12_s hm with ⟨r_1, vi_2, vj_3, vh_4, vi2_5, vj2_6, vk2_7, vc2_8, va2_9, vpa2_10, vb2_11, vpb2_12, hc_, hm⟩ | ⟨E2_, hc_, hm⟩
    · rw [hc_] at hro; exact (my_map_lr hro).elim
    · rw [hc_] at hro
      have hE_ := my_map_rr hro
      subst hE_
      by_cases ck_13 : E2_ = "java/lang/IndexOutOfBoundsException"
      · replace hm := if_s hm ck_13
        subst ck_13
        refine vx_catch (name := "java/lang/IndexOutOfBoundsException") hown [] ⟨0, 9, 12, 24⟩ [⟨0, 9, 15, 15⟩] (htab.trans rfl) (fun z hz => nomatch hz) rfl (by decide) (hts (.classLink RL 24 "java/lang/IndexOutOfBoundsException") (List.mem_of_getElem? (i := 1) rfl)) (va_Nw.use rfl hstr.2.1) h1_ h2_ h3_ ?_
        refine lv_astore_n (lv' := [(3, .ref q9), (0, .ref q_bf), (1, .int x1), (2, .ref q_ou)]) hx hb dL_takeCrate_12 rfl hl (by decide) rfl (fun ls hl => ?_)
        refine lv_iconst (v := (1 : Int32)) hx hb dL_takeCrate_13 (by decide) ?_
        obtain ⟨hf0, hf1, hf2, hf3, hf4, hf5, hf6, hf7, hf8, hf9, hf10, hf11, hf12⟩ := si13 hm
        subst hf0
        subst hf1
        subst hf2
        subst hf3
        subst hf4
        subst hf5
        subst hf6
        subst hf7
        subst hf8
        subst hf9
        subst hf10
        subst hf11
        subst hf12
        exact W.widen (k := 2) (n := 12) (Nat.le_of_ble_eq_true rfl) (Nat.le_of_ble_eq_true rfl) (W.iret (v := (1 : Int32)) hx hb hr (fun t ht hW => ⟨⟨rfl, by rw [ht]; exact hP⟩, hS.F ht⟩) hS.2.2 dL_takeCrate_14)
      · replace hm := if_f hm ck_13
        by_cases ck_14 : E2_ = "java/lang/IllegalStateException"
        · replace hm := if_s hm ck_14
          subst ck_14
          refine vx_catch (name := "java/lang/IllegalStateException") hown [⟨0, 9, 12, 24⟩] ⟨0, 9, 15, 15⟩ [] (htab.trans rfl) (List.forall_mem_cons.mpr ⟨Or.inr ⟨by decide, "java/lang/IndexOutOfBoundsException", (hts (.classLink RL 24 "java/lang/IndexOutOfBoundsException") (List.mem_of_getElem? (i := 1) rfl)), hnc ("java/lang/IllegalStateException", "java/lang/IndexOutOfBoundsException") (by decide)⟩, (fun z hz => nomatch hz)⟩) rfl (by decide) (hts (.classLink RL 15 "java/lang/IllegalStateException") (List.mem_of_getElem? (i := 2) rfl)) (va_Nw.use rfl hstr.2.2.2.1) h1_ h2_ h3_ ?_
          refine lv_astore_n (lv' := [(3, .ref q9), (0, .ref q_bf), (1, .int x1), (2, .ref q_ou)]) hx hb dL_takeCrate_15 rfl hl (by decide) rfl (fun ls hl => ?_)
          refine lv_iconst (v := (2 : Int32)) hx hb dL_takeCrate_16 (by decide) ?_
          obtain ⟨hf0, hf1, hf2, hf3, hf4, hf5, hf6, hf7, hf8, hf9, hf10, hf11, hf12⟩ := si13 hm
          subst hf0
          subst hf1
          subst hf2
          subst hf3
          subst hf4
          subst hf5
          subst hf6
          subst hf7
          subst hf8
          subst hf9
          subst hf10
          subst hf11
          subst hf12
          exact W.widen (k := 2) (n := 12) (Nat.le_of_ble_eq_true rfl) (Nat.le_of_ble_eq_true rfl) (W.iret (v := (2 : Int32)) hx hb hr (fun t ht hW => ⟨⟨rfl, by rw [ht]; exact hP⟩, hS.F ht⟩) hS.2.2 dL_takeCrate_17)
        · replace hm := if_f hm ck_14
          cases hm
  rcases bh12_s hm with ⟨r_1, vi_2, vj_3, vh_4, vi2_5, vj2_6, vk2_7, vc2_8, va2_9, vpa2_10, vb2_11, vpb2_12, hc_, hm⟩ | ⟨E2_, hc_, hm⟩
  rotate_left
  · rw [hc_] at hro; exact (my_map_rl hro).elim
  rw [hc_] at hro
  obtain ⟨rfl, rfl⟩ := my_map_ll hro
  replace hP : va_P (my_D Γ) vwCl (wBF Γ q_bf q_tx q_fl q_flT q_hi q_s1 q_s2 q_fd q_kc q_kr  ++ wFloor Γ q_fl q_k q_c q_a q_pa q_b q_pb vi_2 vj_3 vk vc va vpa vb vpb ++ wHist Γ q_hi q_hs vh_4 vhs ++ wFloor Γ q_fl2 q_k2 q_c2 q_a2 q_pa2 q_b2 q_pb2 vi2_5 vj2_6 vk2_7 vc2_8 va2_9 vpa2_10 vb2_11 vpb2_12 ++ wOut Γ q_ou vou) H := hP
  replace hD : va_D A (wBF Γ q_bf q_tx q_fl q_flT q_hi q_s1 q_s2 q_fd q_kc q_kr  ++ wFloor Γ q_fl q_k q_c q_a q_pa q_b q_pb vi_2 vj_3 vk vc va vpa vb vpb ++ wHist Γ q_hi q_hs vh_4 vhs ++ wFloor Γ q_fl2 q_k2 q_c2 q_a2 q_pa2 q_b2 q_pb2 vi2_5 vj2_6 vk2_7 vc2_8 va2_9 vpa2_10 vb2_11 vpb2_12 ++ wOut Γ q_ou vou) := hD
  refine lv_i2l (v := r_1.toInt64) hx hb dL_takeCrate_7 rfl ?_
  refine lv_topl (fun y_15 ey_15 => ?_)
  refine va_last hx hb hK hP hD hS 17 1 rfl rfl (show vp_in (0 : Int32) 1 from (by decide : ¬ ((0 : Int32) < 0 ∨ 1 ≤ (0 : Int32).toNatClampNeg))) dL_takeCrate_8 (fun H locs hP hD hS => ?_)
  replace hP : va_P (my_D Γ) vwCl (wBF Γ q_bf q_tx q_fl q_flT q_hi q_s1 q_s2 q_fd q_kc q_kr  ++ wFloor Γ q_fl q_k q_c q_a q_pa q_b q_pb vi_2 vj_3 vk vc va vpa vb vpb ++ wHist Γ q_hi q_hs vh_4 vhs ++ wFloor Γ q_fl2 q_k2 q_c2 q_a2 q_pa2 q_b2 q_pb2 vi2_5 vj2_6 vk2_7 vc2_8 va2_9 vpa2_10 vb2_11 vpb2_12 ++ wOut Γ q_ou (vp_updL vou (0 : Int32).toNatClampNeg y_15)) H := hP
  replace hD : va_D A (wBF Γ q_bf q_tx q_fl q_flT q_hi q_s1 q_s2 q_fd q_kc q_kr  ++ wFloor Γ q_fl q_k q_c q_a q_pa q_b q_pb vi_2 vj_3 vk vc va vpa vb vpb ++ wHist Γ q_hi q_hs vh_4 vhs ++ wFloor Γ q_fl2 q_k2 q_c2 q_a2 q_pa2 q_b2 q_pb2 vi2_5 vj2_6 vk2_7 vc2_8 va2_9 vpa2_10 vb2_11 vpb2_12 ++ wOut Γ q_ou (vp_updL vou (0 : Int32).toNatClampNeg y_15)) := hD
  subst ey_15
  refine lv_goto (tgt := 18) hx hb dL_takeCrate_9 (by decide) ?_
  refine lv_iconst (v := (0 : Int32)) hx hb dL_takeCrate_18 (by decide) ?_
  obtain ⟨hf0, hf1, hf2, hf3, hf4, hf5, hf6, hf7, hf8, hf9, hf10, hf11, hf12⟩ := si13 hm
  subst hf0
  subst hf1
  subst hf2
  subst hf3
  subst hf4
  subst hf5
  subst hf6
  subst hf7
  subst hf8
  subst hf9
  subst hf10
  subst hf11
  subst hf12
  exact W.widen (k := 2) (n := 12) (Nat.le_of_ble_eq_true rfl) (Nat.le_of_ble_eq_true rfl) (W.iret (v := (0 : Int32)) hx hb hr (fun t ht hW => ⟨⟨rfl, by rw [ht]; exact hP⟩, hS.F ht⟩) hS.2.2 dL_takeCrate_19)
def mL_addCheckpoint (vi : Nat → Int32) (vj : Nat → Int64) (vk : Nat → Int32) (vc : Nat → Int32) (va : Nat → Int32) (vpa : Nat → Int32) (vb : Nat → Int32) (vpb : Nat → Int32) (vh : Nat → Int32) (vhs : Nat → Option Nat) (vi2 : Nat → Int32) (vj2 : Nat → Int64) (vk2 : Nat → Int32) (vc2 : Nat → Int32) (va2 : Nat → Int32) (vpa2 : Nat → Int32) (vb2 : Nat → Int32) (vpb2 : Nat → Int32) (vou : Nat → Int64) (q_fl2 : Nat) (x1 : Int32) : Option (Int32 × (Nat → Int32) × (Nat → Int32) × (Nat → Int32) × (Nat → Int32) × (Nat → Int64) × (Nat → Int32) × (Nat → Int32) × (Nat → Int32) × (Nat → Int32) × (Nat → Int32) × (Nat → Int32) × (Nat → Int64)) := (bo1 (mX8_addCheckpoint vi vj vk vc va vpa vb vpb vh vhs vi2 vj2 vk2 vc2 va2 vpa2 vb2 vpb2 q_fl2 x1) (fun mr_ => (bh12 mr_ (fun r_1 vi_2 vc_3 vh_4 vi2_5 vj2_6 vk2_7 vc2_8 va2_9 vpa2_10 vb2_11 vpb2_12 => (some ((0 : Int32), vi_2, vc_3, vh_4, vi2_5, vj2_6, vk2_7, vc2_8, va2_9, vpa2_10, vb2_11, vpb2_12, (vp_updL vou (0 : Int32).toNatClampNeg (r_1.toInt64))))) (fun E_ => (if E_ = "java/lang/IndexOutOfBoundsException" then (some ((1 : Int32), vi, vc, vh, vi2, vj2, vk2, vc2, va2, vpa2, vb2, vpb2, vou)) else (if E_ = "java/lang/IllegalStateException" then (some ((2 : Int32), vi, vc, vh, vi2, vj2, vk2, vc2, va2, vpa2, vb2, vpb2, vou)) else none))))))
set_option maxHeartbeats 4000000 in
set_option maxRecDepth 100000 in
theorem kL_addCheckpoint (l : Launch) (Γ : my_G) (hfl : l.stackTraces = false) (q_bf q_fl q_k q_c q_a q_pa q_b q_pb q_hi q_hs q_fl2 q_k2 q_c2 q_a2 q_pa2 q_b2 q_pb2 q_ou q_tx q_flT q_s1 q_s2 q_fd q_kc q_kr : Nat) (vi : Nat → Int32) (vj : Nat → Int64) (vk : Nat → Int32) (vc : Nat → Int32) (va : Nat → Int32) (vpa : Nat → Int32) (vb : Nat → Int32) (vpb : Nat → Int32) (vh : Nat → Int32) (vhs : Nat → Option Nat) (vi2 : Nat → Int32) (vj2 : Nat → Int64) (vk2 : Nat → Int32) (vc2 : Nat → Int32) (va2 : Nat → Int32) (vpa2 : Nat → Int32) (vb2 : Nat → Int32) (vpb2 : Nat → Int32) (vou : Nat → Int64) (x1 : Int32) (rr : Int32) (vi_z : Nat → Int32) (vc_z : Nat → Int32) (vh_z : Nat → Int32) (vi2_z : Nat → Int32) (vj2_z : Nat → Int64) (vk2_z : Nat → Int32) (vc2_z : Nat → Int32) (va2_z : Nat → Int32) (vpa2_z : Nat → Int32) (vb2_z : Nat → Int32) (vpb2_z : Nat → Int32) (vou_z : Nat → Int64) (hm : mL_addCheckpoint vi vj vk vc va vpa vb vpb vh vhs vi2 vj2 vk2 vc2 va2 vpa2 vb2 vpb2 vou q_fl2 x1 = (some (rr, vi_z, vc_z, vh_z, vi2_z, vj2_z, vk2_z, vc2_z, va2_z, vpa2_z, vb2_z, vpb2_z, vou_z))) : MnW l yL_addCheckpoint wsL_addCheckpoint ({ frames := 8, cells := 2, slots := 12, locals := 137 } : Room) Γ [.ref q_bf, .int x1, .ref q_ou] (wBF Γ q_bf q_tx q_fl q_flT q_hi q_s1 q_s2 q_fd q_kc q_kr  ++ wFloor Γ q_fl q_k q_c q_a q_pa q_b q_pb vi vj vk vc va vpa vb vpb ++ wHist Γ q_hi q_hs vh vhs ++ wFloor Γ q_fl2 q_k2 q_c2 q_a2 q_pa2 q_b2 q_pb2 vi2 vj2 vk2 vc2 va2 vpa2 vb2 vpb2 ++ wOut Γ q_ou vou) (some (.int rr)) (wBF Γ q_bf q_tx q_fl q_flT q_hi q_s1 q_s2 q_fd q_kc q_kr  ++ wFloor Γ q_fl q_k q_c q_a q_pa q_b q_pb vi_z vj vk vc_z va vpa vb vpb ++ wHist Γ q_hi q_hs vh_z vhs ++ wFloor Γ q_fl2 q_k2 q_c2 q_a2 q_pa2 q_b2 q_pb2 vi2_z vj2_z vk2_z vc2_z va2_z vpa2_z vb2_z vpb2_z ++ wOut Γ q_ou vou_z) 2 12 := by
  intro sz
  refine va_MetW (cc := cL_addCheckpoint) (maxL := 4) (ret := (some .int)) (by decide) rfl ?_
  intro p e s m args below meth c s₁ B hml hv
  obtain ⟨rfl, ⟨hsz, hP, hK, hD0⟩, hZ, hstr, hnc⟩ := hv
  have htab := vx_table (x := yL_addCheckpoint) (hh := [(0, 9, 12, 24), (0, 9, 15, 15)]) B (atoms_spec (ws := wsL_addCheckpoint) B.pre _ List.mem_cons_self)
  have hx := B.exec
  have hb := B.bytes
  have hr := B.returns
  have hts := atoms_spec (ws := wsL_addCheckpoint) B.pre
  have hown : s.vm.findClass RL = some m.cls := findClass_of_methodNamed B.named
  have hlocks := B.notSynchronized
  have hinX1 : ∀ w ∈ u_ws RX1 TX1 12, w ∈ wsL_addCheckpoint := fun w h => List.mem_cons_of_mem _ (List.mem_append_left _ (List.mem_append_left _ (List.mem_append_left _ (List.mem_append_left _ (List.mem_append_right _ h)))))
  have hinX3 : ∀ w ∈ u_ws RX3 TX3 3, w ∈ wsL_addCheckpoint := fun w h => List.mem_cons_of_mem _ (List.mem_append_left _ (List.mem_append_left _ (List.mem_append_left _ (List.mem_append_right _ h))))
  have hinX4 : ∀ w ∈ u_ws RX4 TX4 10, w ∈ wsL_addCheckpoint := fun w h => List.mem_cons_of_mem _ (List.mem_append_left _ (List.mem_append_left _ (List.mem_append_right _ h)))
  have hinX8 : ∀ w ∈ u_ws RX8 TX8 9, w ∈ wsL_addCheckpoint := fun w h => List.mem_cons_of_mem _ (List.mem_append_left _ (List.mem_append_left _ (List.mem_append_left _ (List.mem_append_left _ (List.mem_append_left _ (List.mem_append_right _ h))))))
  subst hsz
  have hD := hD0.self (sz := s.heap.size)
  have hA : ∀ q : Nat, s.heap.size ≤ q → va_A (wBF Γ q_bf q_tx q_fl q_flT q_hi q_s1 q_s2 q_fd q_kc q_kr  ++ wFloor Γ q_fl q_k q_c q_a q_pa q_b q_pb vi vj vk vc va vpa vb vpb ++ wHist Γ q_hi q_hs vh vhs ++ wFloor Γ q_fl2 q_k2 q_c2 q_a2 q_pa2 q_b2 q_pb2 vi2 vj2 vk2 vc2 va2 vpa2 vb2 vpb2 ++ wOut Γ q_ou vou) s.heap.size q := fun q h => Or.inr h
  generalize va_A (wBF Γ q_bf q_tx q_fl q_flT q_hi q_s1 q_s2 q_fd q_kc q_kr  ++ wFloor Γ q_fl q_k q_c q_a q_pa q_b q_pb vi vj vk vc va vpa vb vpb ++ wHist Γ q_hi q_hs vh vhs ++ wFloor Γ q_fl2 q_k2 q_c2 q_a2 q_pa2 q_b2 q_pb2 vi2 vj2 vk2 vc2 va2 vpa2 vb2 vpb2 ++ wOut Γ q_ou vou) s.heap.size = A at hD hA hZ ⊢
  have hS : va_S A s.heap s.heap [] := va_S.rf
  have hl := lv_entry ([.ref q_bf, .int x1, .ref q_ou]) (n := 4) (Nat.le_of_ble_eq_true rfl)
  rw [lg_entry_eq]
  generalize (lg_sl ([.ref q_bf, .int x1, .ref q_ou]) ++ List.replicate (4 - (lg_sl ([.ref q_bf, .int x1, .ref q_ou])).length) Slot.unset).toArray = ls at hl ⊢
  replace hl : lv_has ls 4 [(0, .ref q_bf), (1, .int x1), (2, .ref q_ou)] := hl
  unfold mL_addCheckpoint at hm
  refine lv_aload_n hx hb dL_addCheckpoint_0 rfl (lv_at hl 2 rfl) ?_
  refine lv_iconst (v := (0 : Int32)) hx hb dL_addCheckpoint_1 (by decide) ?_
  refine lv_aload_n hx hb dL_addCheckpoint_2 rfl (lv_at hl 0 rfl) ?_
  refine lv_iload_n hx hb dL_addCheckpoint_3 rfl (lv_at hl 1 rfl) ?_
  obtain ⟨mr_, hc0_, hm⟩ := bo1_s hm
  refine my_callPX (wc := (wBF Γ q_bf q_tx q_fl q_flT q_hi q_s1 q_s2 q_fd q_kc q_kr  ++ wFloor Γ q_fl q_k q_c q_a q_pa q_b q_pb vi vj vk vc va vpa vb vpb ++ wHist Γ q_hi q_hs vh vhs ++ wFloor Γ q_fl2 q_k2 q_c2 q_a2 q_pa2 q_b2 q_pb2 vi2 vj2 vk2 vc2 va2 vpa2 vb2 vpb2)) hP hD hS hA [0, 1, 2, 3, 4, 5, 6, 7, 8, 9, 10, 11, 12, 13, 14, 15, 16] rfl rfl (fun res w1 h9 => my_had2 h9 (fun q => rfl)) (vx_runV (As := [.int x1]) (rest := [.int (0 : Int32), .ref q_ou]) ⟨hx, hb, hml, hown, hts⟩ (kX8_addCheckpoint l Γ hfl q_bf q_fl q_k q_c q_a q_pa q_b q_pb q_hi q_hs q_fl2 q_k2 q_c2 q_a2 q_pa2 q_b2 q_pb2 q_tx q_flT q_s1 q_s2 q_fd q_kc q_kr vi vj vk vc va vpa vb vpb vh vhs vi2 vj2 vk2 vc2 va2 vpa2 vb2 vpb2 x1 mr_ hc0_ _) (cwV 1 hts gL_addCheckpoint_X8_addCheckpoint rfl rfl rfl (by decide +kernel) ⟨Nat.le_of_ble_eq_true rfl, Nat.le_of_ble_eq_true rfl⟩) (my_preVX (wc := (wBF Γ q_bf q_tx q_fl q_flT q_hi q_s1 q_s2 q_fd q_kc q_kr  ++ wFloor Γ q_fl q_k q_c q_a q_pa q_b q_pb vi vj vk vc va vpa vb vpb ++ wHist Γ q_hi q_hs vh vhs ++ wFloor Γ q_fl2 q_k2 q_c2 q_a2 q_pa2 q_b2 q_pb2 vi2 vj2 vk2 vc2 va2 vpa2 vb2 vpb2)) (ci := 6) (q0 := 0) [0, 1, 2, 3, 4, 5, 6, 7, 8, 9, 10, 11, 12, 13, 14, 15, 16] hK hP hD hS hA hZ hstr rfl rfl rfl rfl) rfl rfl hl.1 rfl (lv_room (Nat.le_of_ble_eq_true rfl)) dL_addCheckpoint_4 ⟨Nat.le_of_ble_eq_true rfl, Nat.le_of_ble_eq_true rfl⟩) (fun E_ H locs q9 ce hro hP hS h1_ h2_ h3_ => ?_) (fun res_ w1_ H locs hro hP hD hS => ?_)
  · rcases bh12_s hm with ⟨r_1, vi_2, vc_3, vh_4, vi2_5, vj2_6, vk2_7, vc2_8, va2_9, vpa2_10, vb2_11, vpb2_12, hc_, hm⟩ | ⟨E2_, hc_, hm⟩
    · rw [hc_] at hro; exact (my_map_lr hro).elim
    · rw [hc_] at hro
      have hE_ := my_map_rr hro
      subst hE_
      by_cases ck_13 : E2_ = "java/lang/IndexOutOfBoundsException"
      · replace hm := if_s hm ck_13
        subst ck_13
        refine vx_catch (name := "java/lang/IndexOutOfBoundsException") hown [] ⟨0, 9, 12, 24⟩ [⟨0, 9, 15, 15⟩] (htab.trans rfl) (fun z hz => nomatch hz) rfl (by decide) (hts (.classLink RL 24 "java/lang/IndexOutOfBoundsException") (List.mem_of_getElem? (i := 1) rfl)) (va_Nw.use rfl hstr.2.1) h1_ h2_ h3_ ?_
        refine lv_astore_n (lv' := [(3, .ref q9), (0, .ref q_bf), (1, .int x1), (2, .ref q_ou)]) hx hb dL_addCheckpoint_12 rfl hl (by decide) rfl (fun ls hl => ?_)
        refine lv_iconst (v := (1 : Int32)) hx hb dL_addCheckpoint_13 (by decide) ?_
        obtain ⟨hf0, hf1, hf2, hf3, hf4, hf5, hf6, hf7, hf8, hf9, hf10, hf11, hf12⟩ := si13 hm
        subst hf0
        subst hf1
        subst hf2
        subst hf3
        subst hf4
        subst hf5
        subst hf6
        subst hf7
        subst hf8
        subst hf9
        subst hf10
        subst hf11
        subst hf12
        exact W.widen (k := 2) (n := 12) (Nat.le_of_ble_eq_true rfl) (Nat.le_of_ble_eq_true rfl) (W.iret (v := (1 : Int32)) hx hb hr (fun t ht hW => ⟨⟨rfl, by rw [ht]; exact hP⟩, hS.F ht⟩) hS.2.2 dL_addCheckpoint_14)
      · replace hm := if_f hm ck_13
        by_cases ck_14 : E2_ = "java/lang/IllegalStateException"
        · replace hm := if_s hm ck_14
          subst ck_14
          refine vx_catch (name := "java/lang/IllegalStateException") hown [⟨0, 9, 12, 24⟩] ⟨0, 9, 15, 15⟩ [] (htab.trans rfl) (List.forall_mem_cons.mpr ⟨Or.inr ⟨by decide, "java/lang/IndexOutOfBoundsException", (hts (.classLink RL 24 "java/lang/IndexOutOfBoundsException") (List.mem_of_getElem? (i := 1) rfl)), hnc ("java/lang/IllegalStateException", "java/lang/IndexOutOfBoundsException") (by decide)⟩, (fun z hz => nomatch hz)⟩) rfl (by decide) (hts (.classLink RL 15 "java/lang/IllegalStateException") (List.mem_of_getElem? (i := 2) rfl)) (va_Nw.use rfl hstr.2.2.2.1) h1_ h2_ h3_ ?_
          refine lv_astore_n (lv' := [(3, .ref q9), (0, .ref q_bf), (1, .int x1), (2, .ref q_ou)]) hx hb dL_addCheckpoint_15 rfl hl (by decide) rfl (fun ls hl => ?_)
          refine lv_iconst (v := (2 : Int32)) hx hb dL_addCheckpoint_16 (by decide) ?_
          obtain ⟨hf0, hf1, hf2, hf3, hf4, hf5, hf6, hf7, hf8, hf9, hf10, hf11, hf12⟩ := si13 hm
          subst hf0
          subst hf1
          subst hf2
          subst hf3
          subst hf4
          subst hf5
          subst hf6
          subst hf7
          subst hf8
          subst hf9
          subst hf10
          subst hf11
          subst hf12
          exact W.widen (k := 2) (n := 12) (Nat.le_of_ble_eq_true rfl) (Nat.le_of_ble_eq_true rfl) (W.iret (v := (2 : Int32)) hx hb hr (fun t ht hW => ⟨⟨rfl, by rw [ht]; exact hP⟩, hS.F ht⟩) hS.2.2 dL_addCheckpoint_17)
        · replace hm := if_f hm ck_14
          cases hm
  rcases bh12_s hm with ⟨r_1, vi_2, vc_3, vh_4, vi2_5, vj2_6, vk2_7, vc2_8, va2_9, vpa2_10, vb2_11, vpb2_12, hc_, hm⟩ | ⟨E2_, hc_, hm⟩
  rotate_left
  · rw [hc_] at hro; exact (my_map_rl hro).elim
  rw [hc_] at hro
  obtain ⟨rfl, rfl⟩ := my_map_ll hro
  replace hP : va_P (my_D Γ) vwCl (wBF Γ q_bf q_tx q_fl q_flT q_hi q_s1 q_s2 q_fd q_kc q_kr  ++ wFloor Γ q_fl q_k q_c q_a q_pa q_b q_pb vi_2 vj vk vc_3 va vpa vb vpb ++ wHist Γ q_hi q_hs vh_4 vhs ++ wFloor Γ q_fl2 q_k2 q_c2 q_a2 q_pa2 q_b2 q_pb2 vi2_5 vj2_6 vk2_7 vc2_8 va2_9 vpa2_10 vb2_11 vpb2_12 ++ wOut Γ q_ou vou) H := hP
  replace hD : va_D A (wBF Γ q_bf q_tx q_fl q_flT q_hi q_s1 q_s2 q_fd q_kc q_kr  ++ wFloor Γ q_fl q_k q_c q_a q_pa q_b q_pb vi_2 vj vk vc_3 va vpa vb vpb ++ wHist Γ q_hi q_hs vh_4 vhs ++ wFloor Γ q_fl2 q_k2 q_c2 q_a2 q_pa2 q_b2 q_pb2 vi2_5 vj2_6 vk2_7 vc2_8 va2_9 vpa2_10 vb2_11 vpb2_12 ++ wOut Γ q_ou vou) := hD
  refine lv_i2l (v := r_1.toInt64) hx hb dL_addCheckpoint_7 rfl ?_
  refine lv_topl (fun y_15 ey_15 => ?_)
  refine va_last hx hb hK hP hD hS 17 1 rfl rfl (show vp_in (0 : Int32) 1 from (by decide : ¬ ((0 : Int32) < 0 ∨ 1 ≤ (0 : Int32).toNatClampNeg))) dL_addCheckpoint_8 (fun H locs hP hD hS => ?_)
  replace hP : va_P (my_D Γ) vwCl (wBF Γ q_bf q_tx q_fl q_flT q_hi q_s1 q_s2 q_fd q_kc q_kr  ++ wFloor Γ q_fl q_k q_c q_a q_pa q_b q_pb vi_2 vj vk vc_3 va vpa vb vpb ++ wHist Γ q_hi q_hs vh_4 vhs ++ wFloor Γ q_fl2 q_k2 q_c2 q_a2 q_pa2 q_b2 q_pb2 vi2_5 vj2_6 vk2_7 vc2_8 va2_9 vpa2_10 vb2_11 vpb2_12 ++ wOut Γ q_ou (vp_updL vou (0 : Int32).toNatClampNeg y_15)) H := hP
  replace hD : va_D A (wBF Γ q_bf q_tx q_fl q_flT q_hi q_s1 q_s2 q_fd q_kc q_kr  ++ wFloor Γ q_fl q_k q_c q_a q_pa q_b q_pb vi_2 vj vk vc_3 va vpa vb vpb ++ wHist Γ q_hi q_hs vh_4 vhs ++ wFloor Γ q_fl2 q_k2 q_c2 q_a2 q_pa2 q_b2 q_pb2 vi2_5 vj2_6 vk2_7 vc2_8 va2_9 vpa2_10 vb2_11 vpb2_12 ++ wOut Γ q_ou (vp_updL vou (0 : Int32).toNatClampNeg y_15)) := hD
  subst ey_15
  refine lv_goto (tgt := 18) hx hb dL_addCheckpoint_9 (by decide) ?_
  refine lv_iconst (v := (0 : Int32)) hx hb dL_addCheckpoint_18 (by decide) ?_
  obtain ⟨hf0, hf1, hf2, hf3, hf4, hf5, hf6, hf7, hf8, hf9, hf10, hf11, hf12⟩ := si13 hm
  subst hf0
  subst hf1
  subst hf2
  subst hf3
  subst hf4
  subst hf5
  subst hf6
  subst hf7
  subst hf8
  subst hf9
  subst hf10
  subst hf11
  subst hf12
  exact W.widen (k := 2) (n := 12) (Nat.le_of_ble_eq_true rfl) (Nat.le_of_ble_eq_true rfl) (W.iret (v := (0 : Int32)) hx hb hr (fun t ht hW => ⟨⟨rfl, by rw [ht]; exact hP⟩, hS.F ht⟩) hS.2.2 dL_addCheckpoint_19)
def mL_putRobot (vi : Nat → Int32) (vj : Nat → Int64) (vk : Nat → Int32) (vc : Nat → Int32) (va : Nat → Int32) (vpa : Nat → Int32) (vb : Nat → Int32) (vpb : Nat → Int32) (vh : Nat → Int32) (vhs : Nat → Option Nat) (vi2 : Nat → Int32) (vj2 : Nat → Int64) (vk2 : Nat → Int32) (vc2 : Nat → Int32) (va2 : Nat → Int32) (vpa2 : Nat → Int32) (vb2 : Nat → Int32) (vpb2 : Nat → Int32) (vou : Nat → Int64) (q_fl2 : Nat) (x1 : Int32) (x2 : Int32) (x3 : Int32) : Option (Int32 × (Nat → Int32) × (Nat → Int32) × (Nat → Int32) × (Nat → Int32) × (Nat → Int64) × (Nat → Int32) × (Nat → Int32) × (Nat → Int32) × (Nat → Int32) × (Nat → Int32) × (Nat → Int32) × (Nat → Int64)) := (bo1 (mX8_putRobot vi vj vk vc va vpa vb vpb vh vhs vi2 vj2 vk2 vc2 va2 vpa2 vb2 vpb2 q_fl2 x1 x2 x3) (fun mr_ => (bh12 mr_ (fun r_1 va_2 vb_3 vh_4 vi2_5 vj2_6 vk2_7 vc2_8 va2_9 vpa2_10 vb2_11 vpb2_12 => (some ((0 : Int32), va_2, vb_3, vh_4, vi2_5, vj2_6, vk2_7, vc2_8, va2_9, vpa2_10, vb2_11, vpb2_12, (vp_updL vou (0 : Int32).toNatClampNeg (r_1.toInt64))))) (fun E_ => (if E_ = "java/lang/IndexOutOfBoundsException" then (some ((1 : Int32), va, vb, vh, vi2, vj2, vk2, vc2, va2, vpa2, vb2, vpb2, vou)) else (if E_ = "java/lang/IllegalArgumentException" then (some ((2 : Int32), va, vb, vh, vi2, vj2, vk2, vc2, va2, vpa2, vb2, vpb2, vou)) else (if E_ = "java/lang/IllegalStateException" then (some ((3 : Int32), va, vb, vh, vi2, vj2, vk2, vc2, va2, vpa2, vb2, vpb2, vou)) else none)))))))
set_option maxHeartbeats 4000000 in
set_option maxRecDepth 100000 in
theorem kL_putRobot (l : Launch) (Γ : my_G) (hfl : l.stackTraces = false) (q_bf q_fl q_k q_c q_a q_pa q_b q_pb q_hi q_hs q_fl2 q_k2 q_c2 q_a2 q_pa2 q_b2 q_pb2 q_ou q_tx q_flT q_s1 q_s2 q_fd q_kc q_kr : Nat) (vi : Nat → Int32) (vj : Nat → Int64) (vk : Nat → Int32) (vc : Nat → Int32) (va : Nat → Int32) (vpa : Nat → Int32) (vb : Nat → Int32) (vpb : Nat → Int32) (vh : Nat → Int32) (vhs : Nat → Option Nat) (vi2 : Nat → Int32) (vj2 : Nat → Int64) (vk2 : Nat → Int32) (vc2 : Nat → Int32) (va2 : Nat → Int32) (vpa2 : Nat → Int32) (vb2 : Nat → Int32) (vpb2 : Nat → Int32) (vou : Nat → Int64) (x1 : Int32) (x2 : Int32) (x3 : Int32) (rr : Int32) (va_z : Nat → Int32) (vb_z : Nat → Int32) (vh_z : Nat → Int32) (vi2_z : Nat → Int32) (vj2_z : Nat → Int64) (vk2_z : Nat → Int32) (vc2_z : Nat → Int32) (va2_z : Nat → Int32) (vpa2_z : Nat → Int32) (vb2_z : Nat → Int32) (vpb2_z : Nat → Int32) (vou_z : Nat → Int64) (hm : mL_putRobot vi vj vk vc va vpa vb vpb vh vhs vi2 vj2 vk2 vc2 va2 vpa2 vb2 vpb2 vou q_fl2 x1 x2 x3 = (some (rr, va_z, vb_z, vh_z, vi2_z, vj2_z, vk2_z, vc2_z, va2_z, vpa2_z, vb2_z, vpb2_z, vou_z))) : MnW l yL_putRobot wsL_putRobot ({ frames := 8, cells := 3, slots := 18, locals := 140 } : Room) Γ [.ref q_bf, .int x1, .int x2, .int x3, .ref q_ou] (wBF Γ q_bf q_tx q_fl q_flT q_hi q_s1 q_s2 q_fd q_kc q_kr  ++ wFloor Γ q_fl q_k q_c q_a q_pa q_b q_pb vi vj vk vc va vpa vb vpb ++ wHist Γ q_hi q_hs vh vhs ++ wFloor Γ q_fl2 q_k2 q_c2 q_a2 q_pa2 q_b2 q_pb2 vi2 vj2 vk2 vc2 va2 vpa2 vb2 vpb2 ++ wOut Γ q_ou vou) (some (.int rr)) (wBF Γ q_bf q_tx q_fl q_flT q_hi q_s1 q_s2 q_fd q_kc q_kr  ++ wFloor Γ q_fl q_k q_c q_a q_pa q_b q_pb vi vj vk vc va_z vpa vb_z vpb ++ wHist Γ q_hi q_hs vh_z vhs ++ wFloor Γ q_fl2 q_k2 q_c2 q_a2 q_pa2 q_b2 q_pb2 vi2_z vj2_z vk2_z vc2_z va2_z vpa2_z vb2_z vpb2_z ++ wOut Γ q_ou vou_z) 3 18 := by
  intro sz
  refine va_MetW (cc := cL_putRobot) (maxL := 6) (ret := (some .int)) (by decide) rfl ?_
  intro p e s m args below meth c s₁ B hml hv
  obtain ⟨rfl, ⟨hsz, hP, hK, hD0⟩, hZ, hstr, hnc⟩ := hv
  have htab := vx_table (x := yL_putRobot) (hh := [(0, 12, 15, 24), (0, 12, 19, 13), (0, 12, 23, 15)]) B (atoms_spec (ws := wsL_putRobot) B.pre _ List.mem_cons_self)
  have hx := B.exec
  have hb := B.bytes
  have hr := B.returns
  have hts := atoms_spec (ws := wsL_putRobot) B.pre
  have hown : s.vm.findClass RL = some m.cls := findClass_of_methodNamed B.named
  have hlocks := B.notSynchronized
  have hinX1 : ∀ w ∈ u_ws RX1 TX1 12, w ∈ wsL_putRobot := fun w h => List.mem_cons_of_mem _ (List.mem_append_left _ (List.mem_append_left _ (List.mem_append_left _ (List.mem_append_left _ (List.mem_append_right _ h)))))
  have hinX3 : ∀ w ∈ u_ws RX3 TX3 3, w ∈ wsL_putRobot := fun w h => List.mem_cons_of_mem _ (List.mem_append_left _ (List.mem_append_left _ (List.mem_append_left _ (List.mem_append_right _ h))))
  have hinX4 : ∀ w ∈ u_ws RX4 TX4 10, w ∈ wsL_putRobot := fun w h => List.mem_cons_of_mem _ (List.mem_append_left _ (List.mem_append_left _ (List.mem_append_left _ (List.mem_append_left _ (List.mem_append_left _ (List.mem_append_right _ h))))))
  have hinX8 : ∀ w ∈ u_ws RX8 TX8 9, w ∈ wsL_putRobot := fun w h => List.mem_cons_of_mem _ (List.mem_append_left _ (List.mem_append_left _ (List.mem_append_left _ (List.mem_append_left _ (List.mem_append_left _ (List.mem_append_left _ (List.mem_append_right _ h)))))))
  subst hsz
  have hD := hD0.self (sz := s.heap.size)
  have hA : ∀ q : Nat, s.heap.size ≤ q → va_A (wBF Γ q_bf q_tx q_fl q_flT q_hi q_s1 q_s2 q_fd q_kc q_kr  ++ wFloor Γ q_fl q_k q_c q_a q_pa q_b q_pb vi vj vk vc va vpa vb vpb ++ wHist Γ q_hi q_hs vh vhs ++ wFloor Γ q_fl2 q_k2 q_c2 q_a2 q_pa2 q_b2 q_pb2 vi2 vj2 vk2 vc2 va2 vpa2 vb2 vpb2 ++ wOut Γ q_ou vou) s.heap.size q := fun q h => Or.inr h
  generalize va_A (wBF Γ q_bf q_tx q_fl q_flT q_hi q_s1 q_s2 q_fd q_kc q_kr  ++ wFloor Γ q_fl q_k q_c q_a q_pa q_b q_pb vi vj vk vc va vpa vb vpb ++ wHist Γ q_hi q_hs vh vhs ++ wFloor Γ q_fl2 q_k2 q_c2 q_a2 q_pa2 q_b2 q_pb2 vi2 vj2 vk2 vc2 va2 vpa2 vb2 vpb2 ++ wOut Γ q_ou vou) s.heap.size = A at hD hA hZ ⊢
  have hS : va_S A s.heap s.heap [] := va_S.rf
  have hl := lv_entry ([.ref q_bf, .int x1, .int x2, .int x3, .ref q_ou]) (n := 6) (Nat.le_of_ble_eq_true rfl)
  rw [lg_entry_eq]
  generalize (lg_sl ([.ref q_bf, .int x1, .int x2, .int x3, .ref q_ou]) ++ List.replicate (6 - (lg_sl ([.ref q_bf, .int x1, .int x2, .int x3, .ref q_ou])).length) Slot.unset).toArray = ls at hl ⊢
  replace hl : lv_has ls 6 [(0, .ref q_bf), (1, .int x1), (2, .int x2), (3, .int x3), (4, .ref q_ou)] := hl
  unfold mL_putRobot at hm
  refine lv_aload hx hb dL_putRobot_0 (lv_at hl 4 rfl) ?_
  refine lv_iconst (v := (0 : Int32)) hx hb dL_putRobot_2 (by decide) ?_
  refine lv_aload_n hx hb dL_putRobot_3 rfl (lv_at hl 0 rfl) ?_
  refine lv_iload_n hx hb dL_putRobot_4 rfl (lv_at hl 1 rfl) ?_
  refine lv_iload_n hx hb dL_putRobot_5 rfl (lv_at hl 2 rfl) ?_
  refine lv_iload_n hx hb dL_putRobot_6 rfl (lv_at hl 3 rfl) ?_
  obtain ⟨mr_, hc0_, hm⟩ := bo1_s hm
  refine my_callPX (wc := (wBF Γ q_bf q_tx q_fl q_flT q_hi q_s1 q_s2 q_fd q_kc q_kr  ++ wFloor Γ q_fl q_k q_c q_a q_pa q_b q_pb vi vj vk vc va vpa vb vpb ++ wHist Γ q_hi q_hs vh vhs ++ wFloor Γ q_fl2 q_k2 q_c2 q_a2 q_pa2 q_b2 q_pb2 vi2 vj2 vk2 vc2 va2 vpa2 vb2 vpb2)) hP hD hS hA [0, 1, 2, 3, 4, 5, 6, 7, 8, 9, 10, 11, 12, 13, 14, 15, 16] rfl rfl (fun res w1 h9 => my_had2 h9 (fun q => rfl)) (vx_runV (As := [.int x1, .int x2, .int x3]) (rest := [.int (0 : Int32), .ref q_ou]) ⟨hx, hb, hml, hown, hts⟩ (kX8_putRobot l Γ hfl q_bf q_fl q_k q_c q_a q_pa q_b q_pb q_hi q_hs q_fl2 q_k2 q_c2 q_a2 q_pa2 q_b2 q_pb2 q_tx q_flT q_s1 q_s2 q_fd q_kc q_kr vi vj vk vc va vpa vb vpb vh vhs vi2 vj2 vk2 vc2 va2 vpa2 vb2 vpb2 x1 x2 x3 mr_ hc0_ _) (cwV 3 hts gL_putRobot_X8_putRobot rfl rfl rfl (by decide +kernel) ⟨Nat.le_of_ble_eq_true rfl, Nat.le_of_ble_eq_true rfl⟩) (my_preVX (wc := (wBF Γ q_bf q_tx q_fl q_flT q_hi q_s1 q_s2 q_fd q_kc q_kr  ++ wFloor Γ q_fl q_k q_c q_a q_pa q_b q_pb vi vj vk vc va vpa vb vpb ++ wHist Γ q_hi q_hs vh vhs ++ wFloor Γ q_fl2 q_k2 q_c2 q_a2 q_pa2 q_b2 q_pb2 vi2 vj2 vk2 vc2 va2 vpa2 vb2 vpb2)) (ci := 6) (q0 := 0) [0, 1, 2, 3, 4, 5, 6, 7, 8, 9, 10, 11, 12, 13, 14, 15, 16] hK hP hD hS hA hZ hstr rfl rfl rfl rfl) rfl rfl hl.1 rfl (lv_room (Nat.le_of_ble_eq_true rfl)) dL_putRobot_7 ⟨Nat.le_of_ble_eq_true rfl, Nat.le_of_ble_eq_true rfl⟩) (fun E_ H locs q9 ce hro hP hS h1_ h2_ h3_ => ?_) (fun res_ w1_ H locs hro hP hD hS => ?_)
  · rcases bh12_s hm with ⟨r_1, va_2, vb_3, vh_4, vi2_5, vj2_6, vk2_7, vc2_8, va2_9, vpa2_10, vb2_11, vpb2_12, hc_, hm⟩ | ⟨E2_, hc_, hm⟩
    · rw [hc_] at hro; exact (my_map_lr hro).elim
    · rw [hc_] at hro
      have hE_ := my_map_rr hro
      subst hE_
      by_cases ck_13 : E2_ = "java/lang/IndexOutOfBoundsException"
      · replace hm := if_s hm ck_13
        subst ck_13
        refine vx_catch (name := "java/lang/IndexOutOfBoundsException") hown [] ⟨0, 12, 15, 24⟩ [⟨0, 12, 19, 13⟩, ⟨0, 12, 23, 15⟩] (htab.trans rfl) (fun z hz => nomatch hz) rfl (by decide) (hts (.classLink RL 24 "java/lang/IndexOutOfBoundsException") (List.mem_of_getElem? (i := 1) rfl)) (va_Nw.use rfl hstr.2.1) h1_ h2_ h3_ ?_
        refine lv_astore (lv' := [(5, .ref q9), (0, .ref q_bf), (1, .int x1), (2, .int x2), (3, .int x3), (4, .ref q_ou)]) hx hb dL_putRobot_15 hl (by decide) rfl (fun ls hl => ?_)
        refine lv_iconst (v := (1 : Int32)) hx hb dL_putRobot_17 (by decide) ?_
        obtain ⟨hf0, hf1, hf2, hf3, hf4, hf5, hf6, hf7, hf8, hf9, hf10, hf11, hf12⟩ := si13 hm
        subst hf0
        subst hf1
        subst hf2
        subst hf3
        subst hf4
        subst hf5
        subst hf6
        subst hf7
        subst hf8
        subst hf9
        subst hf10
        subst hf11
        subst hf12
        exact W.widen (k := 3) (n := 18) (Nat.le_of_ble_eq_true rfl) (Nat.le_of_ble_eq_true rfl) (W.iret (v := (1 : Int32)) hx hb hr (fun t ht hW => ⟨⟨rfl, by rw [ht]; exact hP⟩, hS.F ht⟩) hS.2.2 dL_putRobot_18)
      · replace hm := if_f hm ck_13
        by_cases ck_14 : E2_ = "java/lang/IllegalArgumentException"
        · replace hm := if_s hm ck_14
          subst ck_14
          refine vx_catch (name := "java/lang/IllegalArgumentException") hown [⟨0, 12, 15, 24⟩] ⟨0, 12, 19, 13⟩ [⟨0, 12, 23, 15⟩] (htab.trans rfl) (List.forall_mem_cons.mpr ⟨Or.inr ⟨by decide, "java/lang/IndexOutOfBoundsException", (hts (.classLink RL 24 "java/lang/IndexOutOfBoundsException") (List.mem_of_getElem? (i := 1) rfl)), hnc ("java/lang/IllegalArgumentException", "java/lang/IndexOutOfBoundsException") (by decide)⟩, (fun z hz => nomatch hz)⟩) rfl (by decide) (hts (.classLink RL 13 "java/lang/IllegalArgumentException") (List.mem_of_getElem? (i := 2) rfl)) (va_Nw.use rfl hstr.2.2.1) h1_ h2_ h3_ ?_
          refine lv_astore (lv' := [(5, .ref q9), (0, .ref q_bf), (1, .int x1), (2, .int x2), (3, .int x3), (4, .ref q_ou)]) hx hb dL_putRobot_19 hl (by decide) rfl (fun ls hl => ?_)
          refine lv_iconst (v := (2 : Int32)) hx hb dL_putRobot_21 (by decide) ?_
          obtain ⟨hf0, hf1, hf2, hf3, hf4, hf5, hf6, hf7, hf8, hf9, hf10, hf11, hf12⟩ := si13 hm
          subst hf0
          subst hf1
          subst hf2
          subst hf3
          subst hf4
          subst hf5
          subst hf6
          subst hf7
          subst hf8
          subst hf9
          subst hf10
          subst hf11
          subst hf12
          exact W.widen (k := 3) (n := 18) (Nat.le_of_ble_eq_true rfl) (Nat.le_of_ble_eq_true rfl) (W.iret (v := (2 : Int32)) hx hb hr (fun t ht hW => ⟨⟨rfl, by rw [ht]; exact hP⟩, hS.F ht⟩) hS.2.2 dL_putRobot_22)
        · replace hm := if_f hm ck_14
          by_cases ck_15 : E2_ = "java/lang/IllegalStateException"
          · replace hm := if_s hm ck_15
            subst ck_15
            refine vx_catch (name := "java/lang/IllegalStateException") hown [⟨0, 12, 15, 24⟩, ⟨0, 12, 19, 13⟩] ⟨0, 12, 23, 15⟩ [] (htab.trans rfl) (List.forall_mem_cons.mpr ⟨Or.inr ⟨by decide, "java/lang/IndexOutOfBoundsException", (hts (.classLink RL 24 "java/lang/IndexOutOfBoundsException") (List.mem_of_getElem? (i := 1) rfl)), hnc ("java/lang/IllegalStateException", "java/lang/IndexOutOfBoundsException") (by decide)⟩, (List.forall_mem_cons.mpr ⟨Or.inr ⟨by decide, "java/lang/IllegalArgumentException", (hts (.classLink RL 13 "java/lang/IllegalArgumentException") (List.mem_of_getElem? (i := 2) rfl)), hnc ("java/lang/IllegalStateException", "java/lang/IllegalArgumentException") (by decide)⟩, (fun z hz => nomatch hz)⟩)⟩) rfl (by decide) (hts (.classLink RL 15 "java/lang/IllegalStateException") (List.mem_of_getElem? (i := 3) rfl)) (va_Nw.use rfl hstr.2.2.2.1) h1_ h2_ h3_ ?_
            refine lv_astore (lv' := [(5, .ref q9), (0, .ref q_bf), (1, .int x1), (2, .int x2), (3, .int x3), (4, .ref q_ou)]) hx hb dL_putRobot_23 hl (by decide) rfl (fun ls hl => ?_)
            refine lv_iconst (v := (3 : Int32)) hx hb dL_putRobot_25 (by decide) ?_
            obtain ⟨hf0, hf1, hf2, hf3, hf4, hf5, hf6, hf7, hf8, hf9, hf10, hf11, hf12⟩ := si13 hm
            subst hf0
            subst hf1
            subst hf2
            subst hf3
            subst hf4
            subst hf5
            subst hf6
            subst hf7
            subst hf8
            subst hf9
            subst hf10
            subst hf11
            subst hf12
            exact W.widen (k := 3) (n := 18) (Nat.le_of_ble_eq_true rfl) (Nat.le_of_ble_eq_true rfl) (W.iret (v := (3 : Int32)) hx hb hr (fun t ht hW => ⟨⟨rfl, by rw [ht]; exact hP⟩, hS.F ht⟩) hS.2.2 dL_putRobot_26)
          · replace hm := if_f hm ck_15
            cases hm
  rcases bh12_s hm with ⟨r_1, va_2, vb_3, vh_4, vi2_5, vj2_6, vk2_7, vc2_8, va2_9, vpa2_10, vb2_11, vpb2_12, hc_, hm⟩ | ⟨E2_, hc_, hm⟩
  rotate_left
  · rw [hc_] at hro; exact (my_map_rl hro).elim
  rw [hc_] at hro
  obtain ⟨rfl, rfl⟩ := my_map_ll hro
  replace hP : va_P (my_D Γ) vwCl (wBF Γ q_bf q_tx q_fl q_flT q_hi q_s1 q_s2 q_fd q_kc q_kr  ++ wFloor Γ q_fl q_k q_c q_a q_pa q_b q_pb vi vj vk vc va_2 vpa vb_3 vpb ++ wHist Γ q_hi q_hs vh_4 vhs ++ wFloor Γ q_fl2 q_k2 q_c2 q_a2 q_pa2 q_b2 q_pb2 vi2_5 vj2_6 vk2_7 vc2_8 va2_9 vpa2_10 vb2_11 vpb2_12 ++ wOut Γ q_ou vou) H := hP
  replace hD : va_D A (wBF Γ q_bf q_tx q_fl q_flT q_hi q_s1 q_s2 q_fd q_kc q_kr  ++ wFloor Γ q_fl q_k q_c q_a q_pa q_b q_pb vi vj vk vc va_2 vpa vb_3 vpb ++ wHist Γ q_hi q_hs vh_4 vhs ++ wFloor Γ q_fl2 q_k2 q_c2 q_a2 q_pa2 q_b2 q_pb2 vi2_5 vj2_6 vk2_7 vc2_8 va2_9 vpa2_10 vb2_11 vpb2_12 ++ wOut Γ q_ou vou) := hD
  refine lv_i2l (v := r_1.toInt64) hx hb dL_putRobot_10 rfl ?_
  refine lv_topl (fun y_16 ey_16 => ?_)
  refine va_last hx hb hK hP hD hS 17 1 rfl rfl (show vp_in (0 : Int32) 1 from (by decide : ¬ ((0 : Int32) < 0 ∨ 1 ≤ (0 : Int32).toNatClampNeg))) dL_putRobot_11 (fun H locs hP hD hS => ?_)
  replace hP : va_P (my_D Γ) vwCl (wBF Γ q_bf q_tx q_fl q_flT q_hi q_s1 q_s2 q_fd q_kc q_kr  ++ wFloor Γ q_fl q_k q_c q_a q_pa q_b q_pb vi vj vk vc va_2 vpa vb_3 vpb ++ wHist Γ q_hi q_hs vh_4 vhs ++ wFloor Γ q_fl2 q_k2 q_c2 q_a2 q_pa2 q_b2 q_pb2 vi2_5 vj2_6 vk2_7 vc2_8 va2_9 vpa2_10 vb2_11 vpb2_12 ++ wOut Γ q_ou (vp_updL vou (0 : Int32).toNatClampNeg y_16)) H := hP
  replace hD : va_D A (wBF Γ q_bf q_tx q_fl q_flT q_hi q_s1 q_s2 q_fd q_kc q_kr  ++ wFloor Γ q_fl q_k q_c q_a q_pa q_b q_pb vi vj vk vc va_2 vpa vb_3 vpb ++ wHist Γ q_hi q_hs vh_4 vhs ++ wFloor Γ q_fl2 q_k2 q_c2 q_a2 q_pa2 q_b2 q_pb2 vi2_5 vj2_6 vk2_7 vc2_8 va2_9 vpa2_10 vb2_11 vpb2_12 ++ wOut Γ q_ou (vp_updL vou (0 : Int32).toNatClampNeg y_16)) := hD
  subst ey_16
  refine lv_goto (tgt := 27) hx hb dL_putRobot_12 (by decide) ?_
  refine lv_iconst (v := (0 : Int32)) hx hb dL_putRobot_27 (by decide) ?_
  obtain ⟨hf0, hf1, hf2, hf3, hf4, hf5, hf6, hf7, hf8, hf9, hf10, hf11, hf12⟩ := si13 hm
  subst hf0
  subst hf1
  subst hf2
  subst hf3
  subst hf4
  subst hf5
  subst hf6
  subst hf7
  subst hf8
  subst hf9
  subst hf10
  subst hf11
  subst hf12
  exact W.widen (k := 3) (n := 18) (Nat.le_of_ble_eq_true rfl) (Nat.le_of_ble_eq_true rfl) (W.iret (v := (0 : Int32)) hx hb hr (fun t ht hW => ⟨⟨rfl, by rw [ht]; exact hP⟩, hS.F ht⟩) hS.2.2 dL_putRobot_28)
def mL_write (vi : Nat → Int32) (vj : Nat → Int64) (vk : Nat → Int32) (vc : Nat → Int32) (va : Nat → Int32) (vpa : Nat → Int32) (vb : Nat → Int32) (vpb : Nat → Int32) (vh : Nat → Int32) (vhs : Nat → Option Nat) (vi2 : Nat → Int32) (vj2 : Nat → Int64) (vk2 : Nat → Int32) (vc2 : Nat → Int32) (va2 : Nat → Int32) (vpa2 : Nat → Int32) (vb2 : Nat → Int32) (vpb2 : Nat → Int32) (vou : Nat → Int64) (q_fl2 : Nat) (x1 : Int32) (x2 : Int32) : Option (Int32 × (Nat → Int32) × (Nat → Int32) × (Nat → Int32) × (Nat → Int32) × (Nat → Int32) × (Nat → Int32) × (Nat → Int64) × (Nat → Int32) × (Nat → Int32) × (Nat → Int32) × (Nat → Int32) × (Nat → Int32) × (Nat → Int32) × (Nat → Int64)) := (bo1 (mX8_write vi vj vk vc va vpa vb vpb vh vhs vi2 vj2 vk2 vc2 va2 vpa2 vb2 vpb2 q_fl2 x1 x2) (fun mr_ => (bh14 mr_ (fun r_1 va_2 vpa_3 vb_4 vpb_5 vh_6 vi2_7 vj2_8 vk2_9 vc2_10 va2_11 vpa2_12 vb2_13 vpb2_14 => (some ((0 : Int32), va_2, vpa_3, vb_4, vpb_5, vh_6, vi2_7, vj2_8, vk2_9, vc2_10, va2_11, vpa2_12, vb2_13, vpb2_14, (vp_updL vou (0 : Int32).toNatClampNeg (r_1.toInt64))))) (fun E_ => (if E_ = "java/lang/IndexOutOfBoundsException" then (some ((1 : Int32), va, vpa, vb, vpb, vh, vi2, vj2, vk2, vc2, va2, vpa2, vb2, vpb2, vou)) else (if E_ = "java/lang/IllegalArgumentException" then (some ((2 : Int32), va, vpa, vb, vpb, vh, vi2, vj2, vk2, vc2, va2, vpa2, vb2, vpb2, vou)) else (if E_ = "java/lang/IllegalStateException" then (some ((3 : Int32), va, vpa, vb, vpb, vh, vi2, vj2, vk2, vc2, va2, vpa2, vb2, vpb2, vou)) else none)))))))
set_option maxHeartbeats 4000000 in
set_option maxRecDepth 100000 in
theorem kL_write (l : Launch) (Γ : my_G) (hfl : l.stackTraces = false) (q_bf q_fl q_k q_c q_a q_pa q_b q_pb q_hi q_hs q_fl2 q_k2 q_c2 q_a2 q_pa2 q_b2 q_pb2 q_ou q_tx q_flT q_s1 q_s2 q_fd q_kc q_kr : Nat) (vi : Nat → Int32) (vj : Nat → Int64) (vk : Nat → Int32) (vc : Nat → Int32) (va : Nat → Int32) (vpa : Nat → Int32) (vb : Nat → Int32) (vpb : Nat → Int32) (vh : Nat → Int32) (vhs : Nat → Option Nat) (vi2 : Nat → Int32) (vj2 : Nat → Int64) (vk2 : Nat → Int32) (vc2 : Nat → Int32) (va2 : Nat → Int32) (vpa2 : Nat → Int32) (vb2 : Nat → Int32) (vpb2 : Nat → Int32) (vou : Nat → Int64) (x1 : Int32) (x2 : Int32) (rr : Int32) (va_z : Nat → Int32) (vpa_z : Nat → Int32) (vb_z : Nat → Int32) (vpb_z : Nat → Int32) (vh_z : Nat → Int32) (vi2_z : Nat → Int32) (vj2_z : Nat → Int64) (vk2_z : Nat → Int32) (vc2_z : Nat → Int32) (va2_z : Nat → Int32) (vpa2_z : Nat → Int32) (vb2_z : Nat → Int32) (vpb2_z : Nat → Int32) (vou_z : Nat → Int64) (hm : mL_write vi vj vk vc va vpa vb vpb vh vhs vi2 vj2 vk2 vc2 va2 vpa2 vb2 vpb2 vou q_fl2 x1 x2 = (some (rr, va_z, vpa_z, vb_z, vpb_z, vh_z, vi2_z, vj2_z, vk2_z, vc2_z, va2_z, vpa2_z, vb2_z, vpb2_z, vou_z))) : MnW l yL_write wsL_write ({ frames := 8, cells := 2, slots := 12, locals := 138 } : Room) Γ [.ref q_bf, .int x1, .int x2, .ref q_ou] (wBF Γ q_bf q_tx q_fl q_flT q_hi q_s1 q_s2 q_fd q_kc q_kr  ++ wFloor Γ q_fl q_k q_c q_a q_pa q_b q_pb vi vj vk vc va vpa vb vpb ++ wHist Γ q_hi q_hs vh vhs ++ wFloor Γ q_fl2 q_k2 q_c2 q_a2 q_pa2 q_b2 q_pb2 vi2 vj2 vk2 vc2 va2 vpa2 vb2 vpb2 ++ wOut Γ q_ou vou) (some (.int rr)) (wBF Γ q_bf q_tx q_fl q_flT q_hi q_s1 q_s2 q_fd q_kc q_kr  ++ wFloor Γ q_fl q_k q_c q_a q_pa q_b q_pb vi vj vk vc va_z vpa_z vb_z vpb_z ++ wHist Γ q_hi q_hs vh_z vhs ++ wFloor Γ q_fl2 q_k2 q_c2 q_a2 q_pa2 q_b2 q_pb2 vi2_z vj2_z vk2_z vc2_z va2_z vpa2_z vb2_z vpb2_z ++ wOut Γ q_ou vou_z) 2 12 := by
  intro sz
  refine va_MetW (cc := cL_write) (maxL := 5) (ret := (some .int)) (by decide) rfl ?_
  intro p e s m args below meth c s₁ B hml hv
  obtain ⟨rfl, ⟨hsz, hP, hK, hD0⟩, hZ, hstr, hnc⟩ := hv
  have htab := vx_table (x := yL_write) (hh := [(0, 10, 13, 24), (0, 10, 17, 13), (0, 10, 21, 15)]) B (atoms_spec (ws := wsL_write) B.pre _ List.mem_cons_self)
  have hx := B.exec
  have hb := B.bytes
  have hr := B.returns
  have hts := atoms_spec (ws := wsL_write) B.pre
  have hown : s.vm.findClass RL = some m.cls := findClass_of_methodNamed B.named
  have hlocks := B.notSynchronized
  have hinX1 : ∀ w ∈ u_ws RX1 TX1 12, w ∈ wsL_write := fun w h => List.mem_cons_of_mem _ (List.mem_append_left _ (List.mem_append_left _ (List.mem_append_left _ (List.mem_append_left _ (List.mem_append_right _ h)))))
  have hinX3 : ∀ w ∈ u_ws RX3 TX3 3, w ∈ wsL_write := fun w h => List.mem_cons_of_mem _ (List.mem_append_left _ (List.mem_append_left _ (List.mem_append_left _ (List.mem_append_right _ h))))
  have hinX4 : ∀ w ∈ u_ws RX4 TX4 10, w ∈ wsL_write := fun w h => List.mem_cons_of_mem _ (List.mem_append_left _ (List.mem_append_left _ (List.mem_append_left _ (List.mem_append_left _ (List.mem_append_left _ (List.mem_append_right _ h))))))
  have hinX8 : ∀ w ∈ u_ws RX8 TX8 9, w ∈ wsL_write := fun w h => List.mem_cons_of_mem _ (List.mem_append_left _ (List.mem_append_left _ (List.mem_append_left _ (List.mem_append_left _ (List.mem_append_left _ (List.mem_append_left _ (List.mem_append_right _ h)))))))
  subst hsz
  have hD := hD0.self (sz := s.heap.size)
  have hA : ∀ q : Nat, s.heap.size ≤ q → va_A (wBF Γ q_bf q_tx q_fl q_flT q_hi q_s1 q_s2 q_fd q_kc q_kr  ++ wFloor Γ q_fl q_k q_c q_a q_pa q_b q_pb vi vj vk vc va vpa vb vpb ++ wHist Γ q_hi q_hs vh vhs ++ wFloor Γ q_fl2 q_k2 q_c2 q_a2 q_pa2 q_b2 q_pb2 vi2 vj2 vk2 vc2 va2 vpa2 vb2 vpb2 ++ wOut Γ q_ou vou) s.heap.size q := fun q h => Or.inr h
  generalize va_A (wBF Γ q_bf q_tx q_fl q_flT q_hi q_s1 q_s2 q_fd q_kc q_kr  ++ wFloor Γ q_fl q_k q_c q_a q_pa q_b q_pb vi vj vk vc va vpa vb vpb ++ wHist Γ q_hi q_hs vh vhs ++ wFloor Γ q_fl2 q_k2 q_c2 q_a2 q_pa2 q_b2 q_pb2 vi2 vj2 vk2 vc2 va2 vpa2 vb2 vpb2 ++ wOut Γ q_ou vou) s.heap.size = A at hD hA hZ ⊢
  have hS : va_S A s.heap s.heap [] := va_S.rf
  have hl := lv_entry ([.ref q_bf, .int x1, .int x2, .ref q_ou]) (n := 5) (Nat.le_of_ble_eq_true rfl)
  rw [lg_entry_eq]
  generalize (lg_sl ([.ref q_bf, .int x1, .int x2, .ref q_ou]) ++ List.replicate (5 - (lg_sl ([.ref q_bf, .int x1, .int x2, .ref q_ou])).length) Slot.unset).toArray = ls at hl ⊢
  replace hl : lv_has ls 5 [(0, .ref q_bf), (1, .int x1), (2, .int x2), (3, .ref q_ou)] := hl
  unfold mL_write at hm
  refine lv_aload_n hx hb dL_write_0 rfl (lv_at hl 3 rfl) ?_
  refine lv_iconst (v := (0 : Int32)) hx hb dL_write_1 (by decide) ?_
  refine lv_aload_n hx hb dL_write_2 rfl (lv_at hl 0 rfl) ?_
  refine lv_iload_n hx hb dL_write_3 rfl (lv_at hl 1 rfl) ?_
  refine lv_iload_n hx hb dL_write_4 rfl (lv_at hl 2 rfl) ?_
  obtain ⟨mr_, hc0_, hm⟩ := bo1_s hm
  refine my_callPX (wc := (wBF Γ q_bf q_tx q_fl q_flT q_hi q_s1 q_s2 q_fd q_kc q_kr  ++ wFloor Γ q_fl q_k q_c q_a q_pa q_b q_pb vi vj vk vc va vpa vb vpb ++ wHist Γ q_hi q_hs vh vhs ++ wFloor Γ q_fl2 q_k2 q_c2 q_a2 q_pa2 q_b2 q_pb2 vi2 vj2 vk2 vc2 va2 vpa2 vb2 vpb2)) hP hD hS hA [0, 1, 2, 3, 4, 5, 6, 7, 8, 9, 10, 11, 12, 13, 14, 15, 16] rfl rfl (fun res w1 h9 => my_had2 h9 (fun q => rfl)) (vx_runV (As := [.int x1, .int x2]) (rest := [.int (0 : Int32), .ref q_ou]) ⟨hx, hb, hml, hown, hts⟩ (kX8_write l Γ hfl q_bf q_fl q_k q_c q_a q_pa q_b q_pb q_hi q_hs q_fl2 q_k2 q_c2 q_a2 q_pa2 q_b2 q_pb2 q_tx q_flT q_s1 q_s2 q_fd q_kc q_kr vi vj vk vc va vpa vb vpb vh vhs vi2 vj2 vk2 vc2 va2 vpa2 vb2 vpb2 x1 x2 mr_ hc0_ _) (cwV 2 hts gL_write_X8_write rfl rfl rfl (by decide +kernel) ⟨Nat.le_of_ble_eq_true rfl, Nat.le_of_ble_eq_true rfl⟩) (my_preVX (wc := (wBF Γ q_bf q_tx q_fl q_flT q_hi q_s1 q_s2 q_fd q_kc q_kr  ++ wFloor Γ q_fl q_k q_c q_a q_pa q_b q_pb vi vj vk vc va vpa vb vpb ++ wHist Γ q_hi q_hs vh vhs ++ wFloor Γ q_fl2 q_k2 q_c2 q_a2 q_pa2 q_b2 q_pb2 vi2 vj2 vk2 vc2 va2 vpa2 vb2 vpb2)) (ci := 6) (q0 := 0) [0, 1, 2, 3, 4, 5, 6, 7, 8, 9, 10, 11, 12, 13, 14, 15, 16] hK hP hD hS hA hZ hstr rfl rfl rfl rfl) rfl rfl hl.1 rfl (lv_room (Nat.le_of_ble_eq_true rfl)) dL_write_5 ⟨Nat.le_of_ble_eq_true rfl, Nat.le_of_ble_eq_true rfl⟩) (fun E_ H locs q9 ce hro hP hS h1_ h2_ h3_ => ?_) (fun res_ w1_ H locs hro hP hD hS => ?_)
  · rcases bh14_s hm with ⟨r_1, va_2, vpa_3, vb_4, vpb_5, vh_6, vi2_7, vj2_8, vk2_9, vc2_10, va2_11, vpa2_12, vb2_13, vpb2_14, hc_, hm⟩ | ⟨E2_, hc_, hm⟩
    · rw [hc_] at hro; exact (my_map_lr hro).elim
    · rw [hc_] at hro
      have hE_ := my_map_rr hro
      subst hE_
      by_cases ck_15 : E2_ = "java/lang/IndexOutOfBoundsException"
      · replace hm := if_s hm ck_15
        subst ck_15
        refine vx_catch (name := "java/lang/IndexOutOfBoundsException") hown [] ⟨0, 10, 13, 24⟩ [⟨0, 10, 17, 13⟩, ⟨0, 10, 21, 15⟩] (htab.trans rfl) (fun z hz => nomatch hz) rfl (by decide) (hts (.classLink RL 24 "java/lang/IndexOutOfBoundsException") (List.mem_of_getElem? (i := 1) rfl)) (va_Nw.use rfl hstr.2.1) h1_ h2_ h3_ ?_
        refine lv_astore (lv' := [(4, .ref q9), (0, .ref q_bf), (1, .int x1), (2, .int x2), (3, .ref q_ou)]) hx hb dL_write_13 hl (by decide) rfl (fun ls hl => ?_)
        refine lv_iconst (v := (1 : Int32)) hx hb dL_write_15 (by decide) ?_
        obtain ⟨hf0, hf1, hf2, hf3, hf4, hf5, hf6, hf7, hf8, hf9, hf10, hf11, hf12, hf13, hf14⟩ := si15 hm
        subst hf0
        subst hf1
        subst hf2
        subst hf3
        subst hf4
        subst hf5
        subst hf6
        subst hf7
        subst hf8
        subst hf9
        subst hf10
        subst hf11
        subst hf12
        subst hf13
        subst hf14
        exact W.widen (k := 2) (n := 12) (Nat.le_of_ble_eq_true rfl) (Nat.le_of_ble_eq_true rfl) (W.iret (v := (1 : Int32)) hx hb hr (fun t ht hW => ⟨⟨rfl, by rw [ht]; exact hP⟩, hS.F ht⟩) hS.2.2 dL_write_16)
      · replace hm := if_f hm ck_15
        by_cases ck_16 : E2_ = "java/lang/IllegalArgumentException"
        · replace hm := if_s hm ck_16
          subst ck_16
          refine vx_catch (name := "java/lang/IllegalArgumentException") hown [⟨0, 10, 13, 24⟩] ⟨0, 10, 17, 13⟩ [⟨0, 10, 21, 15⟩] (htab.trans rfl) (List.forall_mem_cons.mpr ⟨Or.inr ⟨by decide, "java/lang/IndexOutOfBoundsException", (hts (.classLink RL 24 "java/lang/IndexOutOfBoundsException") (List.mem_of_getElem? (i := 1) rfl)), hnc ("java/lang/IllegalArgumentException", "java/lang/IndexOutOfBoundsException") (by decide)⟩, (fun z hz => nomatch hz)⟩) rfl (by decide) (hts (.classLink RL 13 "java/lang/IllegalArgumentException") (List.mem_of_getElem? (i := 2) rfl)) (va_Nw.use rfl hstr.2.2.1) h1_ h2_ h3_ ?_
          refine lv_astore (lv' := [(4, .ref q9), (0, .ref q_bf), (1, .int x1), (2, .int x2), (3, .ref q_ou)]) hx hb dL_write_17 hl (by decide) rfl (fun ls hl => ?_)
          refine lv_iconst (v := (2 : Int32)) hx hb dL_write_19 (by decide) ?_
          obtain ⟨hf0, hf1, hf2, hf3, hf4, hf5, hf6, hf7, hf8, hf9, hf10, hf11, hf12, hf13, hf14⟩ := si15 hm
          subst hf0
          subst hf1
          subst hf2
          subst hf3
          subst hf4
          subst hf5
          subst hf6
          subst hf7
          subst hf8
          subst hf9
          subst hf10
          subst hf11
          subst hf12
          subst hf13
          subst hf14
          exact W.widen (k := 2) (n := 12) (Nat.le_of_ble_eq_true rfl) (Nat.le_of_ble_eq_true rfl) (W.iret (v := (2 : Int32)) hx hb hr (fun t ht hW => ⟨⟨rfl, by rw [ht]; exact hP⟩, hS.F ht⟩) hS.2.2 dL_write_20)
        · replace hm := if_f hm ck_16
          by_cases ck_17 : E2_ = "java/lang/IllegalStateException"
          · replace hm := if_s hm ck_17
            subst ck_17
            refine vx_catch (name := "java/lang/IllegalStateException") hown [⟨0, 10, 13, 24⟩, ⟨0, 10, 17, 13⟩] ⟨0, 10, 21, 15⟩ [] (htab.trans rfl) (List.forall_mem_cons.mpr ⟨Or.inr ⟨by decide, "java/lang/IndexOutOfBoundsException", (hts (.classLink RL 24 "java/lang/IndexOutOfBoundsException") (List.mem_of_getElem? (i := 1) rfl)), hnc ("java/lang/IllegalStateException", "java/lang/IndexOutOfBoundsException") (by decide)⟩, (List.forall_mem_cons.mpr ⟨Or.inr ⟨by decide, "java/lang/IllegalArgumentException", (hts (.classLink RL 13 "java/lang/IllegalArgumentException") (List.mem_of_getElem? (i := 2) rfl)), hnc ("java/lang/IllegalStateException", "java/lang/IllegalArgumentException") (by decide)⟩, (fun z hz => nomatch hz)⟩)⟩) rfl (by decide) (hts (.classLink RL 15 "java/lang/IllegalStateException") (List.mem_of_getElem? (i := 3) rfl)) (va_Nw.use rfl hstr.2.2.2.1) h1_ h2_ h3_ ?_
            refine lv_astore (lv' := [(4, .ref q9), (0, .ref q_bf), (1, .int x1), (2, .int x2), (3, .ref q_ou)]) hx hb dL_write_21 hl (by decide) rfl (fun ls hl => ?_)
            refine lv_iconst (v := (3 : Int32)) hx hb dL_write_23 (by decide) ?_
            obtain ⟨hf0, hf1, hf2, hf3, hf4, hf5, hf6, hf7, hf8, hf9, hf10, hf11, hf12, hf13, hf14⟩ := si15 hm
            subst hf0
            subst hf1
            subst hf2
            subst hf3
            subst hf4
            subst hf5
            subst hf6
            subst hf7
            subst hf8
            subst hf9
            subst hf10
            subst hf11
            subst hf12
            subst hf13
            subst hf14
            exact W.widen (k := 2) (n := 12) (Nat.le_of_ble_eq_true rfl) (Nat.le_of_ble_eq_true rfl) (W.iret (v := (3 : Int32)) hx hb hr (fun t ht hW => ⟨⟨rfl, by rw [ht]; exact hP⟩, hS.F ht⟩) hS.2.2 dL_write_24)
          · replace hm := if_f hm ck_17
            cases hm
  rcases bh14_s hm with ⟨r_1, va_2, vpa_3, vb_4, vpb_5, vh_6, vi2_7, vj2_8, vk2_9, vc2_10, va2_11, vpa2_12, vb2_13, vpb2_14, hc_, hm⟩ | ⟨E2_, hc_, hm⟩
  rotate_left
  · rw [hc_] at hro; exact (my_map_rl hro).elim
  rw [hc_] at hro
  obtain ⟨rfl, rfl⟩ := my_map_ll hro
  replace hP : va_P (my_D Γ) vwCl (wBF Γ q_bf q_tx q_fl q_flT q_hi q_s1 q_s2 q_fd q_kc q_kr  ++ wFloor Γ q_fl q_k q_c q_a q_pa q_b q_pb vi vj vk vc va_2 vpa_3 vb_4 vpb_5 ++ wHist Γ q_hi q_hs vh_6 vhs ++ wFloor Γ q_fl2 q_k2 q_c2 q_a2 q_pa2 q_b2 q_pb2 vi2_7 vj2_8 vk2_9 vc2_10 va2_11 vpa2_12 vb2_13 vpb2_14 ++ wOut Γ q_ou vou) H := hP
  replace hD : va_D A (wBF Γ q_bf q_tx q_fl q_flT q_hi q_s1 q_s2 q_fd q_kc q_kr  ++ wFloor Γ q_fl q_k q_c q_a q_pa q_b q_pb vi vj vk vc va_2 vpa_3 vb_4 vpb_5 ++ wHist Γ q_hi q_hs vh_6 vhs ++ wFloor Γ q_fl2 q_k2 q_c2 q_a2 q_pa2 q_b2 q_pb2 vi2_7 vj2_8 vk2_9 vc2_10 va2_11 vpa2_12 vb2_13 vpb2_14 ++ wOut Γ q_ou vou) := hD
  refine lv_i2l (v := r_1.toInt64) hx hb dL_write_8 rfl ?_
  refine lv_topl (fun y_18 ey_18 => ?_)
  refine va_last hx hb hK hP hD hS 17 1 rfl rfl (show vp_in (0 : Int32) 1 from (by decide : ¬ ((0 : Int32) < 0 ∨ 1 ≤ (0 : Int32).toNatClampNeg))) dL_write_9 (fun H locs hP hD hS => ?_)
  replace hP : va_P (my_D Γ) vwCl (wBF Γ q_bf q_tx q_fl q_flT q_hi q_s1 q_s2 q_fd q_kc q_kr  ++ wFloor Γ q_fl q_k q_c q_a q_pa q_b q_pb vi vj vk vc va_2 vpa_3 vb_4 vpb_5 ++ wHist Γ q_hi q_hs vh_6 vhs ++ wFloor Γ q_fl2 q_k2 q_c2 q_a2 q_pa2 q_b2 q_pb2 vi2_7 vj2_8 vk2_9 vc2_10 va2_11 vpa2_12 vb2_13 vpb2_14 ++ wOut Γ q_ou (vp_updL vou (0 : Int32).toNatClampNeg y_18)) H := hP
  replace hD : va_D A (wBF Γ q_bf q_tx q_fl q_flT q_hi q_s1 q_s2 q_fd q_kc q_kr  ++ wFloor Γ q_fl q_k q_c q_a q_pa q_b q_pb vi vj vk vc va_2 vpa_3 vb_4 vpb_5 ++ wHist Γ q_hi q_hs vh_6 vhs ++ wFloor Γ q_fl2 q_k2 q_c2 q_a2 q_pa2 q_b2 q_pb2 vi2_7 vj2_8 vk2_9 vc2_10 va2_11 vpa2_12 vb2_13 vpb2_14 ++ wOut Γ q_ou (vp_updL vou (0 : Int32).toNatClampNeg y_18)) := hD
  subst ey_18
  refine lv_goto (tgt := 25) hx hb dL_write_10 (by decide) ?_
  refine lv_iconst (v := (0 : Int32)) hx hb dL_write_25 (by decide) ?_
  obtain ⟨hf0, hf1, hf2, hf3, hf4, hf5, hf6, hf7, hf8, hf9, hf10, hf11, hf12, hf13, hf14⟩ := si15 hm
  subst hf0
  subst hf1
  subst hf2
  subst hf3
  subst hf4
  subst hf5
  subst hf6
  subst hf7
  subst hf8
  subst hf9
  subst hf10
  subst hf11
  subst hf12
  subst hf13
  subst hf14
  exact W.widen (k := 2) (n := 12) (Nat.le_of_ble_eq_true rfl) (Nat.le_of_ble_eq_true rfl) (W.iret (v := (0 : Int32)) hx hb hr (fun t ht hW => ⟨⟨rfl, by rw [ht]; exact hP⟩, hS.F ht⟩) hS.2.2 dL_write_26)
def mL_wipe (vi : Nat → Int32) (vj : Nat → Int64) (vk : Nat → Int32) (vc : Nat → Int32) (va : Nat → Int32) (vpa : Nat → Int32) (vb : Nat → Int32) (vpb : Nat → Int32) (vh : Nat → Int32) (vhs : Nat → Option Nat) (vi2 : Nat → Int32) (vj2 : Nat → Int64) (vk2 : Nat → Int32) (vc2 : Nat → Int32) (va2 : Nat → Int32) (vpa2 : Nat → Int32) (vb2 : Nat → Int32) (vpb2 : Nat → Int32) (vou : Nat → Int64) (q_fl2 : Nat) (x1 : Int32) : Option (Int32 × (Nat → Int32) × (Nat → Int32) × (Nat → Int32) × (Nat → Int32) × (Nat → Int64) × (Nat → Int32) × (Nat → Int32) × (Nat → Int32) × (Nat → Int32) × (Nat → Int32) × (Nat → Int32) × (Nat → Int64)) := (bo1 (mX8_wipe vi vj vk vc va vpa vb vpb vh vhs vi2 vj2 vk2 vc2 va2 vpa2 vb2 vpb2 q_fl2 x1) (fun mr_ => (bh12 mr_ (fun r_1 va_2 vb_3 vh_4 vi2_5 vj2_6 vk2_7 vc2_8 va2_9 vpa2_10 vb2_11 vpb2_12 => (some ((0 : Int32), va_2, vb_3, vh_4, vi2_5, vj2_6, vk2_7, vc2_8, va2_9, vpa2_10, vb2_11, vpb2_12, (vp_updL vou (0 : Int32).toNatClampNeg (r_1.toInt64))))) (fun E_ => (if E_ = "java/lang/IndexOutOfBoundsException" then (some ((1 : Int32), va, vb, vh, vi2, vj2, vk2, vc2, va2, vpa2, vb2, vpb2, vou)) else none)))))
set_option maxHeartbeats 4000000 in
set_option maxRecDepth 100000 in
theorem kL_wipe (l : Launch) (Γ : my_G) (hfl : l.stackTraces = false) (q_bf q_fl q_k q_c q_a q_pa q_b q_pb q_hi q_hs q_fl2 q_k2 q_c2 q_a2 q_pa2 q_b2 q_pb2 q_ou q_tx q_flT q_s1 q_s2 q_fd q_kc q_kr : Nat) (vi : Nat → Int32) (vj : Nat → Int64) (vk : Nat → Int32) (vc : Nat → Int32) (va : Nat → Int32) (vpa : Nat → Int32) (vb : Nat → Int32) (vpb : Nat → Int32) (vh : Nat → Int32) (vhs : Nat → Option Nat) (vi2 : Nat → Int32) (vj2 : Nat → Int64) (vk2 : Nat → Int32) (vc2 : Nat → Int32) (va2 : Nat → Int32) (vpa2 : Nat → Int32) (vb2 : Nat → Int32) (vpb2 : Nat → Int32) (vou : Nat → Int64) (x1 : Int32) (rr : Int32) (va_z : Nat → Int32) (vb_z : Nat → Int32) (vh_z : Nat → Int32) (vi2_z : Nat → Int32) (vj2_z : Nat → Int64) (vk2_z : Nat → Int32) (vc2_z : Nat → Int32) (va2_z : Nat → Int32) (vpa2_z : Nat → Int32) (vb2_z : Nat → Int32) (vpb2_z : Nat → Int32) (vou_z : Nat → Int64) (hm : mL_wipe vi vj vk vc va vpa vb vpb vh vhs vi2 vj2 vk2 vc2 va2 vpa2 vb2 vpb2 vou q_fl2 x1 = (some (rr, va_z, vb_z, vh_z, vi2_z, vj2_z, vk2_z, vc2_z, va2_z, vpa2_z, vb2_z, vpb2_z, vou_z))) : MnW l yL_wipe wsL_wipe ({ frames := 8, cells := 1, slots := 6, locals := 138 } : Room) Γ [.ref q_bf, .int x1, .ref q_ou] (wBF Γ q_bf q_tx q_fl q_flT q_hi q_s1 q_s2 q_fd q_kc q_kr  ++ wFloor Γ q_fl q_k q_c q_a q_pa q_b q_pb vi vj vk vc va vpa vb vpb ++ wHist Γ q_hi q_hs vh vhs ++ wFloor Γ q_fl2 q_k2 q_c2 q_a2 q_pa2 q_b2 q_pb2 vi2 vj2 vk2 vc2 va2 vpa2 vb2 vpb2 ++ wOut Γ q_ou vou) (some (.int rr)) (wBF Γ q_bf q_tx q_fl q_flT q_hi q_s1 q_s2 q_fd q_kc q_kr  ++ wFloor Γ q_fl q_k q_c q_a q_pa q_b q_pb vi vj vk vc va_z vpa vb_z vpb ++ wHist Γ q_hi q_hs vh_z vhs ++ wFloor Γ q_fl2 q_k2 q_c2 q_a2 q_pa2 q_b2 q_pb2 vi2_z vj2_z vk2_z vc2_z va2_z vpa2_z vb2_z vpb2_z ++ wOut Γ q_ou vou_z) 1 6 := by
  intro sz
  refine va_MetW (cc := cL_wipe) (maxL := 4) (ret := (some .int)) (by decide) rfl ?_
  intro p e s m args below meth c s₁ B hml hv
  obtain ⟨rfl, ⟨hsz, hP, hK, hD0⟩, hZ, hstr, hnc⟩ := hv
  have htab := vx_table (x := yL_wipe) (hh := [(0, 9, 12, 24)]) B (atoms_spec (ws := wsL_wipe) B.pre _ List.mem_cons_self)
  have hx := B.exec
  have hb := B.bytes
  have hr := B.returns
  have hts := atoms_spec (ws := wsL_wipe) B.pre
  have hown : s.vm.findClass RL = some m.cls := findClass_of_methodNamed B.named
  have hlocks := B.notSynchronized
  have hinX1 : ∀ w ∈ u_ws RX1 TX1 12, w ∈ wsL_wipe := fun w h => List.mem_cons_of_mem _ (List.mem_append_left _ (List.mem_append_right _ h))
  have hinX3 : ∀ w ∈ u_ws RX3 TX3 3, w ∈ wsL_wipe := fun w h => List.mem_cons_of_mem _ (List.mem_append_left _ (List.mem_append_left _ (List.mem_append_right _ h)))
  have hinX4 : ∀ w ∈ u_ws RX4 TX4 10, w ∈ wsL_wipe := fun w h => List.mem_cons_of_mem _ (List.mem_append_left _ (List.mem_append_left _ (List.mem_append_left _ (List.mem_append_right _ h))))
  have hinX8 : ∀ w ∈ u_ws RX8 TX8 9, w ∈ wsL_wipe := fun w h => List.mem_cons_of_mem _ (List.mem_append_left _ (List.mem_append_left _ (List.mem_append_left _ (List.mem_append_left _ (List.mem_append_right _ h)))))
  subst hsz
  have hD := hD0.self (sz := s.heap.size)
  have hA : ∀ q : Nat, s.heap.size ≤ q → va_A (wBF Γ q_bf q_tx q_fl q_flT q_hi q_s1 q_s2 q_fd q_kc q_kr  ++ wFloor Γ q_fl q_k q_c q_a q_pa q_b q_pb vi vj vk vc va vpa vb vpb ++ wHist Γ q_hi q_hs vh vhs ++ wFloor Γ q_fl2 q_k2 q_c2 q_a2 q_pa2 q_b2 q_pb2 vi2 vj2 vk2 vc2 va2 vpa2 vb2 vpb2 ++ wOut Γ q_ou vou) s.heap.size q := fun q h => Or.inr h
  generalize va_A (wBF Γ q_bf q_tx q_fl q_flT q_hi q_s1 q_s2 q_fd q_kc q_kr  ++ wFloor Γ q_fl q_k q_c q_a q_pa q_b q_pb vi vj vk vc va vpa vb vpb ++ wHist Γ q_hi q_hs vh vhs ++ wFloor Γ q_fl2 q_k2 q_c2 q_a2 q_pa2 q_b2 q_pb2 vi2 vj2 vk2 vc2 va2 vpa2 vb2 vpb2 ++ wOut Γ q_ou vou) s.heap.size = A at hD hA hZ ⊢
  have hS : va_S A s.heap s.heap [] := va_S.rf
  have hl := lv_entry ([.ref q_bf, .int x1, .ref q_ou]) (n := 4) (Nat.le_of_ble_eq_true rfl)
  rw [lg_entry_eq]
  generalize (lg_sl ([.ref q_bf, .int x1, .ref q_ou]) ++ List.replicate (4 - (lg_sl ([.ref q_bf, .int x1, .ref q_ou])).length) Slot.unset).toArray = ls at hl ⊢
  replace hl : lv_has ls 4 [(0, .ref q_bf), (1, .int x1), (2, .ref q_ou)] := hl
  unfold mL_wipe at hm
  refine lv_aload_n hx hb dL_wipe_0 rfl (lv_at hl 2 rfl) ?_
  refine lv_iconst (v := (0 : Int32)) hx hb dL_wipe_1 (by decide) ?_
  refine lv_aload_n hx hb dL_wipe_2 rfl (lv_at hl 0 rfl) ?_
  refine lv_iload_n hx hb dL_wipe_3 rfl (lv_at hl 1 rfl) ?_
  obtain ⟨mr_, hc0_, hm⟩ := bo1_s hm
  refine my_callPX (wc := (wBF Γ q_bf q_tx q_fl q_flT q_hi q_s1 q_s2 q_fd q_kc q_kr  ++ wFloor Γ q_fl q_k q_c q_a q_pa q_b q_pb vi vj vk vc va vpa vb vpb ++ wHist Γ q_hi q_hs vh vhs ++ wFloor Γ q_fl2 q_k2 q_c2 q_a2 q_pa2 q_b2 q_pb2 vi2 vj2 vk2 vc2 va2 vpa2 vb2 vpb2)) hP hD hS hA [0, 1, 2, 3, 4, 5, 6, 7, 8, 9, 10, 11, 12, 13, 14, 15, 16] rfl rfl (fun res w1 h9 => my_had2 h9 (fun q => rfl)) (vx_runV (As := [.int x1]) (rest := [.int (0 : Int32), .ref q_ou]) ⟨hx, hb, hml, hown, hts⟩ (kX8_wipe l Γ hfl q_bf q_fl q_k q_c q_a q_pa q_b q_pb q_hi q_hs q_fl2 q_k2 q_c2 q_a2 q_pa2 q_b2 q_pb2 q_tx q_flT q_s1 q_s2 q_fd q_kc q_kr vi vj vk vc va vpa vb vpb vh vhs vi2 vj2 vk2 vc2 va2 vpa2 vb2 vpb2 x1 mr_ hc0_ _) (cwV 1 hts gL_wipe_X8_wipe rfl rfl rfl (by decide +kernel) ⟨Nat.le_of_ble_eq_true rfl, Nat.le_of_ble_eq_true rfl⟩) (my_preVX (wc := (wBF Γ q_bf q_tx q_fl q_flT q_hi q_s1 q_s2 q_fd q_kc q_kr  ++ wFloor Γ q_fl q_k q_c q_a q_pa q_b q_pb vi vj vk vc va vpa vb vpb ++ wHist Γ q_hi q_hs vh vhs ++ wFloor Γ q_fl2 q_k2 q_c2 q_a2 q_pa2 q_b2 q_pb2 vi2 vj2 vk2 vc2 va2 vpa2 vb2 vpb2)) (ci := 6) (q0 := 0) [0, 1, 2, 3, 4, 5, 6, 7, 8, 9, 10, 11, 12, 13, 14, 15, 16] hK hP hD hS hA hZ hstr rfl rfl rfl rfl) rfl rfl hl.1 rfl (lv_room (Nat.le_of_ble_eq_true rfl)) dL_wipe_4 ⟨Nat.le_of_ble_eq_true rfl, Nat.le_of_ble_eq_true rfl⟩) (fun E_ H locs q9 ce hro hP hS h1_ h2_ h3_ => ?_) (fun res_ w1_ H locs hro hP hD hS => ?_)
  · rcases bh12_s hm with ⟨r_1, va_2, vb_3, vh_4, vi2_5, vj2_6, vk2_7, vc2_8, va2_9, vpa2_10, vb2_11, vpb2_12, hc_, hm⟩ | ⟨E2_, hc_, hm⟩
    · rw [hc_] at hro; exact (my_map_lr hro).elim
    · rw [hc_] at hro
      have hE_ := my_map_rr hro
      subst hE_
      by_cases ck_13 : E2_ = "java/lang/IndexOutOfBoundsException"
      · replace hm := if_s hm ck_13
        subst ck_13
        refine vx_catch (name := "java/lang/IndexOutOfBoundsException") hown [] ⟨0, 9, 12, 24⟩ [] (htab.trans rfl) (fun z hz => nomatch hz) rfl (by decide) (hts (.classLink RL 24 "java/lang/IndexOutOfBoundsException") (List.mem_of_getElem? (i := 1) rfl)) (va_Nw.use rfl hstr.2.1) h1_ h2_ h3_ ?_
        refine lv_astore_n (lv' := [(3, .ref q9), (0, .ref q_bf), (1, .int x1), (2, .ref q_ou)]) hx hb dL_wipe_12 rfl hl (by decide) rfl (fun ls hl => ?_)
        refine lv_iconst (v := (1 : Int32)) hx hb dL_wipe_13 (by decide) ?_
        obtain ⟨hf0, hf1, hf2, hf3, hf4, hf5, hf6, hf7, hf8, hf9, hf10, hf11, hf12⟩ := si13 hm
        subst hf0
        subst hf1
        subst hf2
        subst hf3
        subst hf4
        subst hf5
        subst hf6
        subst hf7
        subst hf8
        subst hf9
        subst hf10
        subst hf11
        subst hf12
        exact W.widen (k := 1) (n := 6) (Nat.le_of_ble_eq_true rfl) (Nat.le_of_ble_eq_true rfl) (W.iret (v := (1 : Int32)) hx hb hr (fun t ht hW => ⟨⟨rfl, by rw [ht]; exact hP⟩, hS.F ht⟩) hS.2.2 dL_wipe_14)
      · replace hm := if_f hm ck_13
        cases hm
  rcases bh12_s hm with ⟨r_1, va_2, vb_3, vh_4, vi2_5, vj2_6, vk2_7, vc2_8, va2_9, vpa2_10, vb2_11, vpb2_12, hc_, hm⟩ | ⟨E2_, hc_, hm⟩
  rotate_left
  · rw [hc_] at hro; exact (my_map_rl hro).elim
  rw [hc_] at hro
  obtain ⟨rfl, rfl⟩ := my_map_ll hro
  replace hP : va_P (my_D Γ) vwCl (wBF Γ q_bf q_tx q_fl q_flT q_hi q_s1 q_s2 q_fd q_kc q_kr  ++ wFloor Γ q_fl q_k q_c q_a q_pa q_b q_pb vi vj vk vc va_2 vpa vb_3 vpb ++ wHist Γ q_hi q_hs vh_4 vhs ++ wFloor Γ q_fl2 q_k2 q_c2 q_a2 q_pa2 q_b2 q_pb2 vi2_5 vj2_6 vk2_7 vc2_8 va2_9 vpa2_10 vb2_11 vpb2_12 ++ wOut Γ q_ou vou) H := hP
  replace hD : va_D A (wBF Γ q_bf q_tx q_fl q_flT q_hi q_s1 q_s2 q_fd q_kc q_kr  ++ wFloor Γ q_fl q_k q_c q_a q_pa q_b q_pb vi vj vk vc va_2 vpa vb_3 vpb ++ wHist Γ q_hi q_hs vh_4 vhs ++ wFloor Γ q_fl2 q_k2 q_c2 q_a2 q_pa2 q_b2 q_pb2 vi2_5 vj2_6 vk2_7 vc2_8 va2_9 vpa2_10 vb2_11 vpb2_12 ++ wOut Γ q_ou vou) := hD
  refine lv_i2l (v := r_1.toInt64) hx hb dL_wipe_7 rfl ?_
  refine lv_topl (fun y_14 ey_14 => ?_)
  refine va_last hx hb hK hP hD hS 17 1 rfl rfl (show vp_in (0 : Int32) 1 from (by decide : ¬ ((0 : Int32) < 0 ∨ 1 ≤ (0 : Int32).toNatClampNeg))) dL_wipe_8 (fun H locs hP hD hS => ?_)
  replace hP : va_P (my_D Γ) vwCl (wBF Γ q_bf q_tx q_fl q_flT q_hi q_s1 q_s2 q_fd q_kc q_kr  ++ wFloor Γ q_fl q_k q_c q_a q_pa q_b q_pb vi vj vk vc va_2 vpa vb_3 vpb ++ wHist Γ q_hi q_hs vh_4 vhs ++ wFloor Γ q_fl2 q_k2 q_c2 q_a2 q_pa2 q_b2 q_pb2 vi2_5 vj2_6 vk2_7 vc2_8 va2_9 vpa2_10 vb2_11 vpb2_12 ++ wOut Γ q_ou (vp_updL vou (0 : Int32).toNatClampNeg y_14)) H := hP
  replace hD : va_D A (wBF Γ q_bf q_tx q_fl q_flT q_hi q_s1 q_s2 q_fd q_kc q_kr  ++ wFloor Γ q_fl q_k q_c q_a q_pa q_b q_pb vi vj vk vc va_2 vpa vb_3 vpb ++ wHist Γ q_hi q_hs vh_4 vhs ++ wFloor Γ q_fl2 q_k2 q_c2 q_a2 q_pa2 q_b2 q_pb2 vi2_5 vj2_6 vk2_7 vc2_8 va2_9 vpa2_10 vb2_11 vpb2_12 ++ wOut Γ q_ou (vp_updL vou (0 : Int32).toNatClampNeg y_14)) := hD
  subst ey_14
  refine lv_goto (tgt := 15) hx hb dL_wipe_9 (by decide) ?_
  refine lv_iconst (v := (0 : Int32)) hx hb dL_wipe_15 (by decide) ?_
  obtain ⟨hf0, hf1, hf2, hf3, hf4, hf5, hf6, hf7, hf8, hf9, hf10, hf11, hf12⟩ := si13 hm
  subst hf0
  subst hf1
  subst hf2
  subst hf3
  subst hf4
  subst hf5
  subst hf6
  subst hf7
  subst hf8
  subst hf9
  subst hf10
  subst hf11
  subst hf12
  exact W.widen (k := 1) (n := 6) (Nat.le_of_ble_eq_true rfl) (Nat.le_of_ble_eq_true rfl) (W.iret (v := (0 : Int32)) hx hb hr (fun t ht hW => ⟨⟨rfl, by rw [ht]; exact hP⟩, hS.F ht⟩) hS.2.2 dL_wipe_16)
def mL_step (vi : Nat → Int32) (vj : Nat → Int64) (vk : Nat → Int32) (vc : Nat → Int32) (va : Nat → Int32) (vpa : Nat → Int32) (vb : Nat → Int32) (vpb : Nat → Int32) (vh : Nat → Int32) (vhs : Nat → Option Nat) (vi2 : Nat → Int32) (vj2 : Nat → Int64) (vk2 : Nat → Int32) (vc2 : Nat → Int32) (va2 : Nat → Int32) (vpa2 : Nat → Int32) (vb2 : Nat → Int32) (vpb2 : Nat → Int32) (vou : Nat → Int64) (q_fl2 : Nat) (x1 : Int32) : Option (Int32 × (Nat → Int32) × (Nat → Int64) × (Nat → Int32) × (Nat → Int32) × (Nat → Int32) × (Nat → Int32) × (Nat → Int64) × (Nat → Int32) × (Nat → Int32) × (Nat → Int32) × (Nat → Int32) × (Nat → Int32) × (Nat → Int32) × (Nat → Int64)) := (bo1 (mX8_step vi vj vk vc va vpa vb vpb vh vhs vi2 vj2 vk2 vc2 va2 vpa2 vb2 vpb2 q_fl2 x1) (fun mr_ => (bh14 mr_ (fun r_1 vi_2 vj_3 va_4 vb_5 vh_6 vi2_7 vj2_8 vk2_9 vc2_10 va2_11 vpa2_12 vb2_13 vpb2_14 => (some ((0 : Int32), vi_2, vj_3, va_4, vb_5, vh_6, vi2_7, vj2_8, vk2_9, vc2_10, va2_11, vpa2_12, vb2_13, vpb2_14, (vp_updL vou (0 : Int32).toNatClampNeg (r_1.toInt64))))) (fun E_ => (if E_ = "java/lang/IllegalArgumentException" then (some ((1 : Int32), vi, vj, va, vb, vh, vi2, vj2, vk2, vc2, va2, vpa2, vb2, vpb2, vou)) else none)))))
set_option maxHeartbeats 4000000 in
set_option maxRecDepth 100000 in
theorem kL_step (l : Launch) (Γ : my_G) (hfl : l.stackTraces = false) (q_bf q_fl q_k q_c q_a q_pa q_b q_pb q_hi q_hs q_fl2 q_k2 q_c2 q_a2 q_pa2 q_b2 q_pb2 q_ou q_tx q_flT q_s1 q_s2 q_fd q_kc q_kr : Nat) (vi : Nat → Int32) (vj : Nat → Int64) (vk : Nat → Int32) (vc : Nat → Int32) (va : Nat → Int32) (vpa : Nat → Int32) (vb : Nat → Int32) (vpb : Nat → Int32) (vh : Nat → Int32) (vhs : Nat → Option Nat) (vi2 : Nat → Int32) (vj2 : Nat → Int64) (vk2 : Nat → Int32) (vc2 : Nat → Int32) (va2 : Nat → Int32) (vpa2 : Nat → Int32) (vb2 : Nat → Int32) (vpb2 : Nat → Int32) (vou : Nat → Int64) (x1 : Int32) (rr : Int32) (vi_z : Nat → Int32) (vj_z : Nat → Int64) (va_z : Nat → Int32) (vb_z : Nat → Int32) (vh_z : Nat → Int32) (vi2_z : Nat → Int32) (vj2_z : Nat → Int64) (vk2_z : Nat → Int32) (vc2_z : Nat → Int32) (va2_z : Nat → Int32) (vpa2_z : Nat → Int32) (vb2_z : Nat → Int32) (vpb2_z : Nat → Int32) (vou_z : Nat → Int64) (hm : mL_step vi vj vk vc va vpa vb vpb vh vhs vi2 vj2 vk2 vc2 va2 vpa2 vb2 vpb2 vou q_fl2 x1 = (some (rr, vi_z, vj_z, va_z, vb_z, vh_z, vi2_z, vj2_z, vk2_z, vc2_z, va2_z, vpa2_z, vb2_z, vpb2_z, vou_z))) : MnW l yL_step wsL_step ({ frames := 7, cells := 1, slots := 6, locals := 172 } : Room) Γ [.ref q_bf, .int x1, .ref q_ou] (wBF Γ q_bf q_tx q_fl q_flT q_hi q_s1 q_s2 q_fd q_kc q_kr  ++ wFloor Γ q_fl q_k q_c q_a q_pa q_b q_pb vi vj vk vc va vpa vb vpb ++ wHist Γ q_hi q_hs vh vhs ++ wFloor Γ q_fl2 q_k2 q_c2 q_a2 q_pa2 q_b2 q_pb2 vi2 vj2 vk2 vc2 va2 vpa2 vb2 vpb2 ++ wOut Γ q_ou vou) (some (.int rr)) (wBF Γ q_bf q_tx q_fl q_flT q_hi q_s1 q_s2 q_fd q_kc q_kr  ++ wFloor Γ q_fl q_k q_c q_a q_pa q_b q_pb vi_z vj_z vk vc va_z vpa vb_z vpb ++ wHist Γ q_hi q_hs vh_z vhs ++ wFloor Γ q_fl2 q_k2 q_c2 q_a2 q_pa2 q_b2 q_pb2 vi2_z vj2_z vk2_z vc2_z va2_z vpa2_z vb2_z vpb2_z ++ wOut Γ q_ou vou_z) 1 6 := by
  intro sz
  refine va_MetW (cc := cL_step) (maxL := 4) (ret := (some .int)) (by decide) rfl ?_
  intro p e s m args below meth c s₁ B hml hv
  obtain ⟨rfl, ⟨hsz, hP, hK, hD0⟩, hZ, hstr, hnc⟩ := hv
  have htab := vx_table (x := yL_step) (hh := [(0, 9, 12, 13)]) B (atoms_spec (ws := wsL_step) B.pre _ List.mem_cons_self)
  have hx := B.exec
  have hb := B.bytes
  have hr := B.returns
  have hts := atoms_spec (ws := wsL_step) B.pre
  have hown : s.vm.findClass RL = some m.cls := findClass_of_methodNamed B.named
  have hlocks := B.notSynchronized
  have hinX1 : ∀ w ∈ u_ws RX1 TX1 12, w ∈ wsL_step := fun w h => List.mem_cons_of_mem _ (List.mem_append_left _ (List.mem_append_left _ (List.mem_append_right _ h)))
  have hinX3 : ∀ w ∈ u_ws RX3 TX3 3, w ∈ wsL_step := fun w h => List.mem_cons_of_mem _ (List.mem_append_left _ (List.mem_append_left _ (List.mem_append_left _ (List.mem_append_right _ h))))
  have hinX4 : ∀ w ∈ u_ws RX4 TX4 10, w ∈ wsL_step := fun w h => List.mem_cons_of_mem _ (List.mem_append_left _ (List.mem_append_right _ h))
  have hinX8 : ∀ w ∈ u_ws RX8 TX8 9, w ∈ wsL_step := fun w h => List.mem_cons_of_mem _ (List.mem_append_left _ (List.mem_append_left _ (List.mem_append_left _ (List.mem_append_left _ (List.mem_append_right _ h)))))
  subst hsz
  have hD := hD0.self (sz := s.heap.size)
  have hA : ∀ q : Nat, s.heap.size ≤ q → va_A (wBF Γ q_bf q_tx q_fl q_flT q_hi q_s1 q_s2 q_fd q_kc q_kr  ++ wFloor Γ q_fl q_k q_c q_a q_pa q_b q_pb vi vj vk vc va vpa vb vpb ++ wHist Γ q_hi q_hs vh vhs ++ wFloor Γ q_fl2 q_k2 q_c2 q_a2 q_pa2 q_b2 q_pb2 vi2 vj2 vk2 vc2 va2 vpa2 vb2 vpb2 ++ wOut Γ q_ou vou) s.heap.size q := fun q h => Or.inr h
  generalize va_A (wBF Γ q_bf q_tx q_fl q_flT q_hi q_s1 q_s2 q_fd q_kc q_kr  ++ wFloor Γ q_fl q_k q_c q_a q_pa q_b q_pb vi vj vk vc va vpa vb vpb ++ wHist Γ q_hi q_hs vh vhs ++ wFloor Γ q_fl2 q_k2 q_c2 q_a2 q_pa2 q_b2 q_pb2 vi2 vj2 vk2 vc2 va2 vpa2 vb2 vpb2 ++ wOut Γ q_ou vou) s.heap.size = A at hD hA hZ ⊢
  have hS : va_S A s.heap s.heap [] := va_S.rf
  have hl := lv_entry ([.ref q_bf, .int x1, .ref q_ou]) (n := 4) (Nat.le_of_ble_eq_true rfl)
  rw [lg_entry_eq]
  generalize (lg_sl ([.ref q_bf, .int x1, .ref q_ou]) ++ List.replicate (4 - (lg_sl ([.ref q_bf, .int x1, .ref q_ou])).length) Slot.unset).toArray = ls at hl ⊢
  replace hl : lv_has ls 4 [(0, .ref q_bf), (1, .int x1), (2, .ref q_ou)] := hl
  unfold mL_step at hm
  refine lv_aload_n hx hb dL_step_0 rfl (lv_at hl 2 rfl) ?_
  refine lv_iconst (v := (0 : Int32)) hx hb dL_step_1 (by decide) ?_
  refine lv_aload_n hx hb dL_step_2 rfl (lv_at hl 0 rfl) ?_
  refine lv_iload_n hx hb dL_step_3 rfl (lv_at hl 1 rfl) ?_
  obtain ⟨mr_, hc0_, hm⟩ := bo1_s hm
  refine my_callPX (wc := (wBF Γ q_bf q_tx q_fl q_flT q_hi q_s1 q_s2 q_fd q_kc q_kr  ++ wFloor Γ q_fl q_k q_c q_a q_pa q_b q_pb vi vj vk vc va vpa vb vpb ++ wHist Γ q_hi q_hs vh vhs ++ wFloor Γ q_fl2 q_k2 q_c2 q_a2 q_pa2 q_b2 q_pb2 vi2 vj2 vk2 vc2 va2 vpa2 vb2 vpb2)) hP hD hS hA [0, 1, 2, 3, 4, 5, 6, 7, 8, 9, 10, 11, 12, 13, 14, 15, 16] rfl rfl (fun res w1 h9 => my_had2 h9 (fun q => rfl)) (vx_runV (As := [.int x1]) (rest := [.int (0 : Int32), .ref q_ou]) ⟨hx, hb, hml, hown, hts⟩ (kX8_step l Γ hfl q_bf q_fl q_k q_c q_a q_pa q_b q_pb q_hi q_hs q_fl2 q_k2 q_c2 q_a2 q_pa2 q_b2 q_pb2 q_tx q_flT q_s1 q_s2 q_fd q_kc q_kr vi vj vk vc va vpa vb vpb vh vhs vi2 vj2 vk2 vc2 va2 vpa2 vb2 vpb2 x1 mr_ hc0_ _) (cwV 1 hts gL_step_X8_step rfl rfl rfl (by decide +kernel) ⟨Nat.le_of_ble_eq_true rfl, Nat.le_of_ble_eq_true rfl⟩) (my_preVX (wc := (wBF Γ q_bf q_tx q_fl q_flT q_hi q_s1 q_s2 q_fd q_kc q_kr  ++ wFloor Γ q_fl q_k q_c q_a q_pa q_b q_pb vi vj vk vc va vpa vb vpb ++ wHist Γ q_hi q_hs vh vhs ++ wFloor Γ q_fl2 q_k2 q_c2 q_a2 q_pa2 q_b2 q_pb2 vi2 vj2 vk2 vc2 va2 vpa2 vb2 vpb2)) (ci := 6) (q0 := 0) [0, 1, 2, 3, 4, 5, 6, 7, 8, 9, 10, 11, 12, 13, 14, 15, 16] hK hP hD hS hA hZ hstr rfl rfl rfl rfl) rfl rfl hl.1 rfl (lv_room (Nat.le_of_ble_eq_true rfl)) dL_step_4 ⟨Nat.le_of_ble_eq_true rfl, Nat.le_of_ble_eq_true rfl⟩) (fun E_ H locs q9 ce hro hP hS h1_ h2_ h3_ => ?_) (fun res_ w1_ H locs hro hP hD hS => ?_)
  · rcases bh14_s hm with ⟨r_1, vi_2, vj_3, va_4, vb_5, vh_6, vi2_7, vj2_8, vk2_9, vc2_10, va2_11, vpa2_12, vb2_13, vpb2_14, hc_, hm⟩ | ⟨E2_, hc_, hm⟩
    · rw [hc_] at hro; exact (my_map_lr hro).elim
    · rw [hc_] at hro
      have hE_ := my_map_rr hro
      subst hE_
      by_cases ck_15 : E2_ = "java/lang/IllegalArgumentException"
      · replace hm := if_s hm ck_15
        subst ck_15
        refine vx_catch (name := "java/lang/IllegalArgumentException") hown [] ⟨0, 9, 12, 13⟩ [] (htab.trans rfl) (fun z hz => nomatch hz) rfl (by decide) (hts (.classLink RL 13 "java/lang/IllegalArgumentException") (List.mem_of_getElem? (i := 1) rfl)) (va_Nw.use rfl hstr.2.2.1) h1_ h2_ h3_ ?_
        refine lv_astore_n (lv' := [(3, .ref q9), (0, .ref q_bf), (1, .int x1), (2, .ref q_ou)]) hx hb dL_step_12 rfl hl (by decide) rfl (fun ls hl => ?_)
        refine lv_iconst (v := (1 : Int32)) hx hb dL_step_13 (by decide) ?_
        obtain ⟨hf0, hf1, hf2, hf3, hf4, hf5, hf6, hf7, hf8, hf9, hf10, hf11, hf12, hf13, hf14⟩ := si15 hm
        subst hf0
        subst hf1
        subst hf2
        subst hf3
        subst hf4
        subst hf5
        subst hf6
        subst hf7
        subst hf8
        subst hf9
        subst hf10
        subst hf11
        subst hf12
        subst hf13
        subst hf14
        exact W.widen (k := 1) (n := 6) (Nat.le_of_ble_eq_true rfl) (Nat.le_of_ble_eq_true rfl) (W.iret (v := (1 : Int32)) hx hb hr (fun t ht hW => ⟨⟨rfl, by rw [ht]; exact hP⟩, hS.F ht⟩) hS.2.2 dL_step_14)
      · replace hm := if_f hm ck_15
        cases hm
  rcases bh14_s hm with ⟨r_1, vi_2, vj_3, va_4, vb_5, vh_6, vi2_7, vj2_8, vk2_9, vc2_10, va2_11, vpa2_12, vb2_13, vpb2_14, hc_, hm⟩ | ⟨E2_, hc_, hm⟩
  rotate_left
  · rw [hc_] at hro; exact (my_map_rl hro).elim
  rw [hc_] at hro
  obtain ⟨rfl, rfl⟩ := my_map_ll hro
  replace hP : va_P (my_D Γ) vwCl (wBF Γ q_bf q_tx q_fl q_flT q_hi q_s1 q_s2 q_fd q_kc q_kr  ++ wFloor Γ q_fl q_k q_c q_a q_pa q_b q_pb vi_2 vj_3 vk vc va_4 vpa vb_5 vpb ++ wHist Γ q_hi q_hs vh_6 vhs ++ wFloor Γ q_fl2 q_k2 q_c2 q_a2 q_pa2 q_b2 q_pb2 vi2_7 vj2_8 vk2_9 vc2_10 va2_11 vpa2_12 vb2_13 vpb2_14 ++ wOut Γ q_ou vou) H := hP
  replace hD : va_D A (wBF Γ q_bf q_tx q_fl q_flT q_hi q_s1 q_s2 q_fd q_kc q_kr  ++ wFloor Γ q_fl q_k q_c q_a q_pa q_b q_pb vi_2 vj_3 vk vc va_4 vpa vb_5 vpb ++ wHist Γ q_hi q_hs vh_6 vhs ++ wFloor Γ q_fl2 q_k2 q_c2 q_a2 q_pa2 q_b2 q_pb2 vi2_7 vj2_8 vk2_9 vc2_10 va2_11 vpa2_12 vb2_13 vpb2_14 ++ wOut Γ q_ou vou) := hD
  refine lv_i2l (v := r_1.toInt64) hx hb dL_step_7 rfl ?_
  refine lv_topl (fun y_16 ey_16 => ?_)
  refine va_last hx hb hK hP hD hS 17 1 rfl rfl (show vp_in (0 : Int32) 1 from (by decide : ¬ ((0 : Int32) < 0 ∨ 1 ≤ (0 : Int32).toNatClampNeg))) dL_step_8 (fun H locs hP hD hS => ?_)
  replace hP : va_P (my_D Γ) vwCl (wBF Γ q_bf q_tx q_fl q_flT q_hi q_s1 q_s2 q_fd q_kc q_kr  ++ wFloor Γ q_fl q_k q_c q_a q_pa q_b q_pb vi_2 vj_3 vk vc va_4 vpa vb_5 vpb ++ wHist Γ q_hi q_hs vh_6 vhs ++ wFloor Γ q_fl2 q_k2 q_c2 q_a2 q_pa2 q_b2 q_pb2 vi2_7 vj2_8 vk2_9 vc2_10 va2_11 vpa2_12 vb2_13 vpb2_14 ++ wOut Γ q_ou (vp_updL vou (0 : Int32).toNatClampNeg y_16)) H := hP
  replace hD : va_D A (wBF Γ q_bf q_tx q_fl q_flT q_hi q_s1 q_s2 q_fd q_kc q_kr  ++ wFloor Γ q_fl q_k q_c q_a q_pa q_b q_pb vi_2 vj_3 vk vc va_4 vpa vb_5 vpb ++ wHist Γ q_hi q_hs vh_6 vhs ++ wFloor Γ q_fl2 q_k2 q_c2 q_a2 q_pa2 q_b2 q_pb2 vi2_7 vj2_8 vk2_9 vc2_10 va2_11 vpa2_12 vb2_13 vpb2_14 ++ wOut Γ q_ou (vp_updL vou (0 : Int32).toNatClampNeg y_16)) := hD
  subst ey_16
  refine lv_goto (tgt := 15) hx hb dL_step_9 (by decide) ?_
  refine lv_iconst (v := (0 : Int32)) hx hb dL_step_15 (by decide) ?_
  obtain ⟨hf0, hf1, hf2, hf3, hf4, hf5, hf6, hf7, hf8, hf9, hf10, hf11, hf12, hf13, hf14⟩ := si15 hm
  subst hf0
  subst hf1
  subst hf2
  subst hf3
  subst hf4
  subst hf5
  subst hf6
  subst hf7
  subst hf8
  subst hf9
  subst hf10
  subst hf11
  subst hf12
  subst hf13
  subst hf14
  exact W.widen (k := 1) (n := 6) (Nat.le_of_ble_eq_true rfl) (Nat.le_of_ble_eq_true rfl) (W.iret (v := (0 : Int32)) hx hb hr (fun t ht hW => ⟨⟨rfl, by rw [ht]; exact hP⟩, hS.F ht⟩) hS.2.2 dL_step_16)
def mL_undo (vi : Nat → Int32) (vj : Nat → Int64) (vk : Nat → Int32) (vc : Nat → Int32) (va : Nat → Int32) (vpa : Nat → Int32) (vb : Nat → Int32) (vpb : Nat → Int32) (vh : Nat → Int32) (vhs : Nat → Option Nat) (vi2 : Nat → Int32) (vj2 : Nat → Int64) (vk2 : Nat → Int32) (vc2 : Nat → Int32) (va2 : Nat → Int32) (vpa2 : Nat → Int32) (vb2 : Nat → Int32) (vpb2 : Nat → Int32) (vou : Nat → Int64) (q_fl2 : Nat) : Option (Int32 × (Nat → Int32) × (Nat → Int64) × (Nat → Int32) × (Nat → Int32) × (Nat → Int32) × (Nat → Int32) × (Nat → Int32) × (Nat → Int32) × (Nat → Int32) × (Nat → Int64)) := (bo1 (mX8_undo vi vj vk vc va vpa vb vpb vh vhs vi2 vj2 vk2 vc2 va2 vpa2 vb2 vpb2 q_fl2) (fun mr_ => (bh10 mr_ (fun r_1 vi_2 vj_3 vk_4 vc_5 va_6 vpa_7 vb_8 vpb_9 vh_10 => (some ((0 : Int32), vi_2, vj_3, vk_4, vc_5, va_6, vpa_7, vb_8, vpb_9, vh_10, (vp_updL vou (0 : Int32).toNatClampNeg (r_1.toInt64))))) (fun E_ => (if E_ = "java/lang/IllegalStateException" then (some ((1 : Int32), vi, vj, vk, vc, va, vpa, vb, vpb, vh, vou)) else none)))))
set_option maxHeartbeats 4000000 in
set_option maxRecDepth 100000 in
theorem kL_undo (l : Launch) (Γ : my_G) (hfl : l.stackTraces = false) (q_bf q_fl q_k q_c q_a q_pa q_b q_pb q_hi q_hs q_fl2 q_k2 q_c2 q_a2 q_pa2 q_b2 q_pb2 q_ou q_tx q_flT q_s1 q_s2 q_fd q_kc q_kr : Nat) (vi : Nat → Int32) (vj : Nat → Int64) (vk : Nat → Int32) (vc : Nat → Int32) (va : Nat → Int32) (vpa : Nat → Int32) (vb : Nat → Int32) (vpb : Nat → Int32) (vh : Nat → Int32) (vhs : Nat → Option Nat) (vi2 : Nat → Int32) (vj2 : Nat → Int64) (vk2 : Nat → Int32) (vc2 : Nat → Int32) (va2 : Nat → Int32) (vpa2 : Nat → Int32) (vb2 : Nat → Int32) (vpb2 : Nat → Int32) (vou : Nat → Int64)  (rr : Int32) (vi_z : Nat → Int32) (vj_z : Nat → Int64) (vk_z : Nat → Int32) (vc_z : Nat → Int32) (va_z : Nat → Int32) (vpa_z : Nat → Int32) (vb_z : Nat → Int32) (vpb_z : Nat → Int32) (vh_z : Nat → Int32) (vou_z : Nat → Int64) (hm : mL_undo vi vj vk vc va vpa vb vpb vh vhs vi2 vj2 vk2 vc2 va2 vpa2 vb2 vpb2 vou q_fl2 = (some (rr, vi_z, vj_z, vk_z, vc_z, va_z, vpa_z, vb_z, vpb_z, vh_z, vou_z))) : MnW l yL_undo wsL_undo ({ frames := 7, cells := 1, slots := 6, locals := 120 } : Room) Γ [.ref q_bf, .ref q_ou] (wBF Γ q_bf q_tx q_fl q_flT q_hi q_s1 q_s2 q_fd q_kc q_kr  ++ wFloor Γ q_fl q_k q_c q_a q_pa q_b q_pb vi vj vk vc va vpa vb vpb ++ wHist Γ q_hi q_hs vh vhs ++ wFloor Γ q_fl2 q_k2 q_c2 q_a2 q_pa2 q_b2 q_pb2 vi2 vj2 vk2 vc2 va2 vpa2 vb2 vpb2 ++ wOut Γ q_ou vou) (some (.int rr)) (wBF Γ q_bf q_tx q_fl q_flT q_hi q_s1 q_s2 q_fd q_kc q_kr  ++ wFloor Γ q_fl q_k q_c q_a q_pa q_b q_pb vi_z vj_z vk_z vc_z va_z vpa_z vb_z vpb_z ++ wHist Γ q_hi q_hs vh_z vhs ++ wFloor Γ q_fl2 q_k2 q_c2 q_a2 q_pa2 q_b2 q_pb2 vi2 vj2 vk2 vc2 va2 vpa2 vb2 vpb2 ++ wOut Γ q_ou vou_z) 1 6 := by
  intro sz
  refine va_MetW (cc := cL_undo) (maxL := 3) (ret := (some .int)) (by decide) rfl ?_
  intro p e s m args below meth c s₁ B hml hv
  obtain ⟨rfl, ⟨hsz, hP, hK, hD0⟩, hZ, hstr, hnc⟩ := hv
  have htab := vx_table (x := yL_undo) (hh := [(0, 8, 11, 15)]) B (atoms_spec (ws := wsL_undo) B.pre _ List.mem_cons_self)
  have hx := B.exec
  have hb := B.bytes
  have hr := B.returns
  have hts := atoms_spec (ws := wsL_undo) B.pre
  have hown : s.vm.findClass RL = some m.cls := findClass_of_methodNamed B.named
  have hlocks := B.notSynchronized
  have hinX1 : ∀ w ∈ u_ws RX1 TX1 12, w ∈ wsL_undo := fun w h => List.mem_cons_of_mem _ (List.mem_append_left _ (List.mem_append_left _ (List.mem_append_right _ h)))
  have hinX3 : ∀ w ∈ u_ws RX3 TX3 3, w ∈ wsL_undo := fun w h => List.mem_cons_of_mem _ (List.mem_append_left _ (List.mem_append_left _ (List.mem_append_left _ (List.mem_append_right _ h))))
  have hinX4 : ∀ w ∈ u_ws RX4 TX4 10, w ∈ wsL_undo := fun w h => List.mem_cons_of_mem _ (List.mem_append_left _ (List.mem_append_right _ h))
  have hinX8 : ∀ w ∈ u_ws RX8 TX8 9, w ∈ wsL_undo := fun w h => List.mem_cons_of_mem _ (List.mem_append_left _ (List.mem_append_left _ (List.mem_append_left _ (List.mem_append_left _ (List.mem_append_right _ h)))))
  subst hsz
  have hD := hD0.self (sz := s.heap.size)
  have hA : ∀ q : Nat, s.heap.size ≤ q → va_A (wBF Γ q_bf q_tx q_fl q_flT q_hi q_s1 q_s2 q_fd q_kc q_kr  ++ wFloor Γ q_fl q_k q_c q_a q_pa q_b q_pb vi vj vk vc va vpa vb vpb ++ wHist Γ q_hi q_hs vh vhs ++ wFloor Γ q_fl2 q_k2 q_c2 q_a2 q_pa2 q_b2 q_pb2 vi2 vj2 vk2 vc2 va2 vpa2 vb2 vpb2 ++ wOut Γ q_ou vou) s.heap.size q := fun q h => Or.inr h
  generalize va_A (wBF Γ q_bf q_tx q_fl q_flT q_hi q_s1 q_s2 q_fd q_kc q_kr  ++ wFloor Γ q_fl q_k q_c q_a q_pa q_b q_pb vi vj vk vc va vpa vb vpb ++ wHist Γ q_hi q_hs vh vhs ++ wFloor Γ q_fl2 q_k2 q_c2 q_a2 q_pa2 q_b2 q_pb2 vi2 vj2 vk2 vc2 va2 vpa2 vb2 vpb2 ++ wOut Γ q_ou vou) s.heap.size = A at hD hA hZ ⊢
  have hS : va_S A s.heap s.heap [] := va_S.rf
  have hl := lv_entry ([.ref q_bf, .ref q_ou]) (n := 3) (Nat.le_of_ble_eq_true rfl)
  rw [lg_entry_eq]
  generalize (lg_sl ([.ref q_bf, .ref q_ou]) ++ List.replicate (3 - (lg_sl ([.ref q_bf, .ref q_ou])).length) Slot.unset).toArray = ls at hl ⊢
  replace hl : lv_has ls 3 [(0, .ref q_bf), (1, .ref q_ou)] := hl
  unfold mL_undo at hm
  refine lv_aload_n hx hb dL_undo_0 rfl (lv_at hl 1 rfl) ?_
  refine lv_iconst (v := (0 : Int32)) hx hb dL_undo_1 (by decide) ?_
  refine lv_aload_n hx hb dL_undo_2 rfl (lv_at hl 0 rfl) ?_
  obtain ⟨mr_, hc0_, hm⟩ := bo1_s hm
  refine my_callPX (wc := (wBF Γ q_bf q_tx q_fl q_flT q_hi q_s1 q_s2 q_fd q_kc q_kr  ++ wFloor Γ q_fl q_k q_c q_a q_pa q_b q_pb vi vj vk vc va vpa vb vpb ++ wHist Γ q_hi q_hs vh vhs ++ wFloor Γ q_fl2 q_k2 q_c2 q_a2 q_pa2 q_b2 q_pb2 vi2 vj2 vk2 vc2 va2 vpa2 vb2 vpb2)) hP hD hS hA [0, 1, 2, 3, 4, 5, 6, 7, 8, 9, 10, 11, 12, 13, 14, 15, 16] rfl rfl (fun res w1 h9 => my_had2 h9 (fun q => rfl)) (vx_runV (As := []) (rest := [.int (0 : Int32), .ref q_ou]) ⟨hx, hb, hml, hown, hts⟩ (kX8_undo l Γ hfl q_bf q_fl q_k q_c q_a q_pa q_b q_pb q_hi q_hs q_fl2 q_k2 q_c2 q_a2 q_pa2 q_b2 q_pb2 q_tx q_flT q_s1 q_s2 q_fd q_kc q_kr vi vj vk vc va vpa vb vpb vh vhs vi2 vj2 vk2 vc2 va2 vpa2 vb2 vpb2  mr_ hc0_ _) (cwV 0 hts gL_undo_X8_undo rfl rfl rfl (by decide +kernel) ⟨Nat.le_of_ble_eq_true rfl, Nat.le_of_ble_eq_true rfl⟩) (my_preVX (wc := (wBF Γ q_bf q_tx q_fl q_flT q_hi q_s1 q_s2 q_fd q_kc q_kr  ++ wFloor Γ q_fl q_k q_c q_a q_pa q_b q_pb vi vj vk vc va vpa vb vpb ++ wHist Γ q_hi q_hs vh vhs ++ wFloor Γ q_fl2 q_k2 q_c2 q_a2 q_pa2 q_b2 q_pb2 vi2 vj2 vk2 vc2 va2 vpa2 vb2 vpb2)) (ci := 6) (q0 := 0) [0, 1, 2, 3, 4, 5, 6, 7, 8, 9, 10, 11, 12, 13, 14, 15, 16] hK hP hD hS hA hZ hstr rfl rfl rfl rfl) rfl rfl hl.1 rfl (lv_room (Nat.le_of_ble_eq_true rfl)) dL_undo_3 ⟨Nat.le_of_ble_eq_true rfl, Nat.le_of_ble_eq_true rfl⟩) (fun E_ H locs q9 ce hro hP hS h1_ h2_ h3_ => ?_) (fun res_ w1_ H locs hro hP hD hS => ?_)
  · rcases bh10_s hm with ⟨r_1, vi_2, vj_3, vk_4, vc_5, va_6, vpa_7, vb_8, vpb_9, vh_10, hc_, hm⟩ | ⟨E2_, hc_, hm⟩
    · rw [hc_] at hro; exact (my_map_lr hro).elim
    · rw [hc_] at hro
      have hE_ := my_map_rr hro
      subst hE_
      by_cases ck_11 : E2_ = "java/lang/IllegalStateException"
      · replace hm := if_s hm ck_11
        subst ck_11
        refine vx_catch (name := "java/lang/IllegalStateException") hown [] ⟨0, 8, 11, 15⟩ [] (htab.trans rfl) (fun z hz => nomatch hz) rfl (by decide) (hts (.classLink RL 15 "java/lang/IllegalStateException") (List.mem_of_getElem? (i := 1) rfl)) (va_Nw.use rfl hstr.2.2.2.1) h1_ h2_ h3_ ?_
        refine lv_astore_n (lv' := [(2, .ref q9), (0, .ref q_bf), (1, .ref q_ou)]) hx hb dL_undo_11 rfl hl (by decide) rfl (fun ls hl => ?_)
        refine lv_iconst (v := (1 : Int32)) hx hb dL_undo_12 (by decide) ?_
        obtain ⟨hf0, hf1, hf2, hf3, hf4, hf5, hf6, hf7, hf8, hf9, hf10⟩ := si11 hm
        subst hf0
        subst hf1
        subst hf2
        subst hf3
        subst hf4
        subst hf5
        subst hf6
        subst hf7
        subst hf8
        subst hf9
        subst hf10
        exact W.widen (k := 1) (n := 6) (Nat.le_of_ble_eq_true rfl) (Nat.le_of_ble_eq_true rfl) (W.iret (v := (1 : Int32)) hx hb hr (fun t ht hW => ⟨⟨rfl, by rw [ht]; exact hP⟩, hS.F ht⟩) hS.2.2 dL_undo_13)
      · replace hm := if_f hm ck_11
        cases hm
  rcases bh10_s hm with ⟨r_1, vi_2, vj_3, vk_4, vc_5, va_6, vpa_7, vb_8, vpb_9, vh_10, hc_, hm⟩ | ⟨E2_, hc_, hm⟩
  rotate_left
  · rw [hc_] at hro; exact (my_map_rl hro).elim
  rw [hc_] at hro
  obtain ⟨rfl, rfl⟩ := my_map_ll hro
  replace hP : va_P (my_D Γ) vwCl (wBF Γ q_bf q_tx q_fl q_flT q_hi q_s1 q_s2 q_fd q_kc q_kr  ++ wFloor Γ q_fl q_k q_c q_a q_pa q_b q_pb vi_2 vj_3 vk_4 vc_5 va_6 vpa_7 vb_8 vpb_9 ++ wHist Γ q_hi q_hs vh_10 vhs ++ wFloor Γ q_fl2 q_k2 q_c2 q_a2 q_pa2 q_b2 q_pb2 vi2 vj2 vk2 vc2 va2 vpa2 vb2 vpb2 ++ wOut Γ q_ou vou) H := hP
  replace hD : va_D A (wBF Γ q_bf q_tx q_fl q_flT q_hi q_s1 q_s2 q_fd q_kc q_kr  ++ wFloor Γ q_fl q_k q_c q_a q_pa q_b q_pb vi_2 vj_3 vk_4 vc_5 va_6 vpa_7 vb_8 vpb_9 ++ wHist Γ q_hi q_hs vh_10 vhs ++ wFloor Γ q_fl2 q_k2 q_c2 q_a2 q_pa2 q_b2 q_pb2 vi2 vj2 vk2 vc2 va2 vpa2 vb2 vpb2 ++ wOut Γ q_ou vou) := hD
  refine lv_i2l (v := r_1.toInt64) hx hb dL_undo_6 rfl ?_
  refine lv_topl (fun y_12 ey_12 => ?_)
  refine va_last hx hb hK hP hD hS 17 1 rfl rfl (show vp_in (0 : Int32) 1 from (by decide : ¬ ((0 : Int32) < 0 ∨ 1 ≤ (0 : Int32).toNatClampNeg))) dL_undo_7 (fun H locs hP hD hS => ?_)
  replace hP : va_P (my_D Γ) vwCl (wBF Γ q_bf q_tx q_fl q_flT q_hi q_s1 q_s2 q_fd q_kc q_kr  ++ wFloor Γ q_fl q_k q_c q_a q_pa q_b q_pb vi_2 vj_3 vk_4 vc_5 va_6 vpa_7 vb_8 vpb_9 ++ wHist Γ q_hi q_hs vh_10 vhs ++ wFloor Γ q_fl2 q_k2 q_c2 q_a2 q_pa2 q_b2 q_pb2 vi2 vj2 vk2 vc2 va2 vpa2 vb2 vpb2 ++ wOut Γ q_ou (vp_updL vou (0 : Int32).toNatClampNeg y_12)) H := hP
  replace hD : va_D A (wBF Γ q_bf q_tx q_fl q_flT q_hi q_s1 q_s2 q_fd q_kc q_kr  ++ wFloor Γ q_fl q_k q_c q_a q_pa q_b q_pb vi_2 vj_3 vk_4 vc_5 va_6 vpa_7 vb_8 vpb_9 ++ wHist Γ q_hi q_hs vh_10 vhs ++ wFloor Γ q_fl2 q_k2 q_c2 q_a2 q_pa2 q_b2 q_pb2 vi2 vj2 vk2 vc2 va2 vpa2 vb2 vpb2 ++ wOut Γ q_ou (vp_updL vou (0 : Int32).toNatClampNeg y_12)) := hD
  subst ey_12
  refine lv_goto (tgt := 14) hx hb dL_undo_8 (by decide) ?_
  refine lv_iconst (v := (0 : Int32)) hx hb dL_undo_14 (by decide) ?_
  obtain ⟨hf0, hf1, hf2, hf3, hf4, hf5, hf6, hf7, hf8, hf9, hf10⟩ := si11 hm
  subst hf0
  subst hf1
  subst hf2
  subst hf3
  subst hf4
  subst hf5
  subst hf6
  subst hf7
  subst hf8
  subst hf9
  subst hf10
  exact W.widen (k := 1) (n := 6) (Nat.le_of_ble_eq_true rfl) (Nat.le_of_ble_eq_true rfl) (W.iret (v := (0 : Int32)) hx hb hr (fun t ht hW => ⟨⟨rfl, by rw [ht]; exact hP⟩, hS.F ht⟩) hS.2.2 dL_undo_15)
def mL_passesIn (vi : Nat → Int32) (vj : Nat → Int64) (vk : Nat → Int32) (vc : Nat → Int32) (va : Nat → Int32) (vpa : Nat → Int32) (vb : Nat → Int32) (vpb : Nat → Int32) (viT : Nat → Int32) (vjT : Nat → Int64) (vkT : Nat → Int32) (vcT : Nat → Int32) (vaT : Nat → Int32) (vpaT : Nat → Int32) (vbT : Nat → Int32) (vpbT : Nat → Int32) (vou : Nat → Int64) (x1 : Int32) : Option (Int32 × (Nat → Int32) × (Nat → Int64) × (Nat → Int32) × (Nat → Int32) × (Nat → Int32) × (Nat → Int32) × (Nat → Int32) × (Nat → Int32) × (Nat → Int64)) := (bo1 (mX8_passesIn vi vj vk vc va vpa vb vpb viT vjT vkT vcT vaT vpaT vbT vpbT x1) (fun mr_ => (bh9 mr_ (fun r_1 viT_2 vjT_3 vkT_4 vcT_5 vaT_6 vpaT_7 vbT_8 vpbT_9 => (some ((0 : Int32), viT_2, vjT_3, vkT_4, vcT_5, vaT_6, vpaT_7, vbT_8, vpbT_9, (vp_updL vou (0 : Int32).toNatClampNeg (r_1.toInt64))))) (fun E_ => (if E_ = "java/lang/IndexOutOfBoundsException" then (some ((1 : Int32), viT, vjT, vkT, vcT, vaT, vpaT, vbT, vpbT, vou)) else none)))))
set_option maxHeartbeats 4000000 in
set_option maxRecDepth 100000 in
theorem kL_passesIn (l : Launch) (Γ : my_G) (hfl : l.stackTraces = false) (q_bf q_fl q_k q_c q_a q_pa q_b q_pb q_flT q_kT q_cT q_aT q_paT q_bT q_pbT q_ou q_tx q_hi q_s1 q_s2 q_fd q_kc q_kr : Nat) (vi : Nat → Int32) (vj : Nat → Int64) (vk : Nat → Int32) (vc : Nat → Int32) (va : Nat → Int32) (vpa : Nat → Int32) (vb : Nat → Int32) (vpb : Nat → Int32) (viT : Nat → Int32) (vjT : Nat → Int64) (vkT : Nat → Int32) (vcT : Nat → Int32) (vaT : Nat → Int32) (vpaT : Nat → Int32) (vbT : Nat → Int32) (vpbT : Nat → Int32) (vou : Nat → Int64) (x1 : Int32) (rr : Int32) (viT_z : Nat → Int32) (vjT_z : Nat → Int64) (vkT_z : Nat → Int32) (vcT_z : Nat → Int32) (vaT_z : Nat → Int32) (vpaT_z : Nat → Int32) (vbT_z : Nat → Int32) (vpbT_z : Nat → Int32) (vou_z : Nat → Int64) (hm : mL_passesIn vi vj vk vc va vpa vb vpb viT vjT vkT vcT vaT vpaT vbT vpbT vou x1 = (some (rr, viT_z, vjT_z, vkT_z, vcT_z, vaT_z, vpaT_z, vbT_z, vpbT_z, vou_z))) : MnW l yL_passesIn wsL_passesIn ({ frames := 8, cells := 1, slots := 6, locals := 152 } : Room) Γ [.ref q_bf, .int x1, .ref q_ou] (wBF Γ q_bf q_tx q_fl q_flT q_hi q_s1 q_s2 q_fd q_kc q_kr  ++ wFloor Γ q_fl q_k q_c q_a q_pa q_b q_pb vi vj vk vc va vpa vb vpb ++ wFloor Γ q_flT q_kT q_cT q_aT q_paT q_bT q_pbT viT vjT vkT vcT vaT vpaT vbT vpbT ++ wOut Γ q_ou vou) (some (.int rr)) (wBF Γ q_bf q_tx q_fl q_flT q_hi q_s1 q_s2 q_fd q_kc q_kr  ++ wFloor Γ q_fl q_k q_c q_a q_pa q_b q_pb vi vj vk vc va vpa vb vpb ++ wFloor Γ q_flT q_kT q_cT q_aT q_paT q_bT q_pbT viT_z vjT_z vkT_z vcT_z vaT_z vpaT_z vbT_z vpbT_z ++ wOut Γ q_ou vou_z) 1 6 := by
  intro sz
  refine va_MetW (cc := cL_passesIn) (maxL := 4) (ret := (some .int)) (by decide) rfl ?_
  intro p e s m args below meth c s₁ B hml hv
  obtain ⟨rfl, ⟨hsz, hP, hK, hD0⟩, hZ, hstr, hnc⟩ := hv
  have htab := vx_table (x := yL_passesIn) (hh := [(0, 9, 12, 24)]) B (atoms_spec (ws := wsL_passesIn) B.pre _ List.mem_cons_self)
  have hx := B.exec
  have hb := B.bytes
  have hr := B.returns
  have hts := atoms_spec (ws := wsL_passesIn) B.pre
  have hown : s.vm.findClass RL = some m.cls := findClass_of_methodNamed B.named
  have hlocks := B.notSynchronized
  have hinX1 : ∀ w ∈ u_ws RX1 TX1 12, w ∈ wsL_passesIn := fun w h => List.mem_cons_of_mem _ (List.mem_append_left _ (List.mem_append_right _ h))
  have hinX4 : ∀ w ∈ u_ws RX4 TX4 10, w ∈ wsL_passesIn := fun w h => List.mem_cons_of_mem _ (List.mem_append_left _ (List.mem_append_left _ (List.mem_append_right _ h)))
  have hinX8 : ∀ w ∈ u_ws RX8 TX8 9, w ∈ wsL_passesIn := fun w h => List.mem_cons_of_mem _ (List.mem_append_left _ (List.mem_append_left _ (List.mem_append_left _ (List.mem_append_right _ h))))
  subst hsz
  have hD := hD0.self (sz := s.heap.size)
  have hA : ∀ q : Nat, s.heap.size ≤ q → va_A (wBF Γ q_bf q_tx q_fl q_flT q_hi q_s1 q_s2 q_fd q_kc q_kr  ++ wFloor Γ q_fl q_k q_c q_a q_pa q_b q_pb vi vj vk vc va vpa vb vpb ++ wFloor Γ q_flT q_kT q_cT q_aT q_paT q_bT q_pbT viT vjT vkT vcT vaT vpaT vbT vpbT ++ wOut Γ q_ou vou) s.heap.size q := fun q h => Or.inr h
  generalize va_A (wBF Γ q_bf q_tx q_fl q_flT q_hi q_s1 q_s2 q_fd q_kc q_kr  ++ wFloor Γ q_fl q_k q_c q_a q_pa q_b q_pb vi vj vk vc va vpa vb vpb ++ wFloor Γ q_flT q_kT q_cT q_aT q_paT q_bT q_pbT viT vjT vkT vcT vaT vpaT vbT vpbT ++ wOut Γ q_ou vou) s.heap.size = A at hD hA hZ ⊢
  have hS : va_S A s.heap s.heap [] := va_S.rf
  have hl := lv_entry ([.ref q_bf, .int x1, .ref q_ou]) (n := 4) (Nat.le_of_ble_eq_true rfl)
  rw [lg_entry_eq]
  generalize (lg_sl ([.ref q_bf, .int x1, .ref q_ou]) ++ List.replicate (4 - (lg_sl ([.ref q_bf, .int x1, .ref q_ou])).length) Slot.unset).toArray = ls at hl ⊢
  replace hl : lv_has ls 4 [(0, .ref q_bf), (1, .int x1), (2, .ref q_ou)] := hl
  unfold mL_passesIn at hm
  refine lv_aload_n hx hb dL_passesIn_0 rfl (lv_at hl 2 rfl) ?_
  refine lv_iconst (v := (0 : Int32)) hx hb dL_passesIn_1 (by decide) ?_
  refine lv_aload_n hx hb dL_passesIn_2 rfl (lv_at hl 0 rfl) ?_
  refine lv_iload_n hx hb dL_passesIn_3 rfl (lv_at hl 1 rfl) ?_
  obtain ⟨mr_, hc0_, hm⟩ := bo1_s hm
  refine my_callPX (wc := (wBF Γ q_bf q_tx q_fl q_flT q_hi q_s1 q_s2 q_fd q_kc q_kr  ++ wFloor Γ q_fl q_k q_c q_a q_pa q_b q_pb vi vj vk vc va vpa vb vpb ++ wFloor Γ q_flT q_kT q_cT q_aT q_paT q_bT q_pbT viT vjT vkT vcT vaT vpaT vbT vpbT)) hP hD hS hA [0, 1, 2, 3, 4, 5, 6, 7, 8, 9, 10, 11, 12, 13, 14] rfl rfl (fun res w1 h9 => my_had2 h9 (fun q => rfl)) (vx_runV (As := [.int x1]) (rest := [.int (0 : Int32), .ref q_ou]) ⟨hx, hb, hml, hown, hts⟩ (kX8_passesIn l Γ hfl q_bf q_fl q_k q_c q_a q_pa q_b q_pb q_flT q_kT q_cT q_aT q_paT q_bT q_pbT q_tx q_hi q_s1 q_s2 q_fd q_kc q_kr vi vj vk vc va vpa vb vpb viT vjT vkT vcT vaT vpaT vbT vpbT x1 mr_ hc0_ _) (cwV 1 hts gL_passesIn_X8_passesIn rfl rfl rfl (by decide +kernel) ⟨Nat.le_of_ble_eq_true rfl, Nat.le_of_ble_eq_true rfl⟩) (my_preVX (wc := (wBF Γ q_bf q_tx q_fl q_flT q_hi q_s1 q_s2 q_fd q_kc q_kr  ++ wFloor Γ q_fl q_k q_c q_a q_pa q_b q_pb vi vj vk vc va vpa vb vpb ++ wFloor Γ q_flT q_kT q_cT q_aT q_paT q_bT q_pbT viT vjT vkT vcT vaT vpaT vbT vpbT)) (ci := 6) (q0 := 0) [0, 1, 2, 3, 4, 5, 6, 7, 8, 9, 10, 11, 12, 13, 14] hK hP hD hS hA hZ hstr rfl rfl rfl rfl) rfl rfl hl.1 rfl (lv_room (Nat.le_of_ble_eq_true rfl)) dL_passesIn_4 ⟨Nat.le_of_ble_eq_true rfl, Nat.le_of_ble_eq_true rfl⟩) (fun E_ H locs q9 ce hro hP hS h1_ h2_ h3_ => ?_) (fun res_ w1_ H locs hro hP hD hS => ?_)
  · rcases bh9_s hm with ⟨r_1, viT_2, vjT_3, vkT_4, vcT_5, vaT_6, vpaT_7, vbT_8, vpbT_9, hc_, hm⟩ | ⟨E2_, hc_, hm⟩
    · rw [hc_] at hro; exact (my_map_lr hro).elim
    · rw [hc_] at hro
      have hE_ := my_map_rr hro
      subst hE_
      by_cases ck_10 : E2_ = "java/lang/IndexOutOfBoundsException"
      · replace hm := if_s hm ck_10
        subst ck_10
        refine vx_catch (name := "java/lang/IndexOutOfBoundsException") hown [] ⟨0, 9, 12, 24⟩ [] (htab.trans rfl) (fun z hz => nomatch hz) rfl (by decide) (hts (.classLink RL 24 "java/lang/IndexOutOfBoundsException") (List.mem_of_getElem? (i := 1) rfl)) (va_Nw.use rfl hstr.2.1) h1_ h2_ h3_ ?_
        refine lv_astore_n (lv' := [(3, .ref q9), (0, .ref q_bf), (1, .int x1), (2, .ref q_ou)]) hx hb dL_passesIn_12 rfl hl (by decide) rfl (fun ls hl => ?_)
        refine lv_iconst (v := (1 : Int32)) hx hb dL_passesIn_13 (by decide) ?_
        obtain ⟨hf0, hf1, hf2, hf3, hf4, hf5, hf6, hf7, hf8, hf9⟩ := si10 hm
        subst hf0
        subst hf1
        subst hf2
        subst hf3
        subst hf4
        subst hf5
        subst hf6
        subst hf7
        subst hf8
        subst hf9
        exact W.widen (k := 1) (n := 6) (Nat.le_of_ble_eq_true rfl) (Nat.le_of_ble_eq_true rfl) (W.iret (v := (1 : Int32)) hx hb hr (fun t ht hW => ⟨⟨rfl, by rw [ht]; exact hP⟩, hS.F ht⟩) hS.2.2 dL_passesIn_14)
      · replace hm := if_f hm ck_10
        cases hm
  rcases bh9_s hm with ⟨r_1, viT_2, vjT_3, vkT_4, vcT_5, vaT_6, vpaT_7, vbT_8, vpbT_9, hc_, hm⟩ | ⟨E2_, hc_, hm⟩
  rotate_left
  · rw [hc_] at hro; exact (my_map_rl hro).elim
  rw [hc_] at hro
  obtain ⟨rfl, rfl⟩ := my_map_ll hro
  replace hP : va_P (my_D Γ) vwCl (wBF Γ q_bf q_tx q_fl q_flT q_hi q_s1 q_s2 q_fd q_kc q_kr  ++ wFloor Γ q_fl q_k q_c q_a q_pa q_b q_pb vi vj vk vc va vpa vb vpb ++ wFloor Γ q_flT q_kT q_cT q_aT q_paT q_bT q_pbT viT_2 vjT_3 vkT_4 vcT_5 vaT_6 vpaT_7 vbT_8 vpbT_9 ++ wOut Γ q_ou vou) H := hP
  replace hD : va_D A (wBF Γ q_bf q_tx q_fl q_flT q_hi q_s1 q_s2 q_fd q_kc q_kr  ++ wFloor Γ q_fl q_k q_c q_a q_pa q_b q_pb vi vj vk vc va vpa vb vpb ++ wFloor Γ q_flT q_kT q_cT q_aT q_paT q_bT q_pbT viT_2 vjT_3 vkT_4 vcT_5 vaT_6 vpaT_7 vbT_8 vpbT_9 ++ wOut Γ q_ou vou) := hD
  refine lv_i2l (v := r_1.toInt64) hx hb dL_passesIn_7 rfl ?_
  refine lv_topl (fun y_11 ey_11 => ?_)
  refine va_last hx hb hK hP hD hS 15 1 rfl rfl (show vp_in (0 : Int32) 1 from (by decide : ¬ ((0 : Int32) < 0 ∨ 1 ≤ (0 : Int32).toNatClampNeg))) dL_passesIn_8 (fun H locs hP hD hS => ?_)
  replace hP : va_P (my_D Γ) vwCl (wBF Γ q_bf q_tx q_fl q_flT q_hi q_s1 q_s2 q_fd q_kc q_kr  ++ wFloor Γ q_fl q_k q_c q_a q_pa q_b q_pb vi vj vk vc va vpa vb vpb ++ wFloor Γ q_flT q_kT q_cT q_aT q_paT q_bT q_pbT viT_2 vjT_3 vkT_4 vcT_5 vaT_6 vpaT_7 vbT_8 vpbT_9 ++ wOut Γ q_ou (vp_updL vou (0 : Int32).toNatClampNeg y_11)) H := hP
  replace hD : va_D A (wBF Γ q_bf q_tx q_fl q_flT q_hi q_s1 q_s2 q_fd q_kc q_kr  ++ wFloor Γ q_fl q_k q_c q_a q_pa q_b q_pb vi vj vk vc va vpa vb vpb ++ wFloor Γ q_flT q_kT q_cT q_aT q_paT q_bT q_pbT viT_2 vjT_3 vkT_4 vcT_5 vaT_6 vpaT_7 vbT_8 vpbT_9 ++ wOut Γ q_ou (vp_updL vou (0 : Int32).toNatClampNeg y_11)) := hD
  subst ey_11
  refine lv_goto (tgt := 15) hx hb dL_passesIn_9 (by decide) ?_
  refine lv_iconst (v := (0 : Int32)) hx hb dL_passesIn_15 (by decide) ?_
  obtain ⟨hf0, hf1, hf2, hf3, hf4, hf5, hf6, hf7, hf8, hf9⟩ := si10 hm
  subst hf0
  subst hf1
  subst hf2
  subst hf3
  subst hf4
  subst hf5
  subst hf6
  subst hf7
  subst hf8
  subst hf9
  exact W.widen (k := 1) (n := 6) (Nat.le_of_ble_eq_true rfl) (Nat.le_of_ble_eq_true rfl) (W.iret (v := (0 : Int32)) hx hb hr (fun t ht hW => ⟨⟨rfl, by rw [ht]; exact hP⟩, hS.F ht⟩) hS.2.2 dL_passesIn_16)
def mL_simulate (vi : Nat → Int32) (vj : Nat → Int64) (vk : Nat → Int32) (vc : Nat → Int32) (va : Nat → Int32) (vpa : Nat → Int32) (vb : Nat → Int32) (vpb : Nat → Int32) (viT : Nat → Int32) (vjT : Nat → Int64) (vkT : Nat → Int32) (vcT : Nat → Int32) (vaT : Nat → Int32) (vpaT : Nat → Int32) (vbT : Nat → Int32) (vpbT : Nat → Int32) (vou : Nat → Int64) (x1 : Int64) (x2 : Int32) : Option (Int32 × (Nat → Int32) × (Nat → Int64) × (Nat → Int32) × (Nat → Int32) × (Nat → Int32) × (Nat → Int32) × (Nat → Int32) × (Nat → Int32) × (Nat → Int64)) := (bo1 (mX8_simulate vi vj vk vc va vpa vb vpb viT vjT vkT vcT vaT vpaT vbT vpbT x1 x2) (fun mr_ => (bh9 mr_ (fun r_1 viT_2 vjT_3 vkT_4 vcT_5 vaT_6 vpaT_7 vbT_8 vpbT_9 => (some ((0 : Int32), viT_2, vjT_3, vkT_4, vcT_5, vaT_6, vpaT_7, vbT_8, vpbT_9, (vp_updL vou (0 : Int32).toNatClampNeg (r_1.toInt64))))) (fun E_ => (if E_ = "java/lang/IllegalArgumentException" then (some ((1 : Int32), viT, vjT, vkT, vcT, vaT, vpaT, vbT, vpbT, vou)) else none)))))
set_option maxHeartbeats 4000000 in
set_option maxRecDepth 100000 in
theorem kL_simulate (l : Launch) (Γ : my_G) (hfl : l.stackTraces = false) (q_bf q_fl q_k q_c q_a q_pa q_b q_pb q_flT q_kT q_cT q_aT q_paT q_bT q_pbT q_ou q_tx q_hi q_s1 q_s2 q_fd q_kc q_kr : Nat) (vi : Nat → Int32) (vj : Nat → Int64) (vk : Nat → Int32) (vc : Nat → Int32) (va : Nat → Int32) (vpa : Nat → Int32) (vb : Nat → Int32) (vpb : Nat → Int32) (viT : Nat → Int32) (vjT : Nat → Int64) (vkT : Nat → Int32) (vcT : Nat → Int32) (vaT : Nat → Int32) (vpaT : Nat → Int32) (vbT : Nat → Int32) (vpbT : Nat → Int32) (vou : Nat → Int64) (x1 : Int64) (x2 : Int32) (rr : Int32) (viT_z : Nat → Int32) (vjT_z : Nat → Int64) (vkT_z : Nat → Int32) (vcT_z : Nat → Int32) (vaT_z : Nat → Int32) (vpaT_z : Nat → Int32) (vbT_z : Nat → Int32) (vpbT_z : Nat → Int32) (vou_z : Nat → Int64) (hm : mL_simulate vi vj vk vc va vpa vb vpb viT vjT vkT vcT vaT vpaT vbT vpbT vou x1 x2 = (some (rr, viT_z, vjT_z, vkT_z, vcT_z, vaT_z, vpaT_z, vbT_z, vpbT_z, vou_z))) : MnW l yL_simulate wsL_simulate ({ frames := 7, cells := 1, slots := 6, locals := 178 } : Room) Γ [.ref q_bf, .long x1, .int x2, .ref q_ou] (wBF Γ q_bf q_tx q_fl q_flT q_hi q_s1 q_s2 q_fd q_kc q_kr  ++ wFloor Γ q_fl q_k q_c q_a q_pa q_b q_pb vi vj vk vc va vpa vb vpb ++ wFloor Γ q_flT q_kT q_cT q_aT q_paT q_bT q_pbT viT vjT vkT vcT vaT vpaT vbT vpbT ++ wOut Γ q_ou vou) (some (.int rr)) (wBF Γ q_bf q_tx q_fl q_flT q_hi q_s1 q_s2 q_fd q_kc q_kr  ++ wFloor Γ q_fl q_k q_c q_a q_pa q_b q_pb vi vj vk vc va vpa vb vpb ++ wFloor Γ q_flT q_kT q_cT q_aT q_paT q_bT q_pbT viT_z vjT_z vkT_z vcT_z vaT_z vpaT_z vbT_z vpbT_z ++ wOut Γ q_ou vou_z) 1 6 := by
  intro sz
  refine va_MetW (cc := cL_simulate) (maxL := 6) (ret := (some .int)) (by decide) rfl ?_
  intro p e s m args below meth c s₁ B hml hv
  obtain ⟨rfl, ⟨hsz, hP, hK, hD0⟩, hZ, hstr, hnc⟩ := hv
  have htab := vx_table (x := yL_simulate) (hh := [(0, 11, 14, 13)]) B (atoms_spec (ws := wsL_simulate) B.pre _ List.mem_cons_self)
  have hx := B.exec
  have hb := B.bytes
  have hr := B.returns
  have hts := atoms_spec (ws := wsL_simulate) B.pre
  have hown : s.vm.findClass RL = some m.cls := findClass_of_methodNamed B.named
  have hlocks := B.notSynchronized
  have hinX1 : ∀ w ∈ u_ws RX1 TX1 12, w ∈ wsL_simulate := fun w h => List.mem_cons_of_mem _ (List.mem_append_left _ (List.mem_append_left _ (List.mem_append_right _ h)))
  have hinX4 : ∀ w ∈ u_ws RX4 TX4 10, w ∈ wsL_simulate := fun w h => List.mem_cons_of_mem _ (List.mem_append_left _ (List.mem_append_right _ h))
  have hinX8 : ∀ w ∈ u_ws RX8 TX8 9, w ∈ wsL_simulate := fun w h => List.mem_cons_of_mem _ (List.mem_append_left _ (List.mem_append_left _ (List.mem_append_left _ (List.mem_append_right _ h))))
  subst hsz
  have hD := hD0.self (sz := s.heap.size)
  have hA : ∀ q : Nat, s.heap.size ≤ q → va_A (wBF Γ q_bf q_tx q_fl q_flT q_hi q_s1 q_s2 q_fd q_kc q_kr  ++ wFloor Γ q_fl q_k q_c q_a q_pa q_b q_pb vi vj vk vc va vpa vb vpb ++ wFloor Γ q_flT q_kT q_cT q_aT q_paT q_bT q_pbT viT vjT vkT vcT vaT vpaT vbT vpbT ++ wOut Γ q_ou vou) s.heap.size q := fun q h => Or.inr h
  generalize va_A (wBF Γ q_bf q_tx q_fl q_flT q_hi q_s1 q_s2 q_fd q_kc q_kr  ++ wFloor Γ q_fl q_k q_c q_a q_pa q_b q_pb vi vj vk vc va vpa vb vpb ++ wFloor Γ q_flT q_kT q_cT q_aT q_paT q_bT q_pbT viT vjT vkT vcT vaT vpaT vbT vpbT ++ wOut Γ q_ou vou) s.heap.size = A at hD hA hZ ⊢
  have hS : va_S A s.heap s.heap [] := va_S.rf
  have hl := lv_entry ([.ref q_bf, .long x1, .int x2, .ref q_ou]) (n := 6) (Nat.le_of_ble_eq_true rfl)
  rw [lg_entry_eq]
  generalize (lg_sl ([.ref q_bf, .long x1, .int x2, .ref q_ou]) ++ List.replicate (6 - (lg_sl ([.ref q_bf, .long x1, .int x2, .ref q_ou])).length) Slot.unset).toArray = ls at hl ⊢
  replace hl : lv_has ls 6 [(0, .ref q_bf), (1, .long x1), (3, .int x2), (4, .ref q_ou)] := hl
  unfold mL_simulate at hm
  refine lv_aload hx hb dL_simulate_0 (lv_at hl 3 rfl) ?_
  refine lv_iconst (v := (0 : Int32)) hx hb dL_simulate_2 (by decide) ?_
  refine lv_aload_n hx hb dL_simulate_3 rfl (lv_at hl 0 rfl) ?_
  refine lv_lload_n hx hb dL_simulate_4 rfl (lv_at hl 1 rfl) ?_
  refine lv_iload_n hx hb dL_simulate_5 rfl (lv_at hl 2 rfl) ?_
  obtain ⟨mr_, hc0_, hm⟩ := bo1_s hm
  refine my_callPX (wc := (wBF Γ q_bf q_tx q_fl q_flT q_hi q_s1 q_s2 q_fd q_kc q_kr  ++ wFloor Γ q_fl q_k q_c q_a q_pa q_b q_pb vi vj vk vc va vpa vb vpb ++ wFloor Γ q_flT q_kT q_cT q_aT q_paT q_bT q_pbT viT vjT vkT vcT vaT vpaT vbT vpbT)) hP hD hS hA [0, 1, 2, 3, 4, 5, 6, 7, 8, 9, 10, 11, 12, 13, 14] rfl rfl (fun res w1 h9 => my_had2 h9 (fun q => rfl)) (vx_runV (As := [.long x1, .int x2]) (rest := [.int (0 : Int32), .ref q_ou]) ⟨hx, hb, hml, hown, hts⟩ (kX8_simulate l Γ hfl q_bf q_fl q_k q_c q_a q_pa q_b q_pb q_flT q_kT q_cT q_aT q_paT q_bT q_pbT q_tx q_hi q_s1 q_s2 q_fd q_kc q_kr vi vj vk vc va vpa vb vpb viT vjT vkT vcT vaT vpaT vbT vpbT x1 x2 mr_ hc0_ _) (cwV 2 hts gL_simulate_X8_simulate rfl rfl rfl (by decide +kernel) ⟨Nat.le_of_ble_eq_true rfl, Nat.le_of_ble_eq_true rfl⟩) (my_preVX (wc := (wBF Γ q_bf q_tx q_fl q_flT q_hi q_s1 q_s2 q_fd q_kc q_kr  ++ wFloor Γ q_fl q_k q_c q_a q_pa q_b q_pb vi vj vk vc va vpa vb vpb ++ wFloor Γ q_flT q_kT q_cT q_aT q_paT q_bT q_pbT viT vjT vkT vcT vaT vpaT vbT vpbT)) (ci := 6) (q0 := 0) [0, 1, 2, 3, 4, 5, 6, 7, 8, 9, 10, 11, 12, 13, 14] hK hP hD hS hA hZ hstr rfl rfl rfl rfl) rfl rfl hl.1 rfl (lv_room (Nat.le_of_ble_eq_true rfl)) dL_simulate_6 ⟨Nat.le_of_ble_eq_true rfl, Nat.le_of_ble_eq_true rfl⟩) (fun E_ H locs q9 ce hro hP hS h1_ h2_ h3_ => ?_) (fun res_ w1_ H locs hro hP hD hS => ?_)
  · rcases bh9_s hm with ⟨r_1, viT_2, vjT_3, vkT_4, vcT_5, vaT_6, vpaT_7, vbT_8, vpbT_9, hc_, hm⟩ | ⟨E2_, hc_, hm⟩
    · rw [hc_] at hro; exact (my_map_lr hro).elim
    · rw [hc_] at hro
      have hE_ := my_map_rr hro
      subst hE_
      by_cases ck_10 : E2_ = "java/lang/IllegalArgumentException"
      · replace hm := if_s hm ck_10
        subst ck_10
        refine vx_catch (name := "java/lang/IllegalArgumentException") hown [] ⟨0, 11, 14, 13⟩ [] (htab.trans rfl) (fun z hz => nomatch hz) rfl (by decide) (hts (.classLink RL 13 "java/lang/IllegalArgumentException") (List.mem_of_getElem? (i := 1) rfl)) (va_Nw.use rfl hstr.2.2.1) h1_ h2_ h3_ ?_
        refine lv_astore (lv' := [(5, .ref q9), (0, .ref q_bf), (1, .long x1), (3, .int x2), (4, .ref q_ou)]) hx hb dL_simulate_14 hl (by decide) rfl (fun ls hl => ?_)
        refine lv_iconst (v := (1 : Int32)) hx hb dL_simulate_16 (by decide) ?_
        obtain ⟨hf0, hf1, hf2, hf3, hf4, hf5, hf6, hf7, hf8, hf9⟩ := si10 hm
        subst hf0
        subst hf1
        subst hf2
        subst hf3
        subst hf4
        subst hf5
        subst hf6
        subst hf7
        subst hf8
        subst hf9
        exact W.widen (k := 1) (n := 6) (Nat.le_of_ble_eq_true rfl) (Nat.le_of_ble_eq_true rfl) (W.iret (v := (1 : Int32)) hx hb hr (fun t ht hW => ⟨⟨rfl, by rw [ht]; exact hP⟩, hS.F ht⟩) hS.2.2 dL_simulate_17)
      · replace hm := if_f hm ck_10
        cases hm
  rcases bh9_s hm with ⟨r_1, viT_2, vjT_3, vkT_4, vcT_5, vaT_6, vpaT_7, vbT_8, vpbT_9, hc_, hm⟩ | ⟨E2_, hc_, hm⟩
  rotate_left
  · rw [hc_] at hro; exact (my_map_rl hro).elim
  rw [hc_] at hro
  obtain ⟨rfl, rfl⟩ := my_map_ll hro
  replace hP : va_P (my_D Γ) vwCl (wBF Γ q_bf q_tx q_fl q_flT q_hi q_s1 q_s2 q_fd q_kc q_kr  ++ wFloor Γ q_fl q_k q_c q_a q_pa q_b q_pb vi vj vk vc va vpa vb vpb ++ wFloor Γ q_flT q_kT q_cT q_aT q_paT q_bT q_pbT viT_2 vjT_3 vkT_4 vcT_5 vaT_6 vpaT_7 vbT_8 vpbT_9 ++ wOut Γ q_ou vou) H := hP
  replace hD : va_D A (wBF Γ q_bf q_tx q_fl q_flT q_hi q_s1 q_s2 q_fd q_kc q_kr  ++ wFloor Γ q_fl q_k q_c q_a q_pa q_b q_pb vi vj vk vc va vpa vb vpb ++ wFloor Γ q_flT q_kT q_cT q_aT q_paT q_bT q_pbT viT_2 vjT_3 vkT_4 vcT_5 vaT_6 vpaT_7 vbT_8 vpbT_9 ++ wOut Γ q_ou vou) := hD
  refine lv_i2l (v := r_1.toInt64) hx hb dL_simulate_9 rfl ?_
  refine lv_topl (fun y_11 ey_11 => ?_)
  refine va_last hx hb hK hP hD hS 15 1 rfl rfl (show vp_in (0 : Int32) 1 from (by decide : ¬ ((0 : Int32) < 0 ∨ 1 ≤ (0 : Int32).toNatClampNeg))) dL_simulate_10 (fun H locs hP hD hS => ?_)
  replace hP : va_P (my_D Γ) vwCl (wBF Γ q_bf q_tx q_fl q_flT q_hi q_s1 q_s2 q_fd q_kc q_kr  ++ wFloor Γ q_fl q_k q_c q_a q_pa q_b q_pb vi vj vk vc va vpa vb vpb ++ wFloor Γ q_flT q_kT q_cT q_aT q_paT q_bT q_pbT viT_2 vjT_3 vkT_4 vcT_5 vaT_6 vpaT_7 vbT_8 vpbT_9 ++ wOut Γ q_ou (vp_updL vou (0 : Int32).toNatClampNeg y_11)) H := hP
  replace hD : va_D A (wBF Γ q_bf q_tx q_fl q_flT q_hi q_s1 q_s2 q_fd q_kc q_kr  ++ wFloor Γ q_fl q_k q_c q_a q_pa q_b q_pb vi vj vk vc va vpa vb vpb ++ wFloor Γ q_flT q_kT q_cT q_aT q_paT q_bT q_pbT viT_2 vjT_3 vkT_4 vcT_5 vaT_6 vpaT_7 vbT_8 vpbT_9 ++ wOut Γ q_ou (vp_updL vou (0 : Int32).toNatClampNeg y_11)) := hD
  subst ey_11
  refine lv_goto (tgt := 18) hx hb dL_simulate_11 (by decide) ?_
  refine lv_iconst (v := (0 : Int32)) hx hb dL_simulate_18 (by decide) ?_
  obtain ⟨hf0, hf1, hf2, hf3, hf4, hf5, hf6, hf7, hf8, hf9⟩ := si10 hm
  subst hf0
  subst hf1
  subst hf2
  subst hf3
  subst hf4
  subst hf5
  subst hf6
  subst hf7
  subst hf8
  subst hf9
  exact W.widen (k := 1) (n := 6) (Nat.le_of_ble_eq_true rfl) (Nat.le_of_ble_eq_true rfl) (W.iret (v := (0 : Int32)) hx hb hr (fun t ht hW => ⟨⟨rfl, by rw [ht]; exact hP⟩, hS.F ht⟩) hS.2.2 dL_simulate_19)
def mL_fewestBySpreading (vk : Nat → Int32) (va : Nat → Int32) (vb : Nat → Int32) (ds : Nat → Int32) (rc : Nat → Int32) (vou : Nat → Int64) (x1 : Int32) (x2 : Int32) : Option (Int32 × (Nat → Int32) × (Nat → Int32) × (Nat → Int64)) := (bo1 (mX8_fewestBySpreading vk va vb ds rc x1 x2) (fun mr_ => (bh3 mr_ (fun r_1 ds_2 rc_3 => (some ((0 : Int32), ds_2, rc_3, (vp_updL vou (0 : Int32).toNatClampNeg (r_1.toInt64))))) (fun E_ => (if E_ = "java/lang/IndexOutOfBoundsException" then (some ((1 : Int32), ds, rc, vou)) else none)))))
set_option maxHeartbeats 4000000 in
set_option maxRecDepth 100000 in
theorem kL_fewestBySpreading (l : Launch) (Γ : my_G) (hfl : l.stackTraces = false) (q_bf q_fl q_k q_c q_a q_pa q_b q_pb q_fd q_ds q_rc q_ou q_tx q_flT q_hi q_s1 q_s2 q_kc q_kr : Nat) (vi : Nat → Int32) (vj : Nat → Int64) (vk : Nat → Int32) (vc : Nat → Int32) (va : Nat → Int32) (vpa : Nat → Int32) (vb : Nat → Int32) (vpb : Nat → Int32) (ds : Nat → Int32) (rc : Nat → Int32) (vou : Nat → Int64) (x1 : Int32) (x2 : Int32) (rr : Int32) (ds_z : Nat → Int32) (rc_z : Nat → Int32) (vou_z : Nat → Int64) (hm : mL_fewestBySpreading vk va vb ds rc vou x1 x2 = (some (rr, ds_z, rc_z, vou_z))) : MnW l yL_fewestBySpreading wsL_fewestBySpreading ({ frames := 8, cells := 2, slots := 12, locals := 139 } : Room) Γ [.ref q_bf, .int x1, .int x2, .ref q_ou] (wBF Γ q_bf q_tx q_fl q_flT q_hi q_s1 q_s2 q_fd q_kc q_kr  ++ wFloor Γ q_fl q_k q_c q_a q_pa q_b q_pb vi vj vk vc va vpa vb vpb ++ wFinder Γ q_fd q_ds q_rc ds rc ++ wOut Γ q_ou vou) (some (.int rr)) (wBF Γ q_bf q_tx q_fl q_flT q_hi q_s1 q_s2 q_fd q_kc q_kr  ++ wFloor Γ q_fl q_k q_c q_a q_pa q_b q_pb vi vj vk vc va vpa vb vpb ++ wFinder Γ q_fd q_ds q_rc ds_z rc_z ++ wOut Γ q_ou vou_z) 2 12 := by
  intro sz
  refine va_MetW (cc := cL_fewestBySpreading) (maxL := 5) (ret := (some .int)) (by decide) rfl ?_
  intro p e s m args below meth c s₁ B hml hv
  obtain ⟨rfl, ⟨hsz, hP, hK, hD0⟩, hZ, hstr, hnc⟩ := hv
  have htab := vx_table (x := yL_fewestBySpreading) (hh := [(0, 10, 13, 24)]) B (atoms_spec (ws := wsL_fewestBySpreading) B.pre _ List.mem_cons_self)
  have hx := B.exec
  have hb := B.bytes
  have hr := B.returns
  have hts := atoms_spec (ws := wsL_fewestBySpreading) B.pre
  have hown : s.vm.findClass RL = some m.cls := findClass_of_methodNamed B.named
  have hlocks := B.notSynchronized
  have hinX0 : ∀ w ∈ u_ws RX0 TX0 2, w ∈ wsL_fewestBySpreading := fun w h => List.mem_cons_of_mem _ (List.mem_append_left _ (List.mem_append_right _ h))
  have hinX1 : ∀ w ∈ u_ws RX1 TX1 12, w ∈ wsL_fewestBySpreading := fun w h => List.mem_cons_of_mem _ (List.mem_append_left _ (List.mem_append_left _ (List.mem_append_right _ h)))
  have hinX4 : ∀ w ∈ u_ws RX4 TX4 10, w ∈ wsL_fewestBySpreading := fun w h => List.mem_cons_of_mem _ (List.mem_append_left _ (List.mem_append_left _ (List.mem_append_left _ (List.mem_append_right _ h))))
  have hinX8 : ∀ w ∈ u_ws RX8 TX8 9, w ∈ wsL_fewestBySpreading := fun w h => List.mem_cons_of_mem _ (List.mem_append_left _ (List.mem_append_left _ (List.mem_append_left _ (List.mem_append_left _ (List.mem_append_right _ h)))))
  subst hsz
  have hD := hD0.self (sz := s.heap.size)
  have hA : ∀ q : Nat, s.heap.size ≤ q → va_A (wBF Γ q_bf q_tx q_fl q_flT q_hi q_s1 q_s2 q_fd q_kc q_kr  ++ wFloor Γ q_fl q_k q_c q_a q_pa q_b q_pb vi vj vk vc va vpa vb vpb ++ wFinder Γ q_fd q_ds q_rc ds rc ++ wOut Γ q_ou vou) s.heap.size q := fun q h => Or.inr h
  generalize va_A (wBF Γ q_bf q_tx q_fl q_flT q_hi q_s1 q_s2 q_fd q_kc q_kr  ++ wFloor Γ q_fl q_k q_c q_a q_pa q_b q_pb vi vj vk vc va vpa vb vpb ++ wFinder Γ q_fd q_ds q_rc ds rc ++ wOut Γ q_ou vou) s.heap.size = A at hD hA hZ ⊢
  have hS : va_S A s.heap s.heap [] := va_S.rf
  have hl := lv_entry ([.ref q_bf, .int x1, .int x2, .ref q_ou]) (n := 5) (Nat.le_of_ble_eq_true rfl)
  rw [lg_entry_eq]
  generalize (lg_sl ([.ref q_bf, .int x1, .int x2, .ref q_ou]) ++ List.replicate (5 - (lg_sl ([.ref q_bf, .int x1, .int x2, .ref q_ou])).length) Slot.unset).toArray = ls at hl ⊢
  replace hl : lv_has ls 5 [(0, .ref q_bf), (1, .int x1), (2, .int x2), (3, .ref q_ou)] := hl
  unfold mL_fewestBySpreading at hm
  refine lv_aload_n hx hb dL_fewestBySpreading_0 rfl (lv_at hl 3 rfl) ?_
  refine lv_iconst (v := (0 : Int32)) hx hb dL_fewestBySpreading_1 (by decide) ?_
  refine lv_aload_n hx hb dL_fewestBySpreading_2 rfl (lv_at hl 0 rfl) ?_
  refine lv_iload_n hx hb dL_fewestBySpreading_3 rfl (lv_at hl 1 rfl) ?_
  refine lv_iload_n hx hb dL_fewestBySpreading_4 rfl (lv_at hl 2 rfl) ?_
  obtain ⟨mr_, hc0_, hm⟩ := bo1_s hm
  refine my_callPX (wc := (wBF Γ q_bf q_tx q_fl q_flT q_hi q_s1 q_s2 q_fd q_kc q_kr  ++ wFloor Γ q_fl q_k q_c q_a q_pa q_b q_pb vi vj vk vc va vpa vb vpb ++ wFinder Γ q_fd q_ds q_rc ds rc)) hP hD hS hA [0, 1, 2, 3, 4, 5, 6, 7, 8, 9, 10] rfl rfl (fun res w1 h9 => my_had2 h9 (fun q => rfl)) (vx_runV (As := [.int x1, .int x2]) (rest := [.int (0 : Int32), .ref q_ou]) ⟨hx, hb, hml, hown, hts⟩ (kX8_fewestBySpreading l Γ hfl q_bf q_fl q_k q_c q_a q_pa q_b q_pb q_fd q_ds q_rc q_tx q_flT q_hi q_s1 q_s2 q_kc q_kr vi vj vk vc va vpa vb vpb ds rc x1 x2 mr_ hc0_ _) (cwV 2 hts gL_fewestBySpreading_X8_fewestBySpreading rfl rfl rfl (by decide +kernel) ⟨Nat.le_of_ble_eq_true rfl, Nat.le_of_ble_eq_true rfl⟩) (my_preVX (wc := (wBF Γ q_bf q_tx q_fl q_flT q_hi q_s1 q_s2 q_fd q_kc q_kr  ++ wFloor Γ q_fl q_k q_c q_a q_pa q_b q_pb vi vj vk vc va vpa vb vpb ++ wFinder Γ q_fd q_ds q_rc ds rc)) (ci := 6) (q0 := 0) [0, 1, 2, 3, 4, 5, 6, 7, 8, 9, 10] hK hP hD hS hA hZ hstr rfl rfl rfl rfl) rfl rfl hl.1 rfl (lv_room (Nat.le_of_ble_eq_true rfl)) dL_fewestBySpreading_5 ⟨Nat.le_of_ble_eq_true rfl, Nat.le_of_ble_eq_true rfl⟩) (fun E_ H locs q9 ce hro hP hS h1_ h2_ h3_ => ?_) (fun res_ w1_ H locs hro hP hD hS => ?_)
  · rcases bh3_s hm with ⟨r_1, ds_2, rc_3, hc_, hm⟩ | ⟨E2_, hc_, hm⟩
    · rw [hc_] at hro; exact (my_map_lr hro).elim
    · rw [hc_] at hro
      have hE_ := my_map_rr hro
      subst hE_
      by_cases ck_4 : E2_ = "java/lang/IndexOutOfBoundsException"
      · replace hm := if_s hm ck_4
        subst ck_4
        refine vx_catch (name := "java/lang/IndexOutOfBoundsException") hown [] ⟨0, 10, 13, 24⟩ [] (htab.trans rfl) (fun z hz => nomatch hz) rfl (by decide) (hts (.classLink RL 24 "java/lang/IndexOutOfBoundsException") (List.mem_of_getElem? (i := 1) rfl)) (va_Nw.use rfl hstr.2.1) h1_ h2_ h3_ ?_
        refine lv_astore (lv' := [(4, .ref q9), (0, .ref q_bf), (1, .int x1), (2, .int x2), (3, .ref q_ou)]) hx hb dL_fewestBySpreading_13 hl (by decide) rfl (fun ls hl => ?_)
        refine lv_iconst (v := (1 : Int32)) hx hb dL_fewestBySpreading_15 (by decide) ?_
        obtain ⟨hf0, hf1, hf2, hf3⟩ := si4 hm
        subst hf0
        subst hf1
        subst hf2
        subst hf3
        exact W.widen (k := 2) (n := 12) (Nat.le_of_ble_eq_true rfl) (Nat.le_of_ble_eq_true rfl) (W.iret (v := (1 : Int32)) hx hb hr (fun t ht hW => ⟨⟨rfl, by rw [ht]; exact hP⟩, hS.F ht⟩) hS.2.2 dL_fewestBySpreading_16)
      · replace hm := if_f hm ck_4
        cases hm
  rcases bh3_s hm with ⟨r_1, ds_2, rc_3, hc_, hm⟩ | ⟨E2_, hc_, hm⟩
  rotate_left
  · rw [hc_] at hro; exact (my_map_rl hro).elim
  rw [hc_] at hro
  obtain ⟨rfl, rfl⟩ := my_map_ll hro
  replace hP : va_P (my_D Γ) vwCl (wBF Γ q_bf q_tx q_fl q_flT q_hi q_s1 q_s2 q_fd q_kc q_kr  ++ wFloor Γ q_fl q_k q_c q_a q_pa q_b q_pb vi vj vk vc va vpa vb vpb ++ wFinder Γ q_fd q_ds q_rc ds_2 rc_3 ++ wOut Γ q_ou vou) H := hP
  replace hD : va_D A (wBF Γ q_bf q_tx q_fl q_flT q_hi q_s1 q_s2 q_fd q_kc q_kr  ++ wFloor Γ q_fl q_k q_c q_a q_pa q_b q_pb vi vj vk vc va vpa vb vpb ++ wFinder Γ q_fd q_ds q_rc ds_2 rc_3 ++ wOut Γ q_ou vou) := hD
  refine lv_i2l (v := r_1.toInt64) hx hb dL_fewestBySpreading_8 rfl ?_
  refine lv_topl (fun y_5 ey_5 => ?_)
  refine va_last hx hb hK hP hD hS 11 1 rfl rfl (show vp_in (0 : Int32) 1 from (by decide : ¬ ((0 : Int32) < 0 ∨ 1 ≤ (0 : Int32).toNatClampNeg))) dL_fewestBySpreading_9 (fun H locs hP hD hS => ?_)
  replace hP : va_P (my_D Γ) vwCl (wBF Γ q_bf q_tx q_fl q_flT q_hi q_s1 q_s2 q_fd q_kc q_kr  ++ wFloor Γ q_fl q_k q_c q_a q_pa q_b q_pb vi vj vk vc va vpa vb vpb ++ wFinder Γ q_fd q_ds q_rc ds_2 rc_3 ++ wOut Γ q_ou (vp_updL vou (0 : Int32).toNatClampNeg y_5)) H := hP
  replace hD : va_D A (wBF Γ q_bf q_tx q_fl q_flT q_hi q_s1 q_s2 q_fd q_kc q_kr  ++ wFloor Γ q_fl q_k q_c q_a q_pa q_b q_pb vi vj vk vc va vpa vb vpb ++ wFinder Γ q_fd q_ds q_rc ds_2 rc_3 ++ wOut Γ q_ou (vp_updL vou (0 : Int32).toNatClampNeg y_5)) := hD
  subst ey_5
  refine lv_goto (tgt := 17) hx hb dL_fewestBySpreading_10 (by decide) ?_
  refine lv_iconst (v := (0 : Int32)) hx hb dL_fewestBySpreading_17 (by decide) ?_
  obtain ⟨hf0, hf1, hf2, hf3⟩ := si4 hm
  subst hf0
  subst hf1
  subst hf2
  subst hf3
  exact W.widen (k := 2) (n := 12) (Nat.le_of_ble_eq_true rfl) (Nat.le_of_ble_eq_true rfl) (W.iret (v := (0 : Int32)) hx hb hr (fun t ht hW => ⟨⟨rfl, by rw [ht]; exact hP⟩, hS.F ht⟩) hS.2.2 dL_fewestBySpreading_18)
def mL_fewestBySweeping (vk : Nat → Int32) (va : Nat → Int32) (vb : Nat → Int32) (ds : Nat → Int32) (vou : Nat → Int64) (x1 : Int32) (x2 : Int32) : Option (Int32 × (Nat → Int32) × (Nat → Int64)) := (bo1 (mX8_fewestBySweeping vk va vb ds x1 x2) (fun mr_ => (bh2 mr_ (fun r_1 ds_2 => (some ((0 : Int32), ds_2, (vp_updL vou (0 : Int32).toNatClampNeg (r_1.toInt64))))) (fun E_ => (if E_ = "java/lang/IndexOutOfBoundsException" then (some ((1 : Int32), ds, vou)) else none)))))
set_option maxHeartbeats 4000000 in
set_option maxRecDepth 100000 in
theorem kL_fewestBySweeping (l : Launch) (Γ : my_G) (hfl : l.stackTraces = false) (q_bf q_fl q_k q_c q_a q_pa q_b q_pb q_fd q_ds q_rc q_ou q_tx q_flT q_hi q_s1 q_s2 q_kc q_kr : Nat) (vi : Nat → Int32) (vj : Nat → Int64) (vk : Nat → Int32) (vc : Nat → Int32) (va : Nat → Int32) (vpa : Nat → Int32) (vb : Nat → Int32) (vpb : Nat → Int32) (ds : Nat → Int32) (rc : Nat → Int32) (vou : Nat → Int64) (x1 : Int32) (x2 : Int32) (rr : Int32) (ds_z : Nat → Int32) (vou_z : Nat → Int64) (hm : mL_fewestBySweeping vk va vb ds vou x1 x2 = (some (rr, ds_z, vou_z))) : MnW l yL_fewestBySweeping wsL_fewestBySweeping ({ frames := 8, cells := 2, slots := 12, locals := 161 } : Room) Γ [.ref q_bf, .int x1, .int x2, .ref q_ou] (wBF Γ q_bf q_tx q_fl q_flT q_hi q_s1 q_s2 q_fd q_kc q_kr  ++ wFloor Γ q_fl q_k q_c q_a q_pa q_b q_pb vi vj vk vc va vpa vb vpb ++ wFinder Γ q_fd q_ds q_rc ds rc ++ wOut Γ q_ou vou) (some (.int rr)) (wBF Γ q_bf q_tx q_fl q_flT q_hi q_s1 q_s2 q_fd q_kc q_kr  ++ wFloor Γ q_fl q_k q_c q_a q_pa q_b q_pb vi vj vk vc va vpa vb vpb ++ wFinder Γ q_fd q_ds q_rc ds_z rc ++ wOut Γ q_ou vou_z) 2 12 := by
  intro sz
  refine va_MetW (cc := cL_fewestBySweeping) (maxL := 5) (ret := (some .int)) (by decide) rfl ?_
  intro p e s m args below meth c s₁ B hml hv
  obtain ⟨rfl, ⟨hsz, hP, hK, hD0⟩, hZ, hstr, hnc⟩ := hv
  have htab := vx_table (x := yL_fewestBySweeping) (hh := [(0, 10, 13, 24)]) B (atoms_spec (ws := wsL_fewestBySweeping) B.pre _ List.mem_cons_self)
  have hx := B.exec
  have hb := B.bytes
  have hr := B.returns
  have hts := atoms_spec (ws := wsL_fewestBySweeping) B.pre
  have hown : s.vm.findClass RL = some m.cls := findClass_of_methodNamed B.named
  have hlocks := B.notSynchronized
  have hinX0 : ∀ w ∈ u_ws RX0 TX0 2, w ∈ wsL_fewestBySweeping := fun w h => List.mem_cons_of_mem _ (List.mem_append_left _ (List.mem_append_right _ h))
  have hinX1 : ∀ w ∈ u_ws RX1 TX1 12, w ∈ wsL_fewestBySweeping := fun w h => List.mem_cons_of_mem _ (List.mem_append_left _ (List.mem_append_left _ (List.mem_append_right _ h)))
  have hinX4 : ∀ w ∈ u_ws RX4 TX4 10, w ∈ wsL_fewestBySweeping := fun w h => List.mem_cons_of_mem _ (List.mem_append_left _ (List.mem_append_left _ (List.mem_append_left _ (List.mem_append_right _ h))))
  have hinX8 : ∀ w ∈ u_ws RX8 TX8 9, w ∈ wsL_fewestBySweeping := fun w h => List.mem_cons_of_mem _ (List.mem_append_left _ (List.mem_append_left _ (List.mem_append_left _ (List.mem_append_left _ (List.mem_append_right _ h)))))
  subst hsz
  have hD := hD0.self (sz := s.heap.size)
  have hA : ∀ q : Nat, s.heap.size ≤ q → va_A (wBF Γ q_bf q_tx q_fl q_flT q_hi q_s1 q_s2 q_fd q_kc q_kr  ++ wFloor Γ q_fl q_k q_c q_a q_pa q_b q_pb vi vj vk vc va vpa vb vpb ++ wFinder Γ q_fd q_ds q_rc ds rc ++ wOut Γ q_ou vou) s.heap.size q := fun q h => Or.inr h
  generalize va_A (wBF Γ q_bf q_tx q_fl q_flT q_hi q_s1 q_s2 q_fd q_kc q_kr  ++ wFloor Γ q_fl q_k q_c q_a q_pa q_b q_pb vi vj vk vc va vpa vb vpb ++ wFinder Γ q_fd q_ds q_rc ds rc ++ wOut Γ q_ou vou) s.heap.size = A at hD hA hZ ⊢
  have hS : va_S A s.heap s.heap [] := va_S.rf
  have hl := lv_entry ([.ref q_bf, .int x1, .int x2, .ref q_ou]) (n := 5) (Nat.le_of_ble_eq_true rfl)
  rw [lg_entry_eq]
  generalize (lg_sl ([.ref q_bf, .int x1, .int x2, .ref q_ou]) ++ List.replicate (5 - (lg_sl ([.ref q_bf, .int x1, .int x2, .ref q_ou])).length) Slot.unset).toArray = ls at hl ⊢
  replace hl : lv_has ls 5 [(0, .ref q_bf), (1, .int x1), (2, .int x2), (3, .ref q_ou)] := hl
  unfold mL_fewestBySweeping at hm
  refine lv_aload_n hx hb dL_fewestBySweeping_0 rfl (lv_at hl 3 rfl) ?_
  refine lv_iconst (v := (0 : Int32)) hx hb dL_fewestBySweeping_1 (by decide) ?_
  refine lv_aload_n hx hb dL_fewestBySweeping_2 rfl (lv_at hl 0 rfl) ?_
  refine lv_iload_n hx hb dL_fewestBySweeping_3 rfl (lv_at hl 1 rfl) ?_
  refine lv_iload_n hx hb dL_fewestBySweeping_4 rfl (lv_at hl 2 rfl) ?_
  obtain ⟨mr_, hc0_, hm⟩ := bo1_s hm
  refine my_callPX (wc := (wBF Γ q_bf q_tx q_fl q_flT q_hi q_s1 q_s2 q_fd q_kc q_kr  ++ wFloor Γ q_fl q_k q_c q_a q_pa q_b q_pb vi vj vk vc va vpa vb vpb ++ wFinder Γ q_fd q_ds q_rc ds rc)) hP hD hS hA [0, 1, 2, 3, 4, 5, 6, 7, 8, 9, 10] rfl rfl (fun res w1 h9 => my_had2 h9 (fun q => rfl)) (vx_runV (As := [.int x1, .int x2]) (rest := [.int (0 : Int32), .ref q_ou]) ⟨hx, hb, hml, hown, hts⟩ (kX8_fewestBySweeping l Γ hfl q_bf q_fl q_k q_c q_a q_pa q_b q_pb q_fd q_ds q_rc q_tx q_flT q_hi q_s1 q_s2 q_kc q_kr vi vj vk vc va vpa vb vpb ds rc x1 x2 mr_ hc0_ _) (cwV 2 hts gL_fewestBySweeping_X8_fewestBySweeping rfl rfl rfl (by decide +kernel) ⟨Nat.le_of_ble_eq_true rfl, Nat.le_of_ble_eq_true rfl⟩) (my_preVX (wc := (wBF Γ q_bf q_tx q_fl q_flT q_hi q_s1 q_s2 q_fd q_kc q_kr  ++ wFloor Γ q_fl q_k q_c q_a q_pa q_b q_pb vi vj vk vc va vpa vb vpb ++ wFinder Γ q_fd q_ds q_rc ds rc)) (ci := 6) (q0 := 0) [0, 1, 2, 3, 4, 5, 6, 7, 8, 9, 10] hK hP hD hS hA hZ hstr rfl rfl rfl rfl) rfl rfl hl.1 rfl (lv_room (Nat.le_of_ble_eq_true rfl)) dL_fewestBySweeping_5 ⟨Nat.le_of_ble_eq_true rfl, Nat.le_of_ble_eq_true rfl⟩) (fun E_ H locs q9 ce hro hP hS h1_ h2_ h3_ => ?_) (fun res_ w1_ H locs hro hP hD hS => ?_)
  · rcases bh2_s hm with ⟨r_1, ds_2, hc_, hm⟩ | ⟨E2_, hc_, hm⟩
    · rw [hc_] at hro; exact (my_map_lr hro).elim
    · rw [hc_] at hro
      have hE_ := my_map_rr hro
      subst hE_
      by_cases ck_3 : E2_ = "java/lang/IndexOutOfBoundsException"
      · replace hm := if_s hm ck_3
        subst ck_3
        refine vx_catch (name := "java/lang/IndexOutOfBoundsException") hown [] ⟨0, 10, 13, 24⟩ [] (htab.trans rfl) (fun z hz => nomatch hz) rfl (by decide) (hts (.classLink RL 24 "java/lang/IndexOutOfBoundsException") (List.mem_of_getElem? (i := 1) rfl)) (va_Nw.use rfl hstr.2.1) h1_ h2_ h3_ ?_
        refine lv_astore (lv' := [(4, .ref q9), (0, .ref q_bf), (1, .int x1), (2, .int x2), (3, .ref q_ou)]) hx hb dL_fewestBySweeping_13 hl (by decide) rfl (fun ls hl => ?_)
        refine lv_iconst (v := (1 : Int32)) hx hb dL_fewestBySweeping_15 (by decide) ?_
        obtain ⟨hf0, hf1, hf2⟩ := si3 hm
        subst hf0
        subst hf1
        subst hf2
        exact W.widen (k := 2) (n := 12) (Nat.le_of_ble_eq_true rfl) (Nat.le_of_ble_eq_true rfl) (W.iret (v := (1 : Int32)) hx hb hr (fun t ht hW => ⟨⟨rfl, by rw [ht]; exact hP⟩, hS.F ht⟩) hS.2.2 dL_fewestBySweeping_16)
      · replace hm := if_f hm ck_3
        cases hm
  rcases bh2_s hm with ⟨r_1, ds_2, hc_, hm⟩ | ⟨E2_, hc_, hm⟩
  rotate_left
  · rw [hc_] at hro; exact (my_map_rl hro).elim
  rw [hc_] at hro
  obtain ⟨rfl, rfl⟩ := my_map_ll hro
  replace hP : va_P (my_D Γ) vwCl (wBF Γ q_bf q_tx q_fl q_flT q_hi q_s1 q_s2 q_fd q_kc q_kr  ++ wFloor Γ q_fl q_k q_c q_a q_pa q_b q_pb vi vj vk vc va vpa vb vpb ++ wFinder Γ q_fd q_ds q_rc ds_2 rc ++ wOut Γ q_ou vou) H := hP
  replace hD : va_D A (wBF Γ q_bf q_tx q_fl q_flT q_hi q_s1 q_s2 q_fd q_kc q_kr  ++ wFloor Γ q_fl q_k q_c q_a q_pa q_b q_pb vi vj vk vc va vpa vb vpb ++ wFinder Γ q_fd q_ds q_rc ds_2 rc ++ wOut Γ q_ou vou) := hD
  refine lv_i2l (v := r_1.toInt64) hx hb dL_fewestBySweeping_8 rfl ?_
  refine lv_topl (fun y_4 ey_4 => ?_)
  refine va_last hx hb hK hP hD hS 11 1 rfl rfl (show vp_in (0 : Int32) 1 from (by decide : ¬ ((0 : Int32) < 0 ∨ 1 ≤ (0 : Int32).toNatClampNeg))) dL_fewestBySweeping_9 (fun H locs hP hD hS => ?_)
  replace hP : va_P (my_D Γ) vwCl (wBF Γ q_bf q_tx q_fl q_flT q_hi q_s1 q_s2 q_fd q_kc q_kr  ++ wFloor Γ q_fl q_k q_c q_a q_pa q_b q_pb vi vj vk vc va vpa vb vpb ++ wFinder Γ q_fd q_ds q_rc ds_2 rc ++ wOut Γ q_ou (vp_updL vou (0 : Int32).toNatClampNeg y_4)) H := hP
  replace hD : va_D A (wBF Γ q_bf q_tx q_fl q_flT q_hi q_s1 q_s2 q_fd q_kc q_kr  ++ wFloor Γ q_fl q_k q_c q_a q_pa q_b q_pb vi vj vk vc va vpa vb vpb ++ wFinder Γ q_fd q_ds q_rc ds_2 rc ++ wOut Γ q_ou (vp_updL vou (0 : Int32).toNatClampNeg y_4)) := hD
  subst ey_4
  refine lv_goto (tgt := 17) hx hb dL_fewestBySweeping_10 (by decide) ?_
  refine lv_iconst (v := (0 : Int32)) hx hb dL_fewestBySweeping_17 (by decide) ?_
  obtain ⟨hf0, hf1, hf2⟩ := si3 hm
  subst hf0
  subst hf1
  subst hf2
  exact W.widen (k := 2) (n := 12) (Nat.le_of_ble_eq_true rfl) (Nat.le_of_ble_eq_true rfl) (W.iret (v := (0 : Int32)) hx hb hr (fun t ht hW => ⟨⟨rfl, by rw [ht]; exact hP⟩, hS.F ht⟩) hS.2.2 dL_fewestBySweeping_18)
def mL_load (ti : Nat → Int32) (sg : Nat → Int32) (vi : Nat → Int32) (vj : Nat → Int64) (vk : Nat → Int32) (vc : Nat → Int32) (va : Nat → Int32) (vpa : Nat → Int32) (vb : Nat → Int32) (vpb : Nat → Int32) (vh : Nat → Int32) (vs1 : Nat → Int32) (vs2 : Nat → Int32) (vou : Nat → Int64) : Option (Int32 × (Nat → Int32) × (Nat → Int64) × (Nat → Int32) × (Nat → Int32) × (Nat → Int32) × (Nat → Int32) × (Nat → Int32) × (Nat → Int32) × (Nat → Int32) × (Nat → Int32) × (Nat → Int32) × (Nat → Int64)) := (bo1 (mX8_load ti sg vi vj vk vc va vpa vb vpb vh vs1 vs2) (fun mr_ => (bh12 mr_ (fun r_1 vi_2 vj_3 vk_4 vc_5 va_6 vpa_7 vb_8 vpb_9 vh_10 vs1_11 vs2_12 => (some ((0 : Int32), vi_2, vj_3, vk_4, vc_5, va_6, vpa_7, vb_8, vpb_9, vh_10, vs1_11, vs2_12, (vp_updL vou (0 : Int32).toNatClampNeg (r_1.toInt64))))) (fun E_ => (if E_ = "java/lang/IllegalStateException" then (some ((1 : Int32), vi, vj, vk, vc, va, vpa, vb, vpb, vh, vs1, vs2, vou)) else none)))))
set_option maxHeartbeats 4000000 in
set_option maxRecDepth 100000 in
theorem kL_load (l : Launch) (Γ : my_G) (hfl : l.stackTraces = false) (q_bf q_tx q_sg q_fl q_k q_c q_a q_pa q_b q_pb q_hi q_hs q_s1 q_s2 q_ou q_flT q_fd q_kc q_kr q_flA q_flB : Nat) (ti : Nat → Int32) (sg : Nat → Int32) (vi : Nat → Int32) (vj : Nat → Int64) (vk : Nat → Int32) (vc : Nat → Int32) (va : Nat → Int32) (vpa : Nat → Int32) (vb : Nat → Int32) (vpb : Nat → Int32) (vh : Nat → Int32) (vhs : Nat → Option Nat) (vs1 : Nat → Int32) (vs2 : Nat → Int32) (vou : Nat → Int64)  (rr : Int32) (vi_z : Nat → Int32) (vj_z : Nat → Int64) (vk_z : Nat → Int32) (vc_z : Nat → Int32) (va_z : Nat → Int32) (vpa_z : Nat → Int32) (vb_z : Nat → Int32) (vpb_z : Nat → Int32) (vh_z : Nat → Int32) (vs1_z : Nat → Int32) (vs2_z : Nat → Int32) (vou_z : Nat → Int64) (hm : mL_load ti sg vi vj vk vc va vpa vb vpb vh vs1 vs2 vou = (some (rr, vi_z, vj_z, vk_z, vc_z, va_z, vpa_z, vb_z, vpb_z, vh_z, vs1_z, vs2_z, vou_z))) : MnW l yL_load wsL_load ({ frames := 7, cells := 1, slots := 6, locals := 157 } : Room) Γ [.ref q_bf, .ref q_ou] (wBF Γ q_bf q_tx q_fl q_flT q_hi q_s1 q_s2 q_fd q_kc q_kr  ++ wText Γ q_tx q_sg ti sg ++ wFloor Γ q_fl q_k q_c q_a q_pa q_b q_pb vi vj vk vc va vpa vb vpb ++ wHist Γ q_hi q_hs vh vhs ++ wSlot Γ q_s1 q_flA vs1 ++ wSlot Γ q_s2 q_flB vs2 ++ wOut Γ q_ou vou) (some (.int rr)) (wBF Γ q_bf q_tx q_fl q_flT q_hi q_s1 q_s2 q_fd q_kc q_kr  ++ wText Γ q_tx q_sg ti sg ++ wFloor Γ q_fl q_k q_c q_a q_pa q_b q_pb vi_z vj_z vk_z vc_z va_z vpa_z vb_z vpb_z ++ wHist Γ q_hi q_hs vh_z vhs ++ wSlot Γ q_s1 q_flA vs1_z ++ wSlot Γ q_s2 q_flB vs2_z ++ wOut Γ q_ou vou_z) 1 6 := by
  intro sz
  refine va_MetW (cc := cL_load) (maxL := 3) (ret := (some .int)) (by decide) rfl ?_
  intro p e s m args below meth c s₁ B hml hv
  obtain ⟨rfl, ⟨hsz, hP, hK, hD0⟩, hZ, hstr, hnc⟩ := hv
  have htab := vx_table (x := yL_load) (hh := [(0, 8, 11, 15)]) B (atoms_spec (ws := wsL_load) B.pre _ List.mem_cons_self)
  have hx := B.exec
  have hb := B.bytes
  have hr := B.returns
  have hts := atoms_spec (ws := wsL_load) B.pre
  have hown : s.vm.findClass RL = some m.cls := findClass_of_methodNamed B.named
  have hlocks := B.notSynchronized
  have hinX1 : ∀ w ∈ u_ws RX1 TX1 12, w ∈ wsL_load := fun w h => List.mem_cons_of_mem _ (List.mem_append_left _ (List.mem_append_left _ (List.mem_append_right _ h)))
  have hinX3 : ∀ w ∈ u_ws RX3 TX3 3, w ∈ wsL_load := fun w h => List.mem_cons_of_mem _ (List.mem_append_left _ (List.mem_append_left _ (List.mem_append_left _ (List.mem_append_left _ (List.mem_append_left _ (List.mem_append_right _ h))))))
  have hinX4 : ∀ w ∈ u_ws RX4 TX4 10, w ∈ wsL_load := fun w h => List.mem_cons_of_mem _ (List.mem_append_left _ (List.mem_append_right _ h))
  have hinX5 : ∀ w ∈ u_ws RX5 TX5 2, w ∈ wsL_load := fun w h => List.mem_cons_of_mem _ (List.mem_append_left _ (List.mem_append_left _ (List.mem_append_left _ (List.mem_append_left _ (List.mem_append_right _ h)))))
  have hinX7 : ∀ w ∈ u_ws RX7 TX7 2, w ∈ wsL_load := fun w h => List.mem_cons_of_mem _ (List.mem_append_left _ (List.mem_append_left _ (List.mem_append_left _ (List.mem_append_right _ h))))
  have hinX8 : ∀ w ∈ u_ws RX8 TX8 9, w ∈ wsL_load := fun w h => List.mem_cons_of_mem _ (List.mem_append_left _ (List.mem_append_left _ (List.mem_append_left _ (List.mem_append_left _ (List.mem_append_left _ (List.mem_append_left _ (List.mem_append_right _ h)))))))
  subst hsz
  have hD := hD0.self (sz := s.heap.size)
  have hA : ∀ q : Nat, s.heap.size ≤ q → va_A (wBF Γ q_bf q_tx q_fl q_flT q_hi q_s1 q_s2 q_fd q_kc q_kr  ++ wText Γ q_tx q_sg ti sg ++ wFloor Γ q_fl q_k q_c q_a q_pa q_b q_pb vi vj vk vc va vpa vb vpb ++ wHist Γ q_hi q_hs vh vhs ++ wSlot Γ q_s1 q_flA vs1 ++ wSlot Γ q_s2 q_flB vs2 ++ wOut Γ q_ou vou) s.heap.size q := fun q h => Or.inr h
  generalize va_A (wBF Γ q_bf q_tx q_fl q_flT q_hi q_s1 q_s2 q_fd q_kc q_kr  ++ wText Γ q_tx q_sg ti sg ++ wFloor Γ q_fl q_k q_c q_a q_pa q_b q_pb vi vj vk vc va vpa vb vpb ++ wHist Γ q_hi q_hs vh vhs ++ wSlot Γ q_s1 q_flA vs1 ++ wSlot Γ q_s2 q_flB vs2 ++ wOut Γ q_ou vou) s.heap.size = A at hD hA hZ ⊢
  have hS : va_S A s.heap s.heap [] := va_S.rf
  have hl := lv_entry ([.ref q_bf, .ref q_ou]) (n := 3) (Nat.le_of_ble_eq_true rfl)
  rw [lg_entry_eq]
  generalize (lg_sl ([.ref q_bf, .ref q_ou]) ++ List.replicate (3 - (lg_sl ([.ref q_bf, .ref q_ou])).length) Slot.unset).toArray = ls at hl ⊢
  replace hl : lv_has ls 3 [(0, .ref q_bf), (1, .ref q_ou)] := hl
  unfold mL_load at hm
  refine lv_aload_n hx hb dL_load_0 rfl (lv_at hl 1 rfl) ?_
  refine lv_iconst (v := (0 : Int32)) hx hb dL_load_1 (by decide) ?_
  refine lv_aload_n hx hb dL_load_2 rfl (lv_at hl 0 rfl) ?_
  obtain ⟨mr_, hc0_, hm⟩ := bo1_s hm
  refine my_callPX (wc := (wBF Γ q_bf q_tx q_fl q_flT q_hi q_s1 q_s2 q_fd q_kc q_kr  ++ wText Γ q_tx q_sg ti sg ++ wFloor Γ q_fl q_k q_c q_a q_pa q_b q_pb vi vj vk vc va vpa vb vpb ++ wHist Γ q_hi q_hs vh vhs ++ wSlot Γ q_s1 q_flA vs1 ++ wSlot Γ q_s2 q_flB vs2)) hP hD hS hA [0, 1, 2, 3, 4, 5, 6, 7, 8, 9, 10, 11, 12, 13] rfl rfl (fun res w1 h9 => my_had2 h9 (fun q => rfl)) (vx_runV (As := []) (rest := [.int (0 : Int32), .ref q_ou]) ⟨hx, hb, hml, hown, hts⟩ (kX8_load l Γ hfl q_bf q_tx q_sg q_fl q_k q_c q_a q_pa q_b q_pb q_hi q_hs q_s1 q_s2 q_flT q_fd q_kc q_kr q_flA q_flB ti sg vi vj vk vc va vpa vb vpb vh vhs vs1 vs2  mr_ hc0_ _) (cwV 0 hts gL_load_X8_load rfl rfl rfl (by decide +kernel) ⟨Nat.le_of_ble_eq_true rfl, Nat.le_of_ble_eq_true rfl⟩) (my_preVX (wc := (wBF Γ q_bf q_tx q_fl q_flT q_hi q_s1 q_s2 q_fd q_kc q_kr  ++ wText Γ q_tx q_sg ti sg ++ wFloor Γ q_fl q_k q_c q_a q_pa q_b q_pb vi vj vk vc va vpa vb vpb ++ wHist Γ q_hi q_hs vh vhs ++ wSlot Γ q_s1 q_flA vs1 ++ wSlot Γ q_s2 q_flB vs2)) (ci := 6) (q0 := 0) [0, 1, 2, 3, 4, 5, 6, 7, 8, 9, 10, 11, 12, 13] hK hP hD hS hA hZ hstr rfl rfl rfl rfl) rfl rfl hl.1 rfl (lv_room (Nat.le_of_ble_eq_true rfl)) dL_load_3 ⟨Nat.le_of_ble_eq_true rfl, Nat.le_of_ble_eq_true rfl⟩) (fun E_ H locs q9 ce hro hP hS h1_ h2_ h3_ => ?_) (fun res_ w1_ H locs hro hP hD hS => ?_)
  · rcases bh12_s hm with ⟨r_1, vi_2, vj_3, vk_4, vc_5, va_6, vpa_7, vb_8, vpb_9, vh_10, vs1_11, vs2_12, hc_, hm⟩ | ⟨E2_, hc_, hm⟩
    · rw [hc_] at hro; exact (my_map_lr hro).elim
    · rw [hc_] at hro
      have hE_ := my_map_rr hro
      subst hE_
      by_cases ck_13 : E2_ = "java/lang/IllegalStateException"
      · replace hm := if_s hm ck_13
        subst ck_13
        refine vx_catch (name := "java/lang/IllegalStateException") hown [] ⟨0, 8, 11, 15⟩ [] (htab.trans rfl) (fun z hz => nomatch hz) rfl (by decide) (hts (.classLink RL 15 "java/lang/IllegalStateException") (List.mem_of_getElem? (i := 1) rfl)) (va_Nw.use rfl hstr.2.2.2.1) h1_ h2_ h3_ ?_
        refine lv_astore_n (lv' := [(2, .ref q9), (0, .ref q_bf), (1, .ref q_ou)]) hx hb dL_load_11 rfl hl (by decide) rfl (fun ls hl => ?_)
        refine lv_iconst (v := (1 : Int32)) hx hb dL_load_12 (by decide) ?_
        obtain ⟨hf0, hf1, hf2, hf3, hf4, hf5, hf6, hf7, hf8, hf9, hf10, hf11, hf12⟩ := si13 hm
        subst hf0
        subst hf1
        subst hf2
        subst hf3
        subst hf4
        subst hf5
        subst hf6
        subst hf7
        subst hf8
        subst hf9
        subst hf10
        subst hf11
        subst hf12
        exact W.widen (k := 1) (n := 6) (Nat.le_of_ble_eq_true rfl) (Nat.le_of_ble_eq_true rfl) (W.iret (v := (1 : Int32)) hx hb hr (fun t ht hW => ⟨⟨rfl, by rw [ht]; exact hP⟩, hS.F ht⟩) hS.2.2 dL_load_13)
      · replace hm := if_f hm ck_13
        cases hm
  rcases bh12_s hm with ⟨r_1, vi_2, vj_3, vk_4, vc_5, va_6, vpa_7, vb_8, vpb_9, vh_10, vs1_11, vs2_12, hc_, hm⟩ | ⟨E2_, hc_, hm⟩
  rotate_left
  · rw [hc_] at hro; exact (my_map_rl hro).elim
  rw [hc_] at hro
  obtain ⟨rfl, rfl⟩ := my_map_ll hro
  replace hP : va_P (my_D Γ) vwCl (wBF Γ q_bf q_tx q_fl q_flT q_hi q_s1 q_s2 q_fd q_kc q_kr  ++ wText Γ q_tx q_sg ti sg ++ wFloor Γ q_fl q_k q_c q_a q_pa q_b q_pb vi_2 vj_3 vk_4 vc_5 va_6 vpa_7 vb_8 vpb_9 ++ wHist Γ q_hi q_hs vh_10 vhs ++ wSlot Γ q_s1 q_flA vs1_11 ++ wSlot Γ q_s2 q_flB vs2_12 ++ wOut Γ q_ou vou) H := hP
  replace hD : va_D A (wBF Γ q_bf q_tx q_fl q_flT q_hi q_s1 q_s2 q_fd q_kc q_kr  ++ wText Γ q_tx q_sg ti sg ++ wFloor Γ q_fl q_k q_c q_a q_pa q_b q_pb vi_2 vj_3 vk_4 vc_5 va_6 vpa_7 vb_8 vpb_9 ++ wHist Γ q_hi q_hs vh_10 vhs ++ wSlot Γ q_s1 q_flA vs1_11 ++ wSlot Γ q_s2 q_flB vs2_12 ++ wOut Γ q_ou vou) := hD
  refine lv_i2l (v := r_1.toInt64) hx hb dL_load_6 rfl ?_
  refine lv_topl (fun y_14 ey_14 => ?_)
  refine va_last hx hb hK hP hD hS 14 1 rfl rfl (show vp_in (0 : Int32) 1 from (by decide : ¬ ((0 : Int32) < 0 ∨ 1 ≤ (0 : Int32).toNatClampNeg))) dL_load_7 (fun H locs hP hD hS => ?_)
  replace hP : va_P (my_D Γ) vwCl (wBF Γ q_bf q_tx q_fl q_flT q_hi q_s1 q_s2 q_fd q_kc q_kr  ++ wText Γ q_tx q_sg ti sg ++ wFloor Γ q_fl q_k q_c q_a q_pa q_b q_pb vi_2 vj_3 vk_4 vc_5 va_6 vpa_7 vb_8 vpb_9 ++ wHist Γ q_hi q_hs vh_10 vhs ++ wSlot Γ q_s1 q_flA vs1_11 ++ wSlot Γ q_s2 q_flB vs2_12 ++ wOut Γ q_ou (vp_updL vou (0 : Int32).toNatClampNeg y_14)) H := hP
  replace hD : va_D A (wBF Γ q_bf q_tx q_fl q_flT q_hi q_s1 q_s2 q_fd q_kc q_kr  ++ wText Γ q_tx q_sg ti sg ++ wFloor Γ q_fl q_k q_c q_a q_pa q_b q_pb vi_2 vj_3 vk_4 vc_5 va_6 vpa_7 vb_8 vpb_9 ++ wHist Γ q_hi q_hs vh_10 vhs ++ wSlot Γ q_s1 q_flA vs1_11 ++ wSlot Γ q_s2 q_flB vs2_12 ++ wOut Γ q_ou (vp_updL vou (0 : Int32).toNatClampNeg y_14)) := hD
  subst ey_14
  refine lv_goto (tgt := 14) hx hb dL_load_8 (by decide) ?_
  refine lv_iconst (v := (0 : Int32)) hx hb dL_load_14 (by decide) ?_
  obtain ⟨hf0, hf1, hf2, hf3, hf4, hf5, hf6, hf7, hf8, hf9, hf10, hf11, hf12⟩ := si13 hm
  subst hf0
  subst hf1
  subst hf2
  subst hf3
  subst hf4
  subst hf5
  subst hf6
  subst hf7
  subst hf8
  subst hf9
  subst hf10
  subst hf11
  subst hf12
  exact W.widen (k := 1) (n := 6) (Nat.le_of_ble_eq_true rfl) (Nat.le_of_ble_eq_true rfl) (W.iret (v := (0 : Int32)) hx hb hr (fun t ht hW => ⟨⟨rfl, by rw [ht]; exact hP⟩, hS.F ht⟩) hS.2.2 dL_load_15)
def mL_save (vi : Nat → Int32) (vj : Nat → Int64) (vk : Nat → Int32) (vc : Nat → Int32) (va : Nat → Int32) (vpa : Nat → Int32) (vb : Nat → Int32) (vpb : Nat → Int32) (vs1 : Nat → Int32) (viA : Nat → Int32) (vjA : Nat → Int64) (vkA : Nat → Int32) (vcA : Nat → Int32) (vaA : Nat → Int32) (vpaA : Nat → Int32) (vbA : Nat → Int32) (vpbA : Nat → Int32) (vs2 : Nat → Int32) (viB : Nat → Int32) (vjB : Nat → Int64) (vkB : Nat → Int32) (vcB : Nat → Int32) (vaB : Nat → Int32) (vpaB : Nat → Int32) (vbB : Nat → Int32) (vpbB : Nat → Int32) (vou : Nat → Int64) (x1 : Int32) : Option (Int32 × (Nat → Int32) × (Nat → Int32) × (Nat → Int64) × (Nat → Int32) × (Nat → Int32) × (Nat → Int32) × (Nat → Int32) × (Nat → Int32) × (Nat → Int32) × (Nat → Int32) × (Nat → Int32) × (Nat → Int64) × (Nat → Int32) × (Nat → Int32) × (Nat → Int32) × (Nat → Int32) × (Nat → Int32) × (Nat → Int32) × (Nat → Int64)) := (bo1 (mX8_save vi vj vk vc va vpa vb vpb vs1 viA vjA vkA vcA vaA vpaA vbA vpbA vs2 viB vjB vkB vcB vaB vpaB vbB vpbB x1) (fun mr_ => (bh19 mr_ (fun r_1 vs1_2 viA_3 vjA_4 vkA_5 vcA_6 vaA_7 vpaA_8 vbA_9 vpbA_10 vs2_11 viB_12 vjB_13 vkB_14 vcB_15 vaB_16 vpaB_17 vbB_18 vpbB_19 => (some ((0 : Int32), vs1_2, viA_3, vjA_4, vkA_5, vcA_6, vaA_7, vpaA_8, vbA_9, vpbA_10, vs2_11, viB_12, vjB_13, vkB_14, vcB_15, vaB_16, vpaB_17, vbB_18, vpbB_19, (vp_updL vou (0 : Int32).toNatClampNeg (r_1.toInt64))))) (fun E_ => (if E_ = "java/lang/IndexOutOfBoundsException" then (some ((1 : Int32), vs1, viA, vjA, vkA, vcA, vaA, vpaA, vbA, vpbA, vs2, viB, vjB, vkB, vcB, vaB, vpaB, vbB, vpbB, vou)) else none)))))
set_option maxHeartbeats 4000000 in
set_option maxRecDepth 100000 in
theorem kL_save (l : Launch) (Γ : my_G) (hfl : l.stackTraces = false) (q_bf q_fl q_k q_c q_a q_pa q_b q_pb q_s1 q_flA q_kA q_cA q_aA q_paA q_bA q_pbA q_s2 q_flB q_kB q_cB q_aB q_paB q_bB q_pbB q_ou q_tx q_flT q_hi q_fd q_kc q_kr : Nat) (vi : Nat → Int32) (vj : Nat → Int64) (vk : Nat → Int32) (vc : Nat → Int32) (va : Nat → Int32) (vpa : Nat → Int32) (vb : Nat → Int32) (vpb : Nat → Int32) (vs1 : Nat → Int32) (viA : Nat → Int32) (vjA : Nat → Int64) (vkA : Nat → Int32) (vcA : Nat → Int32) (vaA : Nat → Int32) (vpaA : Nat → Int32) (vbA : Nat → Int32) (vpbA : Nat → Int32) (vs2 : Nat → Int32) (viB : Nat → Int32) (vjB : Nat → Int64) (vkB : Nat → Int32) (vcB : Nat → Int32) (vaB : Nat → Int32) (vpaB : Nat → Int32) (vbB : Nat → Int32) (vpbB : Nat → Int32) (vou : Nat → Int64) (x1 : Int32) (rr : Int32) (vs1_z : Nat → Int32) (viA_z : Nat → Int32) (vjA_z : Nat → Int64) (vkA_z : Nat → Int32) (vcA_z : Nat → Int32) (vaA_z : Nat → Int32) (vpaA_z : Nat → Int32) (vbA_z : Nat → Int32) (vpbA_z : Nat → Int32) (vs2_z : Nat → Int32) (viB_z : Nat → Int32) (vjB_z : Nat → Int64) (vkB_z : Nat → Int32) (vcB_z : Nat → Int32) (vaB_z : Nat → Int32) (vpaB_z : Nat → Int32) (vbB_z : Nat → Int32) (vpbB_z : Nat → Int32) (vou_z : Nat → Int64) (hm : mL_save vi vj vk vc va vpa vb vpb vs1 viA vjA vkA vcA vaA vpaA vbA vpbA vs2 viB vjB vkB vcB vaB vpaB vbB vpbB vou x1 = (some (rr, vs1_z, viA_z, vjA_z, vkA_z, vcA_z, vaA_z, vpaA_z, vbA_z, vpbA_z, vs2_z, viB_z, vjB_z, vkB_z, vcB_z, vaB_z, vpaB_z, vbB_z, vpbB_z, vou_z))) : MnW l yL_save wsL_save ({ frames := 8, cells := 1, slots := 6, locals := 138 } : Room) Γ [.ref q_bf, .int x1, .ref q_ou] (wBF Γ q_bf q_tx q_fl q_flT q_hi q_s1 q_s2 q_fd q_kc q_kr  ++ wFloor Γ q_fl q_k q_c q_a q_pa q_b q_pb vi vj vk vc va vpa vb vpb ++ wSlot Γ q_s1 q_flA vs1 ++ wFloor Γ q_flA q_kA q_cA q_aA q_paA q_bA q_pbA viA vjA vkA vcA vaA vpaA vbA vpbA ++ wSlot Γ q_s2 q_flB vs2 ++ wFloor Γ q_flB q_kB q_cB q_aB q_paB q_bB q_pbB viB vjB vkB vcB vaB vpaB vbB vpbB ++ wOut Γ q_ou vou) (some (.int rr)) (wBF Γ q_bf q_tx q_fl q_flT q_hi q_s1 q_s2 q_fd q_kc q_kr  ++ wFloor Γ q_fl q_k q_c q_a q_pa q_b q_pb vi vj vk vc va vpa vb vpb ++ wSlot Γ q_s1 q_flA vs1_z ++ wFloor Γ q_flA q_kA q_cA q_aA q_paA q_bA q_pbA viA_z vjA_z vkA_z vcA_z vaA_z vpaA_z vbA_z vpbA_z ++ wSlot Γ q_s2 q_flB vs2_z ++ wFloor Γ q_flB q_kB q_cB q_aB q_paB q_bB q_pbB viB_z vjB_z vkB_z vcB_z vaB_z vpaB_z vbB_z vpbB_z ++ wOut Γ q_ou vou_z) 1 6 := by
  intro sz
  refine va_MetW (cc := cL_save) (maxL := 4) (ret := (some .int)) (by decide) rfl ?_
  intro p e s m args below meth c s₁ B hml hv
  obtain ⟨rfl, ⟨hsz, hP, hK, hD0⟩, hZ, hstr, hnc⟩ := hv
  have htab := vx_table (x := yL_save) (hh := [(0, 9, 12, 24)]) B (atoms_spec (ws := wsL_save) B.pre _ List.mem_cons_self)
  have hx := B.exec
  have hb := B.bytes
  have hr := B.returns
  have hts := atoms_spec (ws := wsL_save) B.pre
  have hown : s.vm.findClass RL = some m.cls := findClass_of_methodNamed B.named
  have hlocks := B.notSynchronized
  have hinX1 : ∀ w ∈ u_ws RX1 TX1 12, w ∈ wsL_save := fun w h => List.mem_cons_of_mem _ (List.mem_append_left _ (List.mem_append_left _ (List.mem_append_right _ h)))
  have hinX4 : ∀ w ∈ u_ws RX4 TX4 10, w ∈ wsL_save := fun w h => List.mem_cons_of_mem _ (List.mem_append_left _ (List.mem_append_right _ h))
  have hinX5 : ∀ w ∈ u_ws RX5 TX5 2, w ∈ wsL_save := fun w h => List.mem_cons_of_mem _ (List.mem_append_left _ (List.mem_append_left _ (List.mem_append_left _ (List.mem_append_left _ (List.mem_append_right _ h)))))
  have hinX8 : ∀ w ∈ u_ws RX8 TX8 9, w ∈ wsL_save := fun w h => List.mem_cons_of_mem _ (List.mem_append_left _ (List.mem_append_left _ (List.mem_append_left _ (List.mem_append_right _ h))))
  subst hsz
  have hD := hD0.self (sz := s.heap.size)
  have hA : ∀ q : Nat, s.heap.size ≤ q → va_A (wBF Γ q_bf q_tx q_fl q_flT q_hi q_s1 q_s2 q_fd q_kc q_kr  ++ wFloor Γ q_fl q_k q_c q_a q_pa q_b q_pb vi vj vk vc va vpa vb vpb ++ wSlot Γ q_s1 q_flA vs1 ++ wFloor Γ q_flA q_kA q_cA q_aA q_paA q_bA q_pbA viA vjA vkA vcA vaA vpaA vbA vpbA ++ wSlot Γ q_s2 q_flB vs2 ++ wFloor Γ q_flB q_kB q_cB q_aB q_paB q_bB q_pbB viB vjB vkB vcB vaB vpaB vbB vpbB ++ wOut Γ q_ou vou) s.heap.size q := fun q h => Or.inr h
  generalize va_A (wBF Γ q_bf q_tx q_fl q_flT q_hi q_s1 q_s2 q_fd q_kc q_kr  ++ wFloor Γ q_fl q_k q_c q_a q_pa q_b q_pb vi vj vk vc va vpa vb vpb ++ wSlot Γ q_s1 q_flA vs1 ++ wFloor Γ q_flA q_kA q_cA q_aA q_paA q_bA q_pbA viA vjA vkA vcA vaA vpaA vbA vpbA ++ wSlot Γ q_s2 q_flB vs2 ++ wFloor Γ q_flB q_kB q_cB q_aB q_paB q_bB q_pbB viB vjB vkB vcB vaB vpaB vbB vpbB ++ wOut Γ q_ou vou) s.heap.size = A at hD hA hZ ⊢
  have hS : va_S A s.heap s.heap [] := va_S.rf
  have hl := lv_entry ([.ref q_bf, .int x1, .ref q_ou]) (n := 4) (Nat.le_of_ble_eq_true rfl)
  rw [lg_entry_eq]
  generalize (lg_sl ([.ref q_bf, .int x1, .ref q_ou]) ++ List.replicate (4 - (lg_sl ([.ref q_bf, .int x1, .ref q_ou])).length) Slot.unset).toArray = ls at hl ⊢
  replace hl : lv_has ls 4 [(0, .ref q_bf), (1, .int x1), (2, .ref q_ou)] := hl
  unfold mL_save at hm
  refine lv_aload_n hx hb dL_save_0 rfl (lv_at hl 2 rfl) ?_
  refine lv_iconst (v := (0 : Int32)) hx hb dL_save_1 (by decide) ?_
  refine lv_aload_n hx hb dL_save_2 rfl (lv_at hl 0 rfl) ?_
  refine lv_iload_n hx hb dL_save_3 rfl (lv_at hl 1 rfl) ?_
  obtain ⟨mr_, hc0_, hm⟩ := bo1_s hm
  refine my_callPX (wc := (wBF Γ q_bf q_tx q_fl q_flT q_hi q_s1 q_s2 q_fd q_kc q_kr  ++ wFloor Γ q_fl q_k q_c q_a q_pa q_b q_pb vi vj vk vc va vpa vb vpb ++ wSlot Γ q_s1 q_flA vs1 ++ wFloor Γ q_flA q_kA q_cA q_aA q_paA q_bA q_pbA viA vjA vkA vcA vaA vpaA vbA vpbA ++ wSlot Γ q_s2 q_flB vs2 ++ wFloor Γ q_flB q_kB q_cB q_aB q_paB q_bB q_pbB viB vjB vkB vcB vaB vpaB vbB vpbB)) hP hD hS hA [0, 1, 2, 3, 4, 5, 6, 7, 8, 9, 10, 11, 12, 13, 14, 15, 16, 17, 18, 19, 20, 21, 22, 23] rfl rfl (fun res w1 h9 => my_had2 h9 (fun q => rfl)) (vx_runV (As := [.int x1]) (rest := [.int (0 : Int32), .ref q_ou]) ⟨hx, hb, hml, hown, hts⟩ (kX8_save l Γ hfl q_bf q_fl q_k q_c q_a q_pa q_b q_pb q_s1 q_flA q_kA q_cA q_aA q_paA q_bA q_pbA q_s2 q_flB q_kB q_cB q_aB q_paB q_bB q_pbB q_tx q_flT q_hi q_fd q_kc q_kr vi vj vk vc va vpa vb vpb vs1 viA vjA vkA vcA vaA vpaA vbA vpbA vs2 viB vjB vkB vcB vaB vpaB vbB vpbB x1 mr_ hc0_ _) (cwV 1 hts gL_save_X8_save rfl rfl rfl (by decide +kernel) ⟨Nat.le_of_ble_eq_true rfl, Nat.le_of_ble_eq_true rfl⟩) (my_preVX (wc := (wBF Γ q_bf q_tx q_fl q_flT q_hi q_s1 q_s2 q_fd q_kc q_kr  ++ wFloor Γ q_fl q_k q_c q_a q_pa q_b q_pb vi vj vk vc va vpa vb vpb ++ wSlot Γ q_s1 q_flA vs1 ++ wFloor Γ q_flA q_kA q_cA q_aA q_paA q_bA q_pbA viA vjA vkA vcA vaA vpaA vbA vpbA ++ wSlot Γ q_s2 q_flB vs2 ++ wFloor Γ q_flB q_kB q_cB q_aB q_paB q_bB q_pbB viB vjB vkB vcB vaB vpaB vbB vpbB)) (ci := 6) (q0 := 0) [0, 1, 2, 3, 4, 5, 6, 7, 8, 9, 10, 11, 12, 13, 14, 15, 16, 17, 18, 19, 20, 21, 22, 23] hK hP hD hS hA hZ hstr rfl rfl rfl rfl) rfl rfl hl.1 rfl (lv_room (Nat.le_of_ble_eq_true rfl)) dL_save_4 ⟨Nat.le_of_ble_eq_true rfl, Nat.le_of_ble_eq_true rfl⟩) (fun E_ H locs q9 ce hro hP hS h1_ h2_ h3_ => ?_) (fun res_ w1_ H locs hro hP hD hS => ?_)
  · rcases bh19_s hm with ⟨r_1, vs1_2, viA_3, vjA_4, vkA_5, vcA_6, vaA_7, vpaA_8, vbA_9, vpbA_10, vs2_11, viB_12, vjB_13, vkB_14, vcB_15, vaB_16, vpaB_17, vbB_18, vpbB_19, hc_, hm⟩ | ⟨E2_, hc_, hm⟩
    · rw [hc_] at hro; exact (my_map_lr hro).elim
    · rw [hc_] at hro
      have hE_ := my_map_rr hro
      subst hE_
      by_cases ck_20 : E2_ = "java/lang/IndexOutOfBoundsException"
      · replace hm := if_s hm ck_20
        subst ck_20
        refine vx_catch (name := "java/lang/IndexOutOfBoundsException") hown [] ⟨0, 9, 12, 24⟩ [] (htab.trans rfl) (fun z hz => nomatch hz) rfl (by decide) (hts (.classLink RL 24 "java/lang/IndexOutOfBoundsException") (List.mem_of_getElem? (i := 1) rfl)) (va_Nw.use rfl hstr.2.1) h1_ h2_ h3_ ?_
        refine lv_astore_n (lv' := [(3, .ref q9), (0, .ref q_bf), (1, .int x1), (2, .ref q_ou)]) hx hb dL_save_12 rfl hl (by decide) rfl (fun ls hl => ?_)
        refine lv_iconst (v := (1 : Int32)) hx hb dL_save_13 (by decide) ?_
        obtain ⟨hf0, hf1, hf2, hf3, hf4, hf5, hf6, hf7, hf8, hf9, hf10, hf11, hf12, hf13, hf14, hf15, hf16, hf17, hf18, hf19⟩ := si20 hm
        subst hf0
        subst hf1
        subst hf2
        subst hf3
        subst hf4
        subst hf5
        subst hf6
        subst hf7
        subst hf8
        subst hf9
        subst hf10
        subst hf11
        subst hf12
        subst hf13
        subst hf14
        subst hf15
        subst hf16
        subst hf17
        subst hf18
        subst hf19
        exact W.widen (k := 1) (n := 6) (Nat.le_of_ble_eq_true rfl) (Nat.le_of_ble_eq_true rfl) (W.iret (v := (1 : Int32)) hx hb hr (fun t ht hW => ⟨⟨rfl, by rw [ht]; exact hP⟩, hS.F ht⟩) hS.2.2 dL_save_14)
      · replace hm := if_f hm ck_20
        cases hm
  rcases bh19_s hm with ⟨r_1, vs1_2, viA_3, vjA_4, vkA_5, vcA_6, vaA_7, vpaA_8, vbA_9, vpbA_10, vs2_11, viB_12, vjB_13, vkB_14, vcB_15, vaB_16, vpaB_17, vbB_18, vpbB_19, hc_, hm⟩ | ⟨E2_, hc_, hm⟩
  rotate_left
  · rw [hc_] at hro; exact (my_map_rl hro).elim
  rw [hc_] at hro
  obtain ⟨rfl, rfl⟩ := my_map_ll hro
  replace hP : va_P (my_D Γ) vwCl (wBF Γ q_bf q_tx q_fl q_flT q_hi q_s1 q_s2 q_fd q_kc q_kr  ++ wFloor Γ q_fl q_k q_c q_a q_pa q_b q_pb vi vj vk vc va vpa vb vpb ++ wSlot Γ q_s1 q_flA vs1_2 ++ wFloor Γ q_flA q_kA q_cA q_aA q_paA q_bA q_pbA viA_3 vjA_4 vkA_5 vcA_6 vaA_7 vpaA_8 vbA_9 vpbA_10 ++ wSlot Γ q_s2 q_flB vs2_11 ++ wFloor Γ q_flB q_kB q_cB q_aB q_paB q_bB q_pbB viB_12 vjB_13 vkB_14 vcB_15 vaB_16 vpaB_17 vbB_18 vpbB_19 ++ wOut Γ q_ou vou) H := hP
  replace hD : va_D A (wBF Γ q_bf q_tx q_fl q_flT q_hi q_s1 q_s2 q_fd q_kc q_kr  ++ wFloor Γ q_fl q_k q_c q_a q_pa q_b q_pb vi vj vk vc va vpa vb vpb ++ wSlot Γ q_s1 q_flA vs1_2 ++ wFloor Γ q_flA q_kA q_cA q_aA q_paA q_bA q_pbA viA_3 vjA_4 vkA_5 vcA_6 vaA_7 vpaA_8 vbA_9 vpbA_10 ++ wSlot Γ q_s2 q_flB vs2_11 ++ wFloor Γ q_flB q_kB q_cB q_aB q_paB q_bB q_pbB viB_12 vjB_13 vkB_14 vcB_15 vaB_16 vpaB_17 vbB_18 vpbB_19 ++ wOut Γ q_ou vou) := hD
  refine lv_i2l (v := r_1.toInt64) hx hb dL_save_7 rfl ?_
  refine lv_topl (fun y_21 ey_21 => ?_)
  refine va_last hx hb hK hP hD hS 24 1 rfl rfl (show vp_in (0 : Int32) 1 from (by decide : ¬ ((0 : Int32) < 0 ∨ 1 ≤ (0 : Int32).toNatClampNeg))) dL_save_8 (fun H locs hP hD hS => ?_)
  replace hP : va_P (my_D Γ) vwCl (wBF Γ q_bf q_tx q_fl q_flT q_hi q_s1 q_s2 q_fd q_kc q_kr  ++ wFloor Γ q_fl q_k q_c q_a q_pa q_b q_pb vi vj vk vc va vpa vb vpb ++ wSlot Γ q_s1 q_flA vs1_2 ++ wFloor Γ q_flA q_kA q_cA q_aA q_paA q_bA q_pbA viA_3 vjA_4 vkA_5 vcA_6 vaA_7 vpaA_8 vbA_9 vpbA_10 ++ wSlot Γ q_s2 q_flB vs2_11 ++ wFloor Γ q_flB q_kB q_cB q_aB q_paB q_bB q_pbB viB_12 vjB_13 vkB_14 vcB_15 vaB_16 vpaB_17 vbB_18 vpbB_19 ++ wOut Γ q_ou (vp_updL vou (0 : Int32).toNatClampNeg y_21)) H := hP
  replace hD : va_D A (wBF Γ q_bf q_tx q_fl q_flT q_hi q_s1 q_s2 q_fd q_kc q_kr  ++ wFloor Γ q_fl q_k q_c q_a q_pa q_b q_pb vi vj vk vc va vpa vb vpb ++ wSlot Γ q_s1 q_flA vs1_2 ++ wFloor Γ q_flA q_kA q_cA q_aA q_paA q_bA q_pbA viA_3 vjA_4 vkA_5 vcA_6 vaA_7 vpaA_8 vbA_9 vpbA_10 ++ wSlot Γ q_s2 q_flB vs2_11 ++ wFloor Γ q_flB q_kB q_cB q_aB q_paB q_bB q_pbB viB_12 vjB_13 vkB_14 vcB_15 vaB_16 vpaB_17 vbB_18 vpbB_19 ++ wOut Γ q_ou (vp_updL vou (0 : Int32).toNatClampNeg y_21)) := hD
  subst ey_21
  refine lv_goto (tgt := 15) hx hb dL_save_9 (by decide) ?_
  refine lv_iconst (v := (0 : Int32)) hx hb dL_save_15 (by decide) ?_
  obtain ⟨hf0, hf1, hf2, hf3, hf4, hf5, hf6, hf7, hf8, hf9, hf10, hf11, hf12, hf13, hf14, hf15, hf16, hf17, hf18, hf19⟩ := si20 hm
  subst hf0
  subst hf1
  subst hf2
  subst hf3
  subst hf4
  subst hf5
  subst hf6
  subst hf7
  subst hf8
  subst hf9
  subst hf10
  subst hf11
  subst hf12
  subst hf13
  subst hf14
  subst hf15
  subst hf16
  subst hf17
  subst hf18
  subst hf19
  exact W.widen (k := 1) (n := 6) (Nat.le_of_ble_eq_true rfl) (Nat.le_of_ble_eq_true rfl) (W.iret (v := (0 : Int32)) hx hb hr (fun t ht hW => ⟨⟨rfl, by rw [ht]; exact hP⟩, hS.F ht⟩) hS.2.2 dL_save_16)
def mL_restore (vi : Nat → Int32) (vj : Nat → Int64) (vk : Nat → Int32) (vc : Nat → Int32) (va : Nat → Int32) (vpa : Nat → Int32) (vb : Nat → Int32) (vpb : Nat → Int32) (vh : Nat → Int32) (vs1 : Nat → Int32) (viA : Nat → Int32) (vjA : Nat → Int64) (vkA : Nat → Int32) (vcA : Nat → Int32) (vaA : Nat → Int32) (vpaA : Nat → Int32) (vbA : Nat → Int32) (vpbA : Nat → Int32) (vs2 : Nat → Int32) (viB : Nat → Int32) (vjB : Nat → Int64) (vkB : Nat → Int32) (vcB : Nat → Int32) (vaB : Nat → Int32) (vpaB : Nat → Int32) (vbB : Nat → Int32) (vpbB : Nat → Int32) (vou : Nat → Int64) (x1 : Int32) : Option (Int32 × (Nat → Int32) × (Nat → Int64) × (Nat → Int32) × (Nat → Int32) × (Nat → Int32) × (Nat → Int32) × (Nat → Int32) × (Nat → Int32) × (Nat → Int32) × (Nat → Int64)) := (bo1 (mX8_restore vi vj vk vc va vpa vb vpb vh vs1 viA vjA vkA vcA vaA vpaA vbA vpbA vs2 viB vjB vkB vcB vaB vpaB vbB vpbB x1) (fun mr_ => (bh10 mr_ (fun r_1 vi_2 vj_3 vk_4 vc_5 va_6 vpa_7 vb_8 vpb_9 vh_10 => (some ((0 : Int32), vi_2, vj_3, vk_4, vc_5, va_6, vpa_7, vb_8, vpb_9, vh_10, (vp_updL vou (0 : Int32).toNatClampNeg (r_1.toInt64))))) (fun E_ => (if E_ = "java/lang/IndexOutOfBoundsException" then (some ((1 : Int32), vi, vj, vk, vc, va, vpa, vb, vpb, vh, vou)) else (if E_ = "java/lang/IllegalStateException" then (some ((2 : Int32), vi, vj, vk, vc, va, vpa, vb, vpb, vh, vou)) else none))))))
set_option maxHeartbeats 4000000 in
set_option maxRecDepth 100000 in
theorem kL_restore (l : Launch) (Γ : my_G) (hfl : l.stackTraces = false) (q_bf q_fl q_k q_c q_a q_pa q_b q_pb q_hi q_hs q_s1 q_flA q_kA q_cA q_aA q_paA q_bA q_pbA q_s2 q_flB q_kB q_cB q_aB q_paB q_bB q_pbB q_ou q_tx q_flT q_fd q_kc q_kr : Nat) (vi : Nat → Int32) (vj : Nat → Int64) (vk : Nat → Int32) (vc : Nat → Int32) (va : Nat → Int32) (vpa : Nat → Int32) (vb : Nat → Int32) (vpb : Nat → Int32) (vh : Nat → Int32) (vhs : Nat → Option Nat) (vs1 : Nat → Int32) (viA : Nat → Int32) (vjA : Nat → Int64) (vkA : Nat → Int32) (vcA : Nat → Int32) (vaA : Nat → Int32) (vpaA : Nat → Int32) (vbA : Nat → Int32) (vpbA : Nat → Int32) (vs2 : Nat → Int32) (viB : Nat → Int32) (vjB : Nat → Int64) (vkB : Nat → Int32) (vcB : Nat → Int32) (vaB : Nat → Int32) (vpaB : Nat → Int32) (vbB : Nat → Int32) (vpbB : Nat → Int32) (vou : Nat → Int64) (x1 : Int32) (rr : Int32) (vi_z : Nat → Int32) (vj_z : Nat → Int64) (vk_z : Nat → Int32) (vc_z : Nat → Int32) (va_z : Nat → Int32) (vpa_z : Nat → Int32) (vb_z : Nat → Int32) (vpb_z : Nat → Int32) (vh_z : Nat → Int32) (vou_z : Nat → Int64) (hm : mL_restore vi vj vk vc va vpa vb vpb vh vs1 viA vjA vkA vcA vaA vpaA vbA vpbA vs2 viB vjB vkB vcB vaB vpaB vbB vpbB vou x1 = (some (rr, vi_z, vj_z, vk_z, vc_z, va_z, vpa_z, vb_z, vpb_z, vh_z, vou_z))) : MnW l yL_restore wsL_restore ({ frames := 8, cells := 2, slots := 12, locals := 138 } : Room) Γ [.ref q_bf, .int x1, .ref q_ou] (wBF Γ q_bf q_tx q_fl q_flT q_hi q_s1 q_s2 q_fd q_kc q_kr  ++ wFloor Γ q_fl q_k q_c q_a q_pa q_b q_pb vi vj vk vc va vpa vb vpb ++ wHist Γ q_hi q_hs vh vhs ++ wSlot Γ q_s1 q_flA vs1 ++ wFloor Γ q_flA q_kA q_cA q_aA q_paA q_bA q_pbA viA vjA vkA vcA vaA vpaA vbA vpbA ++ wSlot Γ q_s2 q_flB vs2 ++ wFloor Γ q_flB q_kB q_cB q_aB q_paB q_bB q_pbB viB vjB vkB vcB vaB vpaB vbB vpbB ++ wOut Γ q_ou vou) (some (.int rr)) (wBF Γ q_bf q_tx q_fl q_flT q_hi q_s1 q_s2 q_fd q_kc q_kr  ++ wFloor Γ q_fl q_k q_c q_a q_pa q_b q_pb vi_z vj_z vk_z vc_z va_z vpa_z vb_z vpb_z ++ wHist Γ q_hi q_hs vh_z vhs ++ wSlot Γ q_s1 q_flA vs1 ++ wFloor Γ q_flA q_kA q_cA q_aA q_paA q_bA q_pbA viA vjA vkA vcA vaA vpaA vbA vpbA ++ wSlot Γ q_s2 q_flB vs2 ++ wFloor Γ q_flB q_kB q_cB q_aB q_paB q_bB q_pbB viB vjB vkB vcB vaB vpaB vbB vpbB ++ wOut Γ q_ou vou_z) 2 12 := by
  intro sz
  refine va_MetW (cc := cL_restore) (maxL := 4) (ret := (some .int)) (by decide) rfl ?_
  intro p e s m args below meth c s₁ B hml hv
  obtain ⟨rfl, ⟨hsz, hP, hK, hD0⟩, hZ, hstr, hnc⟩ := hv
  have htab := vx_table (x := yL_restore) (hh := [(0, 9, 12, 24), (0, 9, 15, 15)]) B (atoms_spec (ws := wsL_restore) B.pre _ List.mem_cons_self)
  have hx := B.exec
  have hb := B.bytes
  have hr := B.returns
  have hts := atoms_spec (ws := wsL_restore) B.pre
  have hown : s.vm.findClass RL = some m.cls := findClass_of_methodNamed B.named
  have hlocks := B.notSynchronized
  have hinX1 : ∀ w ∈ u_ws RX1 TX1 12, w ∈ wsL_restore := fun w h => List.mem_cons_of_mem _ (List.mem_append_left _ (List.mem_append_left _ (List.mem_append_left _ (List.mem_append_right _ h))))
  have hinX3 : ∀ w ∈ u_ws RX3 TX3 3, w ∈ wsL_restore := fun w h => List.mem_cons_of_mem _ (List.mem_append_left _ (List.mem_append_left _ (List.mem_append_left _ (List.mem_append_left _ (List.mem_append_right _ h)))))
  have hinX4 : ∀ w ∈ u_ws RX4 TX4 10, w ∈ wsL_restore := fun w h => List.mem_cons_of_mem _ (List.mem_append_left _ (List.mem_append_left _ (List.mem_append_right _ h)))
  have hinX5 : ∀ w ∈ u_ws RX5 TX5 2, w ∈ wsL_restore := fun w h => List.mem_cons_of_mem _ (List.mem_append_left _ (List.mem_append_left _ (List.mem_append_left _ (List.mem_append_left _ (List.mem_append_left _ (List.mem_append_left _ (List.mem_append_right _ h)))))))
  have hinX8 : ∀ w ∈ u_ws RX8 TX8 9, w ∈ wsL_restore := fun w h => List.mem_cons_of_mem _ (List.mem_append_left _ (List.mem_append_left _ (List.mem_append_left _ (List.mem_append_left _ (List.mem_append_left _ (List.mem_append_right _ h))))))
  subst hsz
  have hD := hD0.self (sz := s.heap.size)
  have hA : ∀ q : Nat, s.heap.size ≤ q → va_A (wBF Γ q_bf q_tx q_fl q_flT q_hi q_s1 q_s2 q_fd q_kc q_kr  ++ wFloor Γ q_fl q_k q_c q_a q_pa q_b q_pb vi vj vk vc va vpa vb vpb ++ wHist Γ q_hi q_hs vh vhs ++ wSlot Γ q_s1 q_flA vs1 ++ wFloor Γ q_flA q_kA q_cA q_aA q_paA q_bA q_pbA viA vjA vkA vcA vaA vpaA vbA vpbA ++ wSlot Γ q_s2 q_flB vs2 ++ wFloor Γ q_flB q_kB q_cB q_aB q_paB q_bB q_pbB viB vjB vkB vcB vaB vpaB vbB vpbB ++ wOut Γ q_ou vou) s.heap.size q := fun q h => Or.inr h
  generalize va_A (wBF Γ q_bf q_tx q_fl q_flT q_hi q_s1 q_s2 q_fd q_kc q_kr  ++ wFloor Γ q_fl q_k q_c q_a q_pa q_b q_pb vi vj vk vc va vpa vb vpb ++ wHist Γ q_hi q_hs vh vhs ++ wSlot Γ q_s1 q_flA vs1 ++ wFloor Γ q_flA q_kA q_cA q_aA q_paA q_bA q_pbA viA vjA vkA vcA vaA vpaA vbA vpbA ++ wSlot Γ q_s2 q_flB vs2 ++ wFloor Γ q_flB q_kB q_cB q_aB q_paB q_bB q_pbB viB vjB vkB vcB vaB vpaB vbB vpbB ++ wOut Γ q_ou vou) s.heap.size = A at hD hA hZ ⊢
  have hS : va_S A s.heap s.heap [] := va_S.rf
  have hl := lv_entry ([.ref q_bf, .int x1, .ref q_ou]) (n := 4) (Nat.le_of_ble_eq_true rfl)
  rw [lg_entry_eq]
  generalize (lg_sl ([.ref q_bf, .int x1, .ref q_ou]) ++ List.replicate (4 - (lg_sl ([.ref q_bf, .int x1, .ref q_ou])).length) Slot.unset).toArray = ls at hl ⊢
  replace hl : lv_has ls 4 [(0, .ref q_bf), (1, .int x1), (2, .ref q_ou)] := hl
  unfold mL_restore at hm
  refine lv_aload_n hx hb dL_restore_0 rfl (lv_at hl 2 rfl) ?_
  refine lv_iconst (v := (0 : Int32)) hx hb dL_restore_1 (by decide) ?_
  refine lv_aload_n hx hb dL_restore_2 rfl (lv_at hl 0 rfl) ?_
  refine lv_iload_n hx hb dL_restore_3 rfl (lv_at hl 1 rfl) ?_
  obtain ⟨mr_, hc0_, hm⟩ := bo1_s hm
  refine my_callPX (wc := (wBF Γ q_bf q_tx q_fl q_flT q_hi q_s1 q_s2 q_fd q_kc q_kr  ++ wFloor Γ q_fl q_k q_c q_a q_pa q_b q_pb vi vj vk vc va vpa vb vpb ++ wHist Γ q_hi q_hs vh vhs ++ wSlot Γ q_s1 q_flA vs1 ++ wFloor Γ q_flA q_kA q_cA q_aA q_paA q_bA q_pbA viA vjA vkA vcA vaA vpaA vbA vpbA ++ wSlot Γ q_s2 q_flB vs2 ++ wFloor Γ q_flB q_kB q_cB q_aB q_paB q_bB q_pbB viB vjB vkB vcB vaB vpaB vbB vpbB)) hP hD hS hA [0, 1, 2, 3, 4, 5, 6, 7, 8, 9, 10, 11, 12, 13, 14, 15, 16, 17, 18, 19, 20, 21, 22, 23, 24, 25] rfl rfl (fun res w1 h9 => my_had2 h9 (fun q => rfl)) (vx_runV (As := [.int x1]) (rest := [.int (0 : Int32), .ref q_ou]) ⟨hx, hb, hml, hown, hts⟩ (kX8_restore l Γ hfl q_bf q_fl q_k q_c q_a q_pa q_b q_pb q_hi q_hs q_s1 q_flA q_kA q_cA q_aA q_paA q_bA q_pbA q_s2 q_flB q_kB q_cB q_aB q_paB q_bB q_pbB q_tx q_flT q_fd q_kc q_kr vi vj vk vc va vpa vb vpb vh vhs vs1 viA vjA vkA vcA vaA vpaA vbA vpbA vs2 viB vjB vkB vcB vaB vpaB vbB vpbB x1 mr_ hc0_ _) (cwV 1 hts gL_restore_X8_restore rfl rfl rfl (by decide +kernel) ⟨Nat.le_of_ble_eq_true rfl, Nat.le_of_ble_eq_true rfl⟩) (my_preVX (wc := (wBF Γ q_bf q_tx q_fl q_flT q_hi q_s1 q_s2 q_fd q_kc q_kr  ++ wFloor Γ q_fl q_k q_c q_a q_pa q_b q_pb vi vj vk vc va vpa vb vpb ++ wHist Γ q_hi q_hs vh vhs ++ wSlot Γ q_s1 q_flA vs1 ++ wFloor Γ q_flA q_kA q_cA q_aA q_paA q_bA q_pbA viA vjA vkA vcA vaA vpaA vbA vpbA ++ wSlot Γ q_s2 q_flB vs2 ++ wFloor Γ q_flB q_kB q_cB q_aB q_paB q_bB q_pbB viB vjB vkB vcB vaB vpaB vbB vpbB)) (ci := 6) (q0 := 0) [0, 1, 2, 3, 4, 5, 6, 7, 8, 9, 10, 11, 12, 13, 14, 15, 16, 17, 18, 19, 20, 21, 22, 23, 24, 25] hK hP hD hS hA hZ hstr rfl rfl rfl rfl) rfl rfl hl.1 rfl (lv_room (Nat.le_of_ble_eq_true rfl)) dL_restore_4 ⟨Nat.le_of_ble_eq_true rfl, Nat.le_of_ble_eq_true rfl⟩) (fun E_ H locs q9 ce hro hP hS h1_ h2_ h3_ => ?_) (fun res_ w1_ H locs hro hP hD hS => ?_)
  · rcases bh10_s hm with ⟨r_1, vi_2, vj_3, vk_4, vc_5, va_6, vpa_7, vb_8, vpb_9, vh_10, hc_, hm⟩ | ⟨E2_, hc_, hm⟩
    · rw [hc_] at hro; exact (my_map_lr hro).elim
    · rw [hc_] at hro
      have hE_ := my_map_rr hro
      subst hE_
      by_cases ck_11 : E2_ = "java/lang/IndexOutOfBoundsException"
      · replace hm := if_s hm ck_11
        subst ck_11
        refine vx_catch (name := "java/lang/IndexOutOfBoundsException") hown [] ⟨0, 9, 12, 24⟩ [⟨0, 9, 15, 15⟩] (htab.trans rfl) (fun z hz => nomatch hz) rfl (by decide) (hts (.classLink RL 24 "java/lang/IndexOutOfBoundsException") (List.mem_of_getElem? (i := 1) rfl)) (va_Nw.use rfl hstr.2.1) h1_ h2_ h3_ ?_
        refine lv_astore_n (lv' := [(3, .ref q9), (0, .ref q_bf), (1, .int x1), (2, .ref q_ou)]) hx hb dL_restore_12 rfl hl (by decide) rfl (fun ls hl => ?_)
        refine lv_iconst (v := (1 : Int32)) hx hb dL_restore_13 (by decide) ?_
        obtain ⟨hf0, hf1, hf2, hf3, hf4, hf5, hf6, hf7, hf8, hf9, hf10⟩ := si11 hm
        subst hf0
        subst hf1
        subst hf2
        subst hf3
        subst hf4
        subst hf5
        subst hf6
        subst hf7
        subst hf8
        subst hf9
        subst hf10
        exact W.widen (k := 2) (n := 12) (Nat.le_of_ble_eq_true rfl) (Nat.le_of_ble_eq_true rfl) (W.iret (v := (1 : Int32)) hx hb hr (fun t ht hW => ⟨⟨rfl, by rw [ht]; exact hP⟩, hS.F ht⟩) hS.2.2 dL_restore_14)
      · replace hm := if_f hm ck_11
        by_cases ck_12 : E2_ = "java/lang/IllegalStateException"
        · replace hm := if_s hm ck_12
          subst ck_12
          refine vx_catch (name := "java/lang/IllegalStateException") hown [⟨0, 9, 12, 24⟩] ⟨0, 9, 15, 15⟩ [] (htab.trans rfl) (List.forall_mem_cons.mpr ⟨Or.inr ⟨by decide, "java/lang/IndexOutOfBoundsException", (hts (.classLink RL 24 "java/lang/IndexOutOfBoundsException") (List.mem_of_getElem? (i := 1) rfl)), hnc ("java/lang/IllegalStateException", "java/lang/IndexOutOfBoundsException") (by decide)⟩, (fun z hz => nomatch hz)⟩) rfl (by decide) (hts (.classLink RL 15 "java/lang/IllegalStateException") (List.mem_of_getElem? (i := 2) rfl)) (va_Nw.use rfl hstr.2.2.2.1) h1_ h2_ h3_ ?_
          refine lv_astore_n (lv' := [(3, .ref q9), (0, .ref q_bf), (1, .int x1), (2, .ref q_ou)]) hx hb dL_restore_15 rfl hl (by decide) rfl (fun ls hl => ?_)
          refine lv_iconst (v := (2 : Int32)) hx hb dL_restore_16 (by decide) ?_
          obtain ⟨hf0, hf1, hf2, hf3, hf4, hf5, hf6, hf7, hf8, hf9, hf10⟩ := si11 hm
          subst hf0
          subst hf1
          subst hf2
          subst hf3
          subst hf4
          subst hf5
          subst hf6
          subst hf7
          subst hf8
          subst hf9
          subst hf10
          exact W.widen (k := 2) (n := 12) (Nat.le_of_ble_eq_true rfl) (Nat.le_of_ble_eq_true rfl) (W.iret (v := (2 : Int32)) hx hb hr (fun t ht hW => ⟨⟨rfl, by rw [ht]; exact hP⟩, hS.F ht⟩) hS.2.2 dL_restore_17)
        · replace hm := if_f hm ck_12
          cases hm
  rcases bh10_s hm with ⟨r_1, vi_2, vj_3, vk_4, vc_5, va_6, vpa_7, vb_8, vpb_9, vh_10, hc_, hm⟩ | ⟨E2_, hc_, hm⟩
  rotate_left
  · rw [hc_] at hro; exact (my_map_rl hro).elim
  rw [hc_] at hro
  obtain ⟨rfl, rfl⟩ := my_map_ll hro
  replace hP : va_P (my_D Γ) vwCl (wBF Γ q_bf q_tx q_fl q_flT q_hi q_s1 q_s2 q_fd q_kc q_kr  ++ wFloor Γ q_fl q_k q_c q_a q_pa q_b q_pb vi_2 vj_3 vk_4 vc_5 va_6 vpa_7 vb_8 vpb_9 ++ wHist Γ q_hi q_hs vh_10 vhs ++ wSlot Γ q_s1 q_flA vs1 ++ wFloor Γ q_flA q_kA q_cA q_aA q_paA q_bA q_pbA viA vjA vkA vcA vaA vpaA vbA vpbA ++ wSlot Γ q_s2 q_flB vs2 ++ wFloor Γ q_flB q_kB q_cB q_aB q_paB q_bB q_pbB viB vjB vkB vcB vaB vpaB vbB vpbB ++ wOut Γ q_ou vou) H := hP
  replace hD : va_D A (wBF Γ q_bf q_tx q_fl q_flT q_hi q_s1 q_s2 q_fd q_kc q_kr  ++ wFloor Γ q_fl q_k q_c q_a q_pa q_b q_pb vi_2 vj_3 vk_4 vc_5 va_6 vpa_7 vb_8 vpb_9 ++ wHist Γ q_hi q_hs vh_10 vhs ++ wSlot Γ q_s1 q_flA vs1 ++ wFloor Γ q_flA q_kA q_cA q_aA q_paA q_bA q_pbA viA vjA vkA vcA vaA vpaA vbA vpbA ++ wSlot Γ q_s2 q_flB vs2 ++ wFloor Γ q_flB q_kB q_cB q_aB q_paB q_bB q_pbB viB vjB vkB vcB vaB vpaB vbB vpbB ++ wOut Γ q_ou vou) := hD
  refine lv_i2l (v := r_1.toInt64) hx hb dL_restore_7 rfl ?_
  refine lv_topl (fun y_13 ey_13 => ?_)
  refine va_last hx hb hK hP hD hS 26 1 rfl rfl (show vp_in (0 : Int32) 1 from (by decide : ¬ ((0 : Int32) < 0 ∨ 1 ≤ (0 : Int32).toNatClampNeg))) dL_restore_8 (fun H locs hP hD hS => ?_)
  replace hP : va_P (my_D Γ) vwCl (wBF Γ q_bf q_tx q_fl q_flT q_hi q_s1 q_s2 q_fd q_kc q_kr  ++ wFloor Γ q_fl q_k q_c q_a q_pa q_b q_pb vi_2 vj_3 vk_4 vc_5 va_6 vpa_7 vb_8 vpb_9 ++ wHist Γ q_hi q_hs vh_10 vhs ++ wSlot Γ q_s1 q_flA vs1 ++ wFloor Γ q_flA q_kA q_cA q_aA q_paA q_bA q_pbA viA vjA vkA vcA vaA vpaA vbA vpbA ++ wSlot Γ q_s2 q_flB vs2 ++ wFloor Γ q_flB q_kB q_cB q_aB q_paB q_bB q_pbB viB vjB vkB vcB vaB vpaB vbB vpbB ++ wOut Γ q_ou (vp_updL vou (0 : Int32).toNatClampNeg y_13)) H := hP
  replace hD : va_D A (wBF Γ q_bf q_tx q_fl q_flT q_hi q_s1 q_s2 q_fd q_kc q_kr  ++ wFloor Γ q_fl q_k q_c q_a q_pa q_b q_pb vi_2 vj_3 vk_4 vc_5 va_6 vpa_7 vb_8 vpb_9 ++ wHist Γ q_hi q_hs vh_10 vhs ++ wSlot Γ q_s1 q_flA vs1 ++ wFloor Γ q_flA q_kA q_cA q_aA q_paA q_bA q_pbA viA vjA vkA vcA vaA vpaA vbA vpbA ++ wSlot Γ q_s2 q_flB vs2 ++ wFloor Γ q_flB q_kB q_cB q_aB q_paB q_bB q_pbB viB vjB vkB vcB vaB vpaB vbB vpbB ++ wOut Γ q_ou (vp_updL vou (0 : Int32).toNatClampNeg y_13)) := hD
  subst ey_13
  refine lv_goto (tgt := 18) hx hb dL_restore_9 (by decide) ?_
  refine lv_iconst (v := (0 : Int32)) hx hb dL_restore_18 (by decide) ?_
  obtain ⟨hf0, hf1, hf2, hf3, hf4, hf5, hf6, hf7, hf8, hf9, hf10⟩ := si11 hm
  subst hf0
  subst hf1
  subst hf2
  subst hf3
  subst hf4
  subst hf5
  subst hf6
  subst hf7
  subst hf8
  subst hf9
  subst hf10
  exact W.widen (k := 2) (n := 12) (Nat.le_of_ble_eq_true rfl) (Nat.le_of_ble_eq_true rfl) (W.iret (v := (0 : Int32)) hx hb hr (fun t ht hW => ⟨⟨rfl, by rw [ht]; exact hP⟩, hS.F ht⟩) hS.2.2 dL_restore_19)
