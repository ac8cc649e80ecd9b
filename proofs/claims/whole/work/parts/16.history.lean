def mX3_stateAt (vhs : Nat → Option Nat) (x0 : Int32) : (Option Nat) := (if x0 < 0 then (none : Option Nat) else (if (14 : Int32) ≤ x0 then (none : Option Nat) else (vhs x0.toNatClampNeg)))
set_option maxHeartbeats 4000000 in
set_option maxRecDepth 100000 in
theorem kX3_stateAt (l : Launch) (Γ : my_G) (q_hi q_hs : Nat) (vh : Nat → Int32) (vhs : Nat → Option Nat) (x0 : Int32) (rr : Option Nat) (hm : mX3_stateAt vhs x0 = rr) : Mn l yX3_stateAt wsX3_stateAt ({ frames := 0, cells := 0, slots := 0, locals := 0 } : Room) Γ [.ref q_hi, .int x0] (wHist Γ q_hi q_hs vh vhs) (some (va_rf rr)) (wHist Γ q_hi q_hs vh vhs) := by
  intro sz
  refine Met.ofW (cc := cX3_stateAt) (maxL := 2) (ret := (some (.object "BeltFloor$Floor"))) (by decide) rfl ?_
  intro p e s m args below meth c s₁ B hml hv
  obtain ⟨rfl, hsz, hP, hK, hD0⟩ := hv
  have hx := B.exec
  have hb := B.bytes
  have hr := B.returns
  have hts := atoms_spec (ws := wsX3_stateAt) B.pre
  have hown : s.vm.findClass RX3 = some m.cls := findClass_of_methodNamed B.named
  have hlocks := B.notSynchronized
  have hinX3 : ∀ w ∈ u_ws RX3 TX3 3, w ∈ wsX3_stateAt := fun w h => List.mem_cons_of_mem _ (List.mem_append_right _ h)
  subst hsz
  have hD := hD0.self (sz := s.heap.size)
  have hA : ∀ q : Nat, s.heap.size ≤ q → va_A (wHist Γ q_hi q_hs vh vhs) s.heap.size q := fun q h => Or.inr h
  generalize va_A (wHist Γ q_hi q_hs vh vhs) s.heap.size = A at hD hA ⊢
  have hS : va_S A s.heap s.heap [] := va_S.rf
  have hl := lv_entry ([.ref q_hi, .int x0]) (n := 2) (Nat.le_of_ble_eq_true rfl)
  rw [lg_entry_eq]
  generalize (lg_sl ([.ref q_hi, .int x0]) ++ List.replicate (2 - (lg_sl ([.ref q_hi, .int x0])).length) Slot.unset).toArray = ls at hl ⊢
  replace hl : lv_has ls 2 [(0, .ref q_hi), (1, .int x0)] := hl
  unfold mX3_stateAt at hm
  refine lv_iload_n hx hb dX3_stateAt_0 rfl (lv_at hl 1 rfl) ?_
  refine lv_if_lt (tgt := 22) hx hb dX3_stateAt_1 (by decide) (fun c_1 => ?_) (fun c_1 => ?_)
  · replace hm := if_s hm c_1
    refine lv_null hx hb dX3_stateAt_22 ?_
    have hf0 := hm
    subst hf0
    exact W.aret (v := va_rf (none : Option Nat)) hx hb hr (Or.inl ⟨_, rfl⟩) (my_rf _) (fun t ht hW => ⟨⟨rfl, by rw [ht]; exact hP⟩, hS.F ht⟩) hS.2.2 dX3_stateAt_23
  · replace hm := if_f hm c_1
    refine lv_iload_n hx hb dX3_stateAt_4 rfl (lv_at hl 1 rfl) ?_
    refine lv_aload_n hx hb dX3_stateAt_5 rfl (lv_at hl 0 rfl) ?_
    refine va_get (D := my_D Γ) (ci := 2) (v := .ref q_hs) (C := RX3) (T := TX3) (N := 3) hx hb hts hinX3 hown hK hP 0 rfl rfl 0 (by decide) (hts (.fieldLink RX3 11 "BeltFloor$History" "states" "[LBeltFloor$Floor;") (List.mem_of_getElem? (i := 1) rfl)) (fun _ h9 => h9) rfl dX3_stateAt_6 ?_
    refine va_alen hx hb hK hP 1 4 rfl rfl (v := (14 : Int32)) rfl dX3_stateAt_9 ?_
    refine lv_icmp_ge (tgt := 22) hx hb dX3_stateAt_10 (by decide) (fun c_2 => ?_) (fun c_2 => ?_)
    · replace hm := if_s hm c_2
      refine lv_null hx hb dX3_stateAt_22 ?_
      have hf0 := hm
      subst hf0
      exact W.aret (v := va_rf (none : Option Nat)) hx hb hr (Or.inl ⟨_, rfl⟩) (my_rf _) (fun t ht hW => ⟨⟨rfl, by rw [ht]; exact hP⟩, hS.F ht⟩) hS.2.2 dX3_stateAt_23
    · replace hm := if_f hm c_2
      refine lv_aload_n hx hb dX3_stateAt_13 rfl (lv_at hl 0 rfl) ?_
      refine va_get (D := my_D Γ) (ci := 2) (v := .ref q_hs) (C := RX3) (T := TX3) (N := 3) hx hb hts hinX3 hown hK hP 0 rfl rfl 0 (by decide) (hts (.fieldLink RX3 11 "BeltFloor$History" "states" "[LBeltFloor$Floor;") (List.mem_of_getElem? (i := 1) rfl)) (fun _ h9 => h9) rfl dX3_stateAt_14 ?_
      refine lv_iload_n hx hb dX3_stateAt_17 rfl (lv_at hl 1 rfl) ?_
      refine va_aldq hx hb hK hP 1 4 rfl rfl (my_inN c_1 c_2 rfl) dX3_stateAt_18 ?_
      refine lv_goto (tgt := 23) hx hb dX3_stateAt_19 (by decide) ?_
      have hf0 := hm
      subst hf0
      exact W.aret (v := va_rf (vhs x0.toNatClampNeg)) hx hb hr (Or.inl ⟨_, rfl⟩) (my_rf _) (fun t ht hW => ⟨⟨rfl, by rw [ht]; exact hP⟩, hS.F ht⟩) hS.2.2 dX3_stateAt_23
def mX3_remember_J44  (vh : Nat → Int32) (vhs : Nat → Option Nat) (vi : Nat → Int32) (vj : Nat → Int64) (vk : Nat → Int32) (vc : Nat → Int32) (va : Nat → Int32) (vpa : Nat → Int32) (vb : Nat → Int32) (vpb : Nat → Int32) (vi2 : Nat → Int32) (vj2 : Nat → Int64) (vk2 : Nat → Int32) (vc2 : Nat → Int32) (va2 : Nat → Int32) (vpa2 : Nat → Int32) (vb2 : Nat → Int32) (vpb2 : Nat → Int32) (q_fl2 : Nat) (s1 : Int32) : Option ((Nat → Int32) × (Nat → Int32) × (Nat → Int64) × (Nat → Int32) × (Nat → Int32) × (Nat → Int32) × (Nat → Int32) × (Nat → Int32) × (Nat → Int32)) := (some ((upd (upd vh 1 s1) 2 (jmin ((vh 2) + (1 : Int32)) (14 : Int32))), vi2, vj2, vk2, vc2, va2, vpa2, vb2, vpb2))
def mX3_remember (vh : Nat → Int32) (vhs : Nat → Option Nat) (vi : Nat → Int32) (vj : Nat → Int64) (vk : Nat → Int32) (vc : Nat → Int32) (va : Nat → Int32) (vpa : Nat → Int32) (vb : Nat → Int32) (vpb : Nat → Int32) (vi2 : Nat → Int32) (vj2 : Nat → Int64) (vk2 : Nat → Int32) (vc2 : Nat → Int32) (va2 : Nat → Int32) (vpa2 : Nat → Int32) (vb2 : Nat → Int32) (vpb2 : Nat → Int32) (q_fl2 : Nat) : Option ((Nat → Int32) × (Nat → Int32) × (Nat → Int64) × (Nat → Int32) × (Nat → Int32) × (Nat → Int32) × (Nat → Int32) × (Nat → Int32) × (Nat → Int32)) := (if (mX3_stateAt vhs (vh 1)) = some q_fl2 then (bo8 (mX1_copyFrom vi2 vj2 vk2 vc2 va2 vpa2 vb2 vpb2 vi vj vk vc va vpa vb vpb) (fun vi2_2 vj2_3 vk2_4 vc2_5 va2_6 vpa2_7 vb2_8 vpb2_9 => (if (14 : Int32) ≤ ((vh 1) + (1 : Int32)) then (mX3_remember_J44 vh vhs vi vj vk vc va vpa vb vpb vi2_2 vj2_3 vk2_4 vc2_5 va2_6 vpa2_7 vb2_8 vpb2_9 q_fl2 (0 : Int32)) else (mX3_remember_J44 vh vhs vi vj vk vc va vpa vb vpb vi2_2 vj2_3 vk2_4 vc2_5 va2_6 vpa2_7 vb2_8 vpb2_9 q_fl2 ((vh 1) + (1 : Int32)))))) else none)
set_option maxHeartbeats 4000000 in
set_option maxRecDepth 100000 in
theorem kX3_remember (l : Launch) (Γ : my_G) (q_hi q_hs q_fl q_k q_c q_a q_pa q_b q_pb q_fl2 q_k2 q_c2 q_a2 q_pa2 q_b2 q_pb2 : Nat) (vh : Nat → Int32) (vhs : Nat → Option Nat) (vi : Nat → Int32) (vj : Nat → Int64) (vk : Nat → Int32) (vc : Nat → Int32) (va : Nat → Int32) (vpa : Nat → Int32) (vb : Nat → Int32) (vpb : Nat → Int32) (vi2 : Nat → Int32) (vj2 : Nat → Int64) (vk2 : Nat → Int32) (vc2 : Nat → Int32) (va2 : Nat → Int32) (vpa2 : Nat → Int32) (vb2 : Nat → Int32) (vpb2 : Nat → Int32)  (vh_z : Nat → Int32) (vi2_z : Nat → Int32) (vj2_z : Nat → Int64) (vk2_z : Nat → Int32) (vc2_z : Nat → Int32) (va2_z : Nat → Int32) (vpa2_z : Nat → Int32) (vb2_z : Nat → Int32) (vpb2_z : Nat → Int32) (hm : mX3_remember vh vhs vi vj vk vc va vpa vb vpb vi2 vj2 vk2 vc2 va2 vpa2 vb2 vpb2 q_fl2 = (some (vh_z, vi2_z, vj2_z, vk2_z, vc2_z, va2_z, vpa2_z, vb2_z, vpb2_z))) : Mn l yX3_remember wsX3_remember ({ frames := 2, cells := 0, slots := 0, locals := 44 } : Room) Γ [.ref q_hi, .ref q_fl] (wHist Γ q_hi q_hs vh vhs ++ wFloor Γ q_fl q_k q_c q_a q_pa q_b q_pb vi vj vk vc va vpa vb vpb ++ wFloor Γ q_fl2 q_k2 q_c2 q_a2 q_pa2 q_b2 q_pb2 vi2 vj2 vk2 vc2 va2 vpa2 vb2 vpb2) none (wHist Γ q_hi q_hs vh_z vhs ++ wFloor Γ q_fl q_k q_c q_a q_pa q_b q_pb vi vj vk vc va vpa vb vpb ++ wFloor Γ q_fl2 q_k2 q_c2 q_a2 q_pa2 q_b2 q_pb2 vi2_z vj2_z vk2_z vc2_z va2_z vpa2_z vb2_z vpb2_z) := by
  intro sz
  refine Met.ofW (cc := cX3_remember) (maxL := 3) (ret := none) (by decide) rfl ?_
  intro p e s m args below meth c s₁ B hml hv
  obtain ⟨rfl, hsz, hP, hK, hD0⟩ := hv
  have hx := B.exec
  have hb := B.bytes
  have hr := B.returns
  have hts := atoms_spec (ws := wsX3_remember) B.pre
  have hown : s.vm.findClass RX3 = some m.cls := findClass_of_methodNamed B.named
  have hlocks := B.notSynchronized
  have hinX1 : ∀ w ∈ u_ws RX1 TX1 12, w ∈ wsX3_remember := fun w h => List.mem_cons_of_mem _ (List.mem_append_left _ (List.mem_append_right _ h))
  have hinX3 : ∀ w ∈ u_ws RX3 TX3 3, w ∈ wsX3_remember := fun w h => List.mem_cons_of_mem _ (List.mem_append_left _ (List.mem_append_left _ (List.mem_append_right _ h)))
  have hinX4 : ∀ w ∈ u_ws RX4 TX4 10, w ∈ wsX3_remember := fun w h => List.mem_cons_of_mem _ (List.mem_append_right _ h)
  subst hsz
  have hD := hD0.self (sz := s.heap.size)
  have hA : ∀ q : Nat, s.heap.size ≤ q → va_A (wHist Γ q_hi q_hs vh vhs ++ wFloor Γ q_fl q_k q_c q_a q_pa q_b q_pb vi vj vk vc va vpa vb vpb ++ wFloor Γ q_fl2 q_k2 q_c2 q_a2 q_pa2 q_b2 q_pb2 vi2 vj2 vk2 vc2 va2 vpa2 vb2 vpb2) s.heap.size q := fun q h => Or.inr h
  generalize va_A (wHist Γ q_hi q_hs vh vhs ++ wFloor Γ q_fl q_k q_c q_a q_pa q_b q_pb vi vj vk vc va vpa vb vpb ++ wFloor Γ q_fl2 q_k2 q_c2 q_a2 q_pa2 q_b2 q_pb2 vi2 vj2 vk2 vc2 va2 vpa2 vb2 vpb2) s.heap.size = A at hD hA ⊢
  have hS : va_S A s.heap s.heap [] := va_S.rf
  have hl := lv_entry ([.ref q_hi, .ref q_fl]) (n := 3) (Nat.le_of_ble_eq_true rfl)
  rw [lg_entry_eq]
  generalize (lg_sl ([.ref q_hi, .ref q_fl]) ++ List.replicate (3 - (lg_sl ([.ref q_hi, .ref q_fl])).length) Slot.unset).toArray = ls at hl ⊢
  replace hl : lv_has ls 3 [(0, .ref q_hi), (1, .ref q_fl)] := hl
  have J_44 : ∀ (vh : Nat → Int32) (vhs : Nat → Option Nat) (vi : Nat → Int32) (vj : Nat → Int64) (vk : Nat → Int32) (vc : Nat → Int32) (va : Nat → Int32) (vpa : Nat → Int32) (vb : Nat → Int32) (vpb : Nat → Int32) (vi2 : Nat → Int32) (vj2 : Nat → Int64) (vk2 : Nat → Int32) (vc2 : Nat → Int32) (va2 : Nat → Int32) (vpa2 : Nat → Int32) (vb2 : Nat → Int32) (vpb2 : Nat → Int32) (q_fl2 : Nat) (s1 : Int32) (H : Heap) (locs : List Loc) (ls : Array Slot), va_P (my_D Γ) vwCl (wHist Γ q_hi q_hs vh vhs ++ wFloor Γ q_fl q_k q_c q_a q_pa q_b q_pb vi vj vk vc va vpa vb vpb ++ wFloor Γ q_fl2 q_k2 q_c2 q_a2 q_pa2 q_b2 q_pb2 vi2 vj2 vk2 vc2 va2 vpa2 vb2 vpb2) H → va_D A (wHist Γ q_hi q_hs vh vhs ++ wFloor Γ q_fl q_k q_c q_a q_pa q_b q_pb vi vj vk vc va vpa vb vpb ++ wFloor Γ q_fl2 q_k2 q_c2 q_a2 q_pa2 q_b2 q_pb2 vi2 vj2 vk2 vc2 va2 vpa2 vb2 vpb2) → va_S A s.heap H locs → lv_has ls 3 [(0, .ref q_hi)] → mX3_remember_J44 vh vhs vi vj vk vc va vpa vb vpb vi2 vj2 vk2 vc2 va2 vpa2 vb2 vpb2 q_fl2 s1 = (some (vh_z, vi2_z, vj2_z, vk2_z, vc2_z, va2_z, vpa2_z, vb2_z, vpb2_z)) → W p l e (headSpec wsX3_remember ({ frames := 2, cells := 0, slots := 0, locals := 44 } : Room)).room s m ([.ref q_hi, .ref q_fl] : List Value).toArray below meth c H locs 0 0 (MQ below (my_Q Γ A none (wHist Γ q_hi q_hs vh_z vhs ++ wFloor Γ q_fl q_k q_c q_a q_pa q_b q_pb vi vj vk vc va vpa vb vpb ++ wFloor Γ q_fl2 q_k2 q_c2 q_a2 q_pa2 q_b2 q_pb2 vi2_z vj2_z vk2_z vc2_z va2_z vpa2_z vb2_z vpb2_z)) ([.ref q_hi, .ref q_fl] : List Value).toArray s 0 0 A) (F0 m 44 ls [.int s1, .ref q_hi]) := by
    intro  vh vhs vi vj vk vc va vpa vb vpb vi2 vj2 vk2 vc2 va2 vpa2 vb2 vpb2 q_fl2 s1 H locs ls hP hD hS hl hm
    unfold mX3_remember_J44 at hm
    refine va_put (D := my_D Γ) (ci := 2) (v := .int s1) (ty := .int) (C := RX3) (T := TX3) (N := 3) hx hb hts hinX3 tyX3 tyX3_ok nmX3 hown hK hP hD hS 0 rfl rfl 1 (by decide) (hts (.fieldLink RX3 18 "BeltFloor$History" "next" "I") (List.mem_of_getElem? (i := 1) rfl)) (fun _ h9 => h9) rfl (by decide +kernel) rfl rfl (Nat.le_of_ble_eq_true rfl) dX3_remember_44 (fun H locs hP hD hS => ?_)
    replace hP : va_P (my_D Γ) vwCl (wHist Γ q_hi q_hs (upd vh 1 s1) vhs ++ wFloor Γ q_fl q_k q_c q_a q_pa q_b q_pb vi vj vk vc va vpa vb vpb ++ wFloor Γ q_fl2 q_k2 q_c2 q_a2 q_pa2 q_b2 q_pb2 vi2 vj2 vk2 vc2 va2 vpa2 vb2 vpb2) H := hP
    replace hD : va_D A (wHist Γ q_hi q_hs (upd vh 1 s1) vhs ++ wFloor Γ q_fl q_k q_c q_a q_pa q_b q_pb vi vj vk vc va vpa vb vpb ++ wFloor Γ q_fl2 q_k2 q_c2 q_a2 q_pa2 q_b2 q_pb2 vi2 vj2 vk2 vc2 va2 vpa2 vb2 vpb2) := hD
    refine lv_aload_n hx hb dX3_remember_47 rfl (lv_at hl 0 rfl) ?_
    refine lv_aload_n hx hb dX3_remember_48 rfl (lv_at hl 0 rfl) ?_
    refine va_get (D := my_D Γ) (ci := 2) (v := .int (vh 2)) (C := RX3) (T := TX3) (N := 3) hx hb hts hinX3 hown hK hP 0 rfl rfl 2 (by decide) (hts (.fieldLink RX3 30 "BeltFloor$History" "count" "I") (List.mem_of_getElem? (i := 3) rfl)) (fun _ h9 => h9) rfl dX3_remember_49 ?_
    refine lv_iconst (v := (1 : Int32)) hx hb dX3_remember_52 (by decide) ?_
    refine lv_iadd hx hb dX3_remember_53 ?_
    refine lv_aload_n hx hb dX3_remember_54 rfl (lv_at hl 0 rfl) ?_
    refine va_get (D := my_D Γ) (ci := 2) (v := .ref q_hs) (C := RX3) (T := TX3) (N := 3) hx hb hts hinX3 hown hK hP 0 rfl rfl 0 (by decide) (hts (.fieldLink RX3 11 "BeltFloor$History" "states" "[LBeltFloor$Floor;") (List.mem_of_getElem? (i := 2) rfl)) (fun _ h9 => h9) rfl dX3_remember_55 ?_
    refine va_alen hx hb hK hP 1 4 rfl rfl (v := (14 : Int32)) rfl dX3_remember_58 ?_
    refine my_mmin hx hb (hml.trans hl.1.symm) hown (hts (.methodLink RX3 33 Lib.Math.min.name) (List.mem_of_getElem? (i := 4) rfl)) (hts (.static Lib.Math.min.name) (List.mem_of_getElem? (i := 5) rfl)) (hts (.initialized "java/lang/Math") (List.mem_of_getElem? (i := 6) rfl)) (hts (.code Lib.Math.min.name Lib.Math.min.code 2 (some .int)) (List.mem_of_getElem? (i := 7) rfl)) (Nat.le_of_ble_eq_true rfl) (Nat.le_of_ble_eq_true rfl) (Nat.le_of_ble_eq_true rfl) (Nat.le_of_ble_eq_true rfl) dX3_remember_59 ?_
    refine lv_topi (fun y_12 ey_12 => ?_)
    refine va_put (D := my_D Γ) (ci := 2) (v := .int y_12) (ty := .int) (C := RX3) (T := TX3) (N := 3) hx hb hts hinX3 tyX3 tyX3_ok nmX3 hown hK hP hD hS 0 rfl rfl 2 (by decide) (hts (.fieldLink RX3 30 "BeltFloor$History" "count" "I") (List.mem_of_getElem? (i := 3) rfl)) (fun _ h9 => h9) rfl (by decide +kernel) rfl rfl (Nat.le_of_ble_eq_true rfl) dX3_remember_62 (fun H locs hP hD hS => ?_)
    replace hP : va_P (my_D Γ) vwCl (wHist Γ q_hi q_hs (upd (upd vh 1 s1) 2 y_12) vhs ++ wFloor Γ q_fl q_k q_c q_a q_pa q_b q_pb vi vj vk vc va vpa vb vpb ++ wFloor Γ q_fl2 q_k2 q_c2 q_a2 q_pa2 q_b2 q_pb2 vi2 vj2 vk2 vc2 va2 vpa2 vb2 vpb2) H := hP
    replace hD : va_D A (wHist Γ q_hi q_hs (upd (upd vh 1 s1) 2 y_12) vhs ++ wFloor Γ q_fl q_k q_c q_a q_pa q_b q_pb vi vj vk vc va vpa vb vpb ++ wFloor Γ q_fl2 q_k2 q_c2 q_a2 q_pa2 q_b2 q_pb2 vi2 vj2 vk2 vc2 va2 vpa2 vb2 vpb2) := hD
    subst ey_12
    obtain ⟨hf0, hf1, hf2, hf3, hf4, hf5, hf6, hf7, hf8⟩ := si9 hm
    subst hf0
    subst hf1
    subst hf2
    subst hf3
    subst hf4
    subst hf5
    subst hf6
    subst hf7
    subst hf8
    exact W.vret hx hb hr (fun t ht hW => ⟨⟨rfl, by rw [ht]; exact hP⟩, hS.F ht⟩) hS.2.2 dX3_remember_65
  unfold mX3_remember at hm
  refine lv_aload_n hx hb dX3_remember_0 rfl (lv_at hl 0 rfl) ?_
  refine lv_aload_n hx hb dX3_remember_1 rfl (lv_at hl 0 rfl) ?_
  refine va_get (D := my_D Γ) (ci := 2) (v := .int (vh 1)) (C := RX3) (T := TX3) (N := 3) hx hb hts hinX3 hown hK hP 0 rfl rfl 1 (by decide) (hts (.fieldLink RX3 18 "BeltFloor$History" "next" "I") (List.mem_of_getElem? (i := 1) rfl)) (fun _ h9 => h9) rfl dX3_remember_2 ?_
  obtain ⟨hs_1, hm⟩ := if_yes hm
  refine my_call1 (v := .ref q_fl2) (wc := (wHist Γ q_hi q_hs vh vhs)) (w1 := (wHist Γ q_hi q_hs vh vhs)) (ws1 := (wHist Γ q_hi q_hs vh vhs ++ wFloor Γ q_fl q_k q_c q_a q_pa q_b q_pb vi vj vk vc va vpa vb vpb ++ wFloor Γ q_fl2 q_k2 q_c2 q_a2 q_pa2 q_b2 q_pb2 vi2 vj2 vk2 vc2 va2 vpa2 vb2 vpb2)) hP hD hS hA [0, 1] rfl rfl rfl (va_runV (As := [.int (vh 1)]) (rest := []) ⟨hx, hb, hml, hown, hts⟩ (kX3_stateAt l Γ q_hi q_hs vh vhs (vh 1) (some q_fl2) hs_1 _) (cwV 1 hts gX3_remember_X3_stateAt rfl rfl rfl (by decide +kernel) ⟨Nat.le_of_ble_eq_true rfl, Nat.le_of_ble_eq_true rfl⟩) (my_preV (wc := (wHist Γ q_hi q_hs vh vhs)) (ci := 2) (q0 := 0) [0, 1] hK hP hD rfl rfl rfl rfl) rfl rfl hl.1 rfl (lv_room (Nat.le_of_ble_eq_true rfl)) dX3_remember_5 ⟨Nat.le_of_ble_eq_true rfl, Nat.le_of_ble_eq_true rfl⟩) (fun H locs hP hD hS => ?_)
  refine lv_astore_n (lv' := [(2, .ref q_fl2), (0, .ref q_hi), (1, .ref q_fl)]) hx hb dX3_remember_8 rfl hl (by decide) rfl (fun ls hl => ?_)
  refine lv_aload_n hx hb dX3_remember_9 rfl (lv_at hl 0 rfl) ?_
  refine lv_ifnonnull (tgt := 14) hx hb dX3_remember_10 (by decide) ?_
  refine lv_aload_n hx hb dX3_remember_14 rfl (lv_at hl 0 rfl) ?_
  refine lv_aload_n hx hb dX3_remember_15 rfl (lv_at hl 2 rfl) ?_
  obtain ⟨vi2_2, vj2_3, vk2_4, vc2_5, va2_6, vpa2_7, vb2_8, vpb2_9, hc_10, hm⟩ := bo8_s hm
  refine my_call0 (wc := (wFloor Γ q_fl2 q_k2 q_c2 q_a2 q_pa2 q_b2 q_pb2 vi2 vj2 vk2 vc2 va2 vpa2 vb2 vpb2 ++ wFloor Γ q_fl q_k q_c q_a q_pa q_b q_pb vi vj vk vc va vpa vb vpb)) (w1 := (wFloor Γ q_fl2 q_k2 q_c2 q_a2 q_pa2 q_b2 q_pb2 vi2_2 vj2_3 vk2_4 vc2_5 va2_6 vpa2_7 vb2_8 vpb2_9 ++ wFloor Γ q_fl q_k q_c q_a q_pa q_b q_pb vi vj vk vc va vpa vb vpb)) (ws1 := (wHist Γ q_hi q_hs vh vhs ++ wFloor Γ q_fl q_k q_c q_a q_pa q_b q_pb vi vj vk vc va vpa vb vpb ++ wFloor Γ q_fl2 q_k2 q_c2 q_a2 q_pa2 q_b2 q_pb2 vi2_2 vj2_3 vk2_4 vc2_5 va2_6 vpa2_7 vb2_8 vpb2_9)) hP hD hS hA [9, 10, 11, 12, 13, 14, 15, 2, 3, 4, 5, 6, 7, 8] rfl rfl rfl (va_runV (As := [.ref q_fl]) (rest := []) ⟨hx, hb, hml, hown, hts⟩ (kX1_copyFrom l Γ q_fl2 q_k2 q_c2 q_a2 q_pa2 q_b2 q_pb2 q_fl q_k q_c q_a q_pa q_b q_pb vi2 vj2 vk2 vc2 va2 vpa2 vb2 vpb2 vi vj vk vc va vpa vb vpb vi2_2 vj2_3 vk2_4 vc2_5 va2_6 vpa2_7 vb2_8 vpb2_9 hc_10 _) (cwV 1 hts gX3_remember_X1_copyFrom rfl rfl rfl (by decide +kernel) ⟨Nat.le_of_ble_eq_true rfl, Nat.le_of_ble_eq_true rfl⟩) (my_preV (wc := (wFloor Γ q_fl2 q_k2 q_c2 q_a2 q_pa2 q_b2 q_pb2 vi2 vj2 vk2 vc2 va2 vpa2 vb2 vpb2 ++ wFloor Γ q_fl q_k q_c q_a q_pa q_b q_pb vi vj vk vc va vpa vb vpb)) (ci := 1) (q0 := 9) [9, 10, 11, 12, 13, 14, 15, 2, 3, 4, 5, 6, 7, 8] hK hP hD rfl rfl rfl rfl) rfl rfl hl.1 rfl (lv_room (Nat.le_of_ble_eq_true rfl)) dX3_remember_16 ⟨Nat.le_of_ble_eq_true rfl, Nat.le_of_ble_eq_true rfl⟩) (fun H locs hP hD hS => ?_)
  refine lv_aload_n hx hb dX3_remember_19 rfl (lv_at hl 1 rfl) ?_
  refine lv_aload_n hx hb dX3_remember_20 rfl (lv_at hl 1 rfl) ?_
  refine va_get (D := my_D Γ) (ci := 2) (v := .int (vh 1)) (C := RX3) (T := TX3) (N := 3) hx hb hts hinX3 hown hK hP 0 rfl rfl 1 (by decide) (hts (.fieldLink RX3 18 "BeltFloor$History" "next" "I") (List.mem_of_getElem? (i := 1) rfl)) (fun _ h9 => h9) rfl dX3_remember_21 ?_
  refine lv_iconst (v := (1 : Int32)) hx hb dX3_remember_24 (by decide) ?_
  refine lv_iadd hx hb dX3_remember_25 ?_
  refine lv_aload_n hx hb dX3_remember_26 rfl (lv_at hl 1 rfl) ?_
  refine va_get (D := my_D Γ) (ci := 2) (v := .ref q_hs) (C := RX3) (T := TX3) (N := 3) hx hb hts hinX3 hown hK hP 0 rfl rfl 0 (by decide) (hts (.fieldLink RX3 11 "BeltFloor$History" "states" "[LBeltFloor$Floor;") (List.mem_of_getElem? (i := 2) rfl)) (fun _ h9 => h9) rfl dX3_remember_27 ?_
  refine va_alen hx hb hK hP 1 4 rfl rfl (v := (14 : Int32)) rfl dX3_remember_30 ?_
  refine lv_icmp_ge (tgt := 43) hx hb dX3_remember_31 (by decide) (fun c_11 => ?_) (fun c_11 => ?_)
  · replace hm := if_s hm c_11
    refine lv_iconst (v := (0 : Int32)) hx hb dX3_remember_43 (by decide) ?_
    exact J_44 vh vhs vi vj vk vc va vpa vb vpb vi2_2 vj2_3 vk2_4 vc2_5 va2_6 vpa2_7 vb2_8 vpb2_9 q_fl2 (0 : Int32) _ _ _ hP hD hS (lv_sub hl [1] rfl) hm
  · replace hm := if_f hm c_11
    refine lv_aload_n hx hb dX3_remember_34 rfl (lv_at hl 1 rfl) ?_
    refine va_get (D := my_D Γ) (ci := 2) (v := .int (vh 1)) (C := RX3) (T := TX3) (N := 3) hx hb hts hinX3 hown hK hP 0 rfl rfl 1 (by decide) (hts (.fieldLink RX3 18 "BeltFloor$History" "next" "I") (List.mem_of_getElem? (i := 1) rfl)) (fun _ h9 => h9) rfl dX3_remember_35 ?_
    refine lv_iconst (v := (1 : Int32)) hx hb dX3_remember_38 (by decide) ?_
    refine lv_iadd hx hb dX3_remember_39 ?_
    refine lv_goto (tgt := 44) hx hb dX3_remember_40 (by decide) ?_
    exact J_44 vh vhs vi vj vk vc va vpa vb vpb vi2_2 vj2_3 vk2_4 vc2_5 va2_6 vpa2_7 vb2_8 vpb2_9 q_fl2 ((vh 1) + (1 : Int32)) _ _ _ hP hD hS (lv_sub hl [1] rfl) hm
def mX3_takeBack_J23  (vh : Nat → Int32) (vhs : Nat → Option Nat) (vi : Nat → Int32) (vj : Nat → Int64) (vk : Nat → Int32) (vc : Nat → Int32) (va : Nat → Int32) (vpa : Nat → Int32) (vb : Nat → Int32) (vpb : Nat → Int32) (vi2 : Nat → Int32) (vj2 : Nat → Int64) (vk2 : Nat → Int32) (vc2 : Nat → Int32) (va2 : Nat → Int32) (vpa2 : Nat → Int32) (vb2 : Nat → Int32) (vpb2 : Nat → Int32) (q_fl2 : Nat) (s0 : Int32) : Option ((Nat → Int32) × (Nat → Int32) × (Nat → Int64) × (Nat → Int32) × (Nat → Int32) × (Nat → Int32) × (Nat → Int32) × (Nat → Int32) × (Nat → Int32)) := (if (mX3_stateAt vhs s0) = some q_fl2 then (if 0 < (vh 2) then (bo8 (mX1_copyFrom vi vj vk vc va vpa vb vpb vi2 vj2 vk2 vc2 va2 vpa2 vb2 vpb2) (fun vi_4 vj_5 vk_6 vc_7 va_8 vpa_9 vb_10 vpb_11 => (some ((upd (upd vh 1 s0) 2 ((vh 2) - (1 : Int32))), vi_4, vj_5, vk_6, vc_7, va_8, vpa_9, vb_10, vpb_11)))) else (some (vh, vi, vj, vk, vc, va, vpa, vb, vpb))) else none)
def mX3_takeBack (vh : Nat → Int32) (vhs : Nat → Option Nat) (vi : Nat → Int32) (vj : Nat → Int64) (vk : Nat → Int32) (vc : Nat → Int32) (va : Nat → Int32) (vpa : Nat → Int32) (vb : Nat → Int32) (vpb : Nat → Int32) (vi2 : Nat → Int32) (vj2 : Nat → Int64) (vk2 : Nat → Int32) (vc2 : Nat → Int32) (va2 : Nat → Int32) (vpa2 : Nat → Int32) (vb2 : Nat → Int32) (vpb2 : Nat → Int32) (q_fl2 : Nat) : Option ((Nat → Int32) × (Nat → Int32) × (Nat → Int64) × (Nat → Int32) × (Nat → Int32) × (Nat → Int32) × (Nat → Int32) × (Nat → Int32) × (Nat → Int32)) := (if (vh 1) ≤ 0 then (mX3_takeBack_J23 vh vhs vi vj vk vc va vpa vb vpb vi2 vj2 vk2 vc2 va2 vpa2 vb2 vpb2 q_fl2 ((14 : Int32) - (1 : Int32))) else (mX3_takeBack_J23 vh vhs vi vj vk vc va vpa vb vpb vi2 vj2 vk2 vc2 va2 vpa2 vb2 vpb2 q_fl2 ((vh 1) - (1 : Int32))))
set_option maxHeartbeats 4000000 in
set_option maxRecDepth 100000 in
theorem kX3_takeBack (l : Launch) (Γ : my_G) (q_hi q_hs q_fl q_k q_c q_a q_pa q_b q_pb q_fl2 q_k2 q_c2 q_a2 q_pa2 q_b2 q_pb2 : Nat) (vh : Nat → Int32) (vhs : Nat → Option Nat) (vi : Nat → Int32) (vj : Nat → Int64) (vk : Nat → Int32) (vc : Nat → Int32) (va : Nat → Int32) (vpa : Nat → Int32) (vb : Nat → Int32) (vpb : Nat → Int32) (vi2 : Nat → Int32) (vj2 : Nat → Int64) (vk2 : Nat → Int32) (vc2 : Nat → Int32) (va2 : Nat → Int32) (vpa2 : Nat → Int32) (vb2 : Nat → Int32) (vpb2 : Nat → Int32)  (vh_z : Nat → Int32) (vi_z : Nat → Int32) (vj_z : Nat → Int64) (vk_z : Nat → Int32) (vc_z : Nat → Int32) (va_z : Nat → Int32) (vpa_z : Nat → Int32) (vb_z : Nat → Int32) (vpb_z : Nat → Int32) (hm : mX3_takeBack vh vhs vi vj vk vc va vpa vb vpb vi2 vj2 vk2 vc2 va2 vpa2 vb2 vpb2 q_fl2 = (some (vh_z, vi_z, vj_z, vk_z, vc_z, va_z, vpa_z, vb_z, vpb_z))) : Mn l yX3_takeBack wsX3_takeBack ({ frames := 2, cells := 0, slots := 0, locals := 44 } : Room) Γ [.ref q_hi, .ref q_fl] (wHist Γ q_hi q_hs vh vhs ++ wFloor Γ q_fl q_k q_c q_a q_pa q_b q_pb vi vj vk vc va vpa vb vpb ++ wFloor Γ q_fl2 q_k2 q_c2 q_a2 q_pa2 q_b2 q_pb2 vi2 vj2 vk2 vc2 va2 vpa2 vb2 vpb2) none (wHist Γ q_hi q_hs vh_z vhs ++ wFloor Γ q_fl q_k q_c q_a q_pa q_b q_pb vi_z vj_z vk_z vc_z va_z vpa_z vb_z vpb_z ++ wFloor Γ q_fl2 q_k2 q_c2 q_a2 q_pa2 q_b2 q_pb2 vi2 vj2 vk2 vc2 va2 vpa2 vb2 vpb2) := by
  intro sz
  refine Met.ofW (cc := cX3_takeBack) (maxL := 4) (ret := none) (by decide) rfl ?_
  intro p e s m args below meth c s₁ B hml hv
  obtain ⟨rfl, hsz, hP, hK, hD0⟩ := hv
  have hx := B.exec
  have hb := B.bytes
  have hr := B.returns
  have hts := atoms_spec (ws := wsX3_takeBack) B.pre
  have hown : s.vm.findClass RX3 = some m.cls := findClass_of_methodNamed B.named
  have hlocks := B.notSynchronized
  have hinX1 : ∀ w ∈ u_ws RX1 TX1 12, w ∈ wsX3_takeBack := fun w h => List.mem_cons_of_mem _ (List.mem_append_left _ (List.mem_append_right _ h))
  have hinX3 : ∀ w ∈ u_ws RX3 TX3 3, w ∈ wsX3_takeBack := fun w h => List.mem_cons_of_mem _ (List.mem_append_left _ (List.mem_append_left _ (List.mem_append_right _ h)))
  have hinX4 : ∀ w ∈ u_ws RX4 TX4 10, w ∈ wsX3_takeBack := fun w h => List.mem_cons_of_mem _ (List.mem_append_right _ h)
  subst hsz
  have hD := hD0.self (sz := s.heap.size)
  have hA : ∀ q : Nat, s.heap.size ≤ q → va_A (wHist Γ q_hi q_hs vh vhs ++ wFloor Γ q_fl q_k q_c q_a q_pa q_b q_pb vi vj vk vc va vpa vb vpb ++ wFloor Γ q_fl2 q_k2 q_c2 q_a2 q_pa2 q_b2 q_pb2 vi2 vj2 vk2 vc2 va2 vpa2 vb2 vpb2) s.heap.size q := fun q h => Or.inr h
  generalize va_A (wHist Γ q_hi q_hs vh vhs ++ wFloor Γ q_fl q_k q_c q_a q_pa q_b q_pb vi vj vk vc va vpa vb vpb ++ wFloor Γ q_fl2 q_k2 q_c2 q_a2 q_pa2 q_b2 q_pb2 vi2 vj2 vk2 vc2 va2 vpa2 vb2 vpb2) s.heap.size = A at hD hA ⊢
  have hS : va_S A s.heap s.heap [] := va_S.rf
  have hl := lv_entry ([.ref q_hi, .ref q_fl]) (n := 4) (Nat.le_of_ble_eq_true rfl)
  rw [lg_entry_eq]
  generalize (lg_sl ([.ref q_hi, .ref q_fl]) ++ List.replicate (4 - (lg_sl ([.ref q_hi, .ref q_fl])).length) Slot.unset).toArray = ls at hl ⊢
  replace hl : lv_has ls 4 [(0, .ref q_hi), (1, .ref q_fl)] := hl
  have J_23 : ∀ (vh : Nat → Int32) (vhs : Nat → Option Nat) (vi : Nat → Int32) (vj : Nat → Int64) (vk : Nat → Int32) (vc : Nat → Int32) (va : Nat → Int32) (vpa : Nat → Int32) (vb : Nat → Int32) (vpb : Nat → Int32) (vi2 : Nat → Int32) (vj2 : Nat → Int64) (vk2 : Nat → Int32) (vc2 : Nat → Int32) (va2 : Nat → Int32) (vpa2 : Nat → Int32) (vb2 : Nat → Int32) (vpb2 : Nat → Int32) (q_fl2 : Nat) (s0 : Int32) (H : Heap) (locs : List Loc) (ls : Array Slot), va_P (my_D Γ) vwCl (wHist Γ q_hi q_hs vh vhs ++ wFloor Γ q_fl q_k q_c q_a q_pa q_b q_pb vi vj vk vc va vpa vb vpb ++ wFloor Γ q_fl2 q_k2 q_c2 q_a2 q_pa2 q_b2 q_pb2 vi2 vj2 vk2 vc2 va2 vpa2 vb2 vpb2) H → va_D A (wHist Γ q_hi q_hs vh vhs ++ wFloor Γ q_fl q_k q_c q_a q_pa q_b q_pb vi vj vk vc va vpa vb vpb ++ wFloor Γ q_fl2 q_k2 q_c2 q_a2 q_pa2 q_b2 q_pb2 vi2 vj2 vk2 vc2 va2 vpa2 vb2 vpb2) → va_S A s.heap H locs → lv_has ls 4 [(0, .ref q_hi), (1, .ref q_fl)] → mX3_takeBack_J23 vh vhs vi vj vk vc va vpa vb vpb vi2 vj2 vk2 vc2 va2 vpa2 vb2 vpb2 q_fl2 s0 = (some (vh_z, vi_z, vj_z, vk_z, vc_z, va_z, vpa_z, vb_z, vpb_z)) → W p l e (headSpec wsX3_takeBack ({ frames := 2, cells := 0, slots := 0, locals := 44 } : Room)).room s m ([.ref q_hi, .ref q_fl] : List Value).toArray below meth c H locs 0 0 (MQ below (my_Q Γ A none (wHist Γ q_hi q_hs vh_z vhs ++ wFloor Γ q_fl q_k q_c q_a q_pa q_b q_pb vi_z vj_z vk_z vc_z va_z vpa_z vb_z vpb_z ++ wFloor Γ q_fl2 q_k2 q_c2 q_a2 q_pa2 q_b2 q_pb2 vi2 vj2 vk2 vc2 va2 vpa2 vb2 vpb2)) ([.ref q_hi, .ref q_fl] : List Value).toArray s 0 0 A) (F0 m 23 ls [.int s0]) := by
    intro  vh vhs vi vj vk vc va vpa vb vpb vi2 vj2 vk2 vc2 va2 vpa2 vb2 vpb2 q_fl2 s0 H locs ls hP hD hS hl hm
    unfold mX3_takeBack_J23 at hm
    refine lv_istore_n (lv' := [(2, .int s0), (0, .ref q_hi), (1, .ref q_fl)]) hx hb dX3_takeBack_23 rfl hl (by decide) rfl (fun ls hl => ?_)
    refine lv_aload_n hx hb dX3_takeBack_24 rfl (lv_at hl 1 rfl) ?_
    refine lv_iload_n hx hb dX3_takeBack_25 rfl (lv_at hl 0 rfl) ?_
    obtain ⟨hs_2, hm⟩ := if_yes hm
    refine my_call1 (v := .ref q_fl2) (wc := (wHist Γ q_hi q_hs vh vhs)) (w1 := (wHist Γ q_hi q_hs vh vhs)) (ws1 := (wHist Γ q_hi q_hs vh vhs ++ wFloor Γ q_fl q_k q_c q_a q_pa q_b q_pb vi vj vk vc va vpa vb vpb ++ wFloor Γ q_fl2 q_k2 q_c2 q_a2 q_pa2 q_b2 q_pb2 vi2 vj2 vk2 vc2 va2 vpa2 vb2 vpb2)) hP hD hS hA [0, 1] rfl rfl rfl (va_runV (As := [.int s0]) (rest := []) ⟨hx, hb, hml, hown, hts⟩ (kX3_stateAt l Γ q_hi q_hs vh vhs s0 (some q_fl2) hs_2 _) (cwV 1 hts gX3_takeBack_X3_stateAt rfl rfl rfl (by decide +kernel) ⟨Nat.le_of_ble_eq_true rfl, Nat.le_of_ble_eq_true rfl⟩) (my_preV (wc := (wHist Γ q_hi q_hs vh vhs)) (ci := 2) (q0 := 0) [0, 1] hK hP hD rfl rfl rfl rfl) rfl rfl hl.1 rfl (lv_room (Nat.le_of_ble_eq_true rfl)) dX3_takeBack_26 ⟨Nat.le_of_ble_eq_true rfl, Nat.le_of_ble_eq_true rfl⟩) (fun H locs hP hD hS => ?_)
    refine lv_astore_n (lv' := [(3, .ref q_fl2), (2, .int s0), (0, .ref q_hi), (1, .ref q_fl)]) hx hb dX3_takeBack_29 rfl hl (by decide) rfl (fun ls hl => ?_)
    refine lv_aload_n hx hb dX3_takeBack_30 rfl (lv_at hl 0 rfl) ?_
    refine lv_ifnull hx hb dX3_takeBack_31 ?_
    refine lv_aload_n hx hb dX3_takeBack_34 rfl (lv_at hl 2 rfl) ?_
    refine va_get (D := my_D Γ) (ci := 2) (v := .int (vh 2)) (C := RX3) (T := TX3) (N := 3) hx hb hts hinX3 hown hK hP 0 rfl rfl 2 (by decide) (hts (.fieldLink RX3 30 "BeltFloor$History" "count" "I") (List.mem_of_getElem? (i := 3) rfl)) (fun _ h9 => h9) rfl dX3_takeBack_35 ?_
    refine lv_if_gt (tgt := 42) hx hb dX3_takeBack_38 (by decide) (fun c_3 => ?_) (fun c_3 => ?_)
    · replace hm := if_s hm c_3
      refine lv_aload_n hx hb dX3_takeBack_42 rfl (lv_at hl 3 rfl) ?_
      refine lv_aload_n hx hb dX3_takeBack_43 rfl (lv_at hl 0 rfl) ?_
      obtain ⟨vi_4, vj_5, vk_6, vc_7, va_8, vpa_9, vb_10, vpb_11, hc_12, hm⟩ := bo8_s hm
      refine my_call0 (wc := (wFloor Γ q_fl q_k q_c q_a q_pa q_b q_pb vi vj vk vc va vpa vb vpb ++ wFloor Γ q_fl2 q_k2 q_c2 q_a2 q_pa2 q_b2 q_pb2 vi2 vj2 vk2 vc2 va2 vpa2 vb2 vpb2)) (w1 := (wFloor Γ q_fl q_k q_c q_a q_pa q_b q_pb vi_4 vj_5 vk_6 vc_7 va_8 vpa_9 vb_10 vpb_11 ++ wFloor Γ q_fl2 q_k2 q_c2 q_a2 q_pa2 q_b2 q_pb2 vi2 vj2 vk2 vc2 va2 vpa2 vb2 vpb2)) (ws1 := (wHist Γ q_hi q_hs vh vhs ++ wFloor Γ q_fl q_k q_c q_a q_pa q_b q_pb vi_4 vj_5 vk_6 vc_7 va_8 vpa_9 vb_10 vpb_11 ++ wFloor Γ q_fl2 q_k2 q_c2 q_a2 q_pa2 q_b2 q_pb2 vi2 vj2 vk2 vc2 va2 vpa2 vb2 vpb2)) hP hD hS hA [2, 3, 4, 5, 6, 7, 8, 9, 10, 11, 12, 13, 14, 15] rfl rfl rfl (va_runV (As := [.ref q_fl2]) (rest := []) ⟨hx, hb, hml, hown, hts⟩ (kX1_copyFrom l Γ q_fl q_k q_c q_a q_pa q_b q_pb q_fl2 q_k2 q_c2 q_a2 q_pa2 q_b2 q_pb2 vi vj vk vc va vpa vb vpb vi2 vj2 vk2 vc2 va2 vpa2 vb2 vpb2 vi_4 vj_5 vk_6 vc_7 va_8 vpa_9 vb_10 vpb_11 hc_12 _) (cwV 1 hts gX3_takeBack_X1_copyFrom rfl rfl rfl (by decide +kernel) ⟨Nat.le_of_ble_eq_true rfl, Nat.le_of_ble_eq_true rfl⟩) (my_preV (wc := (wFloor Γ q_fl q_k q_c q_a q_pa q_b q_pb vi vj vk vc va vpa vb vpb ++ wFloor Γ q_fl2 q_k2 q_c2 q_a2 q_pa2 q_b2 q_pb2 vi2 vj2 vk2 vc2 va2 vpa2 vb2 vpb2)) (ci := 1) (q0 := 2) [2, 3, 4, 5, 6, 7, 8, 9, 10, 11, 12, 13, 14, 15] hK hP hD rfl rfl rfl rfl) rfl rfl hl.1 rfl (lv_room (Nat.le_of_ble_eq_true rfl)) dX3_takeBack_44 ⟨Nat.le_of_ble_eq_true rfl, Nat.le_of_ble_eq_true rfl⟩) (fun H locs hP hD hS => ?_)
      refine lv_aload_n hx hb dX3_takeBack_47 rfl (lv_at hl 2 rfl) ?_
      refine lv_iload_n hx hb dX3_takeBack_48 rfl (lv_at hl 1 rfl) ?_
      refine va_put (D := my_D Γ) (ci := 2) (v := .int s0) (ty := .int) (C := RX3) (T := TX3) (N := 3) hx hb hts hinX3 tyX3 tyX3_ok nmX3 hown hK hP hD hS 0 rfl rfl 1 (by decide) (hts (.fieldLink RX3 18 "BeltFloor$History" "next" "I") (List.mem_of_getElem? (i := 1) rfl)) (fun _ h9 => h9) rfl (by decide +kernel) rfl rfl (Nat.le_of_ble_eq_true rfl) dX3_takeBack_49 (fun H locs hP hD hS => ?_)
      replace hP : va_P (my_D Γ) vwCl (wHist Γ q_hi q_hs (upd vh 1 s0) vhs ++ wFloor Γ q_fl q_k q_c q_a q_pa q_b q_pb vi_4 vj_5 vk_6 vc_7 va_8 vpa_9 vb_10 vpb_11 ++ wFloor Γ q_fl2 q_k2 q_c2 q_a2 q_pa2 q_b2 q_pb2 vi2 vj2 vk2 vc2 va2 vpa2 vb2 vpb2) H := hP
      replace hD : va_D A (wHist Γ q_hi q_hs (upd vh 1 s0) vhs ++ wFloor Γ q_fl q_k q_c q_a q_pa q_b q_pb vi_4 vj_5 vk_6 vc_7 va_8 vpa_9 vb_10 vpb_11 ++ wFloor Γ q_fl2 q_k2 q_c2 q_a2 q_pa2 q_b2 q_pb2 vi2 vj2 vk2 vc2 va2 vpa2 vb2 vpb2) := hD
      refine lv_aload_n hx hb dX3_takeBack_52 rfl (lv_at hl 2 rfl) ?_
      refine lv_dup hx hb dX3_takeBack_53 rfl ?_
      refine va_get (D := my_D Γ) (ci := 2) (v := .int (vh 2)) (C := RX3) (T := TX3) (N := 3) hx hb hts hinX3 hown hK hP 0 rfl rfl 2 (by decide) (hts (.fieldLink RX3 30 "BeltFloor$History" "count" "I") (List.mem_of_getElem? (i := 3) rfl)) (fun _ h9 => h9) rfl dX3_takeBack_54 ?_
      refine lv_iconst (v := (1 : Int32)) hx hb dX3_takeBack_57 (by decide) ?_
      refine lv_isub hx hb dX3_takeBack_58 ?_
      refine lv_topi (fun y_13 ey_13 => ?_)
      refine va_put (D := my_D Γ) (ci := 2) (v := .int y_13) (ty := .int) (C := RX3) (T := TX3) (N := 3) hx hb hts hinX3 tyX3 tyX3_ok nmX3 hown hK hP hD hS 0 rfl rfl 2 (by decide) (hts (.fieldLink RX3 30 "BeltFloor$History" "count" "I") (List.mem_of_getElem? (i := 3) rfl)) (fun _ h9 => h9) rfl (by decide +kernel) rfl rfl (Nat.le_of_ble_eq_true rfl) dX3_takeBack_59 (fun H locs hP hD hS => ?_)
      replace hP : va_P (my_D Γ) vwCl (wHist Γ q_hi q_hs (upd (upd vh 1 s0) 2 y_13) vhs ++ wFloor Γ q_fl q_k q_c q_a q_pa q_b q_pb vi_4 vj_5 vk_6 vc_7 va_8 vpa_9 vb_10 vpb_11 ++ wFloor Γ q_fl2 q_k2 q_c2 q_a2 q_pa2 q_b2 q_pb2 vi2 vj2 vk2 vc2 va2 vpa2 vb2 vpb2) H := hP
      replace hD : va_D A (wHist Γ q_hi q_hs (upd (upd vh 1 s0) 2 y_13) vhs ++ wFloor Γ q_fl q_k q_c q_a q_pa q_b q_pb vi_4 vj_5 vk_6 vc_7 va_8 vpa_9 vb_10 vpb_11 ++ wFloor Γ q_fl2 q_k2 q_c2 q_a2 q_pa2 q_b2 q_pb2 vi2 vj2 vk2 vc2 va2 vpa2 vb2 vpb2) := hD
      subst ey_13
      obtain ⟨hf0, hf1, hf2, hf3, hf4, hf5, hf6, hf7, hf8⟩ := si9 hm
      subst hf0
      subst hf1
      subst hf2
      subst hf3
      subst hf4
      subst hf5
      subst hf6
      subst hf7
      subst hf8
      exact W.vret hx hb hr (fun t ht hW => ⟨⟨rfl, by rw [ht]; exact hP⟩, hS.F ht⟩) hS.2.2 dX3_takeBack_62
    · replace hm := if_f hm c_3
      obtain ⟨hf0, hf1, hf2, hf3, hf4, hf5, hf6, hf7, hf8⟩ := si9 hm
      subst hf0
      subst hf1
      subst hf2
      subst hf3
      subst hf4
      subst hf5
      subst hf6
      subst hf7
      subst hf8
      exact W.vret hx hb hr (fun t ht hW => ⟨⟨rfl, by rw [ht]; exact hP⟩, hS.F ht⟩) hS.2.2 dX3_takeBack_41
  unfold mX3_takeBack at hm
  refine lv_aload_n hx hb dX3_takeBack_0 rfl (lv_at hl 0 rfl) ?_
  refine va_get (D := my_D Γ) (ci := 2) (v := .int (vh 1)) (C := RX3) (T := TX3) (N := 3) hx hb hts hinX3 hown hK hP 0 rfl rfl 1 (by decide) (hts (.fieldLink RX3 18 "BeltFloor$History" "next" "I") (List.mem_of_getElem? (i := 1) rfl)) (fun _ h9 => h9) rfl dX3_takeBack_1 ?_
  refine lv_if_le (tgt := 16) hx hb dX3_takeBack_4 (by decide) (fun c_1 => ?_) (fun c_1 => ?_)
  · replace hm := if_s hm c_1
    refine lv_aload_n hx hb dX3_takeBack_16 rfl (lv_at hl 0 rfl) ?_
    refine va_get (D := my_D Γ) (ci := 2) (v := .ref q_hs) (C := RX3) (T := TX3) (N := 3) hx hb hts hinX3 hown hK hP 0 rfl rfl 0 (by decide) (hts (.fieldLink RX3 11 "BeltFloor$History" "states" "[LBeltFloor$Floor;") (List.mem_of_getElem? (i := 2) rfl)) (fun _ h9 => h9) rfl dX3_takeBack_17 ?_
    refine va_alen hx hb hK hP 1 4 rfl rfl (v := (14 : Int32)) rfl dX3_takeBack_20 ?_
    refine lv_iconst (v := (1 : Int32)) hx hb dX3_takeBack_21 (by decide) ?_
    refine lv_isub hx hb dX3_takeBack_22 ?_
    exact J_23 vh vhs vi vj vk vc va vpa vb vpb vi2 vj2 vk2 vc2 va2 vpa2 vb2 vpb2 q_fl2 ((14 : Int32) - (1 : Int32)) _ _ _ hP hD hS (lv_sub hl [0, 1] rfl) hm
  · replace hm := if_f hm c_1
    refine lv_aload_n hx hb dX3_takeBack_7 rfl (lv_at hl 0 rfl) ?_
    refine va_get (D := my_D Γ) (ci := 2) (v := .int (vh 1)) (C := RX3) (T := TX3) (N := 3) hx hb hts hinX3 hown hK hP 0 rfl rfl 1 (by decide) (hts (.fieldLink RX3 18 "BeltFloor$History" "next" "I") (List.mem_of_getElem? (i := 1) rfl)) (fun _ h9 => h9) rfl dX3_takeBack_8 ?_
    refine lv_iconst (v := (1 : Int32)) hx hb dX3_takeBack_11 (by decide) ?_
    refine lv_isub hx hb dX3_takeBack_12 ?_
    refine lv_goto (tgt := 23) hx hb dX3_takeBack_13 (by decide) ?_
    exact J_23 vh vhs vi vj vk vc va vpa vb vpb vi2 vj2 vk2 vc2 va2 vpa2 vb2 vpb2 q_fl2 ((vh 1) - (1 : Int32)) _ _ _ hP hD hS (lv_sub hl [0, 1] rfl) hm
