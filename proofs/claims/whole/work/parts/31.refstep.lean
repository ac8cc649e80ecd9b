def mX9_findsWays_J53 (k2 : (Nat → Int32) → (Nat → Int32) → (Nat → Int32) → Int32 → Option ((Nat → Int32) × (Nat → Int32))) (vwy : Nat → Int32) (vah : Nat → Int32) (vs : Nat → Int32) (l2 : Int32) (s1 : Int32) (s2 : Int32) : Option ((Nat → Int32) × (Nat → Int32)) := (if ¬ (s1 < 0 ∨ 2 ≤ s1.toNatClampNeg) then (k2 vwy (upd vah s1.toNatClampNeg s2) vs (l2 + (1 : Int32))) else none)
def mX9_findsWays_L2  : Nat → (Nat → Int32) → (Nat → Int32) → (Nat → Int32) → Int32 → Option ((Nat → Int32) × (Nat → Int32))
  | 0, _, _, _, _ => none
  | n + 1, vwy, vah, vs, l2 => (if (2 : Int32) ≤ l2 then (some (vwy, vah)) else (bo1 (mX9_wants vs l2) (fun r_2 => (if ¬ (l2 < 0 ∨ 2 ≤ l2.toNatClampNeg) then (if ((upd vwy l2.toNatClampNeg r_2) l2.toNatClampNeg) = (-1 : Int32) then (mX9_findsWays_J53 (fun vwy vah vs l2 => mX9_findsWays_L2 n vwy vah vs l2) (upd vwy l2.toNatClampNeg r_2) vah vs l2 l2 (-1 : Int32)) else (bo1 (mX9_of vs l2 (0 : Int32)) (fun r_6 => (bo1 (mX9_rowFrom vs r_6 ((upd vwy l2.toNatClampNeg r_2) l2.toNatClampNeg)) (fun r_8 => (mX9_findsWays_J53 (fun vwy vah vs l2 => mX9_findsWays_L2 n vwy vah vs l2) (upd vwy l2.toNatClampNeg r_2) vah vs l2 l2 r_8)))))) else none))))
def mX9_findsWays (vwy : Nat → Int32) (vah : Nat → Int32) (vs : Nat → Int32) : Option ((Nat → Int32) × (Nat → Int32)) := (mX9_findsWays_L2 4096 vwy vah vs (0 : Int32))
set_option maxHeartbeats 4000000 in
set_option maxRecDepth 100000 in
theorem kX9_findsWays (l : Launch) (Γ : my_G) (q_mo q_wy q_ah q_tg q_ws q_s q_tt q_nw q_tr q_ot q_di q_kp q_ik q_fr q_rw : Nat) (mi : Nat → Int32) (vwy : Nat → Int32) (vah : Nat → Int32) (vtg : Nat → Int32) (vws : Nat → Int32) (vs : Nat → Int32)  (vwy_z : Nat → Int32) (vah_z : Nat → Int32) (hm : mX9_findsWays vwy vah vs = (some (vwy_z, vah_z))) : Mn l yX9_findsWays wsX9_findsWays ({ frames := 4, cells := 0, slots := 0, locals := 88 } : Room) Γ [.ref q_mo, .ref q_s] (wStep Γ q_mo q_wy q_ah q_tg q_ws q_s q_tt q_nw q_tr q_ot q_di q_kp q_ik q_fr q_rw mi vwy vah vtg vws vs) none (wStep Γ q_mo q_wy q_ah q_tg q_ws q_s q_tt q_nw q_tr q_ot q_di q_kp q_ik q_fr q_rw mi vwy_z vah_z vtg vws vs) := by
  intro sz
  refine Met.ofW (cc := cX9_findsWays) (maxL := 3) (ret := none) (by decide) rfl ?_
  intro p e s m args below meth c s₁ B hml hv
  obtain ⟨rfl, hsz, hP, hK, hD0⟩ := hv
  have hx := B.exec
  have hb := B.bytes
  have hr := B.returns
  have hts := atoms_spec (ws := wsX9_findsWays) B.pre
  have hown : s.vm.findClass RX9 = some m.cls := findClass_of_methodNamed B.named
  have hlocks := B.notSynchronized
  have hinX9 : ∀ w ∈ u_ws RX9 TX9 19, w ∈ wsX9_findsWays := fun w h => List.mem_cons_of_mem _ (List.mem_append_right _ h)
  subst hsz
  have hD := hD0.self (sz := s.heap.size)
  have hA : ∀ q : Nat, s.heap.size ≤ q → va_A (wStep Γ q_mo q_wy q_ah q_tg q_ws q_s q_tt q_nw q_tr q_ot q_di q_kp q_ik q_fr q_rw mi vwy vah vtg vws vs) s.heap.size q := fun q h => Or.inr h
  generalize va_A (wStep Γ q_mo q_wy q_ah q_tg q_ws q_s q_tt q_nw q_tr q_ot q_di q_kp q_ik q_fr q_rw mi vwy vah vtg vws vs) s.heap.size = A at hD hA ⊢
  have hS : va_S A s.heap s.heap [] := va_S.rf
  have hl := lv_entry ([.ref q_mo, .ref q_s]) (n := 3) (Nat.le_of_ble_eq_true rfl)
  rw [lg_entry_eq]
  generalize (lg_sl ([.ref q_mo, .ref q_s]) ++ List.replicate (3 - (lg_sl ([.ref q_mo, .ref q_s])).length) Slot.unset).toArray = ls at hl ⊢
  replace hl : lv_has ls 3 [(0, .ref q_mo), (1, .ref q_s)] := hl
  have J_53 : ∀ (k2 : (Nat → Int32) → (Nat → Int32) → (Nat → Int32) → Int32 → Option ((Nat → Int32) × (Nat → Int32))), (∀ (vwy : Nat → Int32) (vah : Nat → Int32) (vs : Nat → Int32) (l2 : Int32) (H : Heap) (locs : List Loc) (ls : Array Slot), va_P (my_D Γ) vwCl (wStep Γ q_mo q_wy q_ah q_tg q_ws q_s q_tt q_nw q_tr q_ot q_di q_kp q_ik q_fr q_rw mi vwy vah vtg vws vs) H → va_D A (wStep Γ q_mo q_wy q_ah q_tg q_ws q_s q_tt q_nw q_tr q_ot q_di q_kp q_ik q_fr q_rw mi vwy vah vtg vws vs) → va_S A s.heap H locs → lv_has ls 3 [(0, .ref q_mo), (1, .ref q_s), (2, .int l2)] → k2 vwy vah vs l2 = (some (vwy_z, vah_z)) → W p l e (headSpec wsX9_findsWays ({ frames := 4, cells := 0, slots := 0, locals := 88 } : Room)).room s m ([.ref q_mo, .ref q_s] : List Value).toArray below meth c H locs 0 0 (MQ below (my_Q Γ A none (wStep Γ q_mo q_wy q_ah q_tg q_ws q_s q_tt q_nw q_tr q_ot q_di q_kp q_ik q_fr q_rw mi vwy_z vah_z vtg vws vs)) ([.ref q_mo, .ref q_s] : List Value).toArray s 0 0 A) (F0 m 2 ls [])) → ∀ (vwy : Nat → Int32) (vah : Nat → Int32) (vs : Nat → Int32) (l2 : Int32) (s1 : Int32) (s2 : Int32) (H : Heap) (locs : List Loc) (ls : Array Slot), va_P (my_D Γ) vwCl (wStep Γ q_mo q_wy q_ah q_tg q_ws q_s q_tt q_nw q_tr q_ot q_di q_kp q_ik q_fr q_rw mi vwy vah vtg vws vs) H → va_D A (wStep Γ q_mo q_wy q_ah q_tg q_ws q_s q_tt q_nw q_tr q_ot q_di q_kp q_ik q_fr q_rw mi vwy vah vtg vws vs) → va_S A s.heap H locs → lv_has ls 3 [(0, .ref q_mo), (1, .ref q_s), (2, .int l2)] → mX9_findsWays_J53 k2 vwy vah vs l2 s1 s2 = (some (vwy_z, vah_z)) → W p l e (headSpec wsX9_findsWays ({ frames := 4, cells := 0, slots := 0, locals := 88 } : Room)).room s m ([.ref q_mo, .ref q_s] : List Value).toArray below meth c H locs 0 0 (MQ below (my_Q Γ A none (wStep Γ q_mo q_wy q_ah q_tg q_ws q_s q_tt q_nw q_tr q_ot q_di q_kp q_ik q_fr q_rw mi vwy_z vah_z vtg vws vs)) ([.ref q_mo, .ref q_s] : List Value).toArray s 0 0 A) (F0 m 53 ls [.int s2, .int s1, .ref q_ah]) := by
    intro k2 hk2 vwy vah vs l2 s1 s2 H locs ls hP hD hS hl hm
    unfold mX9_findsWays_J53 at hm
    obtain ⟨hi_10, hm⟩ := if_in hm
    refine va_iast hx hb hK hP hD hS 2 0 rfl rfl hi_10 dX9_findsWays_53 (fun H locs hP hD hS => ?_)
    replace hP : va_P (my_D Γ) vwCl (wStep Γ q_mo q_wy q_ah q_tg q_ws q_s q_tt q_nw q_tr q_ot q_di q_kp q_ik q_fr q_rw mi vwy (upd vah s1.toNatClampNeg s2) vtg vws vs) H := hP
    replace hD : va_D A (wStep Γ q_mo q_wy q_ah q_tg q_ws q_s q_tt q_nw q_tr q_ot q_di q_kp q_ik q_fr q_rw mi vwy (upd vah s1.toNatClampNeg s2) vtg vws vs) := hD
    refine lv_iinc (v := (l2 + (1 : Int32))) (lv' := [(2, .int (l2 + (1 : Int32))), (0, .ref q_mo), (1, .ref q_s)]) hx hb dX9_findsWays_54 hl (k := 2) rfl rfl (by decide) rfl (fun ls hl => ?_)
    refine lv_goto (tgt := 2) hx hb dX9_findsWays_57 (by decide) ?_
    exact hk2 vwy (upd vah s1.toNatClampNeg s2) vs (l2 + (1 : Int32)) _ _ _ hP hD hS (lv_sub hl [1, 2, 0] rfl) hm
  have J_2 : ∀ n : Nat, ∀ (vwy : Nat → Int32) (vah : Nat → Int32) (vs : Nat → Int32) (l2 : Int32) (H : Heap) (locs : List Loc) (ls : Array Slot), va_P (my_D Γ) vwCl (wStep Γ q_mo q_wy q_ah q_tg q_ws q_s q_tt q_nw q_tr q_ot q_di q_kp q_ik q_fr q_rw mi vwy vah vtg vws vs) H → va_D A (wStep Γ q_mo q_wy q_ah q_tg q_ws q_s q_tt q_nw q_tr q_ot q_di q_kp q_ik q_fr q_rw mi vwy vah vtg vws vs) → va_S A s.heap H locs → lv_has ls 3 [(0, .ref q_mo), (1, .ref q_s), (2, .int l2)] → mX9_findsWays_L2 n vwy vah vs l2 = (some (vwy_z, vah_z)) → W p l e (headSpec wsX9_findsWays ({ frames := 4, cells := 0, slots := 0, locals := 88 } : Room)).room s m ([.ref q_mo, .ref q_s] : List Value).toArray below meth c H locs 0 0 (MQ below (my_Q Γ A none (wStep Γ q_mo q_wy q_ah q_tg q_ws q_s q_tt q_nw q_tr q_ot q_di q_kp q_ik q_fr q_rw mi vwy_z vah_z vtg vws vs)) ([.ref q_mo, .ref q_s] : List Value).toArray s 0 0 A) (F0 m 2 ls []) := by
    intro  n
    induction n with
    | zero => intro vwy vah vs l2 H locs ls hP hD hS hl hm; cases hm
    | succ n ih =>
      intro vwy vah vs l2 H locs ls hP hD hS hl hm
      unfold mX9_findsWays_L2 at hm
      refine lv_iload_n hx hb dX9_findsWays_2 rfl (lv_at hl 2 rfl) ?_
      refine lv_iconst (v := (2 : Int32)) hx hb dX9_findsWays_3 (by decide) ?_
      refine lv_icmp_ge (tgt := 60) hx hb dX9_findsWays_4 (by decide) (fun c_1 => ?_) (fun c_1 => ?_)
      · replace hm := if_s hm c_1
        obtain ⟨hf0, hf1⟩ := si2 hm
        subst hf0
        subst hf1
        exact W.vret hx hb hr (fun t ht hW => ⟨⟨rfl, by rw [ht]; exact hP⟩, hS.F ht⟩) hS.2.2 dX9_findsWays_60
      · replace hm := if_f hm c_1
        refine lv_aload_n hx hb dX9_findsWays_7 rfl (lv_at hl 0 rfl) ?_
        refine va_get (D := my_D Γ) (ci := 7) (v := .ref q_wy) (C := RX9) (T := TX9) (N := 19) hx hb hts hinX9 hown hK hP 0 rfl rfl 10 (by decide) (hts (.fieldLink RX9 32 "BeltFloorModel" "way" "[I") (List.mem_of_getElem? (i := 1) rfl)) (fun _ h9 => h9) rfl dX9_findsWays_8 ?_
        refine lv_iload_n hx hb dX9_findsWays_11 rfl (lv_at hl 2 rfl) ?_
        refine lv_aload_n hx hb dX9_findsWays_12 rfl (lv_at hl 1 rfl) ?_
        refine lv_iload_n hx hb dX9_findsWays_13 rfl (lv_at hl 2 rfl) ?_
        obtain ⟨r_2, hc_3, hm⟩ := bo1_s hm
        refine my_callP1 (wc := (wArr117 Γ q_s vs)) (w1 := (wArr117 Γ q_s vs)) (ws1 := (wStep Γ q_mo q_wy q_ah q_tg q_ws q_s q_tt q_nw q_tr q_ot q_di q_kp q_ik q_fr q_rw mi vwy vah vtg vws vs)) hP hD hS hA [5] rfl rfl rfl (va_runS (As := [.ref q_s, .int l2]) (rest := [.int l2, .ref q_wy]) ⟨hx, hb, hml, hown, hts⟩ (kX9_wants l Γ q_s vs l2 r_2 hc_3 _) (va_cwS 2 hts gX9_findsWays_X9_wants rfl rfl rfl (by decide +kernel) ⟨Nat.le_of_ble_eq_true rfl, Nat.le_of_ble_eq_true rfl⟩) (my_preS (wc := (wArr117 Γ q_s vs)) [5] hK hP hD rfl rfl) rfl rfl hl.1 rfl (lv_room (Nat.le_of_ble_eq_true rfl)) dX9_findsWays_14 ⟨Nat.le_of_ble_eq_true rfl, Nat.le_of_ble_eq_true rfl⟩) (fun H locs hP hD hS => ?_)
        obtain ⟨hi_4, hm⟩ := if_in hm
        refine va_iast hx hb hK hP hD hS 1 0 rfl rfl hi_4 dX9_findsWays_17 (fun H locs hP hD hS => ?_)
        replace hP : va_P (my_D Γ) vwCl (wStep Γ q_mo q_wy q_ah q_tg q_ws q_s q_tt q_nw q_tr q_ot q_di q_kp q_ik q_fr q_rw mi (upd vwy l2.toNatClampNeg r_2) vah vtg vws vs) H := hP
        replace hD : va_D A (wStep Γ q_mo q_wy q_ah q_tg q_ws q_s q_tt q_nw q_tr q_ot q_di q_kp q_ik q_fr q_rw mi (upd vwy l2.toNatClampNeg r_2) vah vtg vws vs) := hD
        refine lv_aload_n hx hb dX9_findsWays_18 rfl (lv_at hl 0 rfl) ?_
        refine va_get (D := my_D Γ) (ci := 7) (v := .ref q_ah) (C := RX9) (T := TX9) (N := 19) hx hb hts hinX9 hown hK hP 0 rfl rfl 11 (by decide) (hts (.fieldLink RX9 35 "BeltFloorModel" "ahead" "[I") (List.mem_of_getElem? (i := 2) rfl)) (fun _ h9 => h9) rfl dX9_findsWays_19 ?_
        refine lv_iload_n hx hb dX9_findsWays_22 rfl (lv_at hl 2 rfl) ?_
        refine lv_aload_n hx hb dX9_findsWays_23 rfl (lv_at hl 0 rfl) ?_
        refine va_get (D := my_D Γ) (ci := 7) (v := .ref q_wy) (C := RX9) (T := TX9) (N := 19) hx hb hts hinX9 hown hK hP 0 rfl rfl 10 (by decide) (hts (.fieldLink RX9 32 "BeltFloorModel" "way" "[I") (List.mem_of_getElem? (i := 1) rfl)) (fun _ h9 => h9) rfl dX9_findsWays_24 ?_
        refine lv_iload_n hx hb dX9_findsWays_27 rfl (lv_at hl 2 rfl) ?_
        refine va_iald hx hb hK hP 1 0 rfl rfl hi_4 dX9_findsWays_28 ?_
        refine lv_iconst (v := (-1 : Int32)) hx hb dX9_findsWays_29 (by decide) ?_
        refine lv_icmp_ne (tgt := 37) hx hb dX9_findsWays_30 (by decide) (fun c_5 => ?_) (fun c_5 => ?_)
        · replace hm := if_f hm c_5
          refine lv_aload_n hx hb dX9_findsWays_37 rfl (lv_at hl 1 rfl) ?_
          refine lv_aload_n hx hb dX9_findsWays_38 rfl (lv_at hl 1 rfl) ?_
          refine lv_iload_n hx hb dX9_findsWays_39 rfl (lv_at hl 2 rfl) ?_
          refine lv_iconst (v := (0 : Int32)) hx hb dX9_findsWays_40 (by decide) ?_
          obtain ⟨r_6, hc_7, hm⟩ := bo1_s hm
          refine my_callP1 (wc := (wArr117 Γ q_s vs)) (w1 := (wArr117 Γ q_s vs)) (ws1 := (wStep Γ q_mo q_wy q_ah q_tg q_ws q_s q_tt q_nw q_tr q_ot q_di q_kp q_ik q_fr q_rw mi (upd vwy l2.toNatClampNeg r_2) vah vtg vws vs)) hP hD hS hA [5] rfl rfl rfl (va_runS (As := [.ref q_s, .int l2, .int (0 : Int32)]) (rest := [.ref q_s, .int l2, .ref q_ah]) ⟨hx, hb, hml, hown, hts⟩ (kX9_of l Γ q_s vs l2 (0 : Int32) r_6 hc_7 _) (va_cwS 3 hts gX9_findsWays_X9_of rfl rfl rfl (by decide +kernel) ⟨Nat.le_of_ble_eq_true rfl, Nat.le_of_ble_eq_true rfl⟩) (my_preS (wc := (wArr117 Γ q_s vs)) [5] hK hP hD rfl rfl) rfl rfl hl.1 rfl (lv_room (Nat.le_of_ble_eq_true rfl)) dX9_findsWays_41 ⟨Nat.le_of_ble_eq_true rfl, Nat.le_of_ble_eq_true rfl⟩) (fun H locs hP hD hS => ?_)
          refine lv_aload_n hx hb dX9_findsWays_44 rfl (lv_at hl 0 rfl) ?_
          refine va_get (D := my_D Γ) (ci := 7) (v := .ref q_wy) (C := RX9) (T := TX9) (N := 19) hx hb hts hinX9 hown hK hP 0 rfl rfl 10 (by decide) (hts (.fieldLink RX9 32 "BeltFloorModel" "way" "[I") (List.mem_of_getElem? (i := 1) rfl)) (fun _ h9 => h9) rfl dX9_findsWays_45 ?_
          refine lv_iload_n hx hb dX9_findsWays_48 rfl (lv_at hl 2 rfl) ?_
          refine va_iald hx hb hK hP 1 0 rfl rfl hi_4 dX9_findsWays_49 ?_
          obtain ⟨r_8, hc_9, hm⟩ := bo1_s hm
          refine my_callP1 (wc := (wArr117 Γ q_s vs)) (w1 := (wArr117 Γ q_s vs)) (ws1 := (wStep Γ q_mo q_wy q_ah q_tg q_ws q_s q_tt q_nw q_tr q_ot q_di q_kp q_ik q_fr q_rw mi (upd vwy l2.toNatClampNeg r_2) vah vtg vws vs)) hP hD hS hA [5] rfl rfl rfl (va_runS (As := [.ref q_s, .int r_6, .int ((upd vwy l2.toNatClampNeg r_2) l2.toNatClampNeg)]) (rest := [.int l2, .ref q_ah]) ⟨hx, hb, hml, hown, hts⟩ (kX9_rowFrom l Γ q_s vs r_6 ((upd vwy l2.toNatClampNeg r_2) l2.toNatClampNeg) r_8 hc_9 _) (va_cwS 3 hts gX9_findsWays_X9_rowFrom rfl rfl rfl (by decide +kernel) ⟨Nat.le_of_ble_eq_true rfl, Nat.le_of_ble_eq_true rfl⟩) (my_preS (wc := (wArr117 Γ q_s vs)) [5] hK hP hD rfl rfl) rfl rfl hl.1 rfl (lv_room (Nat.le_of_ble_eq_true rfl)) dX9_findsWays_50 ⟨Nat.le_of_ble_eq_true rfl, Nat.le_of_ble_eq_true rfl⟩) (fun H locs hP hD hS => ?_)
          exact J_53 (fun vwy vah vs l2 => mX9_findsWays_L2 n vwy vah vs l2) ih (upd vwy l2.toNatClampNeg r_2) vah vs l2 l2 r_8 _ _ _ hP hD hS (lv_sub hl [0, 1, 2] rfl) hm
        · replace hm := if_s hm c_5
          refine lv_iconst (v := (-1 : Int32)) hx hb dX9_findsWays_33 (by decide) ?_
          refine lv_goto (tgt := 53) hx hb dX9_findsWays_34 (by decide) ?_
          exact J_53 (fun vwy vah vs l2 => mX9_findsWays_L2 n vwy vah vs l2) ih (upd vwy l2.toNatClampNeg r_2) vah vs l2 l2 (-1 : Int32) _ _ _ hP hD hS (lv_sub hl [0, 1, 2] rfl) hm
  unfold mX9_findsWays at hm
  refine lv_iconst (v := (0 : Int32)) hx hb dX9_findsWays_0 (by decide) ?_
  refine lv_istore_n (lv' := [(2, .int (0 : Int32)), (0, .ref q_mo), (1, .ref q_s)]) hx hb dX9_findsWays_1 rfl hl (by decide) rfl (fun ls hl => ?_)
  exact J_2 4096 vwy vah vs (0 : Int32) _ _ _ hP hD hS (lv_sub hl [1, 2, 0] rfl) hm
def mX9_clash_J111 (k55 : (Nat → Int32) → (Nat → Int32) → (Nat → Int32) → Int32 → Int32 → Int32 → Option (Int32)) (vwy : Nat → Int32) (vah : Nat → Int32) (vs : Nat → Int32) (l2 : Int32) (l4 : Int32) (s0 : Int32) : Option (Int32) := (k55 vwy vah vs l2 s0 (l4 + (1 : Int32)))
def mX9_clash_J106 (k55 : (Nat → Int32) → (Nat → Int32) → (Nat → Int32) → Int32 → Int32 → Int32 → Option (Int32)) (vwy : Nat → Int32) (vah : Nat → Int32) (vs : Nat → Int32) (l2 : Int32) (l4 : Int32) : Option (Int32) := (mX9_clash_J111 k55 vwy vah vs l2 l4 (1 : Int32))
def mX9_clash_L55  : Nat → (Nat → Int32) → (Nat → Int32) → (Nat → Int32) → Int32 → Int32 → Int32 → Option (Int32)
  | 0, _, _, _, _, _, _ => none
  | n + 1, vwy, vah, vs, l2, l3, l4 => (if (vah (0 : Int32).toNatClampNeg) < l4 then (if l3 = 0 ∨ l3 = 1 then (some l3) else none) else (if l3 = 0 then (bo1 (mX9_of vs (1 : Int32) (0 : Int32)) (fun r_12 => (bo1 (mX9_isOnWay r_12 (vwy (1 : Int32).toNatClampNeg) (vah (1 : Int32).toNatClampNeg) (mX9_next l2 (vwy (0 : Int32).toNatClampNeg))) (fun r_14 => (if r_14 = 0 then (mX9_clash_J111 (fun vwy vah vs l2 l3 l4 => mX9_clash_L55 n vwy vah vs l2 l3 l4) vwy vah vs (mX9_next l2 (vwy (0 : Int32).toNatClampNeg)) l4 (0 : Int32)) else (mX9_clash_J106 (fun vwy vah vs l2 l3 l4 => mX9_clash_L55 n vwy vah vs l2 l3 l4) vwy vah vs (mX9_next l2 (vwy (0 : Int32).toNatClampNeg)) l4)))))) else (mX9_clash_J106 (fun vwy vah vs l2 l3 l4 => mX9_clash_L55 n vwy vah vs l2 l3 l4) vwy vah vs (mX9_next l2 (vwy (0 : Int32).toNatClampNeg)) l4)))
def mX9_clash (vwy : Nat → Int32) (vah : Nat → Int32) (vs : Nat → Int32) : Option (Int32) := (if (vah (0 : Int32).toNatClampNeg) = (-1 : Int32) then (some (0 : Int32)) else (if (vah (1 : Int32).toNatClampNeg) = (-1 : Int32) then (some (0 : Int32)) else (bo1 (mX9_of vs (0 : Int32) (0 : Int32)) (fun r_3 => (bo1 (mX9_of vs (1 : Int32) (0 : Int32)) (fun r_5 => (bo1 (mX9_isOnWay r_5 (vwy (1 : Int32).toNatClampNeg) (vah (1 : Int32).toNatClampNeg) r_3) (fun r_7 => (mX9_clash_L55 4096 vwy vah vs r_3 r_7 (0 : Int32))))))))))
set_option maxHeartbeats 4000000 in
set_option maxRecDepth 100000 in
theorem kX9_clash (l : Launch) (Γ : my_G) (q_mo q_wy q_ah q_tg q_ws q_s q_tt q_nw q_tr q_ot q_di q_kp q_ik q_fr q_rw : Nat) (mi : Nat → Int32) (vwy : Nat → Int32) (vah : Nat → Int32) (vtg : Nat → Int32) (vws : Nat → Int32) (vs : Nat → Int32)  (rr : Int32) (hm : mX9_clash vwy vah vs = (some rr)) : Mn l yX9_clash wsX9_clash ({ frames := 3, cells := 0, slots := 0, locals := 73 } : Room) Γ [.ref q_mo, .ref q_s] (wStep Γ q_mo q_wy q_ah q_tg q_ws q_s q_tt q_nw q_tr q_ot q_di q_kp q_ik q_fr q_rw mi vwy vah vtg vws vs) (some (.int rr)) (wStep Γ q_mo q_wy q_ah q_tg q_ws q_s q_tt q_nw q_tr q_ot q_di q_kp q_ik q_fr q_rw mi vwy vah vtg vws vs) := by
  intro sz
  refine Met.ofW (cc := cX9_clash) (maxL := 5) (ret := (some .boolean)) (by decide) rfl ?_
  intro p e s m args below meth c s₁ B hml hv
  obtain ⟨rfl, hsz, hP, hK, hD0⟩ := hv
  have hx := B.exec
  have hb := B.bytes
  have hr := B.returns
  have hts := atoms_spec (ws := wsX9_clash) B.pre
  have hown : s.vm.findClass RX9 = some m.cls := findClass_of_methodNamed B.named
  have hlocks := B.notSynchronized
  have hinX9 : ∀ w ∈ u_ws RX9 TX9 19, w ∈ wsX9_clash := fun w h => List.mem_cons_of_mem _ (List.mem_append_right _ h)
  subst hsz
  have hD := hD0.self (sz := s.heap.size)
  have hA : ∀ q : Nat, s.heap.size ≤ q → va_A (wStep Γ q_mo q_wy q_ah q_tg q_ws q_s q_tt q_nw q_tr q_ot q_di q_kp q_ik q_fr q_rw mi vwy vah vtg vws vs) s.heap.size q := fun q h => Or.inr h
  generalize va_A (wStep Γ q_mo q_wy q_ah q_tg q_ws q_s q_tt q_nw q_tr q_ot q_di q_kp q_ik q_fr q_rw mi vwy vah vtg vws vs) s.heap.size = A at hD hA ⊢
  have hS : va_S A s.heap s.heap [] := va_S.rf
  have hl := lv_entry ([.ref q_mo, .ref q_s]) (n := 5) (Nat.le_of_ble_eq_true rfl)
  rw [lg_entry_eq]
  generalize (lg_sl ([.ref q_mo, .ref q_s]) ++ List.replicate (5 - (lg_sl ([.ref q_mo, .ref q_s])).length) Slot.unset).toArray = ls at hl ⊢
  replace hl : lv_has ls 5 [(0, .ref q_mo), (1, .ref q_s)] := hl
  have J_111 : ∀ (k55 : (Nat → Int32) → (Nat → Int32) → (Nat → Int32) → Int32 → Int32 → Int32 → Option (Int32)), (∀ (vwy : Nat → Int32) (vah : Nat → Int32) (vs : Nat → Int32) (l2 : Int32) (l3 : Int32) (l4 : Int32) (H : Heap) (locs : List Loc) (ls : Array Slot), va_P (my_D Γ) vwCl (wStep Γ q_mo q_wy q_ah q_tg q_ws q_s q_tt q_nw q_tr q_ot q_di q_kp q_ik q_fr q_rw mi vwy vah vtg vws vs) H → va_D A (wStep Γ q_mo q_wy q_ah q_tg q_ws q_s q_tt q_nw q_tr q_ot q_di q_kp q_ik q_fr q_rw mi vwy vah vtg vws vs) → va_S A s.heap H locs → lv_has ls 5 [(0, .ref q_mo), (1, .ref q_s), (2, .int l2), (3, .int l3), (4, .int l4)] → k55 vwy vah vs l2 l3 l4 = (some rr) → W p l e (headSpec wsX9_clash ({ frames := 3, cells := 0, slots := 0, locals := 73 } : Room)).room s m ([.ref q_mo, .ref q_s] : List Value).toArray below meth c H locs 0 0 (MQ below (my_Q Γ A (some (.int rr)) (wStep Γ q_mo q_wy q_ah q_tg q_ws q_s q_tt q_nw q_tr q_ot q_di q_kp q_ik q_fr q_rw mi vwy vah vtg vws vs)) ([.ref q_mo, .ref q_s] : List Value).toArray s 0 0 A) (F0 m 55 ls [])) → ∀ (vwy : Nat → Int32) (vah : Nat → Int32) (vs : Nat → Int32) (l2 : Int32) (l4 : Int32) (s0 : Int32) (H : Heap) (locs : List Loc) (ls : Array Slot), va_P (my_D Γ) vwCl (wStep Γ q_mo q_wy q_ah q_tg q_ws q_s q_tt q_nw q_tr q_ot q_di q_kp q_ik q_fr q_rw mi vwy vah vtg vws vs) H → va_D A (wStep Γ q_mo q_wy q_ah q_tg q_ws q_s q_tt q_nw q_tr q_ot q_di q_kp q_ik q_fr q_rw mi vwy vah vtg vws vs) → va_S A s.heap H locs → lv_has ls 5 [(0, .ref q_mo), (1, .ref q_s), (2, .int l2), (4, .int l4)] → mX9_clash_J111 k55 vwy vah vs l2 l4 s0 = (some rr) → W p l e (headSpec wsX9_clash ({ frames := 3, cells := 0, slots := 0, locals := 73 } : Room)).room s m ([.ref q_mo, .ref q_s] : List Value).toArray below meth c H locs 0 0 (MQ below (my_Q Γ A (some (.int rr)) (wStep Γ q_mo q_wy q_ah q_tg q_ws q_s q_tt q_nw q_tr q_ot q_di q_kp q_ik q_fr q_rw mi vwy vah vtg vws vs)) ([.ref q_mo, .ref q_s] : List Value).toArray s 0 0 A) (F0 m 111 ls [.int s0]) := by
    intro k55 hk55 vwy vah vs l2 l4 s0 H locs ls hP hD hS hl hm
    unfold mX9_clash_J111 at hm
    refine lv_istore_n (lv' := [(3, .int s0), (0, .ref q_mo), (1, .ref q_s), (2, .int l2), (4, .int l4)]) hx hb dX9_clash_111 rfl hl (by decide) rfl (fun ls hl => ?_)
    refine lv_iinc (v := (l4 + (1 : Int32))) (lv' := [(4, .int (l4 + (1 : Int32))), (3, .int s0), (0, .ref q_mo), (1, .ref q_s), (2, .int l2)]) hx hb dX9_clash_112 hl (k := 4) rfl rfl (by decide) rfl (fun ls hl => ?_)
    refine lv_goto (tgt := 55) hx hb dX9_clash_115 (by decide) ?_
    exact hk55 vwy vah vs l2 s0 (l4 + (1 : Int32)) _ _ _ hP hD hS (lv_sub hl [2, 3, 4, 1, 0] rfl) hm
  have J_106 : ∀ (k55 : (Nat → Int32) → (Nat → Int32) → (Nat → Int32) → Int32 → Int32 → Int32 → Option (Int32)), (∀ (vwy : Nat → Int32) (vah : Nat → Int32) (vs : Nat → Int32) (l2 : Int32) (l3 : Int32) (l4 : Int32) (H : Heap) (locs : List Loc) (ls : Array Slot), va_P (my_D Γ) vwCl (wStep Γ q_mo q_wy q_ah q_tg q_ws q_s q_tt q_nw q_tr q_ot q_di q_kp q_ik q_fr q_rw mi vwy vah vtg vws vs) H → va_D A (wStep Γ q_mo q_wy q_ah q_tg q_ws q_s q_tt q_nw q_tr q_ot q_di q_kp q_ik q_fr q_rw mi vwy vah vtg vws vs) → va_S A s.heap H locs → lv_has ls 5 [(0, .ref q_mo), (1, .ref q_s), (2, .int l2), (3, .int l3), (4, .int l4)] → k55 vwy vah vs l2 l3 l4 = (some rr) → W p l e (headSpec wsX9_clash ({ frames := 3, cells := 0, slots := 0, locals := 73 } : Room)).room s m ([.ref q_mo, .ref q_s] : List Value).toArray below meth c H locs 0 0 (MQ below (my_Q Γ A (some (.int rr)) (wStep Γ q_mo q_wy q_ah q_tg q_ws q_s q_tt q_nw q_tr q_ot q_di q_kp q_ik q_fr q_rw mi vwy vah vtg vws vs)) ([.ref q_mo, .ref q_s] : List Value).toArray s 0 0 A) (F0 m 55 ls [])) → ∀ (vwy : Nat → Int32) (vah : Nat → Int32) (vs : Nat → Int32) (l2 : Int32) (l4 : Int32) (H : Heap) (locs : List Loc) (ls : Array Slot), va_P (my_D Γ) vwCl (wStep Γ q_mo q_wy q_ah q_tg q_ws q_s q_tt q_nw q_tr q_ot q_di q_kp q_ik q_fr q_rw mi vwy vah vtg vws vs) H → va_D A (wStep Γ q_mo q_wy q_ah q_tg q_ws q_s q_tt q_nw q_tr q_ot q_di q_kp q_ik q_fr q_rw mi vwy vah vtg vws vs) → va_S A s.heap H locs → lv_has ls 5 [(0, .ref q_mo), (1, .ref q_s), (2, .int l2), (4, .int l4)] → mX9_clash_J106 k55 vwy vah vs l2 l4 = (some rr) → W p l e (headSpec wsX9_clash ({ frames := 3, cells := 0, slots := 0, locals := 73 } : Room)).room s m ([.ref q_mo, .ref q_s] : List Value).toArray below meth c H locs 0 0 (MQ below (my_Q Γ A (some (.int rr)) (wStep Γ q_mo q_wy q_ah q_tg q_ws q_s q_tt q_nw q_tr q_ot q_di q_kp q_ik q_fr q_rw mi vwy vah vtg vws vs)) ([.ref q_mo, .ref q_s] : List Value).toArray s 0 0 A) (F0 m 106 ls []) := by
    intro k55 hk55 vwy vah vs l2 l4 H locs ls hP hD hS hl hm
    unfold mX9_clash_J106 at hm
    refine lv_iconst (v := (1 : Int32)) hx hb dX9_clash_106 (by decide) ?_
    refine lv_goto (tgt := 111) hx hb dX9_clash_107 (by decide) ?_
    exact J_111 k55 hk55 vwy vah vs l2 l4 (1 : Int32) _ _ _ hP hD hS (lv_sub hl [0, 1, 2, 3] rfl) hm
  have J_55 : ∀ n : Nat, ∀ (vwy : Nat → Int32) (vah : Nat → Int32) (vs : Nat → Int32) (l2 : Int32) (l3 : Int32) (l4 : Int32) (H : Heap) (locs : List Loc) (ls : Array Slot), va_P (my_D Γ) vwCl (wStep Γ q_mo q_wy q_ah q_tg q_ws q_s q_tt q_nw q_tr q_ot q_di q_kp q_ik q_fr q_rw mi vwy vah vtg vws vs) H → va_D A (wStep Γ q_mo q_wy q_ah q_tg q_ws q_s q_tt q_nw q_tr q_ot q_di q_kp q_ik q_fr q_rw mi vwy vah vtg vws vs) → va_S A s.heap H locs → lv_has ls 5 [(0, .ref q_mo), (1, .ref q_s), (2, .int l2), (3, .int l3), (4, .int l4)] → mX9_clash_L55 n vwy vah vs l2 l3 l4 = (some rr) → W p l e (headSpec wsX9_clash ({ frames := 3, cells := 0, slots := 0, locals := 73 } : Room)).room s m ([.ref q_mo, .ref q_s] : List Value).toArray below meth c H locs 0 0 (MQ below (my_Q Γ A (some (.int rr)) (wStep Γ q_mo q_wy q_ah q_tg q_ws q_s q_tt q_nw q_tr q_ot q_di q_kp q_ik q_fr q_rw mi vwy vah vtg vws vs)) ([.ref q_mo, .ref q_s] : List Value).toArray s 0 0 A) (F0 m 55 ls []) := by
    intro  n
    induction n with
    | zero => intro vwy vah vs l2 l3 l4 H locs ls hP hD hS hl hm; cases hm
    | succ n ih =>
      intro vwy vah vs l2 l3 l4 H locs ls hP hD hS hl hm
      unfold mX9_clash_L55 at hm
      refine lv_iload hx hb dX9_clash_55 (lv_at hl 4 rfl) ?_
      refine lv_aload_n hx hb dX9_clash_57 rfl (lv_at hl 0 rfl) ?_
      refine va_get (D := my_D Γ) (ci := 7) (v := .ref q_ah) (C := RX9) (T := TX9) (N := 19) hx hb hts hinX9 hown hK hP 0 rfl rfl 11 (by decide) (hts (.fieldLink RX9 35 "BeltFloorModel" "ahead" "[I") (List.mem_of_getElem? (i := 1) rfl)) (fun _ h9 => h9) rfl dX9_clash_58 ?_
      refine lv_iconst (v := (0 : Int32)) hx hb dX9_clash_61 (by decide) ?_
      refine va_iald hx hb hK hP 2 0 rfl rfl (show vp_in (0 : Int32) 2 from (by decide : ¬ ((0 : Int32) < 0 ∨ 2 ≤ (0 : Int32).toNatClampNeg))) dX9_clash_62 ?_
      refine lv_icmp_gt (tgt := 118) hx hb dX9_clash_63 (by decide) (fun c_9 => ?_) (fun c_9 => ?_)
      · replace hm := if_s hm c_9
        refine lv_iload_n hx hb dX9_clash_118 rfl (lv_at hl 3 rfl) ?_
        obtain ⟨hz_10, hm⟩ := if_bz hm
        obtain hf0 := Option.some.inj hm
        subst hf0
        exact W.zret (v := l3) hx hb hr hz_10 (fun t ht hW => ⟨⟨rfl, by rw [ht]; exact hP⟩, hS.F ht⟩) hS.2.2 dX9_clash_119
      · replace hm := if_f hm c_9
        refine lv_iload_n hx hb dX9_clash_66 rfl (lv_at hl 2 rfl) ?_
        refine lv_aload_n hx hb dX9_clash_67 rfl (lv_at hl 0 rfl) ?_
        refine va_get (D := my_D Γ) (ci := 7) (v := .ref q_wy) (C := RX9) (T := TX9) (N := 19) hx hb hts hinX9 hown hK hP 0 rfl rfl 10 (by decide) (hts (.fieldLink RX9 32 "BeltFloorModel" "way" "[I") (List.mem_of_getElem? (i := 2) rfl)) (fun _ h9 => h9) rfl dX9_clash_68 ?_
        refine lv_iconst (v := (0 : Int32)) hx hb dX9_clash_71 (by decide) ?_
        refine va_iald hx hb hK hP 1 0 rfl rfl (show vp_in (0 : Int32) 2 from (by decide : ¬ ((0 : Int32) < 0 ∨ 2 ≤ (0 : Int32).toNatClampNeg))) dX9_clash_72 ?_
        refine my_callP1 (wc := ([] : va_W)) (w1 := ([] : va_W)) (ws1 := (wStep Γ q_mo q_wy q_ah q_tg q_ws q_s q_tt q_nw q_tr q_ot q_di q_kp q_ik q_fr q_rw mi vwy vah vtg vws vs)) hP hD hS hA [] rfl rfl rfl (va_runS (As := [.int l2, .int (vwy (0 : Int32).toNatClampNeg)]) (rest := []) ⟨hx, hb, hml, hown, hts⟩ (kX9_next l Γ l2 (vwy (0 : Int32).toNatClampNeg) (mX9_next l2 (vwy (0 : Int32).toNatClampNeg)) rfl _) (va_cwS 2 hts gX9_clash_X9_next rfl rfl rfl (by decide +kernel) ⟨Nat.le_of_ble_eq_true rfl, Nat.le_of_ble_eq_true rfl⟩) (my_preS (wc := ([] : va_W)) [] hK hP hD rfl rfl) rfl rfl hl.1 rfl (lv_room (Nat.le_of_ble_eq_true rfl)) dX9_clash_73 ⟨Nat.le_of_ble_eq_true rfl, Nat.le_of_ble_eq_true rfl⟩) (fun H locs hP hD hS => ?_)
        refine lv_istore_n (lv' := [(2, .int (mX9_next l2 (vwy (0 : Int32).toNatClampNeg))), (0, .ref q_mo), (1, .ref q_s), (3, .int l3), (4, .int l4)]) hx hb dX9_clash_76 rfl hl (by decide) rfl (fun ls hl => ?_)
        refine lv_iload_n hx hb dX9_clash_77 rfl (lv_at hl 3 rfl) ?_
        refine lv_if_ne (tgt := 106) hx hb dX9_clash_78 (by decide) (fun c_11 => ?_) (fun c_11 => ?_)
        · replace hm := if_f hm c_11
          exact J_106 (fun vwy vah vs l2 l3 l4 => mX9_clash_L55 n vwy vah vs l2 l3 l4) ih vwy vah vs (mX9_next l2 (vwy (0 : Int32).toNatClampNeg)) l4 _ _ _ hP hD hS (lv_sub hl [1, 2, 0, 4] rfl) hm
        · replace hm := if_s hm c_11
          refine lv_aload_n hx hb dX9_clash_81 rfl (lv_at hl 2 rfl) ?_
          refine lv_iconst (v := (1 : Int32)) hx hb dX9_clash_82 (by decide) ?_
          refine lv_iconst (v := (0 : Int32)) hx hb dX9_clash_83 (by decide) ?_
          obtain ⟨r_12, hc_13, hm⟩ := bo1_s hm
          refine my_callP1 (wc := (wArr117 Γ q_s vs)) (w1 := (wArr117 Γ q_s vs)) (ws1 := (wStep Γ q_mo q_wy q_ah q_tg q_ws q_s q_tt q_nw q_tr q_ot q_di q_kp q_ik q_fr q_rw mi vwy vah vtg vws vs)) hP hD hS hA [5] rfl rfl rfl (va_runS (As := [.ref q_s, .int (1 : Int32), .int (0 : Int32)]) (rest := []) ⟨hx, hb, hml, hown, hts⟩ (kX9_of l Γ q_s vs (1 : Int32) (0 : Int32) r_12 hc_13 _) (va_cwS 3 hts gX9_clash_X9_of rfl rfl rfl (by decide +kernel) ⟨Nat.le_of_ble_eq_true rfl, Nat.le_of_ble_eq_true rfl⟩) (my_preS (wc := (wArr117 Γ q_s vs)) [5] hK hP hD rfl rfl) rfl rfl hl.1 rfl (lv_room (Nat.le_of_ble_eq_true rfl)) dX9_clash_84 ⟨Nat.le_of_ble_eq_true rfl, Nat.le_of_ble_eq_true rfl⟩) (fun H locs hP hD hS => ?_)
          refine lv_aload_n hx hb dX9_clash_87 rfl (lv_at hl 1 rfl) ?_
          refine va_get (D := my_D Γ) (ci := 7) (v := .ref q_wy) (C := RX9) (T := TX9) (N := 19) hx hb hts hinX9 hown hK hP 0 rfl rfl 10 (by decide) (hts (.fieldLink RX9 32 "BeltFloorModel" "way" "[I") (List.mem_of_getElem? (i := 2) rfl)) (fun _ h9 => h9) rfl dX9_clash_88 ?_
          refine lv_iconst (v := (1 : Int32)) hx hb dX9_clash_91 (by decide) ?_
          refine va_iald hx hb hK hP 1 0 rfl rfl (show vp_in (1 : Int32) 2 from (by decide : ¬ ((1 : Int32) < 0 ∨ 2 ≤ (1 : Int32).toNatClampNeg))) dX9_clash_92 ?_
          refine lv_aload_n hx hb dX9_clash_93 rfl (lv_at hl 1 rfl) ?_
          refine va_get (D := my_D Γ) (ci := 7) (v := .ref q_ah) (C := RX9) (T := TX9) (N := 19) hx hb hts hinX9 hown hK hP 0 rfl rfl 11 (by decide) (hts (.fieldLink RX9 35 "BeltFloorModel" "ahead" "[I") (List.mem_of_getElem? (i := 1) rfl)) (fun _ h9 => h9) rfl dX9_clash_94 ?_
          refine lv_iconst (v := (1 : Int32)) hx hb dX9_clash_97 (by decide) ?_
          refine va_iald hx hb hK hP 2 0 rfl rfl (show vp_in (1 : Int32) 2 from (by decide : ¬ ((1 : Int32) < 0 ∨ 2 ≤ (1 : Int32).toNatClampNeg))) dX9_clash_98 ?_
          refine lv_iload_n hx hb dX9_clash_99 rfl (lv_at hl 0 rfl) ?_
          obtain ⟨r_14, hc_15, hm⟩ := bo1_s hm
          refine my_callP1 (wc := ([] : va_W)) (w1 := ([] : va_W)) (ws1 := (wStep Γ q_mo q_wy q_ah q_tg q_ws q_s q_tt q_nw q_tr q_ot q_di q_kp q_ik q_fr q_rw mi vwy vah vtg vws vs)) hP hD hS hA [] rfl rfl rfl (va_runS (As := [.int r_12, .int (vwy (1 : Int32).toNatClampNeg), .int (vah (1 : Int32).toNatClampNeg), .int (mX9_next l2 (vwy (0 : Int32).toNatClampNeg))]) (rest := []) ⟨hx, hb, hml, hown, hts⟩ (kX9_isOnWay l Γ r_12 (vwy (1 : Int32).toNatClampNeg) (vah (1 : Int32).toNatClampNeg) (mX9_next l2 (vwy (0 : Int32).toNatClampNeg)) r_14 hc_15 _) (va_cwS 4 hts gX9_clash_X9_isOnWay rfl rfl rfl (by decide +kernel) ⟨Nat.le_of_ble_eq_true rfl, Nat.le_of_ble_eq_true rfl⟩) (my_preS (wc := ([] : va_W)) [] hK hP hD rfl rfl) rfl rfl hl.1 rfl (lv_room (Nat.le_of_ble_eq_true rfl)) dX9_clash_100 ⟨Nat.le_of_ble_eq_true rfl, Nat.le_of_ble_eq_true rfl⟩) (fun H locs hP hD hS => ?_)
          refine lv_if_eq (tgt := 110) hx hb dX9_clash_103 (by decide) (fun c_16 => ?_) (fun c_16 => ?_)
          · replace hm := if_s hm c_16
            refine lv_iconst (v := (0 : Int32)) hx hb dX9_clash_110 (by decide) ?_
            exact J_111 (fun vwy vah vs l2 l3 l4 => mX9_clash_L55 n vwy vah vs l2 l3 l4) ih vwy vah vs (mX9_next l2 (vwy (0 : Int32).toNatClampNeg)) l4 (0 : Int32) _ _ _ hP hD hS (lv_sub hl [1, 2, 0, 4] rfl) hm
          · replace hm := if_f hm c_16
            exact J_106 (fun vwy vah vs l2 l3 l4 => mX9_clash_L55 n vwy vah vs l2 l3 l4) ih vwy vah vs (mX9_next l2 (vwy (0 : Int32).toNatClampNeg)) l4 _ _ _ hP hD hS (lv_sub hl [1, 2, 0, 4] rfl) hm
  unfold mX9_clash at hm
  refine lv_aload_n hx hb dX9_clash_0 rfl (lv_at hl 0 rfl) ?_
  refine va_get (D := my_D Γ) (ci := 7) (v := .ref q_ah) (C := RX9) (T := TX9) (N := 19) hx hb hts hinX9 hown hK hP 0 rfl rfl 11 (by decide) (hts (.fieldLink RX9 35 "BeltFloorModel" "ahead" "[I") (List.mem_of_getElem? (i := 1) rfl)) (fun _ h9 => h9) rfl dX9_clash_1 ?_
  refine lv_iconst (v := (0 : Int32)) hx hb dX9_clash_4 (by decide) ?_
  refine va_iald hx hb hK hP 2 0 rfl rfl (show vp_in (0 : Int32) 2 from (by decide : ¬ ((0 : Int32) < 0 ∨ 2 ≤ (0 : Int32).toNatClampNeg))) dX9_clash_5 ?_
  refine lv_iconst (v := (-1 : Int32)) hx hb dX9_clash_6 (by decide) ?_
  refine lv_icmp_eq (tgt := 20) hx hb dX9_clash_7 (by decide) (fun c_1 => ?_) (fun c_1 => ?_)
  · replace hm := if_s hm c_1
    refine lv_iconst (v := (0 : Int32)) hx hb dX9_clash_20 (by decide) ?_
    obtain hf0 := Option.some.inj hm
    subst hf0
    exact W.zret (v := (0 : Int32)) hx hb hr rfl (fun t ht hW => ⟨⟨rfl, by rw [ht]; exact hP⟩, hS.F ht⟩) hS.2.2 dX9_clash_21
  · replace hm := if_f hm c_1
    refine lv_aload_n hx hb dX9_clash_10 rfl (lv_at hl 0 rfl) ?_
    refine va_get (D := my_D Γ) (ci := 7) (v := .ref q_ah) (C := RX9) (T := TX9) (N := 19) hx hb hts hinX9 hown hK hP 0 rfl rfl 11 (by decide) (hts (.fieldLink RX9 35 "BeltFloorModel" "ahead" "[I") (List.mem_of_getElem? (i := 1) rfl)) (fun _ h9 => h9) rfl dX9_clash_11 ?_
    refine lv_iconst (v := (1 : Int32)) hx hb dX9_clash_14 (by decide) ?_
    refine va_iald hx hb hK hP 2 0 rfl rfl (show vp_in (1 : Int32) 2 from (by decide : ¬ ((1 : Int32) < 0 ∨ 2 ≤ (1 : Int32).toNatClampNeg))) dX9_clash_15 ?_
    refine lv_iconst (v := (-1 : Int32)) hx hb dX9_clash_16 (by decide) ?_
    refine lv_icmp_ne (tgt := 22) hx hb dX9_clash_17 (by decide) (fun c_2 => ?_) (fun c_2 => ?_)
    · replace hm := if_f hm c_2
      refine lv_aload_n hx hb dX9_clash_22 rfl (lv_at hl 1 rfl) ?_
      refine lv_iconst (v := (0 : Int32)) hx hb dX9_clash_23 (by decide) ?_
      refine lv_iconst (v := (0 : Int32)) hx hb dX9_clash_24 (by decide) ?_
      obtain ⟨r_3, hc_4, hm⟩ := bo1_s hm
      refine my_callP1 (wc := (wArr117 Γ q_s vs)) (w1 := (wArr117 Γ q_s vs)) (ws1 := (wStep Γ q_mo q_wy q_ah q_tg q_ws q_s q_tt q_nw q_tr q_ot q_di q_kp q_ik q_fr q_rw mi vwy vah vtg vws vs)) hP hD hS hA [5] rfl rfl rfl (va_runS (As := [.ref q_s, .int (0 : Int32), .int (0 : Int32)]) (rest := []) ⟨hx, hb, hml, hown, hts⟩ (kX9_of l Γ q_s vs (0 : Int32) (0 : Int32) r_3 hc_4 _) (va_cwS 3 hts gX9_clash_X9_of rfl rfl rfl (by decide +kernel) ⟨Nat.le_of_ble_eq_true rfl, Nat.le_of_ble_eq_true rfl⟩) (my_preS (wc := (wArr117 Γ q_s vs)) [5] hK hP hD rfl rfl) rfl rfl hl.1 rfl (lv_room (Nat.le_of_ble_eq_true rfl)) dX9_clash_25 ⟨Nat.le_of_ble_eq_true rfl, Nat.le_of_ble_eq_true rfl⟩) (fun H locs hP hD hS => ?_)
      refine lv_istore_n (lv' := [(2, .int r_3), (0, .ref q_mo), (1, .ref q_s)]) hx hb dX9_clash_28 rfl hl (by decide) rfl (fun ls hl => ?_)
      refine lv_aload_n hx hb dX9_clash_29 rfl (lv_at hl 2 rfl) ?_
      refine lv_iconst (v := (1 : Int32)) hx hb dX9_clash_30 (by decide) ?_
      refine lv_iconst (v := (0 : Int32)) hx hb dX9_clash_31 (by decide) ?_
      obtain ⟨r_5, hc_6, hm⟩ := bo1_s hm
      refine my_callP1 (wc := (wArr117 Γ q_s vs)) (w1 := (wArr117 Γ q_s vs)) (ws1 := (wStep Γ q_mo q_wy q_ah q_tg q_ws q_s q_tt q_nw q_tr q_ot q_di q_kp q_ik q_fr q_rw mi vwy vah vtg vws vs)) hP hD hS hA [5] rfl rfl rfl (va_runS (As := [.ref q_s, .int (1 : Int32), .int (0 : Int32)]) (rest := []) ⟨hx, hb, hml, hown, hts⟩ (kX9_of l Γ q_s vs (1 : Int32) (0 : Int32) r_5 hc_6 _) (va_cwS 3 hts gX9_clash_X9_of rfl rfl rfl (by decide +kernel) ⟨Nat.le_of_ble_eq_true rfl, Nat.le_of_ble_eq_true rfl⟩) (my_preS (wc := (wArr117 Γ q_s vs)) [5] hK hP hD rfl rfl) rfl rfl hl.1 rfl (lv_room (Nat.le_of_ble_eq_true rfl)) dX9_clash_32 ⟨Nat.le_of_ble_eq_true rfl, Nat.le_of_ble_eq_true rfl⟩) (fun H locs hP hD hS => ?_)
      refine lv_aload_n hx hb dX9_clash_35 rfl (lv_at hl 1 rfl) ?_
      refine va_get (D := my_D Γ) (ci := 7) (v := .ref q_wy) (C := RX9) (T := TX9) (N := 19) hx hb hts hinX9 hown hK hP 0 rfl rfl 10 (by decide) (hts (.fieldLink RX9 32 "BeltFloorModel" "way" "[I") (List.mem_of_getElem? (i := 2) rfl)) (fun _ h9 => h9) rfl dX9_clash_36 ?_
      refine lv_iconst (v := (1 : Int32)) hx hb dX9_clash_39 (by decide) ?_
      refine va_iald hx hb hK hP 1 0 rfl rfl (show vp_in (1 : Int32) 2 from (by decide : ¬ ((1 : Int32) < 0 ∨ 2 ≤ (1 : Int32).toNatClampNeg))) dX9_clash_40 ?_
      refine lv_aload_n hx hb dX9_clash_41 rfl (lv_at hl 1 rfl) ?_
      refine va_get (D := my_D Γ) (ci := 7) (v := .ref q_ah) (C := RX9) (T := TX9) (N := 19) hx hb hts hinX9 hown hK hP 0 rfl rfl 11 (by decide) (hts (.fieldLink RX9 35 "BeltFloorModel" "ahead" "[I") (List.mem_of_getElem? (i := 1) rfl)) (fun _ h9 => h9) rfl dX9_clash_42 ?_
      refine lv_iconst (v := (1 : Int32)) hx hb dX9_clash_45 (by decide) ?_
      refine va_iald hx hb hK hP 2 0 rfl rfl (show vp_in (1 : Int32) 2 from (by decide : ¬ ((1 : Int32) < 0 ∨ 2 ≤ (1 : Int32).toNatClampNeg))) dX9_clash_46 ?_
      refine lv_iload_n hx hb dX9_clash_47 rfl (lv_at hl 0 rfl) ?_
      obtain ⟨r_7, hc_8, hm⟩ := bo1_s hm
      refine my_callP1 (wc := ([] : va_W)) (w1 := ([] : va_W)) (ws1 := (wStep Γ q_mo q_wy q_ah q_tg q_ws q_s q_tt q_nw q_tr q_ot q_di q_kp q_ik q_fr q_rw mi vwy vah vtg vws vs)) hP hD hS hA [] rfl rfl rfl (va_runS (As := [.int r_5, .int (vwy (1 : Int32).toNatClampNeg), .int (vah (1 : Int32).toNatClampNeg), .int r_3]) (rest := []) ⟨hx, hb, hml, hown, hts⟩ (kX9_isOnWay l Γ r_5 (vwy (1 : Int32).toNatClampNeg) (vah (1 : Int32).toNatClampNeg) r_3 r_7 hc_8 _) (va_cwS 4 hts gX9_clash_X9_isOnWay rfl rfl rfl (by decide +kernel) ⟨Nat.le_of_ble_eq_true rfl, Nat.le_of_ble_eq_true rfl⟩) (my_preS (wc := ([] : va_W)) [] hK hP hD rfl rfl) rfl rfl hl.1 rfl (lv_room (Nat.le_of_ble_eq_true rfl)) dX9_clash_48 ⟨Nat.le_of_ble_eq_true rfl, Nat.le_of_ble_eq_true rfl⟩) (fun H locs hP hD hS => ?_)
      refine lv_istore_n (lv' := [(3, .int r_7), (2, .int r_3), (0, .ref q_mo), (1, .ref q_s)]) hx hb dX9_clash_51 rfl hl (by decide) rfl (fun ls hl => ?_)
      refine lv_iconst (v := (0 : Int32)) hx hb dX9_clash_52 (by decide) ?_
      refine lv_istore (lv' := [(4, .int (0 : Int32)), (3, .int r_7), (2, .int r_3), (0, .ref q_mo), (1, .ref q_s)]) hx hb dX9_clash_53 hl (by decide) rfl (fun ls hl => ?_)
      exact J_55 4096 vwy vah vs r_3 r_7 (0 : Int32) _ _ _ hP hD hS (lv_sub hl [3, 4, 2, 1, 0] rfl) hm
    · replace hm := if_s hm c_2
      refine lv_iconst (v := (0 : Int32)) hx hb dX9_clash_20 (by decide) ?_
      obtain hf0 := Option.some.inj hm
      subst hf0
      exact W.zret (v := (0 : Int32)) hx hb hr rfl (fun t ht hW => ⟨⟨rfl, by rw [ht]; exact hP⟩, hS.F ht⟩) hS.2.2 dX9_clash_21
def mX9_moves_L58  : Nat → (Nat → Int32) → (Nat → Int32) → (Nat → Int32) → Int32 → Int32 → Int32 → Int32 → Option ((Nat → Int32))
  | 0, _, _, _, _, _, _, _ => none
  | n + 1, vwy, vah, vs, l2, l4, l5, l6 => (if ¬ (l2 < 0 ∨ 2 ≤ l2.toNatClampNeg) then (if (vah l2.toNatClampNeg) < l6 then (bo1 (mX9_adds vs l2 (3 : Int32) (1 : Int32)) (fun vs_7 => (bo1 (mX9_adds vs_7 l2 (5 : Int32) (vah l2.toNatClampNeg)) (fun vs_9 => (some vs_9))))) else (bo1 (mX9_carry vs l4 (mX9_next l4 (vwy l2.toNatClampNeg))) (fun vs_11 => (mX9_moves_L58 n vwy vah vs_11 l2 (mX9_next l4 l5) l5 (l6 + (1 : Int32)))))) else none)
def mX9_moves_L13  : Nat → (Nat → Int32) → (Nat → Int32) → (Nat → Int32) → Int32 → Int32 → Int32 → Option ((Nat → Int32))
  | 0, _, _, _, _, _, _ => none
  | n + 1, vwy, vah, vs, l2, l4, l5 => (if ¬ (l2 < 0 ∨ 2 ≤ l2.toNatClampNeg) then (if (vah l2.toNatClampNeg) ≤ l5 then (mX9_moves_L58 4096 vwy vah vs l2 l4 (jrem ((vwy l2.toNatClampNeg) + (2 : Int32)) (4 : Int32)) (0 : Int32)) else (mX9_moves_L13 n vwy vah vs l2 (mX9_next l4 (vwy l2.toNatClampNeg)) (l5 + (1 : Int32)))) else none)
def mX9_moves (vwy : Nat → Int32) (vah : Nat → Int32) (vs : Nat → Int32) (x1 : Int32) : Option ((Nat → Int32)) := (bo1 (mX9_of vs x1 (0 : Int32)) (fun r_1 => (mX9_moves_L13 4096 vwy vah vs x1 r_1 (0 : Int32))))
set_option maxHeartbeats 4000000 in
set_option maxRecDepth 100000 in
theorem kX9_moves (l : Launch) (Γ : my_G) (q_mo q_wy q_ah q_tg q_ws q_s q_tt q_nw q_tr q_ot q_di q_kp q_ik q_fr q_rw : Nat) (mi : Nat → Int32) (vwy : Nat → Int32) (vah : Nat → Int32) (vtg : Nat → Int32) (vws : Nat → Int32) (vs : Nat → Int32) (x1 : Int32) (vs_z : Nat → Int32) (hm : mX9_moves vwy vah vs x1 = (some vs_z)) : Mn l yX9_moves wsX9_moves ({ frames := 3, cells := 0, slots := 0, locals := 66 } : Room) Γ [.ref q_mo, .ref q_s, .int x1] (wStep Γ q_mo q_wy q_ah q_tg q_ws q_s q_tt q_nw q_tr q_ot q_di q_kp q_ik q_fr q_rw mi vwy vah vtg vws vs) none (wStep Γ q_mo q_wy q_ah q_tg q_ws q_s q_tt q_nw q_tr q_ot q_di q_kp q_ik q_fr q_rw mi vwy vah vtg vws vs_z) := by
  intro sz
  refine Met.ofW (cc := cX9_moves) (maxL := 7) (ret := none) (by decide) rfl ?_
  intro p e s m args below meth c s₁ B hml hv
  obtain ⟨rfl, hsz, hP, hK, hD0⟩ := hv
  have hx := B.exec
  have hb := B.bytes
  have hr := B.returns
  have hts := atoms_spec (ws := wsX9_moves) B.pre
  have hown : s.vm.findClass RX9 = some m.cls := findClass_of_methodNamed B.named
  have hlocks := B.notSynchronized
  have hinX9 : ∀ w ∈ u_ws RX9 TX9 19, w ∈ wsX9_moves := fun w h => List.mem_cons_of_mem _ (List.mem_append_right _ h)
  subst hsz
  have hD := hD0.self (sz := s.heap.size)
  have hA : ∀ q : Nat, s.heap.size ≤ q → va_A (wStep Γ q_mo q_wy q_ah q_tg q_ws q_s q_tt q_nw q_tr q_ot q_di q_kp q_ik q_fr q_rw mi vwy vah vtg vws vs) s.heap.size q := fun q h => Or.inr h
  generalize va_A (wStep Γ q_mo q_wy q_ah q_tg q_ws q_s q_tt q_nw q_tr q_ot q_di q_kp q_ik q_fr q_rw mi vwy vah vtg vws vs) s.heap.size = A at hD hA ⊢
  have hS : va_S A s.heap s.heap [] := va_S.rf
  have hl := lv_entry ([.ref q_mo, .ref q_s, .int x1]) (n := 7) (Nat.le_of_ble_eq_true rfl)
  rw [lg_entry_eq]
  generalize (lg_sl ([.ref q_mo, .ref q_s, .int x1]) ++ List.replicate (7 - (lg_sl ([.ref q_mo, .ref q_s, .int x1])).length) Slot.unset).toArray = ls at hl ⊢
  replace hl : lv_has ls 7 [(0, .ref q_mo), (1, .ref q_s), (2, .int x1)] := hl
  have J_58 : ∀ n : Nat, ∀ (vwy : Nat → Int32) (vah : Nat → Int32) (vs : Nat → Int32) (l2 : Int32) (l4 : Int32) (l5 : Int32) (l6 : Int32) (H : Heap) (locs : List Loc) (ls : Array Slot), va_P (my_D Γ) vwCl (wStep Γ q_mo q_wy q_ah q_tg q_ws q_s q_tt q_nw q_tr q_ot q_di q_kp q_ik q_fr q_rw mi vwy vah vtg vws vs) H → va_D A (wStep Γ q_mo q_wy q_ah q_tg q_ws q_s q_tt q_nw q_tr q_ot q_di q_kp q_ik q_fr q_rw mi vwy vah vtg vws vs) → va_S A s.heap H locs → lv_has ls 7 [(0, .ref q_mo), (1, .ref q_s), (2, .int l2), (4, .int l4), (5, .int l5), (6, .int l6)] → mX9_moves_L58 n vwy vah vs l2 l4 l5 l6 = (some vs_z) → W p l e (headSpec wsX9_moves ({ frames := 3, cells := 0, slots := 0, locals := 66 } : Room)).room s m ([.ref q_mo, .ref q_s, .int x1] : List Value).toArray below meth c H locs 0 0 (MQ below (my_Q Γ A none (wStep Γ q_mo q_wy q_ah q_tg q_ws q_s q_tt q_nw q_tr q_ot q_di q_kp q_ik q_fr q_rw mi vwy vah vtg vws vs_z)) ([.ref q_mo, .ref q_s, .int x1] : List Value).toArray s 0 0 A) (F0 m 58 ls []) := by
    intro  n
    induction n with
    | zero => intro vwy vah vs l2 l4 l5 l6 H locs ls hP hD hS hl hm; cases hm
    | succ n ih =>
      intro vwy vah vs l2 l4 l5 l6 H locs ls hP hD hS hl hm
      unfold mX9_moves_L58 at hm
      refine lv_iload hx hb dX9_moves_58 (lv_at hl 5 rfl) ?_
      refine lv_aload_n hx hb dX9_moves_60 rfl (lv_at hl 0 rfl) ?_
      refine va_get (D := my_D Γ) (ci := 7) (v := .ref q_ah) (C := RX9) (T := TX9) (N := 19) hx hb hts hinX9 hown hK hP 0 rfl rfl 11 (by decide) (hts (.fieldLink RX9 35 "BeltFloorModel" "ahead" "[I") (List.mem_of_getElem? (i := 1) rfl)) (fun _ h9 => h9) rfl dX9_moves_61 ?_
      refine lv_iload_n hx hb dX9_moves_64 rfl (lv_at hl 2 rfl) ?_
      obtain ⟨hi_5, hm⟩ := if_in hm
      refine va_iald hx hb hK hP 2 0 rfl rfl hi_5 dX9_moves_65 ?_
      refine lv_icmp_gt (tgt := 101) hx hb dX9_moves_66 (by decide) (fun c_6 => ?_) (fun c_6 => ?_)
      · replace hm := if_s hm c_6
        refine lv_aload_n hx hb dX9_moves_101 rfl (lv_at hl 1 rfl) ?_
        refine lv_iload_n hx hb dX9_moves_102 rfl (lv_at hl 2 rfl) ?_
        refine lv_iconst (v := (3 : Int32)) hx hb dX9_moves_103 (by decide) ?_
        refine lv_iconst (v := (1 : Int32)) hx hb dX9_moves_104 (by decide) ?_
        obtain ⟨vs_7, hc_8, hm⟩ := bo1_s hm
        refine my_callP0 (wc := (wArr117 Γ q_s vs)) (w1 := (wArr117 Γ q_s vs_7)) (ws1 := (wStep Γ q_mo q_wy q_ah q_tg q_ws q_s q_tt q_nw q_tr q_ot q_di q_kp q_ik q_fr q_rw mi vwy vah vtg vws vs_7)) hP hD hS hA [5] rfl rfl rfl (va_runS (As := [.ref q_s, .int l2, .int (3 : Int32), .int (1 : Int32)]) (rest := []) ⟨hx, hb, hml, hown, hts⟩ (kX9_adds l Γ q_s vs l2 (3 : Int32) (1 : Int32) vs_7 hc_8 _) (va_cwS 4 hts gX9_moves_X9_adds rfl rfl rfl (by decide +kernel) ⟨Nat.le_of_ble_eq_true rfl, Nat.le_of_ble_eq_true rfl⟩) (my_preS (wc := (wArr117 Γ q_s vs)) [5] hK hP hD rfl rfl) rfl rfl hl.1 rfl (lv_room (Nat.le_of_ble_eq_true rfl)) dX9_moves_105 ⟨Nat.le_of_ble_eq_true rfl, Nat.le_of_ble_eq_true rfl⟩) (fun H locs hP hD hS => ?_)
        refine lv_aload_n hx hb dX9_moves_108 rfl (lv_at hl 1 rfl) ?_
        refine lv_iload_n hx hb dX9_moves_109 rfl (lv_at hl 2 rfl) ?_
        refine lv_iconst (v := (5 : Int32)) hx hb dX9_moves_110 (by decide) ?_
        refine lv_aload_n hx hb dX9_moves_111 rfl (lv_at hl 0 rfl) ?_
        refine va_get (D := my_D Γ) (ci := 7) (v := .ref q_ah) (C := RX9) (T := TX9) (N := 19) hx hb hts hinX9 hown hK hP 0 rfl rfl 11 (by decide) (hts (.fieldLink RX9 35 "BeltFloorModel" "ahead" "[I") (List.mem_of_getElem? (i := 1) rfl)) (fun _ h9 => h9) rfl dX9_moves_112 ?_
        refine lv_iload_n hx hb dX9_moves_115 rfl (lv_at hl 2 rfl) ?_
        refine va_iald hx hb hK hP 2 0 rfl rfl hi_5 dX9_moves_116 ?_
        obtain ⟨vs_9, hc_10, hm⟩ := bo1_s hm
        refine my_callP0 (wc := (wArr117 Γ q_s vs_7)) (w1 := (wArr117 Γ q_s vs_9)) (ws1 := (wStep Γ q_mo q_wy q_ah q_tg q_ws q_s q_tt q_nw q_tr q_ot q_di q_kp q_ik q_fr q_rw mi vwy vah vtg vws vs_9)) hP hD hS hA [5] rfl rfl rfl (va_runS (As := [.ref q_s, .int l2, .int (5 : Int32), .int (vah l2.toNatClampNeg)]) (rest := []) ⟨hx, hb, hml, hown, hts⟩ (kX9_adds l Γ q_s vs_7 l2 (5 : Int32) (vah l2.toNatClampNeg) vs_9 hc_10 _) (va_cwS 4 hts gX9_moves_X9_adds rfl rfl rfl (by decide +kernel) ⟨Nat.le_of_ble_eq_true rfl, Nat.le_of_ble_eq_true rfl⟩) (my_preS (wc := (wArr117 Γ q_s vs_7)) [5] hK hP hD rfl rfl) rfl rfl hl.1 rfl (lv_room (Nat.le_of_ble_eq_true rfl)) dX9_moves_117 ⟨Nat.le_of_ble_eq_true rfl, Nat.le_of_ble_eq_true rfl⟩) (fun H locs hP hD hS => ?_)
        obtain hf0 := Option.some.inj hm
        subst hf0
        exact W.vret hx hb hr (fun t ht hW => ⟨⟨rfl, by rw [ht]; exact hP⟩, hS.F ht⟩) hS.2.2 dX9_moves_120
      · replace hm := if_f hm c_6
        refine lv_aload_n hx hb dX9_moves_69 rfl (lv_at hl 1 rfl) ?_
        refine lv_iload hx hb dX9_moves_70 (lv_at hl 3 rfl) ?_
        refine lv_iload hx hb dX9_moves_72 (lv_at hl 3 rfl) ?_
        refine lv_aload_n hx hb dX9_moves_74 rfl (lv_at hl 0 rfl) ?_
        refine va_get (D := my_D Γ) (ci := 7) (v := .ref q_wy) (C := RX9) (T := TX9) (N := 19) hx hb hts hinX9 hown hK hP 0 rfl rfl 10 (by decide) (hts (.fieldLink RX9 32 "BeltFloorModel" "way" "[I") (List.mem_of_getElem? (i := 2) rfl)) (fun _ h9 => h9) rfl dX9_moves_75 ?_
        refine lv_iload_n hx hb dX9_moves_78 rfl (lv_at hl 2 rfl) ?_
        refine va_iald hx hb hK hP 1 0 rfl rfl hi_5 dX9_moves_79 ?_
        refine my_callP1 (wc := ([] : va_W)) (w1 := ([] : va_W)) (ws1 := (wStep Γ q_mo q_wy q_ah q_tg q_ws q_s q_tt q_nw q_tr q_ot q_di q_kp q_ik q_fr q_rw mi vwy vah vtg vws vs)) hP hD hS hA [] rfl rfl rfl (va_runS (As := [.int l4, .int (vwy l2.toNatClampNeg)]) (rest := [.int l4, .ref q_s]) ⟨hx, hb, hml, hown, hts⟩ (kX9_next l Γ l4 (vwy l2.toNatClampNeg) (mX9_next l4 (vwy l2.toNatClampNeg)) rfl _) (va_cwS 2 hts gX9_moves_X9_next rfl rfl rfl (by decide +kernel) ⟨Nat.le_of_ble_eq_true rfl, Nat.le_of_ble_eq_true rfl⟩) (my_preS (wc := ([] : va_W)) [] hK hP hD rfl rfl) rfl rfl hl.1 rfl (lv_room (Nat.le_of_ble_eq_true rfl)) dX9_moves_80 ⟨Nat.le_of_ble_eq_true rfl, Nat.le_of_ble_eq_true rfl⟩) (fun H locs hP hD hS => ?_)
        obtain ⟨vs_11, hc_12, hm⟩ := bo1_s hm
        refine my_callP0 (wc := (wArr117 Γ q_s vs)) (w1 := (wArr117 Γ q_s vs_11)) (ws1 := (wStep Γ q_mo q_wy q_ah q_tg q_ws q_s q_tt q_nw q_tr q_ot q_di q_kp q_ik q_fr q_rw mi vwy vah vtg vws vs_11)) hP hD hS hA [5] rfl rfl rfl (va_runS (As := [.ref q_s, .int l4, .int (mX9_next l4 (vwy l2.toNatClampNeg))]) (rest := []) ⟨hx, hb, hml, hown, hts⟩ (kX9_carry l Γ q_s vs l4 (mX9_next l4 (vwy l2.toNatClampNeg)) vs_11 hc_12 _) (va_cwS 3 hts gX9_moves_X9_carry rfl rfl rfl (by decide +kernel) ⟨Nat.le_of_ble_eq_true rfl, Nat.le_of_ble_eq_true rfl⟩) (my_preS (wc := (wArr117 Γ q_s vs)) [5] hK hP hD rfl rfl) rfl rfl hl.1 rfl (lv_room (Nat.le_of_ble_eq_true rfl)) dX9_moves_83 ⟨Nat.le_of_ble_eq_true rfl, Nat.le_of_ble_eq_true rfl⟩) (fun H locs hP hD hS => ?_)
        refine lv_iload hx hb dX9_moves_86 (lv_at hl 3 rfl) ?_
        refine lv_iload hx hb dX9_moves_88 (lv_at hl 4 rfl) ?_
        refine my_callP1 (wc := ([] : va_W)) (w1 := ([] : va_W)) (ws1 := (wStep Γ q_mo q_wy q_ah q_tg q_ws q_s q_tt q_nw q_tr q_ot q_di q_kp q_ik q_fr q_rw mi vwy vah vtg vws vs_11)) hP hD hS hA [] rfl rfl rfl (va_runS (As := [.int l4, .int l5]) (rest := []) ⟨hx, hb, hml, hown, hts⟩ (kX9_next l Γ l4 l5 (mX9_next l4 l5) rfl _) (va_cwS 2 hts gX9_moves_X9_next rfl rfl rfl (by decide +kernel) ⟨Nat.le_of_ble_eq_true rfl, Nat.le_of_ble_eq_true rfl⟩) (my_preS (wc := ([] : va_W)) [] hK hP hD rfl rfl) rfl rfl hl.1 rfl (lv_room (Nat.le_of_ble_eq_true rfl)) dX9_moves_90 ⟨Nat.le_of_ble_eq_true rfl, Nat.le_of_ble_eq_true rfl⟩) (fun H locs hP hD hS => ?_)
        refine lv_istore (lv' := [(4, .int (mX9_next l4 l5)), (0, .ref q_mo), (1, .ref q_s), (2, .int l2), (5, .int l5), (6, .int l6)]) hx hb dX9_moves_93 hl (by decide) rfl (fun ls hl => ?_)
        refine lv_iinc (v := (l6 + (1 : Int32))) (lv' := [(6, .int (l6 + (1 : Int32))), (4, .int (mX9_next l4 l5)), (0, .ref q_mo), (1, .ref q_s), (2, .int l2), (5, .int l5)]) hx hb dX9_moves_95 hl (k := 5) rfl rfl (by decide) rfl (fun ls hl => ?_)
        refine lv_goto (tgt := 58) hx hb dX9_moves_98 (by decide) ?_
        exact ih vwy vah vs_11 l2 (mX9_next l4 l5) l5 (l6 + (1 : Int32)) _ _ _ hP hD hS (lv_sub hl [2, 3, 4, 1, 5, 0] rfl) hm
  have J_13 : ∀ n : Nat, ∀ (vwy : Nat → Int32) (vah : Nat → Int32) (vs : Nat → Int32) (l2 : Int32) (l4 : Int32) (l5 : Int32) (H : Heap) (locs : List Loc) (ls : Array Slot), va_P (my_D Γ) vwCl (wStep Γ q_mo q_wy q_ah q_tg q_ws q_s q_tt q_nw q_tr q_ot q_di q_kp q_ik q_fr q_rw mi vwy vah vtg vws vs) H → va_D A (wStep Γ q_mo q_wy q_ah q_tg q_ws q_s q_tt q_nw q_tr q_ot q_di q_kp q_ik q_fr q_rw mi vwy vah vtg vws vs) → va_S A s.heap H locs → lv_has ls 7 [(0, .ref q_mo), (1, .ref q_s), (2, .int l2), (4, .int l4), (5, .int l5)] → mX9_moves_L13 n vwy vah vs l2 l4 l5 = (some vs_z) → W p l e (headSpec wsX9_moves ({ frames := 3, cells := 0, slots := 0, locals := 66 } : Room)).room s m ([.ref q_mo, .ref q_s, .int x1] : List Value).toArray below meth c H locs 0 0 (MQ below (my_Q Γ A none (wStep Γ q_mo q_wy q_ah q_tg q_ws q_s q_tt q_nw q_tr q_ot q_di q_kp q_ik q_fr q_rw mi vwy vah vtg vws vs_z)) ([.ref q_mo, .ref q_s, .int x1] : List Value).toArray s 0 0 A) (F0 m 13 ls []) := by
    intro  n
    induction n with
    | zero => intro vwy vah vs l2 l4 l5 H locs ls hP hD hS hl hm; cases hm
    | succ n ih =>
      intro vwy vah vs l2 l4 l5 H locs ls hP hD hS hl hm
      unfold mX9_moves_L13 at hm
      refine lv_iload hx hb dX9_moves_13 (lv_at hl 4 rfl) ?_
      refine lv_aload_n hx hb dX9_moves_15 rfl (lv_at hl 0 rfl) ?_
      refine va_get (D := my_D Γ) (ci := 7) (v := .ref q_ah) (C := RX9) (T := TX9) (N := 19) hx hb hts hinX9 hown hK hP 0 rfl rfl 11 (by decide) (hts (.fieldLink RX9 35 "BeltFloorModel" "ahead" "[I") (List.mem_of_getElem? (i := 1) rfl)) (fun _ h9 => h9) rfl dX9_moves_16 ?_
      refine lv_iload_n hx hb dX9_moves_19 rfl (lv_at hl 2 rfl) ?_
      obtain ⟨hi_3, hm⟩ := if_in hm
      refine va_iald hx hb hK hP 2 0 rfl rfl hi_3 dX9_moves_20 ?_
      refine lv_icmp_ge (tgt := 43) hx hb dX9_moves_21 (by decide) (fun c_4 => ?_) (fun c_4 => ?_)
      · replace hm := if_s hm c_4
        refine lv_aload_n hx hb dX9_moves_43 rfl (lv_at hl 0 rfl) ?_
        refine va_get (D := my_D Γ) (ci := 7) (v := .ref q_wy) (C := RX9) (T := TX9) (N := 19) hx hb hts hinX9 hown hK hP 0 rfl rfl 10 (by decide) (hts (.fieldLink RX9 32 "BeltFloorModel" "way" "[I") (List.mem_of_getElem? (i := 2) rfl)) (fun _ h9 => h9) rfl dX9_moves_44 ?_
        refine lv_iload_n hx hb dX9_moves_47 rfl (lv_at hl 2 rfl) ?_
        refine va_iald hx hb hK hP 1 0 rfl rfl hi_3 dX9_moves_48 ?_
        refine lv_iconst (v := (2 : Int32)) hx hb dX9_moves_49 (by decide) ?_
        refine lv_iadd hx hb dX9_moves_50 ?_
        refine lv_iconst (v := (4 : Int32)) hx hb dX9_moves_51 (by decide) ?_
        refine my_irem hx hb dX9_moves_52 (by decide) ?_
        refine lv_istore (lv' := [(5, .int (jrem ((vwy l2.toNatClampNeg) + (2 : Int32)) (4 : Int32))), (0, .ref q_mo), (1, .ref q_s), (2, .int l2), (4, .int l4)]) hx hb dX9_moves_53 hl (by decide) rfl (fun ls hl => ?_)
        refine lv_iconst (v := (0 : Int32)) hx hb dX9_moves_55 (by decide) ?_
        refine lv_istore (lv' := [(6, .int (0 : Int32)), (5, .int (jrem ((vwy l2.toNatClampNeg) + (2 : Int32)) (4 : Int32))), (0, .ref q_mo), (1, .ref q_s), (2, .int l2), (4, .int l4)]) hx hb dX9_moves_56 hl (by decide) rfl (fun ls hl => ?_)
        exact J_58 4096 vwy vah vs l2 l4 (jrem ((vwy l2.toNatClampNeg) + (2 : Int32)) (4 : Int32)) (0 : Int32) _ _ _ hP hD hS (lv_sub hl [2, 3, 4, 5, 1, 0] rfl) hm
      · replace hm := if_f hm c_4
        refine lv_iload hx hb dX9_moves_24 (lv_at hl 3 rfl) ?_
        refine lv_aload_n hx hb dX9_moves_26 rfl (lv_at hl 0 rfl) ?_
        refine va_get (D := my_D Γ) (ci := 7) (v := .ref q_wy) (C := RX9) (T := TX9) (N := 19) hx hb hts hinX9 hown hK hP 0 rfl rfl 10 (by decide) (hts (.fieldLink RX9 32 "BeltFloorModel" "way" "[I") (List.mem_of_getElem? (i := 2) rfl)) (fun _ h9 => h9) rfl dX9_moves_27 ?_
        refine lv_iload_n hx hb dX9_moves_30 rfl (lv_at hl 2 rfl) ?_
        refine va_iald hx hb hK hP 1 0 rfl rfl hi_3 dX9_moves_31 ?_
        refine my_callP1 (wc := ([] : va_W)) (w1 := ([] : va_W)) (ws1 := (wStep Γ q_mo q_wy q_ah q_tg q_ws q_s q_tt q_nw q_tr q_ot q_di q_kp q_ik q_fr q_rw mi vwy vah vtg vws vs)) hP hD hS hA [] rfl rfl rfl (va_runS (As := [.int l4, .int (vwy l2.toNatClampNeg)]) (rest := []) ⟨hx, hb, hml, hown, hts⟩ (kX9_next l Γ l4 (vwy l2.toNatClampNeg) (mX9_next l4 (vwy l2.toNatClampNeg)) rfl _) (va_cwS 2 hts gX9_moves_X9_next rfl rfl rfl (by decide +kernel) ⟨Nat.le_of_ble_eq_true rfl, Nat.le_of_ble_eq_true rfl⟩) (my_preS (wc := ([] : va_W)) [] hK hP hD rfl rfl) rfl rfl hl.1 rfl (lv_room (Nat.le_of_ble_eq_true rfl)) dX9_moves_32 ⟨Nat.le_of_ble_eq_true rfl, Nat.le_of_ble_eq_true rfl⟩) (fun H locs hP hD hS => ?_)
        refine lv_istore (lv' := [(4, .int (mX9_next l4 (vwy l2.toNatClampNeg))), (0, .ref q_mo), (1, .ref q_s), (2, .int l2), (5, .int l5)]) hx hb dX9_moves_35 hl (by decide) rfl (fun ls hl => ?_)
        refine lv_iinc (v := (l5 + (1 : Int32))) (lv' := [(5, .int (l5 + (1 : Int32))), (4, .int (mX9_next l4 (vwy l2.toNatClampNeg))), (0, .ref q_mo), (1, .ref q_s), (2, .int l2)]) hx hb dX9_moves_37 hl (k := 4) rfl rfl (by decide) rfl (fun ls hl => ?_)
        refine lv_goto (tgt := 13) hx hb dX9_moves_40 (by decide) ?_
        exact ih vwy vah vs l2 (mX9_next l4 (vwy l2.toNatClampNeg)) (l5 + (1 : Int32)) _ _ _ hP hD hS (lv_sub hl [2, 3, 4, 1, 0] rfl) hm
  unfold mX9_moves at hm
  refine lv_aload_n hx hb dX9_moves_0 rfl (lv_at hl 1 rfl) ?_
  refine lv_iload_n hx hb dX9_moves_1 rfl (lv_at hl 2 rfl) ?_
  refine lv_iconst (v := (0 : Int32)) hx hb dX9_moves_2 (by decide) ?_
  obtain ⟨r_1, hc_2, hm⟩ := bo1_s hm
  refine my_callP1 (wc := (wArr117 Γ q_s vs)) (w1 := (wArr117 Γ q_s vs)) (ws1 := (wStep Γ q_mo q_wy q_ah q_tg q_ws q_s q_tt q_nw q_tr q_ot q_di q_kp q_ik q_fr q_rw mi vwy vah vtg vws vs)) hP hD hS hA [5] rfl rfl rfl (va_runS (As := [.ref q_s, .int x1, .int (0 : Int32)]) (rest := []) ⟨hx, hb, hml, hown, hts⟩ (kX9_of l Γ q_s vs x1 (0 : Int32) r_1 hc_2 _) (va_cwS 3 hts gX9_moves_X9_of rfl rfl rfl (by decide +kernel) ⟨Nat.le_of_ble_eq_true rfl, Nat.le_of_ble_eq_true rfl⟩) (my_preS (wc := (wArr117 Γ q_s vs)) [5] hK hP hD rfl rfl) rfl rfl hl.1 rfl (lv_room (Nat.le_of_ble_eq_true rfl)) dX9_moves_3 ⟨Nat.le_of_ble_eq_true rfl, Nat.le_of_ble_eq_true rfl⟩) (fun H locs hP hD hS => ?_)
  refine lv_istore_n (lv' := [(3, .int r_1), (0, .ref q_mo), (1, .ref q_s), (2, .int x1)]) hx hb dX9_moves_6 rfl hl (by decide) rfl (fun ls hl => ?_)
  refine lv_iload_n hx hb dX9_moves_7 rfl (lv_at hl 0 rfl) ?_
  refine lv_istore (lv' := [(4, .int r_1), (3, .int r_1), (0, .ref q_mo), (1, .ref q_s), (2, .int x1)]) hx hb dX9_moves_8 hl (by decide) rfl (fun ls hl => ?_)
  refine lv_iconst (v := (0 : Int32)) hx hb dX9_moves_10 (by decide) ?_
  refine lv_istore (lv' := [(5, .int (0 : Int32)), (4, .int r_1), (3, .int r_1), (0, .ref q_mo), (1, .ref q_s), (2, .int x1)]) hx hb dX9_moves_11 hl (by decide) rfl (fun ls hl => ?_)
  exact J_13 4096 vwy vah vs x1 r_1 (0 : Int32) _ _ _ hP hD hS (lv_sub hl [3, 4, 5, 1, 0] rfl) hm
def mX9_follow_J70 (k13 : (Nat → Int32) → (Nat → Int32) → (Nat → Int32) → Int32 → Int32 → Option ((Nat → Int32) × (Nat → Int32) × (Nat → Int32))) (vwy : Nat → Int32) (vah : Nat → Int32) (vs : Nat → Int32) (l2 : Int32) (l3 : Int32) : Option ((Nat → Int32) × (Nat → Int32) × (Nat → Int32)) := (bo1 (mX9_turns vs l3) (fun vs_12 => (k13 vwy vah vs_12 l2 (l3 + (1 : Int32)))))
def mX9_follow_J37 (k13 : (Nat → Int32) → (Nat → Int32) → (Nat → Int32) → Int32 → Int32 → Option ((Nat → Int32) × (Nat → Int32) × (Nat → Int32))) (vwy : Nat → Int32) (vah : Nat → Int32) (vs : Nat → Int32) (l2 : Int32) (l3 : Int32) (s0 : Int32) : Option ((Nat → Int32) × (Nat → Int32) × (Nat → Int32)) := (if s0 = 0 then (if ¬ (l3 < 0 ∨ 2 ≤ l3.toNatClampNeg) then (if (vwy l3.toNatClampNeg) = (-1 : Int32) then (mX9_follow_J70 k13 vwy vah vs l2 l3) else (bo1 (mX9_adds vs l3 (4 : Int32) (1 : Int32)) (fun vs_14 => (mX9_follow_J70 k13 vwy vah vs_14 l2 l3)))) else none) else (bo1 (mX9_moves vwy vah vs l3) (fun vs_16 => (mX9_follow_J70 k13 vwy vah vs_16 l2 l3))))
def mX9_follow_J36 (k13 : (Nat → Int32) → (Nat → Int32) → (Nat → Int32) → Int32 → Int32 → Option ((Nat → Int32) × (Nat → Int32) × (Nat → Int32))) (vwy : Nat → Int32) (vah : Nat → Int32) (vs : Nat → Int32) (l2 : Int32) (l3 : Int32) : Option ((Nat → Int32) × (Nat → Int32) × (Nat → Int32)) := (mX9_follow_J37 k13 vwy vah vs l2 l3 (0 : Int32))
def mX9_follow_L13  : Nat → (Nat → Int32) → (Nat → Int32) → (Nat → Int32) → Int32 → Int32 → Option ((Nat → Int32) × (Nat → Int32) × (Nat → Int32))
  | 0, _, _, _, _, _ => none
  | n + 1, vwy, vah, vs, l2, l3 => (if (2 : Int32) ≤ l3 then (some (vwy, vah, vs)) else (if ¬ (l3 < 0 ∨ 2 ≤ l3.toNatClampNeg) then (if (vah l3.toNatClampNeg) = (-1 : Int32) then (mX9_follow_J36 (fun vwy vah vs l2 l3 => mX9_follow_L13 n vwy vah vs l2 l3) vwy vah vs l2 l3) else (if l2 = 0 then (mX9_follow_J37 (fun vwy vah vs l2 l3 => mX9_follow_L13 n vwy vah vs l2 l3) vwy vah vs l2 l3 (1 : Int32)) else (mX9_follow_J36 (fun vwy vah vs l2 l3 => mX9_follow_L13 n vwy vah vs l2 l3) vwy vah vs l2 l3))) else none))
def mX9_follow (vwy : Nat → Int32) (vah : Nat → Int32) (vs : Nat → Int32) : Option ((Nat → Int32) × (Nat → Int32) × (Nat → Int32)) := (bo2 (mX9_findsWays vwy vah vs) (fun vwy_1 vah_2 => (bo1 (mX9_clash vwy_1 vah_2 vs) (fun r_4 => (mX9_follow_L13 4096 vwy_1 vah_2 vs r_4 (0 : Int32))))))
set_option maxHeartbeats 4000000 in
set_option maxRecDepth 100000 in
theorem kX9_follow (l : Launch) (Γ : my_G) (q_mo q_wy q_ah q_tg q_ws q_s q_tt q_nw q_tr q_ot q_di q_kp q_ik q_fr q_rw : Nat) (mi : Nat → Int32) (vwy : Nat → Int32) (vah : Nat → Int32) (vtg : Nat → Int32) (vws : Nat → Int32) (vs : Nat → Int32)  (vwy_z : Nat → Int32) (vah_z : Nat → Int32) (vs_z : Nat → Int32) (hm : mX9_follow vwy vah vs = (some (vwy_z, vah_z, vs_z))) : Mn l yX9_follow wsX9_follow ({ frames := 5, cells := 0, slots := 0, locals := 110 } : Room) Γ [.ref q_mo, .ref q_s] (wStep Γ q_mo q_wy q_ah q_tg q_ws q_s q_tt q_nw q_tr q_ot q_di q_kp q_ik q_fr q_rw mi vwy vah vtg vws vs) none (wStep Γ q_mo q_wy q_ah q_tg q_ws q_s q_tt q_nw q_tr q_ot q_di q_kp q_ik q_fr q_rw mi vwy_z vah_z vtg vws vs_z) := by
  intro sz
  refine Met.ofW (cc := cX9_follow) (maxL := 5) (ret := none) (by decide) rfl ?_
  intro p e s m args below meth c s₁ B hml hv
  obtain ⟨rfl, hsz, hP, hK, hD0⟩ := hv
  have hx := B.exec
  have hb := B.bytes
  have hr := B.returns
  have hts := atoms_spec (ws := wsX9_follow) B.pre
  have hown : s.vm.findClass RX9 = some m.cls := findClass_of_methodNamed B.named
  have hlocks := B.notSynchronized
  have hinX9 : ∀ w ∈ u_ws RX9 TX9 19, w ∈ wsX9_follow := fun w h => List.mem_cons_of_mem _ (List.mem_append_right _ h)
  subst hsz
  have hD := hD0.self (sz := s.heap.size)
  have hA : ∀ q : Nat, s.heap.size ≤ q → va_A (wStep Γ q_mo q_wy q_ah q_tg q_ws q_s q_tt q_nw q_tr q_ot q_di q_kp q_ik q_fr q_rw mi vwy vah vtg vws vs) s.heap.size q := fun q h => Or.inr h
  generalize va_A (wStep Γ q_mo q_wy q_ah q_tg q_ws q_s q_tt q_nw q_tr q_ot q_di q_kp q_ik q_fr q_rw mi vwy vah vtg vws vs) s.heap.size = A at hD hA ⊢
  have hS : va_S A s.heap s.heap [] := va_S.rf
  have hl := lv_entry ([.ref q_mo, .ref q_s]) (n := 5) (Nat.le_of_ble_eq_true rfl)
  rw [lg_entry_eq]
  generalize (lg_sl ([.ref q_mo, .ref q_s]) ++ List.replicate (5 - (lg_sl ([.ref q_mo, .ref q_s])).length) Slot.unset).toArray = ls at hl ⊢
  replace hl : lv_has ls 5 [(0, .ref q_mo), (1, .ref q_s)] := hl
  have J_70 : ∀ (k13 : (Nat → Int32) → (Nat → Int32) → (Nat → Int32) → Int32 → Int32 → Option ((Nat → Int32) × (Nat → Int32) × (Nat → Int32))), (∀ (vwy : Nat → Int32) (vah : Nat → Int32) (vs : Nat → Int32) (l2 : Int32) (l3 : Int32) (H : Heap) (locs : List Loc) (ls : Array Slot), va_P (my_D Γ) vwCl (wStep Γ q_mo q_wy q_ah q_tg q_ws q_s q_tt q_nw q_tr q_ot q_di q_kp q_ik q_fr q_rw mi vwy vah vtg vws vs) H → va_D A (wStep Γ q_mo q_wy q_ah q_tg q_ws q_s q_tt q_nw q_tr q_ot q_di q_kp q_ik q_fr q_rw mi vwy vah vtg vws vs) → va_S A s.heap H locs → lv_has ls 5 [(0, .ref q_mo), (1, .ref q_s), (2, .int l2), (3, .int l3)] → k13 vwy vah vs l2 l3 = (some (vwy_z, vah_z, vs_z)) → W p l e (headSpec wsX9_follow ({ frames := 5, cells := 0, slots := 0, locals := 110 } : Room)).room s m ([.ref q_mo, .ref q_s] : List Value).toArray below meth c H locs 0 0 (MQ below (my_Q Γ A none (wStep Γ q_mo q_wy q_ah q_tg q_ws q_s q_tt q_nw q_tr q_ot q_di q_kp q_ik q_fr q_rw mi vwy_z vah_z vtg vws vs_z)) ([.ref q_mo, .ref q_s] : List Value).toArray s 0 0 A) (F0 m 13 ls [])) → ∀ (vwy : Nat → Int32) (vah : Nat → Int32) (vs : Nat → Int32) (l2 : Int32) (l3 : Int32) (H : Heap) (locs : List Loc) (ls : Array Slot), va_P (my_D Γ) vwCl (wStep Γ q_mo q_wy q_ah q_tg q_ws q_s q_tt q_nw q_tr q_ot q_di q_kp q_ik q_fr q_rw mi vwy vah vtg vws vs) H → va_D A (wStep Γ q_mo q_wy q_ah q_tg q_ws q_s q_tt q_nw q_tr q_ot q_di q_kp q_ik q_fr q_rw mi vwy vah vtg vws vs) → va_S A s.heap H locs → lv_has ls 5 [(0, .ref q_mo), (1, .ref q_s), (2, .int l2), (3, .int l3)] → mX9_follow_J70 k13 vwy vah vs l2 l3 = (some (vwy_z, vah_z, vs_z)) → W p l e (headSpec wsX9_follow ({ frames := 5, cells := 0, slots := 0, locals := 110 } : Room)).room s m ([.ref q_mo, .ref q_s] : List Value).toArray below meth c H locs 0 0 (MQ below (my_Q Γ A none (wStep Γ q_mo q_wy q_ah q_tg q_ws q_s q_tt q_nw q_tr q_ot q_di q_kp q_ik q_fr q_rw mi vwy_z vah_z vtg vws vs_z)) ([.ref q_mo, .ref q_s] : List Value).toArray s 0 0 A) (F0 m 70 ls []) := by
    intro k13 hk13 vwy vah vs l2 l3 H locs ls hP hD hS hl hm
    unfold mX9_follow_J70 at hm
    refine lv_aload_n hx hb dX9_follow_70 rfl (lv_at hl 1 rfl) ?_
    refine lv_iload_n hx hb dX9_follow_71 rfl (lv_at hl 3 rfl) ?_
    obtain ⟨vs_12, hc_13, hm⟩ := bo1_s hm
    refine my_callP0 (wc := (wArr117 Γ q_s vs)) (w1 := (wArr117 Γ q_s vs_12)) (ws1 := (wStep Γ q_mo q_wy q_ah q_tg q_ws q_s q_tt q_nw q_tr q_ot q_di q_kp q_ik q_fr q_rw mi vwy vah vtg vws vs_12)) hP hD hS hA [5] rfl rfl rfl (va_runS (As := [.ref q_s, .int l3]) (rest := []) ⟨hx, hb, hml, hown, hts⟩ (kX9_turns l Γ q_s vs l3 vs_12 hc_13 _) (va_cwS 2 hts gX9_follow_X9_turns rfl rfl rfl (by decide +kernel) ⟨Nat.le_of_ble_eq_true rfl, Nat.le_of_ble_eq_true rfl⟩) (my_preS (wc := (wArr117 Γ q_s vs)) [5] hK hP hD rfl rfl) rfl rfl hl.1 rfl (lv_room (Nat.le_of_ble_eq_true rfl)) dX9_follow_72 ⟨Nat.le_of_ble_eq_true rfl, Nat.le_of_ble_eq_true rfl⟩) (fun H locs hP hD hS => ?_)
    refine lv_iinc (v := (l3 + (1 : Int32))) (lv' := [(3, .int (l3 + (1 : Int32))), (0, .ref q_mo), (1, .ref q_s), (2, .int l2)]) hx hb dX9_follow_75 hl (k := 3) rfl rfl (by decide) rfl (fun ls hl => ?_)
    refine lv_goto (tgt := 13) hx hb dX9_follow_78 (by decide) ?_
    exact hk13 vwy vah vs_12 l2 (l3 + (1 : Int32)) _ _ _ hP hD hS (lv_sub hl [1, 2, 3, 0] rfl) hm
  have J_37 : ∀ (k13 : (Nat → Int32) → (Nat → Int32) → (Nat → Int32) → Int32 → Int32 → Option ((Nat → Int32) × (Nat → Int32) × (Nat → Int32))), (∀ (vwy : Nat → Int32) (vah : Nat → Int32) (vs : Nat → Int32) (l2 : Int32) (l3 : Int32) (H : Heap) (locs : List Loc) (ls : Array Slot), va_P (my_D Γ) vwCl (wStep Γ q_mo q_wy q_ah q_tg q_ws q_s q_tt q_nw q_tr q_ot q_di q_kp q_ik q_fr q_rw mi vwy vah vtg vws vs) H → va_D A (wStep Γ q_mo q_wy q_ah q_tg q_ws q_s q_tt q_nw q_tr q_ot q_di q_kp q_ik q_fr q_rw mi vwy vah vtg vws vs) → va_S A s.heap H locs → lv_has ls 5 [(0, .ref q_mo), (1, .ref q_s), (2, .int l2), (3, .int l3)] → k13 vwy vah vs l2 l3 = (some (vwy_z, vah_z, vs_z)) → W p l e (headSpec wsX9_follow ({ frames := 5, cells := 0, slots := 0, locals := 110 } : Room)).room s m ([.ref q_mo, .ref q_s] : List Value).toArray below meth c H locs 0 0 (MQ below (my_Q Γ A none (wStep Γ q_mo q_wy q_ah q_tg q_ws q_s q_tt q_nw q_tr q_ot q_di q_kp q_ik q_fr q_rw mi vwy_z vah_z vtg vws vs_z)) ([.ref q_mo, .ref q_s] : List Value).toArray s 0 0 A) (F0 m 13 ls [])) → ∀ (vwy : Nat → Int32) (vah : Nat → Int32) (vs : Nat → Int32) (l2 : Int32) (l3 : Int32) (s0 : Int32) (H : Heap) (locs : List Loc) (ls : Array Slot), va_P (my_D Γ) vwCl (wStep Γ q_mo q_wy q_ah q_tg q_ws q_s q_tt q_nw q_tr q_ot q_di q_kp q_ik q_fr q_rw mi vwy vah vtg vws vs) H → va_D A (wStep Γ q_mo q_wy q_ah q_tg q_ws q_s q_tt q_nw q_tr q_ot q_di q_kp q_ik q_fr q_rw mi vwy vah vtg vws vs) → va_S A s.heap H locs → lv_has ls 5 [(0, .ref q_mo), (1, .ref q_s), (2, .int l2), (3, .int l3)] → mX9_follow_J37 k13 vwy vah vs l2 l3 s0 = (some (vwy_z, vah_z, vs_z)) → W p l e (headSpec wsX9_follow ({ frames := 5, cells := 0, slots := 0, locals := 110 } : Room)).room s m ([.ref q_mo, .ref q_s] : List Value).toArray below meth c H locs 0 0 (MQ below (my_Q Γ A none (wStep Γ q_mo q_wy q_ah q_tg q_ws q_s q_tt q_nw q_tr q_ot q_di q_kp q_ik q_fr q_rw mi vwy_z vah_z vtg vws vs_z)) ([.ref q_mo, .ref q_s] : List Value).toArray s 0 0 A) (F0 m 37 ls [.int s0]) := by
    intro k13 hk13 vwy vah vs l2 l3 s0 H locs ls hP hD hS hl hm
    unfold mX9_follow_J37 at hm
    refine lv_istore (lv' := [(4, .int s0), (0, .ref q_mo), (1, .ref q_s), (2, .int l2), (3, .int l3)]) hx hb dX9_follow_37 hl (by decide) rfl (fun ls hl => ?_)
    refine lv_iload hx hb dX9_follow_39 (lv_at hl 0 rfl) ?_
    refine lv_if_eq (tgt := 53) hx hb dX9_follow_41 (by decide) (fun c_9 => ?_) (fun c_9 => ?_)
    · replace hm := if_s hm c_9
      refine lv_aload_n hx hb dX9_follow_53 rfl (lv_at hl 1 rfl) ?_
      refine va_get (D := my_D Γ) (ci := 7) (v := .ref q_wy) (C := RX9) (T := TX9) (N := 19) hx hb hts hinX9 hown hK hP 0 rfl rfl 10 (by decide) (hts (.fieldLink RX9 32 "BeltFloorModel" "way" "[I") (List.mem_of_getElem? (i := 2) rfl)) (fun _ h9 => h9) rfl dX9_follow_54 ?_
      refine lv_iload_n hx hb dX9_follow_57 rfl (lv_at hl 4 rfl) ?_
      obtain ⟨hi_10, hm⟩ := if_in hm
      refine va_iald hx hb hK hP 1 0 rfl rfl hi_10 dX9_follow_58 ?_
      refine lv_iconst (v := (-1 : Int32)) hx hb dX9_follow_59 (by decide) ?_
      refine lv_icmp_eq (tgt := 70) hx hb dX9_follow_60 (by decide) (fun c_11 => ?_) (fun c_11 => ?_)
      · replace hm := if_s hm c_11
        exact J_70 k13 hk13 vwy vah vs l2 l3 _ _ _ hP hD hS (lv_sub hl [1, 2, 3, 4] rfl) hm
      · replace hm := if_f hm c_11
        refine lv_aload_n hx hb dX9_follow_63 rfl (lv_at hl 2 rfl) ?_
        refine lv_iload_n hx hb dX9_follow_64 rfl (lv_at hl 4 rfl) ?_
        refine lv_iconst (v := (4 : Int32)) hx hb dX9_follow_65 (by decide) ?_
        refine lv_iconst (v := (1 : Int32)) hx hb dX9_follow_66 (by decide) ?_
        obtain ⟨vs_14, hc_15, hm⟩ := bo1_s hm
        refine my_callP0 (wc := (wArr117 Γ q_s vs)) (w1 := (wArr117 Γ q_s vs_14)) (ws1 := (wStep Γ q_mo q_wy q_ah q_tg q_ws q_s q_tt q_nw q_tr q_ot q_di q_kp q_ik q_fr q_rw mi vwy vah vtg vws vs_14)) hP hD hS hA [5] rfl rfl rfl (va_runS (As := [.ref q_s, .int l3, .int (4 : Int32), .int (1 : Int32)]) (rest := []) ⟨hx, hb, hml, hown, hts⟩ (kX9_adds l Γ q_s vs l3 (4 : Int32) (1 : Int32) vs_14 hc_15 _) (va_cwS 4 hts gX9_follow_X9_adds rfl rfl rfl (by decide +kernel) ⟨Nat.le_of_ble_eq_true rfl, Nat.le_of_ble_eq_true rfl⟩) (my_preS (wc := (wArr117 Γ q_s vs)) [5] hK hP hD rfl rfl) rfl rfl hl.1 rfl (lv_room (Nat.le_of_ble_eq_true rfl)) dX9_follow_67 ⟨Nat.le_of_ble_eq_true rfl, Nat.le_of_ble_eq_true rfl⟩) (fun H locs hP hD hS => ?_)
        exact J_70 k13 hk13 vwy vah vs_14 l2 l3 _ _ _ hP hD hS (lv_sub hl [1, 2, 3, 4] rfl) hm
    · replace hm := if_f hm c_9
      refine lv_aload_n hx hb dX9_follow_44 rfl (lv_at hl 1 rfl) ?_
      refine lv_aload_n hx hb dX9_follow_45 rfl (lv_at hl 2 rfl) ?_
      refine lv_iload_n hx hb dX9_follow_46 rfl (lv_at hl 4 rfl) ?_
      obtain ⟨vs_16, hc_17, hm⟩ := bo1_s hm
      refine my_callP0 (wc := (wStep Γ q_mo q_wy q_ah q_tg q_ws q_s q_tt q_nw q_tr q_ot q_di q_kp q_ik q_fr q_rw mi vwy vah vtg vws vs)) (w1 := (wStep Γ q_mo q_wy q_ah q_tg q_ws q_s q_tt q_nw q_tr q_ot q_di q_kp q_ik q_fr q_rw mi vwy vah vtg vws vs_16)) (ws1 := (wStep Γ q_mo q_wy q_ah q_tg q_ws q_s q_tt q_nw q_tr q_ot q_di q_kp q_ik q_fr q_rw mi vwy vah vtg vws vs_16)) hP hD hS hA [0, 1, 2, 3, 4, 5] rfl rfl rfl (va_runV (As := [.ref q_s, .int l3]) (rest := []) ⟨hx, hb, hml, hown, hts⟩ (kX9_moves l Γ q_mo q_wy q_ah q_tg q_ws q_s q_tt q_nw q_tr q_ot q_di q_kp q_ik q_fr q_rw mi vwy vah vtg vws vs l3 vs_16 hc_17 _) (cwV 2 hts gX9_follow_X9_moves rfl rfl rfl (by decide +kernel) ⟨Nat.le_of_ble_eq_true rfl, Nat.le_of_ble_eq_true rfl⟩) (my_preV (wc := (wStep Γ q_mo q_wy q_ah q_tg q_ws q_s q_tt q_nw q_tr q_ot q_di q_kp q_ik q_fr q_rw mi vwy vah vtg vws vs)) (ci := 7) (q0 := 0) [0, 1, 2, 3, 4, 5] hK hP hD rfl rfl rfl rfl) rfl rfl hl.1 rfl (lv_room (Nat.le_of_ble_eq_true rfl)) dX9_follow_47 ⟨Nat.le_of_ble_eq_true rfl, Nat.le_of_ble_eq_true rfl⟩) (fun H locs hP hD hS => ?_)
      refine lv_goto (tgt := 70) hx hb dX9_follow_50 (by decide) ?_
      exact J_70 k13 hk13 vwy vah vs_16 l2 l3 _ _ _ hP hD hS (lv_sub hl [1, 2, 3, 4] rfl) hm
  have J_36 : ∀ (k13 : (Nat → Int32) → (Nat → Int32) → (Nat → Int32) → Int32 → Int32 → Option ((Nat → Int32) × (Nat → Int32) × (Nat → Int32))), (∀ (vwy : Nat → Int32) (vah : Nat → Int32) (vs : Nat → Int32) (l2 : Int32) (l3 : Int32) (H : Heap) (locs : List Loc) (ls : Array Slot), va_P (my_D Γ) vwCl (wStep Γ q_mo q_wy q_ah q_tg q_ws q_s q_tt q_nw q_tr q_ot q_di q_kp q_ik q_fr q_rw mi vwy vah vtg vws vs) H → va_D A (wStep Γ q_mo q_wy q_ah q_tg q_ws q_s q_tt q_nw q_tr q_ot q_di q_kp q_ik q_fr q_rw mi vwy vah vtg vws vs) → va_S A s.heap H locs → lv_has ls 5 [(0, .ref q_mo), (1, .ref q_s), (2, .int l2), (3, .int l3)] → k13 vwy vah vs l2 l3 = (some (vwy_z, vah_z, vs_z)) → W p l e (headSpec wsX9_follow ({ frames := 5, cells := 0, slots := 0, locals := 110 } : Room)).room s m ([.ref q_mo, .ref q_s] : List Value).toArray below meth c H locs 0 0 (MQ below (my_Q Γ A none (wStep Γ q_mo q_wy q_ah q_tg q_ws q_s q_tt q_nw q_tr q_ot q_di q_kp q_ik q_fr q_rw mi vwy_z vah_z vtg vws vs_z)) ([.ref q_mo, .ref q_s] : List Value).toArray s 0 0 A) (F0 m 13 ls [])) → ∀ (vwy : Nat → Int32) (vah : Nat → Int32) (vs : Nat → Int32) (l2 : Int32) (l3 : Int32) (H : Heap) (locs : List Loc) (ls : Array Slot), va_P (my_D Γ) vwCl (wStep Γ q_mo q_wy q_ah q_tg q_ws q_s q_tt q_nw q_tr q_ot q_di q_kp q_ik q_fr q_rw mi vwy vah vtg vws vs) H → va_D A (wStep Γ q_mo q_wy q_ah q_tg q_ws q_s q_tt q_nw q_tr q_ot q_di q_kp q_ik q_fr q_rw mi vwy vah vtg vws vs) → va_S A s.heap H locs → lv_has ls 5 [(0, .ref q_mo), (1, .ref q_s), (2, .int l2), (3, .int l3)] → mX9_follow_J36 k13 vwy vah vs l2 l3 = (some (vwy_z, vah_z, vs_z)) → W p l e (headSpec wsX9_follow ({ frames := 5, cells := 0, slots := 0, locals := 110 } : Room)).room s m ([.ref q_mo, .ref q_s] : List Value).toArray below meth c H locs 0 0 (MQ below (my_Q Γ A none (wStep Γ q_mo q_wy q_ah q_tg q_ws q_s q_tt q_nw q_tr q_ot q_di q_kp q_ik q_fr q_rw mi vwy_z vah_z vtg vws vs_z)) ([.ref q_mo, .ref q_s] : List Value).toArray s 0 0 A) (F0 m 36 ls []) := by
    intro k13 hk13 vwy vah vs l2 l3 H locs ls hP hD hS hl hm
    unfold mX9_follow_J36 at hm
    refine lv_iconst (v := (0 : Int32)) hx hb dX9_follow_36 (by decide) ?_
    exact J_37 k13 hk13 vwy vah vs l2 l3 (0 : Int32) _ _ _ hP hD hS (lv_sub hl [0, 1, 2, 3] rfl) hm
  have J_13 : ∀ n : Nat, ∀ (vwy : Nat → Int32) (vah : Nat → Int32) (vs : Nat → Int32) (l2 : Int32) (l3 : Int32) (H : Heap) (locs : List Loc) (ls : Array Slot), va_P (my_D Γ) vwCl (wStep Γ q_mo q_wy q_ah q_tg q_ws q_s q_tt q_nw q_tr q_ot q_di q_kp q_ik q_fr q_rw mi vwy vah vtg vws vs) H → va_D A (wStep Γ q_mo q_wy q_ah q_tg q_ws q_s q_tt q_nw q_tr q_ot q_di q_kp q_ik q_fr q_rw mi vwy vah vtg vws vs) → va_S A s.heap H locs → lv_has ls 5 [(0, .ref q_mo), (1, .ref q_s), (2, .int l2), (3, .int l3)] → mX9_follow_L13 n vwy vah vs l2 l3 = (some (vwy_z, vah_z, vs_z)) → W p l e (headSpec wsX9_follow ({ frames := 5, cells := 0, slots := 0, locals := 110 } : Room)).room s m ([.ref q_mo, .ref q_s] : List Value).toArray below meth c H locs 0 0 (MQ below (my_Q Γ A none (wStep Γ q_mo q_wy q_ah q_tg q_ws q_s q_tt q_nw q_tr q_ot q_di q_kp q_ik q_fr q_rw mi vwy_z vah_z vtg vws vs_z)) ([.ref q_mo, .ref q_s] : List Value).toArray s 0 0 A) (F0 m 13 ls []) := by
    intro  n
    induction n with
    | zero => intro vwy vah vs l2 l3 H locs ls hP hD hS hl hm; cases hm
    | succ n ih =>
      intro vwy vah vs l2 l3 H locs ls hP hD hS hl hm
      unfold mX9_follow_L13 at hm
      refine lv_iload_n hx hb dX9_follow_13 rfl (lv_at hl 3 rfl) ?_
      refine lv_iconst (v := (2 : Int32)) hx hb dX9_follow_14 (by decide) ?_
      refine lv_icmp_ge (tgt := 81) hx hb dX9_follow_15 (by decide) (fun c_6 => ?_) (fun c_6 => ?_)
      · replace hm := if_s hm c_6
        obtain ⟨hf0, hf1, hf2⟩ := si3 hm
        subst hf0
        subst hf1
        subst hf2
        exact W.vret hx hb hr (fun t ht hW => ⟨⟨rfl, by rw [ht]; exact hP⟩, hS.F ht⟩) hS.2.2 dX9_follow_81
      · replace hm := if_f hm c_6
        refine lv_aload_n hx hb dX9_follow_18 rfl (lv_at hl 0 rfl) ?_
        refine va_get (D := my_D Γ) (ci := 7) (v := .ref q_ah) (C := RX9) (T := TX9) (N := 19) hx hb hts hinX9 hown hK hP 0 rfl rfl 11 (by decide) (hts (.fieldLink RX9 35 "BeltFloorModel" "ahead" "[I") (List.mem_of_getElem? (i := 1) rfl)) (fun _ h9 => h9) rfl dX9_follow_19 ?_
        refine lv_iload_n hx hb dX9_follow_22 rfl (lv_at hl 3 rfl) ?_
        obtain ⟨hi_7, hm⟩ := if_in hm
        refine va_iald hx hb hK hP 2 0 rfl rfl hi_7 dX9_follow_23 ?_
        refine lv_iconst (v := (-1 : Int32)) hx hb dX9_follow_24 (by decide) ?_
        refine lv_icmp_eq (tgt := 36) hx hb dX9_follow_25 (by decide) (fun c_8 => ?_) (fun c_8 => ?_)
        · replace hm := if_s hm c_8
          exact J_36 (fun vwy vah vs l2 l3 => mX9_follow_L13 n vwy vah vs l2 l3) ih vwy vah vs l2 l3 _ _ _ hP hD hS (lv_sub hl [0, 1, 2, 3] rfl) hm
        · replace hm := if_f hm c_8
          refine lv_iload_n hx hb dX9_follow_28 rfl (lv_at hl 2 rfl) ?_
          refine lv_if_ne (tgt := 36) hx hb dX9_follow_29 (by decide) (fun c_18 => ?_) (fun c_18 => ?_)
          · replace hm := if_f hm c_18
            exact J_36 (fun vwy vah vs l2 l3 => mX9_follow_L13 n vwy vah vs l2 l3) ih vwy vah vs l2 l3 _ _ _ hP hD hS (lv_sub hl [0, 1, 2, 3] rfl) hm
          · replace hm := if_s hm c_18
            refine lv_iconst (v := (1 : Int32)) hx hb dX9_follow_32 (by decide) ?_
            refine lv_goto (tgt := 37) hx hb dX9_follow_33 (by decide) ?_
            exact J_37 (fun vwy vah vs l2 l3 => mX9_follow_L13 n vwy vah vs l2 l3) ih vwy vah vs l2 l3 (1 : Int32) _ _ _ hP hD hS (lv_sub hl [0, 1, 2, 3] rfl) hm
  unfold mX9_follow at hm
  refine lv_aload_n hx hb dX9_follow_0 rfl (lv_at hl 0 rfl) ?_
  refine lv_aload_n hx hb dX9_follow_1 rfl (lv_at hl 1 rfl) ?_
  obtain ⟨vwy_1, vah_2, hc_3, hm⟩ := bo2_s hm
  refine my_callP0 (wc := (wStep Γ q_mo q_wy q_ah q_tg q_ws q_s q_tt q_nw q_tr q_ot q_di q_kp q_ik q_fr q_rw mi vwy vah vtg vws vs)) (w1 := (wStep Γ q_mo q_wy q_ah q_tg q_ws q_s q_tt q_nw q_tr q_ot q_di q_kp q_ik q_fr q_rw mi vwy_1 vah_2 vtg vws vs)) (ws1 := (wStep Γ q_mo q_wy q_ah q_tg q_ws q_s q_tt q_nw q_tr q_ot q_di q_kp q_ik q_fr q_rw mi vwy_1 vah_2 vtg vws vs)) hP hD hS hA [0, 1, 2, 3, 4, 5] rfl rfl rfl (va_runV (As := [.ref q_s]) (rest := []) ⟨hx, hb, hml, hown, hts⟩ (kX9_findsWays l Γ q_mo q_wy q_ah q_tg q_ws q_s q_tt q_nw q_tr q_ot q_di q_kp q_ik q_fr q_rw mi vwy vah vtg vws vs vwy_1 vah_2 hc_3 _) (cwV 1 hts gX9_follow_X9_findsWays rfl rfl rfl (by decide +kernel) ⟨Nat.le_of_ble_eq_true rfl, Nat.le_of_ble_eq_true rfl⟩) (my_preV (wc := (wStep Γ q_mo q_wy q_ah q_tg q_ws q_s q_tt q_nw q_tr q_ot q_di q_kp q_ik q_fr q_rw mi vwy vah vtg vws vs)) (ci := 7) (q0 := 0) [0, 1, 2, 3, 4, 5] hK hP hD rfl rfl rfl rfl) rfl rfl hl.1 rfl (lv_room (Nat.le_of_ble_eq_true rfl)) dX9_follow_2 ⟨Nat.le_of_ble_eq_true rfl, Nat.le_of_ble_eq_true rfl⟩) (fun H locs hP hD hS => ?_)
  refine lv_aload_n hx hb dX9_follow_5 rfl (lv_at hl 0 rfl) ?_
  refine lv_aload_n hx hb dX9_follow_6 rfl (lv_at hl 1 rfl) ?_
  obtain ⟨r_4, hc_5, hm⟩ := bo1_s hm
  refine my_callP1 (wc := (wStep Γ q_mo q_wy q_ah q_tg q_ws q_s q_tt q_nw q_tr q_ot q_di q_kp q_ik q_fr q_rw mi vwy_1 vah_2 vtg vws vs)) (w1 := (wStep Γ q_mo q_wy q_ah q_tg q_ws q_s q_tt q_nw q_tr q_ot q_di q_kp q_ik q_fr q_rw mi vwy_1 vah_2 vtg vws vs)) (ws1 := (wStep Γ q_mo q_wy q_ah q_tg q_ws q_s q_tt q_nw q_tr q_ot q_di q_kp q_ik q_fr q_rw mi vwy_1 vah_2 vtg vws vs)) hP hD hS hA [0, 1, 2, 3, 4, 5] rfl rfl rfl (va_runV (As := [.ref q_s]) (rest := []) ⟨hx, hb, hml, hown, hts⟩ (kX9_clash l Γ q_mo q_wy q_ah q_tg q_ws q_s q_tt q_nw q_tr q_ot q_di q_kp q_ik q_fr q_rw mi vwy_1 vah_2 vtg vws vs r_4 hc_5 _) (cwV 1 hts gX9_follow_X9_clash rfl rfl rfl (by decide +kernel) ⟨Nat.le_of_ble_eq_true rfl, Nat.le_of_ble_eq_true rfl⟩) (my_preV (wc := (wStep Γ q_mo q_wy q_ah q_tg q_ws q_s q_tt q_nw q_tr q_ot q_di q_kp q_ik q_fr q_rw mi vwy_1 vah_2 vtg vws vs)) (ci := 7) (q0 := 0) [0, 1, 2, 3, 4, 5] hK hP hD rfl rfl rfl rfl) rfl rfl hl.1 rfl (lv_room (Nat.le_of_ble_eq_true rfl)) dX9_follow_7 ⟨Nat.le_of_ble_eq_true rfl, Nat.le_of_ble_eq_true rfl⟩) (fun H locs hP hD hS => ?_)
  refine lv_istore_n (lv' := [(2, .int r_4), (0, .ref q_mo), (1, .ref q_s)]) hx hb dX9_follow_10 rfl hl (by decide) rfl (fun ls hl => ?_)
  refine lv_iconst (v := (0 : Int32)) hx hb dX9_follow_11 (by decide) ?_
  refine lv_istore_n (lv' := [(3, .int (0 : Int32)), (2, .int r_4), (0, .ref q_mo), (1, .ref q_s)]) hx hb dX9_follow_12 rfl hl (by decide) rfl (fun ls hl => ?_)
  exact J_13 4096 vwy_1 vah_2 vs r_4 (0 : Int32) _ _ _ hP hD hS (lv_sub hl [2, 3, 1, 0] rfl) hm
def mX9_findsTargets_J173 (k68 : (Nat → Int32) → (Nat → Int32) → (Nat → Int32) → Int32 → Option ((Nat → Int32) × (Nat → Int32))) (k88 : (Nat → Int32) → (Nat → Int32) → (Nat → Int32) → Int32 → Int32 → Option ((Nat → Int32) × (Nat → Int32))) (vtg : Nat → Int32) (vws : Nat → Int32) (vs : Nat → Int32) (l2 : Int32) (l3 : Int32) (s1 : Int32) (s2 : Int32) : Option ((Nat → Int32) × (Nat → Int32)) := (if ¬ (s1 < 0 ∨ 36 ≤ s1.toNatClampNeg) then (k88 (upd vtg s1.toNatClampNeg s2) vws vs l2 (l3 + (1 : Int32))) else none)
def mX9_findsTargets_J163 (k68 : (Nat → Int32) → (Nat → Int32) → (Nat → Int32) → Int32 → Option ((Nat → Int32) × (Nat → Int32))) (k88 : (Nat → Int32) → (Nat → Int32) → (Nat → Int32) → Int32 → Int32 → Option ((Nat → Int32) × (Nat → Int32))) (vtg : Nat → Int32) (vws : Nat → Int32) (vs : Nat → Int32) (l2 : Int32) (l3 : Int32) (s1 : Int32) : Option ((Nat → Int32) × (Nat → Int32)) := (mX9_findsTargets_J173 k68 k88 vtg vws vs l2 l3 s1 (-1 : Int32))
def mX9_findsTargets_J146 (k68 : (Nat → Int32) → (Nat → Int32) → (Nat → Int32) → Int32 → Option ((Nat → Int32) × (Nat → Int32))) (k88 : (Nat → Int32) → (Nat → Int32) → (Nat → Int32) → Int32 → Int32 → Option ((Nat → Int32) × (Nat → Int32))) (vtg : Nat → Int32) (vws : Nat → Int32) (vs : Nat → Int32) (l2 : Int32) (l3 : Int32) (l4 : Int32) (s0 : Int32) : Option ((Nat → Int32) × (Nat → Int32)) := (if l4 = 0 then (if s0 = 0 then (if ¬ (l2 < 0 ∨ 36 ≤ l2.toNatClampNeg) then (mX9_findsTargets_J173 k68 k88 vtg vws vs l2 l3 l2 (vtg l2.toNatClampNeg)) else none) else (mX9_findsTargets_J163 k68 k88 vtg vws vs l2 l3 l2)) else (mX9_findsTargets_J163 k68 k88 vtg vws vs l2 l3 l2))
def mX9_findsTargets_J145 (k68 : (Nat → Int32) → (Nat → Int32) → (Nat → Int32) → Int32 → Option ((Nat → Int32) × (Nat → Int32))) (k88 : (Nat → Int32) → (Nat → Int32) → (Nat → Int32) → Int32 → Int32 → Option ((Nat → Int32) × (Nat → Int32))) (vtg : Nat → Int32) (vws : Nat → Int32) (vs : Nat → Int32) (l2 : Int32) (l3 : Int32) (l4 : Int32) : Option ((Nat → Int32) × (Nat → Int32)) := (mX9_findsTargets_J146 k68 k88 vtg vws vs l2 l3 l4 (0 : Int32))
def mX9_findsTargets_J119 (k68 : (Nat → Int32) → (Nat → Int32) → (Nat → Int32) → Int32 → Option ((Nat → Int32) × (Nat → Int32))) (k88 : (Nat → Int32) → (Nat → Int32) → (Nat → Int32) → Int32 → Int32 → Option ((Nat → Int32) × (Nat → Int32))) (vtg : Nat → Int32) (vws : Nat → Int32) (vs : Nat → Int32) (l2 : Int32) (l3 : Int32) (s0 : Int32) : Option ((Nat → Int32) × (Nat → Int32)) := (if ¬ (l2 < 0 ∨ 36 ≤ l2.toNatClampNeg) then (if l3 = (vws l2.toNatClampNeg) then (if ¬ (l3 < 0 ∨ 36 ≤ l3.toNatClampNeg) then (if (vws l3.toNatClampNeg) = l2 then (mX9_findsTargets_J146 k68 k88 vtg vws vs l2 l3 s0 (1 : Int32)) else (mX9_findsTargets_J145 k68 k88 vtg vws vs l2 l3 s0)) else none) else (mX9_findsTargets_J145 k68 k88 vtg vws vs l2 l3 s0)) else none)
def mX9_findsTargets_J118 (k68 : (Nat → Int32) → (Nat → Int32) → (Nat → Int32) → Int32 → Option ((Nat → Int32) × (Nat → Int32))) (k88 : (Nat → Int32) → (Nat → Int32) → (Nat → Int32) → Int32 → Int32 → Option ((Nat → Int32) × (Nat → Int32))) (vtg : Nat → Int32) (vws : Nat → Int32) (vs : Nat → Int32) (l2 : Int32) (l3 : Int32) : Option ((Nat → Int32) × (Nat → Int32)) := (mX9_findsTargets_J119 k68 k88 vtg vws vs l2 l3 (0 : Int32))
def mX9_findsTargets_L88 (k68 : (Nat → Int32) → (Nat → Int32) → (Nat → Int32) → Int32 → Option ((Nat → Int32) × (Nat → Int32))) : Nat → (Nat → Int32) → (Nat → Int32) → (Nat → Int32) → Int32 → Int32 → Option ((Nat → Int32) × (Nat → Int32))
  | 0, _, _, _, _, _ => none
  | n + 1, vtg, vws, vs, l2, l3 => (if (36 : Int32) ≤ l3 then (k68 vtg vws vs (l2 + (1 : Int32))) else (if l3 = l2 then (mX9_findsTargets_J118 k68 (fun vtg vws vs l2 l3 => mX9_findsTargets_L88 k68 n vtg vws vs l2 l3) vtg vws vs l2 l3) else (if ¬ (l3 < 0 ∨ 36 ≤ l3.toNatClampNeg) then (if ¬ (l2 < 0 ∨ 36 ≤ l2.toNatClampNeg) then (if (vws l3.toNatClampNeg) = (vws l2.toNatClampNeg) then (mX9_findsTargets_J119 k68 (fun vtg vws vs l2 l3 => mX9_findsTargets_L88 k68 n vtg vws vs l2 l3) vtg vws vs l2 l3 (1 : Int32)) else (mX9_findsTargets_J118 k68 (fun vtg vws vs l2 l3 => mX9_findsTargets_L88 k68 n vtg vws vs l2 l3) vtg vws vs l2 l3)) else none) else none)))
def mX9_findsTargets_L68  : Nat → (Nat → Int32) → (Nat → Int32) → (Nat → Int32) → Int32 → Option ((Nat → Int32) × (Nat → Int32))
  | 0, _, _, _, _ => none
  | n + 1, vtg, vws, vs, l2 => (if (36 : Int32) ≤ l2 then (some (vtg, vws)) else (if ¬ (l2 < 0 ∨ 36 ≤ l2.toNatClampNeg) then (mX9_findsTargets_L88 (fun vtg vws vs l2 => mX9_findsTargets_L68 n vtg vws vs l2) 4096 (upd vtg l2.toNatClampNeg (vws l2.toNatClampNeg)) vws vs l2 (0 : Int32)) else none))
def mX9_findsTargets_J59 (k2 : (Nat → Int32) → (Nat → Int32) → (Nat → Int32) → Int32 → Option ((Nat → Int32) × (Nat → Int32))) (vtg : Nat → Int32) (vws : Nat → Int32) (vs : Nat → Int32) (l2 : Int32) (s1 : Int32) (s2 : Int32) : Option ((Nat → Int32) × (Nat → Int32)) := (if ¬ (s1 < 0 ∨ 36 ≤ s1.toNatClampNeg) then (k2 vtg (upd vws s1.toNatClampNeg s2) vs (l2 + (1 : Int32))) else none)
def mX9_findsTargets_J58 (k2 : (Nat → Int32) → (Nat → Int32) → (Nat → Int32) → Int32 → Option ((Nat → Int32) × (Nat → Int32))) (vtg : Nat → Int32) (vws : Nat → Int32) (vs : Nat → Int32) (l2 : Int32) (l3 : Int32) (s1 : Int32) : Option ((Nat → Int32) × (Nat → Int32)) := (mX9_findsTargets_J59 k2 vtg vws vs l2 s1 l3)
def mX9_findsTargets_J36 (k2 : (Nat → Int32) → (Nat → Int32) → (Nat → Int32) → Int32 → Option ((Nat → Int32) × (Nat → Int32))) (vtg : Nat → Int32) (vws : Nat → Int32) (vs : Nat → Int32) (l2 : Int32) (s0 : Int32) : Option ((Nat → Int32) × (Nat → Int32)) := (if s0 = (-1 : Int32) then (mX9_findsTargets_J58 k2 vtg vws vs l2 s0 l2) else (if ¬ (s0 < 0 ∨ 117 ≤ s0.toNatClampNeg) then (if (vs s0.toNatClampNeg) = (1 : Int32) then (mX9_findsTargets_J59 k2 vtg vws vs l2 l2 (-1 : Int32)) else (mX9_findsTargets_J58 k2 vtg vws vs l2 s0 l2)) else none))
def mX9_findsTargets_J35 (k2 : (Nat → Int32) → (Nat → Int32) → (Nat → Int32) → Int32 → Option ((Nat → Int32) × (Nat → Int32))) (vtg : Nat → Int32) (vws : Nat → Int32) (vs : Nat → Int32) (l2 : Int32) : Option ((Nat → Int32) × (Nat → Int32)) := (mX9_findsTargets_J36 k2 vtg vws vs l2 (-1 : Int32))
def mX9_findsTargets_L2  : Nat → (Nat → Int32) → (Nat → Int32) → (Nat → Int32) → Int32 → Option ((Nat → Int32) × (Nat → Int32))
  | 0, _, _, _, _ => none
  | n + 1, vtg, vws, vs, l2 => (if (36 : Int32) ≤ l2 then (mX9_findsTargets_L68 4096 vtg vws vs (0 : Int32)) else (if ¬ (l2 < 0 ∨ 117 ≤ l2.toNatClampNeg) then (if (vs l2.toNatClampNeg) < (3 : Int32) then (mX9_findsTargets_J35 (fun vtg vws vs l2 => mX9_findsTargets_L2 n vtg vws vs l2) vtg vws vs l2) else (bo1 (mX9_hasThing vs l2) (fun r_24 => (if r_24 = 0 then (mX9_findsTargets_J35 (fun vtg vws vs l2 => mX9_findsTargets_L2 n vtg vws vs l2) vtg vws vs l2) else (mX9_findsTargets_J36 (fun vtg vws vs l2 => mX9_findsTargets_L2 n vtg vws vs l2) vtg vws vs l2 (mX9_next l2 ((vs l2.toNatClampNeg) - (3 : Int32)))))))) else none))
def mX9_findsTargets (vtg : Nat → Int32) (vws : Nat → Int32) (vs : Nat → Int32) : Option ((Nat → Int32) × (Nat → Int32)) := (mX9_findsTargets_L2 4096 vtg vws vs (0 : Int32))
set_option maxHeartbeats 4000000 in
set_option maxRecDepth 100000 in
theorem kX9_findsTargets (l : Launch) (Γ : my_G) (q_mo q_wy q_ah q_tg q_ws q_s q_tt q_nw q_tr q_ot q_di q_kp q_ik q_fr q_rw : Nat) (mi : Nat → Int32) (vwy : Nat → Int32) (vah : Nat → Int32) (vtg : Nat → Int32) (vws : Nat → Int32) (vs : Nat → Int32)  (vtg_z : Nat → Int32) (vws_z : Nat → Int32) (hm : mX9_findsTargets vtg vws vs = (some (vtg_z, vws_z))) : Mn l yX9_findsTargets wsX9_findsTargets ({ frames := 3, cells := 0, slots := 0, locals := 64 } : Room) Γ [.ref q_mo, .ref q_s] (wStep Γ q_mo q_wy q_ah q_tg q_ws q_s q_tt q_nw q_tr q_ot q_di q_kp q_ik q_fr q_rw mi vwy vah vtg vws vs) none (wStep Γ q_mo q_wy q_ah q_tg q_ws q_s q_tt q_nw q_tr q_ot q_di q_kp q_ik q_fr q_rw mi vwy vah vtg_z vws_z vs) := by
  intro sz
  refine Met.ofW (cc := cX9_findsTargets) (maxL := 6) (ret := none) (by decide) rfl ?_
  intro p e s m args below meth c s₁ B hml hv
  obtain ⟨rfl, hsz, hP, hK, hD0⟩ := hv
  have hx := B.exec
  have hb := B.bytes
  have hr := B.returns
  have hts := atoms_spec (ws := wsX9_findsTargets) B.pre
  have hown : s.vm.findClass RX9 = some m.cls := findClass_of_methodNamed B.named
  have hlocks := B.notSynchronized
  have hinX9 : ∀ w ∈ u_ws RX9 TX9 19, w ∈ wsX9_findsTargets := fun w h => List.mem_cons_of_mem _ (List.mem_append_right _ h)
  subst hsz
  have hD := hD0.self (sz := s.heap.size)
  have hA : ∀ q : Nat, s.heap.size ≤ q → va_A (wStep Γ q_mo q_wy q_ah q_tg q_ws q_s q_tt q_nw q_tr q_ot q_di q_kp q_ik q_fr q_rw mi vwy vah vtg vws vs) s.heap.size q := fun q h => Or.inr h
  generalize va_A (wStep Γ q_mo q_wy q_ah q_tg q_ws q_s q_tt q_nw q_tr q_ot q_di q_kp q_ik q_fr q_rw mi vwy vah vtg vws vs) s.heap.size = A at hD hA ⊢
  have hS : va_S A s.heap s.heap [] := va_S.rf
  have hl := lv_entry ([.ref q_mo, .ref q_s]) (n := 6) (Nat.le_of_ble_eq_true rfl)
  rw [lg_entry_eq]
  generalize (lg_sl ([.ref q_mo, .ref q_s]) ++ List.replicate (6 - (lg_sl ([.ref q_mo, .ref q_s])).length) Slot.unset).toArray = ls at hl ⊢
  replace hl : lv_has ls 6 [(0, .ref q_mo), (1, .ref q_s)] := hl
  have J_173 : ∀ (k68 : (Nat → Int32) → (Nat → Int32) → (Nat → Int32) → Int32 → Option ((Nat → Int32) × (Nat → Int32))), (∀ (vtg : Nat → Int32) (vws : Nat → Int32) (vs : Nat → Int32) (l2 : Int32) (H : Heap) (locs : List Loc) (ls : Array Slot), va_P (my_D Γ) vwCl (wStep Γ q_mo q_wy q_ah q_tg q_ws q_s q_tt q_nw q_tr q_ot q_di q_kp q_ik q_fr q_rw mi vwy vah vtg vws vs) H → va_D A (wStep Γ q_mo q_wy q_ah q_tg q_ws q_s q_tt q_nw q_tr q_ot q_di q_kp q_ik q_fr q_rw mi vwy vah vtg vws vs) → va_S A s.heap H locs → lv_has ls 6 [(0, .ref q_mo), (2, .int l2)] → k68 vtg vws vs l2 = (some (vtg_z, vws_z)) → W p l e (headSpec wsX9_findsTargets ({ frames := 3, cells := 0, slots := 0, locals := 64 } : Room)).room s m ([.ref q_mo, .ref q_s] : List Value).toArray below meth c H locs 0 0 (MQ below (my_Q Γ A none (wStep Γ q_mo q_wy q_ah q_tg q_ws q_s q_tt q_nw q_tr q_ot q_di q_kp q_ik q_fr q_rw mi vwy vah vtg_z vws_z vs)) ([.ref q_mo, .ref q_s] : List Value).toArray s 0 0 A) (F0 m 68 ls [])) → ∀ (k88 : (Nat → Int32) → (Nat → Int32) → (Nat → Int32) → Int32 → Int32 → Option ((Nat → Int32) × (Nat → Int32))), (∀ (vtg : Nat → Int32) (vws : Nat → Int32) (vs : Nat → Int32) (l2 : Int32) (l3 : Int32) (H : Heap) (locs : List Loc) (ls : Array Slot), va_P (my_D Γ) vwCl (wStep Γ q_mo q_wy q_ah q_tg q_ws q_s q_tt q_nw q_tr q_ot q_di q_kp q_ik q_fr q_rw mi vwy vah vtg vws vs) H → va_D A (wStep Γ q_mo q_wy q_ah q_tg q_ws q_s q_tt q_nw q_tr q_ot q_di q_kp q_ik q_fr q_rw mi vwy vah vtg vws vs) → va_S A s.heap H locs → lv_has ls 6 [(0, .ref q_mo), (2, .int l2), (3, .int l3)] → k88 vtg vws vs l2 l3 = (some (vtg_z, vws_z)) → W p l e (headSpec wsX9_findsTargets ({ frames := 3, cells := 0, slots := 0, locals := 64 } : Room)).room s m ([.ref q_mo, .ref q_s] : List Value).toArray below meth c H locs 0 0 (MQ below (my_Q Γ A none (wStep Γ q_mo q_wy q_ah q_tg q_ws q_s q_tt q_nw q_tr q_ot q_di q_kp q_ik q_fr q_rw mi vwy vah vtg_z vws_z vs)) ([.ref q_mo, .ref q_s] : List Value).toArray s 0 0 A) (F0 m 88 ls [])) → ∀ (vtg : Nat → Int32) (vws : Nat → Int32) (vs : Nat → Int32) (l2 : Int32) (l3 : Int32) (s1 : Int32) (s2 : Int32) (H : Heap) (locs : List Loc) (ls : Array Slot), va_P (my_D Γ) vwCl (wStep Γ q_mo q_wy q_ah q_tg q_ws q_s q_tt q_nw q_tr q_ot q_di q_kp q_ik q_fr q_rw mi vwy vah vtg vws vs) H → va_D A (wStep Γ q_mo q_wy q_ah q_tg q_ws q_s q_tt q_nw q_tr q_ot q_di q_kp q_ik q_fr q_rw mi vwy vah vtg vws vs) → va_S A s.heap H locs → lv_has ls 6 [(0, .ref q_mo), (2, .int l2), (3, .int l3)] → mX9_findsTargets_J173 k68 k88 vtg vws vs l2 l3 s1 s2 = (some (vtg_z, vws_z)) → W p l e (headSpec wsX9_findsTargets ({ frames := 3, cells := 0, slots := 0, locals := 64 } : Room)).room s m ([.ref q_mo, .ref q_s] : List Value).toArray below meth c H locs 0 0 (MQ below (my_Q Γ A none (wStep Γ q_mo q_wy q_ah q_tg q_ws q_s q_tt q_nw q_tr q_ot q_di q_kp q_ik q_fr q_rw mi vwy vah vtg_z vws_z vs)) ([.ref q_mo, .ref q_s] : List Value).toArray s 0 0 A) (F0 m 173 ls [.int s2, .int s1, .ref q_tg]) := by
    intro k68 hk68 k88 hk88 vtg vws vs l2 l3 s1 s2 H locs ls hP hD hS hl hm
    unfold mX9_findsTargets_J173 at hm
    obtain ⟨hi_10, hm⟩ := if_in hm
    refine va_iast hx hb hK hP hD hS 3 0 rfl rfl hi_10 dX9_findsTargets_173 (fun H locs hP hD hS => ?_)
    replace hP : va_P (my_D Γ) vwCl (wStep Γ q_mo q_wy q_ah q_tg q_ws q_s q_tt q_nw q_tr q_ot q_di q_kp q_ik q_fr q_rw mi vwy vah (upd vtg s1.toNatClampNeg s2) vws vs) H := hP
    replace hD : va_D A (wStep Γ q_mo q_wy q_ah q_tg q_ws q_s q_tt q_nw q_tr q_ot q_di q_kp q_ik q_fr q_rw mi vwy vah (upd vtg s1.toNatClampNeg s2) vws vs) := hD
    refine lv_iinc (v := (l3 + (1 : Int32))) (lv' := [(3, .int (l3 + (1 : Int32))), (0, .ref q_mo), (2, .int l2)]) hx hb dX9_findsTargets_174 hl (k := 2) rfl rfl (by decide) rfl (fun ls hl => ?_)
    refine lv_goto (tgt := 88) hx hb dX9_findsTargets_177 (by decide) ?_
    exact hk88 (upd vtg s1.toNatClampNeg s2) vws vs l2 (l3 + (1 : Int32)) _ _ _ hP hD hS (lv_sub hl [1, 2, 0] rfl) hm
  have J_163 : ∀ (k68 : (Nat → Int32) → (Nat → Int32) → (Nat → Int32) → Int32 → Option ((Nat → Int32) × (Nat → Int32))), (∀ (vtg : Nat → Int32) (vws : Nat → Int32) (vs : Nat → Int32) (l2 : Int32) (H : Heap) (locs : List Loc) (ls : Array Slot), va_P (my_D Γ) vwCl (wStep Γ q_mo q_wy q_ah q_tg q_ws q_s q_tt q_nw q_tr q_ot q_di q_kp q_ik q_fr q_rw mi vwy vah vtg vws vs) H → va_D A (wStep Γ q_mo q_wy q_ah q_tg q_ws q_s q_tt q_nw q_tr q_ot q_di q_kp q_ik q_fr q_rw mi vwy vah vtg vws vs) → va_S A s.heap H locs → lv_has ls 6 [(0, .ref q_mo), (2, .int l2)] → k68 vtg vws vs l2 = (some (vtg_z, vws_z)) → W p l e (headSpec wsX9_findsTargets ({ frames := 3, cells := 0, slots := 0, locals := 64 } : Room)).room s m ([.ref q_mo, .ref q_s] : List Value).toArray below meth c H locs 0 0 (MQ below (my_Q Γ A none (wStep Γ q_mo q_wy q_ah q_tg q_ws q_s q_tt q_nw q_tr q_ot q_di q_kp q_ik q_fr q_rw mi vwy vah vtg_z vws_z vs)) ([.ref q_mo, .ref q_s] : List Value).toArray s 0 0 A) (F0 m 68 ls [])) → ∀ (k88 : (Nat → Int32) → (Nat → Int32) → (Nat → Int32) → Int32 → Int32 → Option ((Nat → Int32) × (Nat → Int32))), (∀ (vtg : Nat → Int32) (vws : Nat → Int32) (vs : Nat → Int32) (l2 : Int32) (l3 : Int32) (H : Heap) (locs : List Loc) (ls : Array Slot), va_P (my_D Γ) vwCl (wStep Γ q_mo q_wy q_ah q_tg q_ws q_s q_tt q_nw q_tr q_ot q_di q_kp q_ik q_fr q_rw mi vwy vah vtg vws vs) H → va_D A (wStep Γ q_mo q_wy q_ah q_tg q_ws q_s q_tt q_nw q_tr q_ot q_di q_kp q_ik q_fr q_rw mi vwy vah vtg vws vs) → va_S A s.heap H locs → lv_has ls 6 [(0, .ref q_mo), (2, .int l2), (3, .int l3)] → k88 vtg vws vs l2 l3 = (some (vtg_z, vws_z)) → W p l e (headSpec wsX9_findsTargets ({ frames := 3, cells := 0, slots := 0, locals := 64 } : Room)).room s m ([.ref q_mo, .ref q_s] : List Value).toArray below meth c H locs 0 0 (MQ below (my_Q Γ A none (wStep Γ q_mo q_wy q_ah q_tg q_ws q_s q_tt q_nw q_tr q_ot q_di q_kp q_ik q_fr q_rw mi vwy vah vtg_z vws_z vs)) ([.ref q_mo, .ref q_s] : List Value).toArray s 0 0 A) (F0 m 88 ls [])) → ∀ (vtg : Nat → Int32) (vws : Nat → Int32) (vs : Nat → Int32) (l2 : Int32) (l3 : Int32) (s1 : Int32) (H : Heap) (locs : List Loc) (ls : Array Slot), va_P (my_D Γ) vwCl (wStep Γ q_mo q_wy q_ah q_tg q_ws q_s q_tt q_nw q_tr q_ot q_di q_kp q_ik q_fr q_rw mi vwy vah vtg vws vs) H → va_D A (wStep Γ q_mo q_wy q_ah q_tg q_ws q_s q_tt q_nw q_tr q_ot q_di q_kp q_ik q_fr q_rw mi vwy vah vtg vws vs) → va_S A s.heap H locs → lv_has ls 6 [(0, .ref q_mo), (2, .int l2), (3, .int l3)] → mX9_findsTargets_J163 k68 k88 vtg vws vs l2 l3 s1 = (some (vtg_z, vws_z)) → W p l e (headSpec wsX9_findsTargets ({ frames := 3, cells := 0, slots := 0, locals := 64 } : Room)).room s m ([.ref q_mo, .ref q_s] : List Value).toArray below meth c H locs 0 0 (MQ below (my_Q Γ A none (wStep Γ q_mo q_wy q_ah q_tg q_ws q_s q_tt q_nw q_tr q_ot q_di q_kp q_ik q_fr q_rw mi vwy vah vtg_z vws_z vs)) ([.ref q_mo, .ref q_s] : List Value).toArray s 0 0 A) (F0 m 163 ls [.int s1, .ref q_tg]) := by
    intro k68 hk68 k88 hk88 vtg vws vs l2 l3 s1 H locs ls hP hD hS hl hm
    unfold mX9_findsTargets_J163 at hm
    refine lv_iconst (v := (-1 : Int32)) hx hb dX9_findsTargets_163 (by decide) ?_
    refine lv_goto (tgt := 173) hx hb dX9_findsTargets_164 (by decide) ?_
    exact J_173 k68 hk68 k88 hk88 vtg vws vs l2 l3 s1 (-1 : Int32) _ _ _ hP hD hS (lv_sub hl [0, 1, 2] rfl) hm
  have J_146 : ∀ (k68 : (Nat → Int32) → (Nat → Int32) → (Nat → Int32) → Int32 → Option ((Nat → Int32) × (Nat → Int32))), (∀ (vtg : Nat → Int32) (vws : Nat → Int32) (vs : Nat → Int32) (l2 : Int32) (H : Heap) (locs : List Loc) (ls : Array Slot), va_P (my_D Γ) vwCl (wStep Γ q_mo q_wy q_ah q_tg q_ws q_s q_tt q_nw q_tr q_ot q_di q_kp q_ik q_fr q_rw mi vwy vah vtg vws vs) H → va_D A (wStep Γ q_mo q_wy q_ah q_tg q_ws q_s q_tt q_nw q_tr q_ot q_di q_kp q_ik q_fr q_rw mi vwy vah vtg vws vs) → va_S A s.heap H locs → lv_has ls 6 [(0, .ref q_mo), (2, .int l2)] → k68 vtg vws vs l2 = (some (vtg_z, vws_z)) → W p l e (headSpec wsX9_findsTargets ({ frames := 3, cells := 0, slots := 0, locals := 64 } : Room)).room s m ([.ref q_mo, .ref q_s] : List Value).toArray below meth c H locs 0 0 (MQ below (my_Q Γ A none (wStep Γ q_mo q_wy q_ah q_tg q_ws q_s q_tt q_nw q_tr q_ot q_di q_kp q_ik q_fr q_rw mi vwy vah vtg_z vws_z vs)) ([.ref q_mo, .ref q_s] : List Value).toArray s 0 0 A) (F0 m 68 ls [])) → ∀ (k88 : (Nat → Int32) → (Nat → Int32) → (Nat → Int32) → Int32 → Int32 → Option ((Nat → Int32) × (Nat → Int32))), (∀ (vtg : Nat → Int32) (vws : Nat → Int32) (vs : Nat → Int32) (l2 : Int32) (l3 : Int32) (H : Heap) (locs : List Loc) (ls : Array Slot), va_P (my_D Γ) vwCl (wStep Γ q_mo q_wy q_ah q_tg q_ws q_s q_tt q_nw q_tr q_ot q_di q_kp q_ik q_fr q_rw mi vwy vah vtg vws vs) H → va_D A (wStep Γ q_mo q_wy q_ah q_tg q_ws q_s q_tt q_nw q_tr q_ot q_di q_kp q_ik q_fr q_rw mi vwy vah vtg vws vs) → va_S A s.heap H locs → lv_has ls 6 [(0, .ref q_mo), (2, .int l2), (3, .int l3)] → k88 vtg vws vs l2 l3 = (some (vtg_z, vws_z)) → W p l e (headSpec wsX9_findsTargets ({ frames := 3, cells := 0, slots := 0, locals := 64 } : Room)).room s m ([.ref q_mo, .ref q_s] : List Value).toArray below meth c H locs 0 0 (MQ below (my_Q Γ A none (wStep Γ q_mo q_wy q_ah q_tg q_ws q_s q_tt q_nw q_tr q_ot q_di q_kp q_ik q_fr q_rw mi vwy vah vtg_z vws_z vs)) ([.ref q_mo, .ref q_s] : List Value).toArray s 0 0 A) (F0 m 88 ls [])) → ∀ (vtg : Nat → Int32) (vws : Nat → Int32) (vs : Nat → Int32) (l2 : Int32) (l3 : Int32) (l4 : Int32) (s0 : Int32) (H : Heap) (locs : List Loc) (ls : Array Slot), va_P (my_D Γ) vwCl (wStep Γ q_mo q_wy q_ah q_tg q_ws q_s q_tt q_nw q_tr q_ot q_di q_kp q_ik q_fr q_rw mi vwy vah vtg vws vs) H → va_D A (wStep Γ q_mo q_wy q_ah q_tg q_ws q_s q_tt q_nw q_tr q_ot q_di q_kp q_ik q_fr q_rw mi vwy vah vtg vws vs) → va_S A s.heap H locs → lv_has ls 6 [(0, .ref q_mo), (2, .int l2), (3, .int l3), (4, .int l4)] → mX9_findsTargets_J146 k68 k88 vtg vws vs l2 l3 l4 s0 = (some (vtg_z, vws_z)) → W p l e (headSpec wsX9_findsTargets ({ frames := 3, cells := 0, slots := 0, locals := 64 } : Room)).room s m ([.ref q_mo, .ref q_s] : List Value).toArray below meth c H locs 0 0 (MQ below (my_Q Γ A none (wStep Γ q_mo q_wy q_ah q_tg q_ws q_s q_tt q_nw q_tr q_ot q_di q_kp q_ik q_fr q_rw mi vwy vah vtg_z vws_z vs)) ([.ref q_mo, .ref q_s] : List Value).toArray s 0 0 A) (F0 m 146 ls [.int s0]) := by
    intro k68 hk68 k88 hk88 vtg vws vs l2 l3 l4 s0 H locs ls hP hD hS hl hm
    unfold mX9_findsTargets_J146 at hm
    refine lv_istore (lv' := [(5, .int s0), (0, .ref q_mo), (2, .int l2), (3, .int l3), (4, .int l4)]) hx hb dX9_findsTargets_146 hl (by decide) rfl (fun ls hl => ?_)
    refine lv_aload_n hx hb dX9_findsTargets_148 rfl (lv_at hl 1 rfl) ?_
    refine va_get (D := my_D Γ) (ci := 7) (v := .ref q_tg) (C := RX9) (T := TX9) (N := 19) hx hb hts hinX9 hown hK hP 0 rfl rfl 12 (by decide) (hts (.fieldLink RX9 38 "BeltFloorModel" "target" "[I") (List.mem_of_getElem? (i := 2) rfl)) (fun _ h9 => h9) rfl dX9_findsTargets_149 ?_
    refine lv_iload_n hx hb dX9_findsTargets_152 rfl (lv_at hl 2 rfl) ?_
    refine lv_iload hx hb dX9_findsTargets_153 (lv_at hl 4 rfl) ?_
    refine lv_if_ne (tgt := 163) hx hb dX9_findsTargets_155 (by decide) (fun c_9 => ?_) (fun c_9 => ?_)
    · replace hm := if_f hm c_9
      exact J_163 k68 hk68 k88 hk88 vtg vws vs l2 l3 l2 _ _ _ hP hD hS (lv_sub hl [1, 2, 3] rfl) hm
    · replace hm := if_s hm c_9
      refine lv_iload hx hb dX9_findsTargets_158 (lv_at hl 0 rfl) ?_
      refine lv_if_eq (tgt := 167) hx hb dX9_findsTargets_160 (by decide) (fun c_11 => ?_) (fun c_11 => ?_)
      · replace hm := if_s hm c_11
        refine lv_aload_n hx hb dX9_findsTargets_167 rfl (lv_at hl 1 rfl) ?_
        refine va_get (D := my_D Γ) (ci := 7) (v := .ref q_tg) (C := RX9) (T := TX9) (N := 19) hx hb hts hinX9 hown hK hP 0 rfl rfl 12 (by decide) (hts (.fieldLink RX9 38 "BeltFloorModel" "target" "[I") (List.mem_of_getElem? (i := 2) rfl)) (fun _ h9 => h9) rfl dX9_findsTargets_168 ?_
        refine lv_iload_n hx hb dX9_findsTargets_171 rfl (lv_at hl 2 rfl) ?_
        obtain ⟨hi_12, hm⟩ := if_in hm
        refine va_iald hx hb hK hP 3 0 rfl rfl hi_12 dX9_findsTargets_172 ?_
        exact J_173 k68 hk68 k88 hk88 vtg vws vs l2 l3 l2 (vtg l2.toNatClampNeg) _ _ _ hP hD hS (lv_sub hl [1, 2, 3] rfl) hm
      · replace hm := if_f hm c_11
        exact J_163 k68 hk68 k88 hk88 vtg vws vs l2 l3 l2 _ _ _ hP hD hS (lv_sub hl [1, 2, 3] rfl) hm
  have J_145 : ∀ (k68 : (Nat → Int32) → (Nat → Int32) → (Nat → Int32) → Int32 → Option ((Nat → Int32) × (Nat → Int32))), (∀ (vtg : Nat → Int32) (vws : Nat → Int32) (vs : Nat → Int32) (l2 : Int32) (H : Heap) (locs : List Loc) (ls : Array Slot), va_P (my_D Γ) vwCl (wStep Γ q_mo q_wy q_ah q_tg q_ws q_s q_tt q_nw q_tr q_ot q_di q_kp q_ik q_fr q_rw mi vwy vah vtg vws vs) H → va_D A (wStep Γ q_mo q_wy q_ah q_tg q_ws q_s q_tt q_nw q_tr q_ot q_di q_kp q_ik q_fr q_rw mi vwy vah vtg vws vs) → va_S A s.heap H locs → lv_has ls 6 [(0, .ref q_mo), (2, .int l2)] → k68 vtg vws vs l2 = (some (vtg_z, vws_z)) → W p l e (headSpec wsX9_findsTargets ({ frames := 3, cells := 0, slots := 0, locals := 64 } : Room)).room s m ([.ref q_mo, .ref q_s] : List Value).toArray below meth c H locs 0 0 (MQ below (my_Q Γ A none (wStep Γ q_mo q_wy q_ah q_tg q_ws q_s q_tt q_nw q_tr q_ot q_di q_kp q_ik q_fr q_rw mi vwy vah vtg_z vws_z vs)) ([.ref q_mo, .ref q_s] : List Value).toArray s 0 0 A) (F0 m 68 ls [])) → ∀ (k88 : (Nat → Int32) → (Nat → Int32) → (Nat → Int32) → Int32 → Int32 → Option ((Nat → Int32) × (Nat → Int32))), (∀ (vtg : Nat → Int32) (vws : Nat → Int32) (vs : Nat → Int32) (l2 : Int32) (l3 : Int32) (H : Heap) (locs : List Loc) (ls : Array Slot), va_P (my_D Γ) vwCl (wStep Γ q_mo q_wy q_ah q_tg q_ws q_s q_tt q_nw q_tr q_ot q_di q_kp q_ik q_fr q_rw mi vwy vah vtg vws vs) H → va_D A (wStep Γ q_mo q_wy q_ah q_tg q_ws q_s q_tt q_nw q_tr q_ot q_di q_kp q_ik q_fr q_rw mi vwy vah vtg vws vs) → va_S A s.heap H locs → lv_has ls 6 [(0, .ref q_mo), (2, .int l2), (3, .int l3)] → k88 vtg vws vs l2 l3 = (some (vtg_z, vws_z)) → W p l e (headSpec wsX9_findsTargets ({ frames := 3, cells := 0, slots := 0, locals := 64 } : Room)).room s m ([.ref q_mo, .ref q_s] : List Value).toArray below meth c H locs 0 0 (MQ below (my_Q Γ A none (wStep Γ q_mo q_wy q_ah q_tg q_ws q_s q_tt q_nw q_tr q_ot q_di q_kp q_ik q_fr q_rw mi vwy vah vtg_z vws_z vs)) ([.ref q_mo, .ref q_s] : List Value).toArray s 0 0 A) (F0 m 88 ls [])) → ∀ (vtg : Nat → Int32) (vws : Nat → Int32) (vs : Nat → Int32) (l2 : Int32) (l3 : Int32) (l4 : Int32) (H : Heap) (locs : List Loc) (ls : Array Slot), va_P (my_D Γ) vwCl (wStep Γ q_mo q_wy q_ah q_tg q_ws q_s q_tt q_nw q_tr q_ot q_di q_kp q_ik q_fr q_rw mi vwy vah vtg vws vs) H → va_D A (wStep Γ q_mo q_wy q_ah q_tg q_ws q_s q_tt q_nw q_tr q_ot q_di q_kp q_ik q_fr q_rw mi vwy vah vtg vws vs) → va_S A s.heap H locs → lv_has ls 6 [(0, .ref q_mo), (2, .int l2), (3, .int l3), (4, .int l4)] → mX9_findsTargets_J145 k68 k88 vtg vws vs l2 l3 l4 = (some (vtg_z, vws_z)) → W p l e (headSpec wsX9_findsTargets ({ frames := 3, cells := 0, slots := 0, locals := 64 } : Room)).room s m ([.ref q_mo, .ref q_s] : List Value).toArray below meth c H locs 0 0 (MQ below (my_Q Γ A none (wStep Γ q_mo q_wy q_ah q_tg q_ws q_s q_tt q_nw q_tr q_ot q_di q_kp q_ik q_fr q_rw mi vwy vah vtg_z vws_z vs)) ([.ref q_mo, .ref q_s] : List Value).toArray s 0 0 A) (F0 m 145 ls []) := by
    intro k68 hk68 k88 hk88 vtg vws vs l2 l3 l4 H locs ls hP hD hS hl hm
    unfold mX9_findsTargets_J145 at hm
    refine lv_iconst (v := (0 : Int32)) hx hb dX9_findsTargets_145 (by decide) ?_
    exact J_146 k68 hk68 k88 hk88 vtg vws vs l2 l3 l4 (0 : Int32) _ _ _ hP hD hS (lv_sub hl [0, 1, 2, 3] rfl) hm
  have J_119 : ∀ (k68 : (Nat → Int32) → (Nat → Int32) → (Nat → Int32) → Int32 → Option ((Nat → Int32) × (Nat → Int32))), (∀ (vtg : Nat → Int32) (vws : Nat → Int32) (vs : Nat → Int32) (l2 : Int32) (H : Heap) (locs : List Loc) (ls : Array Slot), va_P (my_D Γ) vwCl (wStep Γ q_mo q_wy q_ah q_tg q_ws q_s q_tt q_nw q_tr q_ot q_di q_kp q_ik q_fr q_rw mi vwy vah vtg vws vs) H → va_D A (wStep Γ q_mo q_wy q_ah q_tg q_ws q_s q_tt q_nw q_tr q_ot q_di q_kp q_ik q_fr q_rw mi vwy vah vtg vws vs) → va_S A s.heap H locs → lv_has ls 6 [(0, .ref q_mo), (2, .int l2)] → k68 vtg vws vs l2 = (some (vtg_z, vws_z)) → W p l e (headSpec wsX9_findsTargets ({ frames := 3, cells := 0, slots := 0, locals := 64 } : Room)).room s m ([.ref q_mo, .ref q_s] : List Value).toArray below meth c H locs 0 0 (MQ below (my_Q Γ A none (wStep Γ q_mo q_wy q_ah q_tg q_ws q_s q_tt q_nw q_tr q_ot q_di q_kp q_ik q_fr q_rw mi vwy vah vtg_z vws_z vs)) ([.ref q_mo, .ref q_s] : List Value).toArray s 0 0 A) (F0 m 68 ls [])) → ∀ (k88 : (Nat → Int32) → (Nat → Int32) → (Nat → Int32) → Int32 → Int32 → Option ((Nat → Int32) × (Nat → Int32))), (∀ (vtg : Nat → Int32) (vws : Nat → Int32) (vs : Nat → Int32) (l2 : Int32) (l3 : Int32) (H : Heap) (locs : List Loc) (ls : Array Slot), va_P (my_D Γ) vwCl (wStep Γ q_mo q_wy q_ah q_tg q_ws q_s q_tt q_nw q_tr q_ot q_di q_kp q_ik q_fr q_rw mi vwy vah vtg vws vs) H → va_D A (wStep Γ q_mo q_wy q_ah q_tg q_ws q_s q_tt q_nw q_tr q_ot q_di q_kp q_ik q_fr q_rw mi vwy vah vtg vws vs) → va_S A s.heap H locs → lv_has ls 6 [(0, .ref q_mo), (2, .int l2), (3, .int l3)] → k88 vtg vws vs l2 l3 = (some (vtg_z, vws_z)) → W p l e (headSpec wsX9_findsTargets ({ frames := 3, cells := 0, slots := 0, locals := 64 } : Room)).room s m ([.ref q_mo, .ref q_s] : List Value).toArray below meth c H locs 0 0 (MQ below (my_Q Γ A none (wStep Γ q_mo q_wy q_ah q_tg q_ws q_s q_tt q_nw q_tr q_ot q_di q_kp q_ik q_fr q_rw mi vwy vah vtg_z vws_z vs)) ([.ref q_mo, .ref q_s] : List Value).toArray s 0 0 A) (F0 m 88 ls [])) → ∀ (vtg : Nat → Int32) (vws : Nat → Int32) (vs : Nat → Int32) (l2 : Int32) (l3 : Int32) (s0 : Int32) (H : Heap) (locs : List Loc) (ls : Array Slot), va_P (my_D Γ) vwCl (wStep Γ q_mo q_wy q_ah q_tg q_ws q_s q_tt q_nw q_tr q_ot q_di q_kp q_ik q_fr q_rw mi vwy vah vtg vws vs) H → va_D A (wStep Γ q_mo q_wy q_ah q_tg q_ws q_s q_tt q_nw q_tr q_ot q_di q_kp q_ik q_fr q_rw mi vwy vah vtg vws vs) → va_S A s.heap H locs → lv_has ls 6 [(0, .ref q_mo), (2, .int l2), (3, .int l3)] → mX9_findsTargets_J119 k68 k88 vtg vws vs l2 l3 s0 = (some (vtg_z, vws_z)) → W p l e (headSpec wsX9_findsTargets ({ frames := 3, cells := 0, slots := 0, locals := 64 } : Room)).room s m ([.ref q_mo, .ref q_s] : List Value).toArray below meth c H locs 0 0 (MQ below (my_Q Γ A none (wStep Γ q_mo q_wy q_ah q_tg q_ws q_s q_tt q_nw q_tr q_ot q_di q_kp q_ik q_fr q_rw mi vwy vah vtg_z vws_z vs)) ([.ref q_mo, .ref q_s] : List Value).toArray s 0 0 A) (F0 m 119 ls [.int s0]) := by
    intro k68 hk68 k88 hk88 vtg vws vs l2 l3 s0 H locs ls hP hD hS hl hm
    unfold mX9_findsTargets_J119 at hm
    refine lv_istore (lv' := [(4, .int s0), (0, .ref q_mo), (2, .int l2), (3, .int l3)]) hx hb dX9_findsTargets_119 hl (by decide) rfl (fun ls hl => ?_)
    refine lv_iload_n hx hb dX9_findsTargets_121 rfl (lv_at hl 3 rfl) ?_
    refine lv_aload_n hx hb dX9_findsTargets_122 rfl (lv_at hl 1 rfl) ?_
    refine va_get (D := my_D Γ) (ci := 7) (v := .ref q_ws) (C := RX9) (T := TX9) (N := 19) hx hb hts hinX9 hown hK hP 0 rfl rfl 13 (by decide) (hts (.fieldLink RX9 41 "BeltFloorModel" "was" "[I") (List.mem_of_getElem? (i := 1) rfl)) (fun _ h9 => h9) rfl dX9_findsTargets_123 ?_
    refine lv_iload_n hx hb dX9_findsTargets_126 rfl (lv_at hl 2 rfl) ?_
    obtain ⟨hi_7, hm⟩ := if_in hm
    refine va_iald hx hb hK hP 4 0 rfl rfl hi_7 dX9_findsTargets_127 ?_
    refine lv_icmp_ne (tgt := 145) hx hb dX9_findsTargets_128 (by decide) (fun c_8 => ?_) (fun c_8 => ?_)
    · replace hm := if_f hm c_8
      exact J_145 k68 hk68 k88 hk88 vtg vws vs l2 l3 s0 _ _ _ hP hD hS (lv_sub hl [1, 2, 3, 0] rfl) hm
    · replace hm := if_s hm c_8
      refine lv_aload_n hx hb dX9_findsTargets_131 rfl (lv_at hl 1 rfl) ?_
      refine va_get (D := my_D Γ) (ci := 7) (v := .ref q_ws) (C := RX9) (T := TX9) (N := 19) hx hb hts hinX9 hown hK hP 0 rfl rfl 13 (by decide) (hts (.fieldLink RX9 41 "BeltFloorModel" "was" "[I") (List.mem_of_getElem? (i := 1) rfl)) (fun _ h9 => h9) rfl dX9_findsTargets_132 ?_
      refine lv_iload_n hx hb dX9_findsTargets_135 rfl (lv_at hl 3 rfl) ?_
      obtain ⟨hi_13, hm⟩ := if_in hm
      refine va_iald hx hb hK hP 4 0 rfl rfl hi_13 dX9_findsTargets_136 ?_
      refine lv_iload_n hx hb dX9_findsTargets_137 rfl (lv_at hl 2 rfl) ?_
      refine lv_icmp_ne (tgt := 145) hx hb dX9_findsTargets_138 (by decide) (fun c_14 => ?_) (fun c_14 => ?_)
      · replace hm := if_f hm c_14
        exact J_145 k68 hk68 k88 hk88 vtg vws vs l2 l3 s0 _ _ _ hP hD hS (lv_sub hl [1, 2, 3, 0] rfl) hm
      · replace hm := if_s hm c_14
        refine lv_iconst (v := (1 : Int32)) hx hb dX9_findsTargets_141 (by decide) ?_
        refine lv_goto (tgt := 146) hx hb dX9_findsTargets_142 (by decide) ?_
        exact J_146 k68 hk68 k88 hk88 vtg vws vs l2 l3 s0 (1 : Int32) _ _ _ hP hD hS (lv_sub hl [1, 2, 3, 0] rfl) hm
  have J_118 : ∀ (k68 : (Nat → Int32) → (Nat → Int32) → (Nat → Int32) → Int32 → Option ((Nat → Int32) × (Nat → Int32))), (∀ (vtg : Nat → Int32) (vws : Nat → Int32) (vs : Nat → Int32) (l2 : Int32) (H : Heap) (locs : List Loc) (ls : Array Slot), va_P (my_D Γ) vwCl (wStep Γ q_mo q_wy q_ah q_tg q_ws q_s q_tt q_nw q_tr q_ot q_di q_kp q_ik q_fr q_rw mi vwy vah vtg vws vs) H → va_D A (wStep Γ q_mo q_wy q_ah q_tg q_ws q_s q_tt q_nw q_tr q_ot q_di q_kp q_ik q_fr q_rw mi vwy vah vtg vws vs) → va_S A s.heap H locs → lv_has ls 6 [(0, .ref q_mo), (2, .int l2)] → k68 vtg vws vs l2 = (some (vtg_z, vws_z)) → W p l e (headSpec wsX9_findsTargets ({ frames := 3, cells := 0, slots := 0, locals := 64 } : Room)).room s m ([.ref q_mo, .ref q_s] : List Value).toArray below meth c H locs 0 0 (MQ below (my_Q Γ A none (wStep Γ q_mo q_wy q_ah q_tg q_ws q_s q_tt q_nw q_tr q_ot q_di q_kp q_ik q_fr q_rw mi vwy vah vtg_z vws_z vs)) ([.ref q_mo, .ref q_s] : List Value).toArray s 0 0 A) (F0 m 68 ls [])) → ∀ (k88 : (Nat → Int32) → (Nat → Int32) → (Nat → Int32) → Int32 → Int32 → Option ((Nat → Int32) × (Nat → Int32))), (∀ (vtg : Nat → Int32) (vws : Nat → Int32) (vs : Nat → Int32) (l2 : Int32) (l3 : Int32) (H : Heap) (locs : List Loc) (ls : Array Slot), va_P (my_D Γ) vwCl (wStep Γ q_mo q_wy q_ah q_tg q_ws q_s q_tt q_nw q_tr q_ot q_di q_kp q_ik q_fr q_rw mi vwy vah vtg vws vs) H → va_D A (wStep Γ q_mo q_wy q_ah q_tg q_ws q_s q_tt q_nw q_tr q_ot q_di q_kp q_ik q_fr q_rw mi vwy vah vtg vws vs) → va_S A s.heap H locs → lv_has ls 6 [(0, .ref q_mo), (2, .int l2), (3, .int l3)] → k88 vtg vws vs l2 l3 = (some (vtg_z, vws_z)) → W p l e (headSpec wsX9_findsTargets ({ frames := 3, cells := 0, slots := 0, locals := 64 } : Room)).room s m ([.ref q_mo, .ref q_s] : List Value).toArray below meth c H locs 0 0 (MQ below (my_Q Γ A none (wStep Γ q_mo q_wy q_ah q_tg q_ws q_s q_tt q_nw q_tr q_ot q_di q_kp q_ik q_fr q_rw mi vwy vah vtg_z vws_z vs)) ([.ref q_mo, .ref q_s] : List Value).toArray s 0 0 A) (F0 m 88 ls [])) → ∀ (vtg : Nat → Int32) (vws : Nat → Int32) (vs : Nat → Int32) (l2 : Int32) (l3 : Int32) (H : Heap) (locs : List Loc) (ls : Array Slot), va_P (my_D Γ) vwCl (wStep Γ q_mo q_wy q_ah q_tg q_ws q_s q_tt q_nw q_tr q_ot q_di q_kp q_ik q_fr q_rw mi vwy vah vtg vws vs) H → va_D A (wStep Γ q_mo q_wy q_ah q_tg q_ws q_s q_tt q_nw q_tr q_ot q_di q_kp q_ik q_fr q_rw mi vwy vah vtg vws vs) → va_S A s.heap H locs → lv_has ls 6 [(0, .ref q_mo), (2, .int l2), (3, .int l3)] → mX9_findsTargets_J118 k68 k88 vtg vws vs l2 l3 = (some (vtg_z, vws_z)) → W p l e (headSpec wsX9_findsTargets ({ frames := 3, cells := 0, slots := 0, locals := 64 } : Room)).room s m ([.ref q_mo, .ref q_s] : List Value).toArray below meth c H locs 0 0 (MQ below (my_Q Γ A none (wStep Γ q_mo q_wy q_ah q_tg q_ws q_s q_tt q_nw q_tr q_ot q_di q_kp q_ik q_fr q_rw mi vwy vah vtg_z vws_z vs)) ([.ref q_mo, .ref q_s] : List Value).toArray s 0 0 A) (F0 m 118 ls []) := by
    intro k68 hk68 k88 hk88 vtg vws vs l2 l3 H locs ls hP hD hS hl hm
    unfold mX9_findsTargets_J118 at hm
    refine lv_iconst (v := (0 : Int32)) hx hb dX9_findsTargets_118 (by decide) ?_
    exact J_119 k68 hk68 k88 hk88 vtg vws vs l2 l3 (0 : Int32) _ _ _ hP hD hS (lv_sub hl [0, 1, 2] rfl) hm
  have J_88 : ∀ (k68 : (Nat → Int32) → (Nat → Int32) → (Nat → Int32) → Int32 → Option ((Nat → Int32) × (Nat → Int32))), (∀ (vtg : Nat → Int32) (vws : Nat → Int32) (vs : Nat → Int32) (l2 : Int32) (H : Heap) (locs : List Loc) (ls : Array Slot), va_P (my_D Γ) vwCl (wStep Γ q_mo q_wy q_ah q_tg q_ws q_s q_tt q_nw q_tr q_ot q_di q_kp q_ik q_fr q_rw mi vwy vah vtg vws vs) H → va_D A (wStep Γ q_mo q_wy q_ah q_tg q_ws q_s q_tt q_nw q_tr q_ot q_di q_kp q_ik q_fr q_rw mi vwy vah vtg vws vs) → va_S A s.heap H locs → lv_has ls 6 [(0, .ref q_mo), (2, .int l2)] → k68 vtg vws vs l2 = (some (vtg_z, vws_z)) → W p l e (headSpec wsX9_findsTargets ({ frames := 3, cells := 0, slots := 0, locals := 64 } : Room)).room s m ([.ref q_mo, .ref q_s] : List Value).toArray below meth c H locs 0 0 (MQ below (my_Q Γ A none (wStep Γ q_mo q_wy q_ah q_tg q_ws q_s q_tt q_nw q_tr q_ot q_di q_kp q_ik q_fr q_rw mi vwy vah vtg_z vws_z vs)) ([.ref q_mo, .ref q_s] : List Value).toArray s 0 0 A) (F0 m 68 ls [])) → ∀ n : Nat, ∀ (vtg : Nat → Int32) (vws : Nat → Int32) (vs : Nat → Int32) (l2 : Int32) (l3 : Int32) (H : Heap) (locs : List Loc) (ls : Array Slot), va_P (my_D Γ) vwCl (wStep Γ q_mo q_wy q_ah q_tg q_ws q_s q_tt q_nw q_tr q_ot q_di q_kp q_ik q_fr q_rw mi vwy vah vtg vws vs) H → va_D A (wStep Γ q_mo q_wy q_ah q_tg q_ws q_s q_tt q_nw q_tr q_ot q_di q_kp q_ik q_fr q_rw mi vwy vah vtg vws vs) → va_S A s.heap H locs → lv_has ls 6 [(0, .ref q_mo), (2, .int l2), (3, .int l3)] → mX9_findsTargets_L88 k68 n vtg vws vs l2 l3 = (some (vtg_z, vws_z)) → W p l e (headSpec wsX9_findsTargets ({ frames := 3, cells := 0, slots := 0, locals := 64 } : Room)).room s m ([.ref q_mo, .ref q_s] : List Value).toArray below meth c H locs 0 0 (MQ below (my_Q Γ A none (wStep Γ q_mo q_wy q_ah q_tg q_ws q_s q_tt q_nw q_tr q_ot q_di q_kp q_ik q_fr q_rw mi vwy vah vtg_z vws_z vs)) ([.ref q_mo, .ref q_s] : List Value).toArray s 0 0 A) (F0 m 88 ls []) := by
    intro k68 hk68 n
    induction n with
    | zero => intro vtg vws vs l2 l3 H locs ls hP hD hS hl hm; cases hm
    | succ n ih =>
      intro vtg vws vs l2 l3 H locs ls hP hD hS hl hm
      unfold mX9_findsTargets_L88 at hm
      refine lv_iload_n hx hb dX9_findsTargets_88 rfl (lv_at hl 2 rfl) ?_
      refine lv_bipush (v := (36 : Int32)) hx hb dX9_findsTargets_89 (by decide) ?_
      refine lv_icmp_ge (tgt := 180) hx hb dX9_findsTargets_91 (by decide) (fun c_5 => ?_) (fun c_5 => ?_)
      · replace hm := if_s hm c_5
        refine lv_iinc (v := (l2 + (1 : Int32))) (lv' := [(2, .int (l2 + (1 : Int32))), (0, .ref q_mo), (3, .int l3)]) hx hb dX9_findsTargets_180 hl (k := 1) rfl rfl (by decide) rfl (fun ls hl => ?_)
        refine lv_goto (tgt := 68) hx hb dX9_findsTargets_183 (by decide) ?_
        exact hk68 vtg vws vs (l2 + (1 : Int32)) _ _ _ hP hD hS (lv_sub hl [1, 0] rfl) hm
      · replace hm := if_f hm c_5
        refine lv_iload_n hx hb dX9_findsTargets_94 rfl (lv_at hl 2 rfl) ?_
        refine lv_iload_n hx hb dX9_findsTargets_95 rfl (lv_at hl 1 rfl) ?_
        refine lv_icmp_eq (tgt := 118) hx hb dX9_findsTargets_96 (by decide) (fun c_6 => ?_) (fun c_6 => ?_)
        · replace hm := if_s hm c_6
          exact J_118 k68 hk68 (fun vtg vws vs l2 l3 => mX9_findsTargets_L88 k68 n vtg vws vs l2 l3) ih vtg vws vs l2 l3 _ _ _ hP hD hS (lv_sub hl [0, 1, 2] rfl) hm
        · replace hm := if_f hm c_6
          refine lv_aload_n hx hb dX9_findsTargets_99 rfl (lv_at hl 0 rfl) ?_
          refine va_get (D := my_D Γ) (ci := 7) (v := .ref q_ws) (C := RX9) (T := TX9) (N := 19) hx hb hts hinX9 hown hK hP 0 rfl rfl 13 (by decide) (hts (.fieldLink RX9 41 "BeltFloorModel" "was" "[I") (List.mem_of_getElem? (i := 1) rfl)) (fun _ h9 => h9) rfl dX9_findsTargets_100 ?_
          refine lv_iload_n hx hb dX9_findsTargets_103 rfl (lv_at hl 2 rfl) ?_
          obtain ⟨hi_15, hm⟩ := if_in hm
          refine va_iald hx hb hK hP 4 0 rfl rfl hi_15 dX9_findsTargets_104 ?_
          refine lv_aload_n hx hb dX9_findsTargets_105 rfl (lv_at hl 0 rfl) ?_
          refine va_get (D := my_D Γ) (ci := 7) (v := .ref q_ws) (C := RX9) (T := TX9) (N := 19) hx hb hts hinX9 hown hK hP 0 rfl rfl 13 (by decide) (hts (.fieldLink RX9 41 "BeltFloorModel" "was" "[I") (List.mem_of_getElem? (i := 1) rfl)) (fun _ h9 => h9) rfl dX9_findsTargets_106 ?_
          refine lv_iload_n hx hb dX9_findsTargets_109 rfl (lv_at hl 1 rfl) ?_
          obtain ⟨hi_16, hm⟩ := if_in hm
          refine va_iald hx hb hK hP 4 0 rfl rfl hi_16 dX9_findsTargets_110 ?_
          refine lv_icmp_ne (tgt := 118) hx hb dX9_findsTargets_111 (by decide) (fun c_17 => ?_) (fun c_17 => ?_)
          · replace hm := if_f hm c_17
            exact J_118 k68 hk68 (fun vtg vws vs l2 l3 => mX9_findsTargets_L88 k68 n vtg vws vs l2 l3) ih vtg vws vs l2 l3 _ _ _ hP hD hS (lv_sub hl [0, 1, 2] rfl) hm
          · replace hm := if_s hm c_17
            refine lv_iconst (v := (1 : Int32)) hx hb dX9_findsTargets_114 (by decide) ?_
            refine lv_goto (tgt := 119) hx hb dX9_findsTargets_115 (by decide) ?_
            exact J_119 k68 hk68 (fun vtg vws vs l2 l3 => mX9_findsTargets_L88 k68 n vtg vws vs l2 l3) ih vtg vws vs l2 l3 (1 : Int32) _ _ _ hP hD hS (lv_sub hl [0, 1, 2] rfl) hm
  have J_68 : ∀ n : Nat, ∀ (vtg : Nat → Int32) (vws : Nat → Int32) (vs : Nat → Int32) (l2 : Int32) (H : Heap) (locs : List Loc) (ls : Array Slot), va_P (my_D Γ) vwCl (wStep Γ q_mo q_wy q_ah q_tg q_ws q_s q_tt q_nw q_tr q_ot q_di q_kp q_ik q_fr q_rw mi vwy vah vtg vws vs) H → va_D A (wStep Γ q_mo q_wy q_ah q_tg q_ws q_s q_tt q_nw q_tr q_ot q_di q_kp q_ik q_fr q_rw mi vwy vah vtg vws vs) → va_S A s.heap H locs → lv_has ls 6 [(0, .ref q_mo), (2, .int l2)] → mX9_findsTargets_L68 n vtg vws vs l2 = (some (vtg_z, vws_z)) → W p l e (headSpec wsX9_findsTargets ({ frames := 3, cells := 0, slots := 0, locals := 64 } : Room)).room s m ([.ref q_mo, .ref q_s] : List Value).toArray below meth c H locs 0 0 (MQ below (my_Q Γ A none (wStep Γ q_mo q_wy q_ah q_tg q_ws q_s q_tt q_nw q_tr q_ot q_di q_kp q_ik q_fr q_rw mi vwy vah vtg_z vws_z vs)) ([.ref q_mo, .ref q_s] : List Value).toArray s 0 0 A) (F0 m 68 ls []) := by
    intro  n
    induction n with
    | zero => intro vtg vws vs l2 H locs ls hP hD hS hl hm; cases hm
    | succ n ih =>
      intro vtg vws vs l2 H locs ls hP hD hS hl hm
      unfold mX9_findsTargets_L68 at hm
      refine lv_iload_n hx hb dX9_findsTargets_68 rfl (lv_at hl 1 rfl) ?_
      refine lv_bipush (v := (36 : Int32)) hx hb dX9_findsTargets_69 (by decide) ?_
      refine lv_icmp_ge (tgt := 186) hx hb dX9_findsTargets_71 (by decide) (fun c_2 => ?_) (fun c_2 => ?_)
      · replace hm := if_s hm c_2
        obtain ⟨hf0, hf1⟩ := si2 hm
        subst hf0
        subst hf1
        exact W.vret hx hb hr (fun t ht hW => ⟨⟨rfl, by rw [ht]; exact hP⟩, hS.F ht⟩) hS.2.2 dX9_findsTargets_186
      · replace hm := if_f hm c_2
        refine lv_aload_n hx hb dX9_findsTargets_74 rfl (lv_at hl 0 rfl) ?_
        refine va_get (D := my_D Γ) (ci := 7) (v := .ref q_tg) (C := RX9) (T := TX9) (N := 19) hx hb hts hinX9 hown hK hP 0 rfl rfl 12 (by decide) (hts (.fieldLink RX9 38 "BeltFloorModel" "target" "[I") (List.mem_of_getElem? (i := 2) rfl)) (fun _ h9 => h9) rfl dX9_findsTargets_75 ?_
        refine lv_iload_n hx hb dX9_findsTargets_78 rfl (lv_at hl 1 rfl) ?_
        refine lv_aload_n hx hb dX9_findsTargets_79 rfl (lv_at hl 0 rfl) ?_
        refine va_get (D := my_D Γ) (ci := 7) (v := .ref q_ws) (C := RX9) (T := TX9) (N := 19) hx hb hts hinX9 hown hK hP 0 rfl rfl 13 (by decide) (hts (.fieldLink RX9 41 "BeltFloorModel" "was" "[I") (List.mem_of_getElem? (i := 1) rfl)) (fun _ h9 => h9) rfl dX9_findsTargets_80 ?_
        refine lv_iload_n hx hb dX9_findsTargets_83 rfl (lv_at hl 1 rfl) ?_
        obtain ⟨hi_3, hm⟩ := if_in hm
        refine va_iald hx hb hK hP 4 0 rfl rfl hi_3 dX9_findsTargets_84 ?_
        refine lv_topi (fun y_4 ey_4 => ?_)
        refine va_iast hx hb hK hP hD hS 3 0 rfl rfl hi_3 dX9_findsTargets_85 (fun H locs hP hD hS => ?_)
        replace hP : va_P (my_D Γ) vwCl (wStep Γ q_mo q_wy q_ah q_tg q_ws q_s q_tt q_nw q_tr q_ot q_di q_kp q_ik q_fr q_rw mi vwy vah (upd vtg l2.toNatClampNeg y_4) vws vs) H := hP
        replace hD : va_D A (wStep Γ q_mo q_wy q_ah q_tg q_ws q_s q_tt q_nw q_tr q_ot q_di q_kp q_ik q_fr q_rw mi vwy vah (upd vtg l2.toNatClampNeg y_4) vws vs) := hD
        subst ey_4
        refine lv_iconst (v := (0 : Int32)) hx hb dX9_findsTargets_86 (by decide) ?_
        refine lv_istore_n (lv' := [(3, .int (0 : Int32)), (0, .ref q_mo), (2, .int l2)]) hx hb dX9_findsTargets_87 rfl hl (by decide) rfl (fun ls hl => ?_)
        exact J_88 (fun vtg vws vs l2 => mX9_findsTargets_L68 n vtg vws vs l2) ih 4096 (upd vtg l2.toNatClampNeg (vws l2.toNatClampNeg)) vws vs l2 (0 : Int32) _ _ _ hP hD hS (lv_sub hl [1, 2, 0] rfl) hm
  have J_59 : ∀ (k2 : (Nat → Int32) → (Nat → Int32) → (Nat → Int32) → Int32 → Option ((Nat → Int32) × (Nat → Int32))), (∀ (vtg : Nat → Int32) (vws : Nat → Int32) (vs : Nat → Int32) (l2 : Int32) (H : Heap) (locs : List Loc) (ls : Array Slot), va_P (my_D Γ) vwCl (wStep Γ q_mo q_wy q_ah q_tg q_ws q_s q_tt q_nw q_tr q_ot q_di q_kp q_ik q_fr q_rw mi vwy vah vtg vws vs) H → va_D A (wStep Γ q_mo q_wy q_ah q_tg q_ws q_s q_tt q_nw q_tr q_ot q_di q_kp q_ik q_fr q_rw mi vwy vah vtg vws vs) → va_S A s.heap H locs → lv_has ls 6 [(0, .ref q_mo), (1, .ref q_s), (2, .int l2)] → k2 vtg vws vs l2 = (some (vtg_z, vws_z)) → W p l e (headSpec wsX9_findsTargets ({ frames := 3, cells := 0, slots := 0, locals := 64 } : Room)).room s m ([.ref q_mo, .ref q_s] : List Value).toArray below meth c H locs 0 0 (MQ below (my_Q Γ A none (wStep Γ q_mo q_wy q_ah q_tg q_ws q_s q_tt q_nw q_tr q_ot q_di q_kp q_ik q_fr q_rw mi vwy vah vtg_z vws_z vs)) ([.ref q_mo, .ref q_s] : List Value).toArray s 0 0 A) (F0 m 2 ls [])) → ∀ (vtg : Nat → Int32) (vws : Nat → Int32) (vs : Nat → Int32) (l2 : Int32) (s1 : Int32) (s2 : Int32) (H : Heap) (locs : List Loc) (ls : Array Slot), va_P (my_D Γ) vwCl (wStep Γ q_mo q_wy q_ah q_tg q_ws q_s q_tt q_nw q_tr q_ot q_di q_kp q_ik q_fr q_rw mi vwy vah vtg vws vs) H → va_D A (wStep Γ q_mo q_wy q_ah q_tg q_ws q_s q_tt q_nw q_tr q_ot q_di q_kp q_ik q_fr q_rw mi vwy vah vtg vws vs) → va_S A s.heap H locs → lv_has ls 6 [(0, .ref q_mo), (1, .ref q_s), (2, .int l2)] → mX9_findsTargets_J59 k2 vtg vws vs l2 s1 s2 = (some (vtg_z, vws_z)) → W p l e (headSpec wsX9_findsTargets ({ frames := 3, cells := 0, slots := 0, locals := 64 } : Room)).room s m ([.ref q_mo, .ref q_s] : List Value).toArray below meth c H locs 0 0 (MQ below (my_Q Γ A none (wStep Γ q_mo q_wy q_ah q_tg q_ws q_s q_tt q_nw q_tr q_ot q_di q_kp q_ik q_fr q_rw mi vwy vah vtg_z vws_z vs)) ([.ref q_mo, .ref q_s] : List Value).toArray s 0 0 A) (F0 m 59 ls [.int s2, .int s1, .ref q_ws]) := by
    intro k2 hk2 vtg vws vs l2 s1 s2 H locs ls hP hD hS hl hm
    unfold mX9_findsTargets_J59 at hm
    obtain ⟨hi_21, hm⟩ := if_in hm
    refine va_iast hx hb hK hP hD hS 4 0 rfl rfl hi_21 dX9_findsTargets_59 (fun H locs hP hD hS => ?_)
    replace hP : va_P (my_D Γ) vwCl (wStep Γ q_mo q_wy q_ah q_tg q_ws q_s q_tt q_nw q_tr q_ot q_di q_kp q_ik q_fr q_rw mi vwy vah vtg (upd vws s1.toNatClampNeg s2) vs) H := hP
    replace hD : va_D A (wStep Γ q_mo q_wy q_ah q_tg q_ws q_s q_tt q_nw q_tr q_ot q_di q_kp q_ik q_fr q_rw mi vwy vah vtg (upd vws s1.toNatClampNeg s2) vs) := hD
    refine lv_iinc (v := (l2 + (1 : Int32))) (lv' := [(2, .int (l2 + (1 : Int32))), (0, .ref q_mo), (1, .ref q_s)]) hx hb dX9_findsTargets_60 hl (k := 2) rfl rfl (by decide) rfl (fun ls hl => ?_)
    refine lv_goto (tgt := 2) hx hb dX9_findsTargets_63 (by decide) ?_
    exact hk2 vtg (upd vws s1.toNatClampNeg s2) vs (l2 + (1 : Int32)) _ _ _ hP hD hS (lv_sub hl [1, 2, 0] rfl) hm
  have J_58 : ∀ (k2 : (Nat → Int32) → (Nat → Int32) → (Nat → Int32) → Int32 → Option ((Nat → Int32) × (Nat → Int32))), (∀ (vtg : Nat → Int32) (vws : Nat → Int32) (vs : Nat → Int32) (l2 : Int32) (H : Heap) (locs : List Loc) (ls : Array Slot), va_P (my_D Γ) vwCl (wStep Γ q_mo q_wy q_ah q_tg q_ws q_s q_tt q_nw q_tr q_ot q_di q_kp q_ik q_fr q_rw mi vwy vah vtg vws vs) H → va_D A (wStep Γ q_mo q_wy q_ah q_tg q_ws q_s q_tt q_nw q_tr q_ot q_di q_kp q_ik q_fr q_rw mi vwy vah vtg vws vs) → va_S A s.heap H locs → lv_has ls 6 [(0, .ref q_mo), (1, .ref q_s), (2, .int l2)] → k2 vtg vws vs l2 = (some (vtg_z, vws_z)) → W p l e (headSpec wsX9_findsTargets ({ frames := 3, cells := 0, slots := 0, locals := 64 } : Room)).room s m ([.ref q_mo, .ref q_s] : List Value).toArray below meth c H locs 0 0 (MQ below (my_Q Γ A none (wStep Γ q_mo q_wy q_ah q_tg q_ws q_s q_tt q_nw q_tr q_ot q_di q_kp q_ik q_fr q_rw mi vwy vah vtg_z vws_z vs)) ([.ref q_mo, .ref q_s] : List Value).toArray s 0 0 A) (F0 m 2 ls [])) → ∀ (vtg : Nat → Int32) (vws : Nat → Int32) (vs : Nat → Int32) (l2 : Int32) (l3 : Int32) (s1 : Int32) (H : Heap) (locs : List Loc) (ls : Array Slot), va_P (my_D Γ) vwCl (wStep Γ q_mo q_wy q_ah q_tg q_ws q_s q_tt q_nw q_tr q_ot q_di q_kp q_ik q_fr q_rw mi vwy vah vtg vws vs) H → va_D A (wStep Γ q_mo q_wy q_ah q_tg q_ws q_s q_tt q_nw q_tr q_ot q_di q_kp q_ik q_fr q_rw mi vwy vah vtg vws vs) → va_S A s.heap H locs → lv_has ls 6 [(0, .ref q_mo), (1, .ref q_s), (2, .int l2), (3, .int l3)] → mX9_findsTargets_J58 k2 vtg vws vs l2 l3 s1 = (some (vtg_z, vws_z)) → W p l e (headSpec wsX9_findsTargets ({ frames := 3, cells := 0, slots := 0, locals := 64 } : Room)).room s m ([.ref q_mo, .ref q_s] : List Value).toArray below meth c H locs 0 0 (MQ below (my_Q Γ A none (wStep Γ q_mo q_wy q_ah q_tg q_ws q_s q_tt q_nw q_tr q_ot q_di q_kp q_ik q_fr q_rw mi vwy vah vtg_z vws_z vs)) ([.ref q_mo, .ref q_s] : List Value).toArray s 0 0 A) (F0 m 58 ls [.int s1, .ref q_ws]) := by
    intro k2 hk2 vtg vws vs l2 l3 s1 H locs ls hP hD hS hl hm
    unfold mX9_findsTargets_J58 at hm
    refine lv_iload_n hx hb dX9_findsTargets_58 rfl (lv_at hl 3 rfl) ?_
    exact J_59 k2 hk2 vtg vws vs l2 s1 l3 _ _ _ hP hD hS (lv_sub hl [0, 1, 2] rfl) hm
  have J_36 : ∀ (k2 : (Nat → Int32) → (Nat → Int32) → (Nat → Int32) → Int32 → Option ((Nat → Int32) × (Nat → Int32))), (∀ (vtg : Nat → Int32) (vws : Nat → Int32) (vs : Nat → Int32) (l2 : Int32) (H : Heap) (locs : List Loc) (ls : Array Slot), va_P (my_D Γ) vwCl (wStep Γ q_mo q_wy q_ah q_tg q_ws q_s q_tt q_nw q_tr q_ot q_di q_kp q_ik q_fr q_rw mi vwy vah vtg vws vs) H → va_D A (wStep Γ q_mo q_wy q_ah q_tg q_ws q_s q_tt q_nw q_tr q_ot q_di q_kp q_ik q_fr q_rw mi vwy vah vtg vws vs) → va_S A s.heap H locs → lv_has ls 6 [(0, .ref q_mo), (1, .ref q_s), (2, .int l2)] → k2 vtg vws vs l2 = (some (vtg_z, vws_z)) → W p l e (headSpec wsX9_findsTargets ({ frames := 3, cells := 0, slots := 0, locals := 64 } : Room)).room s m ([.ref q_mo, .ref q_s] : List Value).toArray below meth c H locs 0 0 (MQ below (my_Q Γ A none (wStep Γ q_mo q_wy q_ah q_tg q_ws q_s q_tt q_nw q_tr q_ot q_di q_kp q_ik q_fr q_rw mi vwy vah vtg_z vws_z vs)) ([.ref q_mo, .ref q_s] : List Value).toArray s 0 0 A) (F0 m 2 ls [])) → ∀ (vtg : Nat → Int32) (vws : Nat → Int32) (vs : Nat → Int32) (l2 : Int32) (s0 : Int32) (H : Heap) (locs : List Loc) (ls : Array Slot), va_P (my_D Γ) vwCl (wStep Γ q_mo q_wy q_ah q_tg q_ws q_s q_tt q_nw q_tr q_ot q_di q_kp q_ik q_fr q_rw mi vwy vah vtg vws vs) H → va_D A (wStep Γ q_mo q_wy q_ah q_tg q_ws q_s q_tt q_nw q_tr q_ot q_di q_kp q_ik q_fr q_rw mi vwy vah vtg vws vs) → va_S A s.heap H locs → lv_has ls 6 [(0, .ref q_mo), (1, .ref q_s), (2, .int l2)] → mX9_findsTargets_J36 k2 vtg vws vs l2 s0 = (some (vtg_z, vws_z)) → W p l e (headSpec wsX9_findsTargets ({ frames := 3, cells := 0, slots := 0, locals := 64 } : Room)).room s m ([.ref q_mo, .ref q_s] : List Value).toArray below meth c H locs 0 0 (MQ below (my_Q Γ A none (wStep Γ q_mo q_wy q_ah q_tg q_ws q_s q_tt q_nw q_tr q_ot q_di q_kp q_ik q_fr q_rw mi vwy vah vtg_z vws_z vs)) ([.ref q_mo, .ref q_s] : List Value).toArray s 0 0 A) (F0 m 36 ls [.int s0]) := by
    intro k2 hk2 vtg vws vs l2 s0 H locs ls hP hD hS hl hm
    unfold mX9_findsTargets_J36 at hm
    refine lv_istore_n (lv' := [(3, .int s0), (0, .ref q_mo), (1, .ref q_s), (2, .int l2)]) hx hb dX9_findsTargets_36 rfl hl (by decide) rfl (fun ls hl => ?_)
    refine lv_aload_n hx hb dX9_findsTargets_37 rfl (lv_at hl 1 rfl) ?_
    refine va_get (D := my_D Γ) (ci := 7) (v := .ref q_ws) (C := RX9) (T := TX9) (N := 19) hx hb hts hinX9 hown hK hP 0 rfl rfl 13 (by decide) (hts (.fieldLink RX9 41 "BeltFloorModel" "was" "[I") (List.mem_of_getElem? (i := 1) rfl)) (fun _ h9 => h9) rfl dX9_findsTargets_38 ?_
    refine lv_iload_n hx hb dX9_findsTargets_41 rfl (lv_at hl 3 rfl) ?_
    refine lv_iload_n hx hb dX9_findsTargets_42 rfl (lv_at hl 0 rfl) ?_
    refine lv_iconst (v := (-1 : Int32)) hx hb dX9_findsTargets_43 (by decide) ?_
    refine lv_icmp_eq (tgt := 58) hx hb dX9_findsTargets_44 (by decide) (fun c_20 => ?_) (fun c_20 => ?_)
    · replace hm := if_s hm c_20
      exact J_58 k2 hk2 vtg vws vs l2 s0 l2 _ _ _ hP hD hS (lv_sub hl [1, 2, 3, 0] rfl) hm
    · replace hm := if_f hm c_20
      refine lv_aload_n hx hb dX9_findsTargets_47 rfl (lv_at hl 2 rfl) ?_
      refine lv_iload_n hx hb dX9_findsTargets_48 rfl (lv_at hl 0 rfl) ?_
      obtain ⟨hi_22, hm⟩ := if_in hm
      refine va_iald hx hb hK hP 5 0 rfl rfl hi_22 dX9_findsTargets_49 ?_
      refine lv_iconst (v := (1 : Int32)) hx hb dX9_findsTargets_50 (by decide) ?_
      refine lv_icmp_ne (tgt := 58) hx hb dX9_findsTargets_51 (by decide) (fun c_23 => ?_) (fun c_23 => ?_)
      · replace hm := if_f hm c_23
        exact J_58 k2 hk2 vtg vws vs l2 s0 l2 _ _ _ hP hD hS (lv_sub hl [1, 2, 3, 0] rfl) hm
      · replace hm := if_s hm c_23
        refine lv_iconst (v := (-1 : Int32)) hx hb dX9_findsTargets_54 (by decide) ?_
        refine lv_goto (tgt := 59) hx hb dX9_findsTargets_55 (by decide) ?_
        exact J_59 k2 hk2 vtg vws vs l2 l2 (-1 : Int32) _ _ _ hP hD hS (lv_sub hl [1, 2, 3] rfl) hm
  have J_35 : ∀ (k2 : (Nat → Int32) → (Nat → Int32) → (Nat → Int32) → Int32 → Option ((Nat → Int32) × (Nat → Int32))), (∀ (vtg : Nat → Int32) (vws : Nat → Int32) (vs : Nat → Int32) (l2 : Int32) (H : Heap) (locs : List Loc) (ls : Array Slot), va_P (my_D Γ) vwCl (wStep Γ q_mo q_wy q_ah q_tg q_ws q_s q_tt q_nw q_tr q_ot q_di q_kp q_ik q_fr q_rw mi vwy vah vtg vws vs) H → va_D A (wStep Γ q_mo q_wy q_ah q_tg q_ws q_s q_tt q_nw q_tr q_ot q_di q_kp q_ik q_fr q_rw mi vwy vah vtg vws vs) → va_S A s.heap H locs → lv_has ls 6 [(0, .ref q_mo), (1, .ref q_s), (2, .int l2)] → k2 vtg vws vs l2 = (some (vtg_z, vws_z)) → W p l e (headSpec wsX9_findsTargets ({ frames := 3, cells := 0, slots := 0, locals := 64 } : Room)).room s m ([.ref q_mo, .ref q_s] : List Value).toArray below meth c H locs 0 0 (MQ below (my_Q Γ A none (wStep Γ q_mo q_wy q_ah q_tg q_ws q_s q_tt q_nw q_tr q_ot q_di q_kp q_ik q_fr q_rw mi vwy vah vtg_z vws_z vs)) ([.ref q_mo, .ref q_s] : List Value).toArray s 0 0 A) (F0 m 2 ls [])) → ∀ (vtg : Nat → Int32) (vws : Nat → Int32) (vs : Nat → Int32) (l2 : Int32) (H : Heap) (locs : List Loc) (ls : Array Slot), va_P (my_D Γ) vwCl (wStep Γ q_mo q_wy q_ah q_tg q_ws q_s q_tt q_nw q_tr q_ot q_di q_kp q_ik q_fr q_rw mi vwy vah vtg vws vs) H → va_D A (wStep Γ q_mo q_wy q_ah q_tg q_ws q_s q_tt q_nw q_tr q_ot q_di q_kp q_ik q_fr q_rw mi vwy vah vtg vws vs) → va_S A s.heap H locs → lv_has ls 6 [(0, .ref q_mo), (1, .ref q_s), (2, .int l2)] → mX9_findsTargets_J35 k2 vtg vws vs l2 = (some (vtg_z, vws_z)) → W p l e (headSpec wsX9_findsTargets ({ frames := 3, cells := 0, slots := 0, locals := 64 } : Room)).room s m ([.ref q_mo, .ref q_s] : List Value).toArray below meth c H locs 0 0 (MQ below (my_Q Γ A none (wStep Γ q_mo q_wy q_ah q_tg q_ws q_s q_tt q_nw q_tr q_ot q_di q_kp q_ik q_fr q_rw mi vwy vah vtg_z vws_z vs)) ([.ref q_mo, .ref q_s] : List Value).toArray s 0 0 A) (F0 m 35 ls []) := by
    intro k2 hk2 vtg vws vs l2 H locs ls hP hD hS hl hm
    unfold mX9_findsTargets_J35 at hm
    refine lv_iconst (v := (-1 : Int32)) hx hb dX9_findsTargets_35 (by decide) ?_
    exact J_36 k2 hk2 vtg vws vs l2 (-1 : Int32) _ _ _ hP hD hS (lv_sub hl [0, 1, 2] rfl) hm
  have J_2 : ∀ n : Nat, ∀ (vtg : Nat → Int32) (vws : Nat → Int32) (vs : Nat → Int32) (l2 : Int32) (H : Heap) (locs : List Loc) (ls : Array Slot), va_P (my_D Γ) vwCl (wStep Γ q_mo q_wy q_ah q_tg q_ws q_s q_tt q_nw q_tr q_ot q_di q_kp q_ik q_fr q_rw mi vwy vah vtg vws vs) H → va_D A (wStep Γ q_mo q_wy q_ah q_tg q_ws q_s q_tt q_nw q_tr q_ot q_di q_kp q_ik q_fr q_rw mi vwy vah vtg vws vs) → va_S A s.heap H locs → lv_has ls 6 [(0, .ref q_mo), (1, .ref q_s), (2, .int l2)] → mX9_findsTargets_L2 n vtg vws vs l2 = (some (vtg_z, vws_z)) → W p l e (headSpec wsX9_findsTargets ({ frames := 3, cells := 0, slots := 0, locals := 64 } : Room)).room s m ([.ref q_mo, .ref q_s] : List Value).toArray below meth c H locs 0 0 (MQ below (my_Q Γ A none (wStep Γ q_mo q_wy q_ah q_tg q_ws q_s q_tt q_nw q_tr q_ot q_di q_kp q_ik q_fr q_rw mi vwy vah vtg_z vws_z vs)) ([.ref q_mo, .ref q_s] : List Value).toArray s 0 0 A) (F0 m 2 ls []) := by
    intro  n
    induction n with
    | zero => intro vtg vws vs l2 H locs ls hP hD hS hl hm; cases hm
    | succ n ih =>
      intro vtg vws vs l2 H locs ls hP hD hS hl hm
      unfold mX9_findsTargets_L2 at hm
      refine lv_iload_n hx hb dX9_findsTargets_2 rfl (lv_at hl 2 rfl) ?_
      refine lv_bipush (v := (36 : Int32)) hx hb dX9_findsTargets_3 (by decide) ?_
      refine lv_icmp_ge (tgt := 66) hx hb dX9_findsTargets_5 (by decide) (fun c_1 => ?_) (fun c_1 => ?_)
      · replace hm := if_s hm c_1
        refine lv_iconst (v := (0 : Int32)) hx hb dX9_findsTargets_66 (by decide) ?_
        refine lv_istore_n (lv' := [(2, .int (0 : Int32)), (0, .ref q_mo), (1, .ref q_s)]) hx hb dX9_findsTargets_67 rfl hl (by decide) rfl (fun ls hl => ?_)
        exact J_68 4096 vtg vws vs (0 : Int32) _ _ _ hP hD hS (lv_sub hl [1, 0] rfl) hm
      · replace hm := if_f hm c_1
        refine lv_aload_n hx hb dX9_findsTargets_8 rfl (lv_at hl 1 rfl) ?_
        refine lv_iload_n hx hb dX9_findsTargets_9 rfl (lv_at hl 2 rfl) ?_
        obtain ⟨hi_18, hm⟩ := if_in hm
        refine va_iald hx hb hK hP 5 0 rfl rfl hi_18 dX9_findsTargets_10 ?_
        refine lv_iconst (v := (3 : Int32)) hx hb dX9_findsTargets_11 (by decide) ?_
        refine lv_icmp_lt (tgt := 35) hx hb dX9_findsTargets_12 (by decide) (fun c_19 => ?_) (fun c_19 => ?_)
        · replace hm := if_s hm c_19
          exact J_35 (fun vtg vws vs l2 => mX9_findsTargets_L2 n vtg vws vs l2) ih vtg vws vs l2 _ _ _ hP hD hS (lv_sub hl [0, 1, 2] rfl) hm
        · replace hm := if_f hm c_19
          refine lv_aload_n hx hb dX9_findsTargets_15 rfl (lv_at hl 1 rfl) ?_
          refine lv_iload_n hx hb dX9_findsTargets_16 rfl (lv_at hl 2 rfl) ?_
          obtain ⟨r_24, hc_25, hm⟩ := bo1_s hm
          refine my_callP1 (wc := (wArr117 Γ q_s vs)) (w1 := (wArr117 Γ q_s vs)) (ws1 := (wStep Γ q_mo q_wy q_ah q_tg q_ws q_s q_tt q_nw q_tr q_ot q_di q_kp q_ik q_fr q_rw mi vwy vah vtg vws vs)) hP hD hS hA [5] rfl rfl rfl (va_runS (As := [.ref q_s, .int l2]) (rest := []) ⟨hx, hb, hml, hown, hts⟩ (kX9_hasThing l Γ q_s vs l2 r_24 hc_25 _) (va_cwS 2 hts gX9_findsTargets_X9_hasThing rfl rfl rfl (by decide +kernel) ⟨Nat.le_of_ble_eq_true rfl, Nat.le_of_ble_eq_true rfl⟩) (my_preS (wc := (wArr117 Γ q_s vs)) [5] hK hP hD rfl rfl) rfl rfl hl.1 rfl (lv_room (Nat.le_of_ble_eq_true rfl)) dX9_findsTargets_17 ⟨Nat.le_of_ble_eq_true rfl, Nat.le_of_ble_eq_true rfl⟩) (fun H locs hP hD hS => ?_)
          refine lv_if_eq (tgt := 35) hx hb dX9_findsTargets_20 (by decide) (fun c_26 => ?_) (fun c_26 => ?_)
          · replace hm := if_s hm c_26
            exact J_35 (fun vtg vws vs l2 => mX9_findsTargets_L2 n vtg vws vs l2) ih vtg vws vs l2 _ _ _ hP hD hS (lv_sub hl [0, 1, 2] rfl) hm
          · replace hm := if_f hm c_26
            refine lv_iload_n hx hb dX9_findsTargets_23 rfl (lv_at hl 2 rfl) ?_
            refine lv_aload_n hx hb dX9_findsTargets_24 rfl (lv_at hl 1 rfl) ?_
            refine lv_iload_n hx hb dX9_findsTargets_25 rfl (lv_at hl 2 rfl) ?_
            refine va_iald hx hb hK hP 5 0 rfl rfl hi_18 dX9_findsTargets_26 ?_
            refine lv_iconst (v := (3 : Int32)) hx hb dX9_findsTargets_27 (by decide) ?_
            refine lv_isub hx hb dX9_findsTargets_28 ?_
            refine my_callP1 (wc := ([] : va_W)) (w1 := ([] : va_W)) (ws1 := (wStep Γ q_mo q_wy q_ah q_tg q_ws q_s q_tt q_nw q_tr q_ot q_di q_kp q_ik q_fr q_rw mi vwy vah vtg vws vs)) hP hD hS hA [] rfl rfl rfl (va_runS (As := [.int l2, .int ((vs l2.toNatClampNeg) - (3 : Int32))]) (rest := []) ⟨hx, hb, hml, hown, hts⟩ (kX9_next l Γ l2 ((vs l2.toNatClampNeg) - (3 : Int32)) (mX9_next l2 ((vs l2.toNatClampNeg) - (3 : Int32))) rfl _) (va_cwS 2 hts gX9_findsTargets_X9_next rfl rfl rfl (by decide +kernel) ⟨Nat.le_of_ble_eq_true rfl, Nat.le_of_ble_eq_true rfl⟩) (my_preS (wc := ([] : va_W)) [] hK hP hD rfl rfl) rfl rfl hl.1 rfl (lv_room (Nat.le_of_ble_eq_true rfl)) dX9_findsTargets_29 ⟨Nat.le_of_ble_eq_true rfl, Nat.le_of_ble_eq_true rfl⟩) (fun H locs hP hD hS => ?_)
            refine lv_goto (tgt := 36) hx hb dX9_findsTargets_32 (by decide) ?_
            exact J_36 (fun vtg vws vs l2 => mX9_findsTargets_L2 n vtg vws vs l2) ih vtg vws vs l2 (mX9_next l2 ((vs l2.toNatClampNeg) - (3 : Int32))) _ _ _ hP hD hS (lv_sub hl [0, 1, 2] rfl) hm
  unfold mX9_findsTargets at hm
  refine lv_iconst (v := (0 : Int32)) hx hb dX9_findsTargets_0 (by decide) ?_
  refine lv_istore_n (lv' := [(2, .int (0 : Int32)), (0, .ref q_mo), (1, .ref q_s)]) hx hb dX9_findsTargets_1 rfl hl (by decide) rfl (fun ls hl => ?_)
  exact J_2 4096 vtg vws vs (0 : Int32) _ _ _ hP hD hS (lv_sub hl [1, 2, 0] rfl) hm
def mX9_holdsBack_J63 (k2 : (Nat → Int32) → (Nat → Int32) → Int32 → Option ((Nat → Int32))) (k10 : (Nat → Int32) → (Nat → Int32) → Int32 → Int32 → Option ((Nat → Int32))) (vtg : Nat → Int32) (vs : Nat → Int32) (l2 : Int32) (l3 : Int32) : Option ((Nat → Int32)) := (k10 vtg vs l2 (l3 + (1 : Int32)))
def mX9_holdsBack_L10 (k2 : (Nat → Int32) → (Nat → Int32) → Int32 → Option ((Nat → Int32))) : Nat → (Nat → Int32) → (Nat → Int32) → Int32 → Int32 → Option ((Nat → Int32))
  | 0, _, _, _, _ => none
  | n + 1, vtg, vs, l2, l3 => (if (36 : Int32) ≤ l3 then (k2 vtg vs l2) else (if ¬ (l3 < 0 ∨ 36 ≤ l3.toNatClampNeg) then (if (vtg l3.toNatClampNeg) = (-1 : Int32) then (mX9_holdsBack_J63 k2 (fun vtg vs l2 l3 => mX9_holdsBack_L10 k2 n vtg vs l2 l3) vtg vs l2 l3) else (bo1 (mX9_hasThing vs (vtg l3.toNatClampNeg)) (fun r_5 => (if r_5 = 0 then (mX9_holdsBack_J63 k2 (fun vtg vs l2 l3 => mX9_holdsBack_L10 k2 n vtg vs l2 l3) vtg vs l2 l3) else (if ¬ ((vtg l3.toNatClampNeg) < 0 ∨ 36 ≤ (vtg l3.toNatClampNeg).toNatClampNeg) then (if (vtg (vtg l3.toNatClampNeg).toNatClampNeg) = (-1 : Int32) then (mX9_holdsBack_J63 k2 (fun vtg vs l2 l3 => mX9_holdsBack_L10 k2 n vtg vs l2 l3) (upd vtg l3.toNatClampNeg (-1 : Int32)) vs (1 : Int32) l3) else (mX9_holdsBack_J63 k2 (fun vtg vs l2 l3 => mX9_holdsBack_L10 k2 n vtg vs l2 l3) vtg vs l2 l3)) else none))))) else none))
def mX9_holdsBack_L2  : Nat → (Nat → Int32) → (Nat → Int32) → Int32 → Option ((Nat → Int32))
  | 0, _, _, _ => none
  | n + 1, vtg, vs, l2 => (if l2 = 0 then (some vtg) else (mX9_holdsBack_L10 (fun vtg vs l2 => mX9_holdsBack_L2 n vtg vs l2) 4096 vtg vs (0 : Int32) (0 : Int32)))
def mX9_holdsBack (vtg : Nat → Int32) (vs : Nat → Int32) : Option ((Nat → Int32)) := (mX9_holdsBack_L2 4096 vtg vs (1 : Int32))
set_option maxHeartbeats 4000000 in
set_option maxRecDepth 100000 in
theorem kX9_holdsBack (l : Launch) (Γ : my_G) (q_mo q_wy q_ah q_tg q_ws q_s q_tt q_nw q_tr q_ot q_di q_kp q_ik q_fr q_rw : Nat) (mi : Nat → Int32) (vwy : Nat → Int32) (vah : Nat → Int32) (vtg : Nat → Int32) (vws : Nat → Int32) (vs : Nat → Int32)  (vtg_z : Nat → Int32) (hm : mX9_holdsBack vtg vs = (some vtg_z)) : Mn l yX9_holdsBack wsX9_holdsBack ({ frames := 3, cells := 0, slots := 0, locals := 64 } : Room) Γ [.ref q_mo, .ref q_s] (wStep Γ q_mo q_wy q_ah q_tg q_ws q_s q_tt q_nw q_tr q_ot q_di q_kp q_ik q_fr q_rw mi vwy vah vtg vws vs) none (wStep Γ q_mo q_wy q_ah q_tg q_ws q_s q_tt q_nw q_tr q_ot q_di q_kp q_ik q_fr q_rw mi vwy vah vtg_z vws vs) := by
  intro sz
  refine Met.ofW (cc := cX9_holdsBack) (maxL := 4) (ret := none) (by decide) rfl ?_
  intro p e s m args below meth c s₁ B hml hv
  obtain ⟨rfl, hsz, hP, hK, hD0⟩ := hv
  have hx := B.exec
  have hb := B.bytes
  have hr := B.returns
  have hts := atoms_spec (ws := wsX9_holdsBack) B.pre
  have hown : s.vm.findClass RX9 = some m.cls := findClass_of_methodNamed B.named
  have hlocks := B.notSynchronized
  have hinX9 : ∀ w ∈ u_ws RX9 TX9 19, w ∈ wsX9_holdsBack := fun w h => List.mem_cons_of_mem _ (List.mem_append_right _ h)
  subst hsz
  have hD := hD0.self (sz := s.heap.size)
  have hA : ∀ q : Nat, s.heap.size ≤ q → va_A (wStep Γ q_mo q_wy q_ah q_tg q_ws q_s q_tt q_nw q_tr q_ot q_di q_kp q_ik q_fr q_rw mi vwy vah vtg vws vs) s.heap.size q := fun q h => Or.inr h
  generalize va_A (wStep Γ q_mo q_wy q_ah q_tg q_ws q_s q_tt q_nw q_tr q_ot q_di q_kp q_ik q_fr q_rw mi vwy vah vtg vws vs) s.heap.size = A at hD hA ⊢
  have hS : va_S A s.heap s.heap [] := va_S.rf
  have hl := lv_entry ([.ref q_mo, .ref q_s]) (n := 4) (Nat.le_of_ble_eq_true rfl)
  rw [lg_entry_eq]
  generalize (lg_sl ([.ref q_mo, .ref q_s]) ++ List.replicate (4 - (lg_sl ([.ref q_mo, .ref q_s])).length) Slot.unset).toArray = ls at hl ⊢
  replace hl : lv_has ls 4 [(0, .ref q_mo), (1, .ref q_s)] := hl
  have J_63 : ∀ (k2 : (Nat → Int32) → (Nat → Int32) → Int32 → Option ((Nat → Int32))), (∀ (vtg : Nat → Int32) (vs : Nat → Int32) (l2 : Int32) (H : Heap) (locs : List Loc) (ls : Array Slot), va_P (my_D Γ) vwCl (wStep Γ q_mo q_wy q_ah q_tg q_ws q_s q_tt q_nw q_tr q_ot q_di q_kp q_ik q_fr q_rw mi vwy vah vtg vws vs) H → va_D A (wStep Γ q_mo q_wy q_ah q_tg q_ws q_s q_tt q_nw q_tr q_ot q_di q_kp q_ik q_fr q_rw mi vwy vah vtg vws vs) → va_S A s.heap H locs → lv_has ls 4 [(0, .ref q_mo), (1, .ref q_s), (2, .int l2)] → k2 vtg vs l2 = (some vtg_z) → W p l e (headSpec wsX9_holdsBack ({ frames := 3, cells := 0, slots := 0, locals := 64 } : Room)).room s m ([.ref q_mo, .ref q_s] : List Value).toArray below meth c H locs 0 0 (MQ below (my_Q Γ A none (wStep Γ q_mo q_wy q_ah q_tg q_ws q_s q_tt q_nw q_tr q_ot q_di q_kp q_ik q_fr q_rw mi vwy vah vtg_z vws vs)) ([.ref q_mo, .ref q_s] : List Value).toArray s 0 0 A) (F0 m 2 ls [])) → ∀ (k10 : (Nat → Int32) → (Nat → Int32) → Int32 → Int32 → Option ((Nat → Int32))), (∀ (vtg : Nat → Int32) (vs : Nat → Int32) (l2 : Int32) (l3 : Int32) (H : Heap) (locs : List Loc) (ls : Array Slot), va_P (my_D Γ) vwCl (wStep Γ q_mo q_wy q_ah q_tg q_ws q_s q_tt q_nw q_tr q_ot q_di q_kp q_ik q_fr q_rw mi vwy vah vtg vws vs) H → va_D A (wStep Γ q_mo q_wy q_ah q_tg q_ws q_s q_tt q_nw q_tr q_ot q_di q_kp q_ik q_fr q_rw mi vwy vah vtg vws vs) → va_S A s.heap H locs → lv_has ls 4 [(0, .ref q_mo), (1, .ref q_s), (2, .int l2), (3, .int l3)] → k10 vtg vs l2 l3 = (some vtg_z) → W p l e (headSpec wsX9_holdsBack ({ frames := 3, cells := 0, slots := 0, locals := 64 } : Room)).room s m ([.ref q_mo, .ref q_s] : List Value).toArray below meth c H locs 0 0 (MQ below (my_Q Γ A none (wStep Γ q_mo q_wy q_ah q_tg q_ws q_s q_tt q_nw q_tr q_ot q_di q_kp q_ik q_fr q_rw mi vwy vah vtg_z vws vs)) ([.ref q_mo, .ref q_s] : List Value).toArray s 0 0 A) (F0 m 10 ls [])) → ∀ (vtg : Nat → Int32) (vs : Nat → Int32) (l2 : Int32) (l3 : Int32) (H : Heap) (locs : List Loc) (ls : Array Slot), va_P (my_D Γ) vwCl (wStep Γ q_mo q_wy q_ah q_tg q_ws q_s q_tt q_nw q_tr q_ot q_di q_kp q_ik q_fr q_rw mi vwy vah vtg vws vs) H → va_D A (wStep Γ q_mo q_wy q_ah q_tg q_ws q_s q_tt q_nw q_tr q_ot q_di q_kp q_ik q_fr q_rw mi vwy vah vtg vws vs) → va_S A s.heap H locs → lv_has ls 4 [(0, .ref q_mo), (1, .ref q_s), (2, .int l2), (3, .int l3)] → mX9_holdsBack_J63 k2 k10 vtg vs l2 l3 = (some vtg_z) → W p l e (headSpec wsX9_holdsBack ({ frames := 3, cells := 0, slots := 0, locals := 64 } : Room)).room s m ([.ref q_mo, .ref q_s] : List Value).toArray below meth c H locs 0 0 (MQ below (my_Q Γ A none (wStep Γ q_mo q_wy q_ah q_tg q_ws q_s q_tt q_nw q_tr q_ot q_di q_kp q_ik q_fr q_rw mi vwy vah vtg_z vws vs)) ([.ref q_mo, .ref q_s] : List Value).toArray s 0 0 A) (F0 m 63 ls []) := by
    intro k2 hk2 k10 hk10 vtg vs l2 l3 H locs ls hP hD hS hl hm
    unfold mX9_holdsBack_J63 at hm
    refine lv_iinc (v := (l3 + (1 : Int32))) (lv' := [(3, .int (l3 + (1 : Int32))), (0, .ref q_mo), (1, .ref q_s), (2, .int l2)]) hx hb dX9_holdsBack_63 hl (k := 3) rfl rfl (by decide) rfl (fun ls hl => ?_)
    refine lv_goto (tgt := 10) hx hb dX9_holdsBack_66 (by decide) ?_
    exact hk10 vtg vs l2 (l3 + (1 : Int32)) _ _ _ hP hD hS (lv_sub hl [1, 2, 3, 0] rfl) hm
  have J_10 : ∀ (k2 : (Nat → Int32) → (Nat → Int32) → Int32 → Option ((Nat → Int32))), (∀ (vtg : Nat → Int32) (vs : Nat → Int32) (l2 : Int32) (H : Heap) (locs : List Loc) (ls : Array Slot), va_P (my_D Γ) vwCl (wStep Γ q_mo q_wy q_ah q_tg q_ws q_s q_tt q_nw q_tr q_ot q_di q_kp q_ik q_fr q_rw mi vwy vah vtg vws vs) H → va_D A (wStep Γ q_mo q_wy q_ah q_tg q_ws q_s q_tt q_nw q_tr q_ot q_di q_kp q_ik q_fr q_rw mi vwy vah vtg vws vs) → va_S A s.heap H locs → lv_has ls 4 [(0, .ref q_mo), (1, .ref q_s), (2, .int l2)] → k2 vtg vs l2 = (some vtg_z) → W p l e (headSpec wsX9_holdsBack ({ frames := 3, cells := 0, slots := 0, locals := 64 } : Room)).room s m ([.ref q_mo, .ref q_s] : List Value).toArray below meth c H locs 0 0 (MQ below (my_Q Γ A none (wStep Γ q_mo q_wy q_ah q_tg q_ws q_s q_tt q_nw q_tr q_ot q_di q_kp q_ik q_fr q_rw mi vwy vah vtg_z vws vs)) ([.ref q_mo, .ref q_s] : List Value).toArray s 0 0 A) (F0 m 2 ls [])) → ∀ n : Nat, ∀ (vtg : Nat → Int32) (vs : Nat → Int32) (l2 : Int32) (l3 : Int32) (H : Heap) (locs : List Loc) (ls : Array Slot), va_P (my_D Γ) vwCl (wStep Γ q_mo q_wy q_ah q_tg q_ws q_s q_tt q_nw q_tr q_ot q_di q_kp q_ik q_fr q_rw mi vwy vah vtg vws vs) H → va_D A (wStep Γ q_mo q_wy q_ah q_tg q_ws q_s q_tt q_nw q_tr q_ot q_di q_kp q_ik q_fr q_rw mi vwy vah vtg vws vs) → va_S A s.heap H locs → lv_has ls 4 [(0, .ref q_mo), (1, .ref q_s), (2, .int l2), (3, .int l3)] → mX9_holdsBack_L10 k2 n vtg vs l2 l3 = (some vtg_z) → W p l e (headSpec wsX9_holdsBack ({ frames := 3, cells := 0, slots := 0, locals := 64 } : Room)).room s m ([.ref q_mo, .ref q_s] : List Value).toArray below meth c H locs 0 0 (MQ below (my_Q Γ A none (wStep Γ q_mo q_wy q_ah q_tg q_ws q_s q_tt q_nw q_tr q_ot q_di q_kp q_ik q_fr q_rw mi vwy vah vtg_z vws vs)) ([.ref q_mo, .ref q_s] : List Value).toArray s 0 0 A) (F0 m 10 ls []) := by
    intro k2 hk2 n
    induction n with
    | zero => intro vtg vs l2 l3 H locs ls hP hD hS hl hm; cases hm
    | succ n ih =>
      intro vtg vs l2 l3 H locs ls hP hD hS hl hm
      unfold mX9_holdsBack_L10 at hm
      refine lv_iload_n hx hb dX9_holdsBack_10 rfl (lv_at hl 3 rfl) ?_
      refine lv_bipush (v := (36 : Int32)) hx hb dX9_holdsBack_11 (by decide) ?_
      refine lv_icmp_ge (tgt := 69) hx hb dX9_holdsBack_13 (by decide) (fun c_2 => ?_) (fun c_2 => ?_)
      · replace hm := if_s hm c_2
        refine lv_goto (tgt := 2) hx hb dX9_holdsBack_69 (by decide) ?_
        exact hk2 vtg vs l2 _ _ _ hP hD hS (lv_sub hl [0, 1, 2] rfl) hm
      · replace hm := if_f hm c_2
        refine lv_aload_n hx hb dX9_holdsBack_16 rfl (lv_at hl 0 rfl) ?_
        refine va_get (D := my_D Γ) (ci := 7) (v := .ref q_tg) (C := RX9) (T := TX9) (N := 19) hx hb hts hinX9 hown hK hP 0 rfl rfl 12 (by decide) (hts (.fieldLink RX9 38 "BeltFloorModel" "target" "[I") (List.mem_of_getElem? (i := 1) rfl)) (fun _ h9 => h9) rfl dX9_holdsBack_17 ?_
        refine lv_iload_n hx hb dX9_holdsBack_20 rfl (lv_at hl 3 rfl) ?_
        obtain ⟨hi_3, hm⟩ := if_in hm
        refine va_iald hx hb hK hP 3 0 rfl rfl hi_3 dX9_holdsBack_21 ?_
        refine lv_iconst (v := (-1 : Int32)) hx hb dX9_holdsBack_22 (by decide) ?_
        refine lv_icmp_eq (tgt := 63) hx hb dX9_holdsBack_23 (by decide) (fun c_4 => ?_) (fun c_4 => ?_)
        · replace hm := if_s hm c_4
          exact J_63 k2 hk2 (fun vtg vs l2 l3 => mX9_holdsBack_L10 k2 n vtg vs l2 l3) ih vtg vs l2 l3 _ _ _ hP hD hS (lv_sub hl [0, 1, 2, 3] rfl) hm
        · replace hm := if_f hm c_4
          refine lv_aload_n hx hb dX9_holdsBack_26 rfl (lv_at hl 1 rfl) ?_
          refine lv_aload_n hx hb dX9_holdsBack_27 rfl (lv_at hl 0 rfl) ?_
          refine va_get (D := my_D Γ) (ci := 7) (v := .ref q_tg) (C := RX9) (T := TX9) (N := 19) hx hb hts hinX9 hown hK hP 0 rfl rfl 12 (by decide) (hts (.fieldLink RX9 38 "BeltFloorModel" "target" "[I") (List.mem_of_getElem? (i := 1) rfl)) (fun _ h9 => h9) rfl dX9_holdsBack_28 ?_
          refine lv_iload_n hx hb dX9_holdsBack_31 rfl (lv_at hl 3 rfl) ?_
          refine va_iald hx hb hK hP 3 0 rfl rfl hi_3 dX9_holdsBack_32 ?_
          obtain ⟨r_5, hc_6, hm⟩ := bo1_s hm
          refine my_callP1 (wc := (wArr117 Γ q_s vs)) (w1 := (wArr117 Γ q_s vs)) (ws1 := (wStep Γ q_mo q_wy q_ah q_tg q_ws q_s q_tt q_nw q_tr q_ot q_di q_kp q_ik q_fr q_rw mi vwy vah vtg vws vs)) hP hD hS hA [5] rfl rfl rfl (va_runS (As := [.ref q_s, .int (vtg l3.toNatClampNeg)]) (rest := []) ⟨hx, hb, hml, hown, hts⟩ (kX9_hasThing l Γ q_s vs (vtg l3.toNatClampNeg) r_5 hc_6 _) (va_cwS 2 hts gX9_holdsBack_X9_hasThing rfl rfl rfl (by decide +kernel) ⟨Nat.le_of_ble_eq_true rfl, Nat.le_of_ble_eq_true rfl⟩) (my_preS (wc := (wArr117 Γ q_s vs)) [5] hK hP hD rfl rfl) rfl rfl hl.1 rfl (lv_room (Nat.le_of_ble_eq_true rfl)) dX9_holdsBack_33 ⟨Nat.le_of_ble_eq_true rfl, Nat.le_of_ble_eq_true rfl⟩) (fun H locs hP hD hS => ?_)
          refine lv_if_eq (tgt := 63) hx hb dX9_holdsBack_36 (by decide) (fun c_7 => ?_) (fun c_7 => ?_)
          · replace hm := if_s hm c_7
            exact J_63 k2 hk2 (fun vtg vs l2 l3 => mX9_holdsBack_L10 k2 n vtg vs l2 l3) ih vtg vs l2 l3 _ _ _ hP hD hS (lv_sub hl [0, 1, 2, 3] rfl) hm
          · replace hm := if_f hm c_7
            refine lv_aload_n hx hb dX9_holdsBack_39 rfl (lv_at hl 0 rfl) ?_
            refine va_get (D := my_D Γ) (ci := 7) (v := .ref q_tg) (C := RX9) (T := TX9) (N := 19) hx hb hts hinX9 hown hK hP 0 rfl rfl 12 (by decide) (hts (.fieldLink RX9 38 "BeltFloorModel" "target" "[I") (List.mem_of_getElem? (i := 1) rfl)) (fun _ h9 => h9) rfl dX9_holdsBack_40 ?_
            refine lv_aload_n hx hb dX9_holdsBack_43 rfl (lv_at hl 0 rfl) ?_
            refine va_get (D := my_D Γ) (ci := 7) (v := .ref q_tg) (C := RX9) (T := TX9) (N := 19) hx hb hts hinX9 hown hK hP 0 rfl rfl 12 (by decide) (hts (.fieldLink RX9 38 "BeltFloorModel" "target" "[I") (List.mem_of_getElem? (i := 1) rfl)) (fun _ h9 => h9) rfl dX9_holdsBack_44 ?_
            refine lv_iload_n hx hb dX9_holdsBack_47 rfl (lv_at hl 3 rfl) ?_
            refine va_iald hx hb hK hP 3 0 rfl rfl hi_3 dX9_holdsBack_48 ?_
            obtain ⟨hi_8, hm⟩ := if_in hm
            refine va_iald hx hb hK hP 3 0 rfl rfl hi_8 dX9_holdsBack_49 ?_
            refine lv_iconst (v := (-1 : Int32)) hx hb dX9_holdsBack_50 (by decide) ?_
            refine lv_icmp_ne (tgt := 63) hx hb dX9_holdsBack_51 (by decide) (fun c_9 => ?_) (fun c_9 => ?_)
            · replace hm := if_f hm c_9
              exact J_63 k2 hk2 (fun vtg vs l2 l3 => mX9_holdsBack_L10 k2 n vtg vs l2 l3) ih vtg vs l2 l3 _ _ _ hP hD hS (lv_sub hl [0, 1, 2, 3] rfl) hm
            · replace hm := if_s hm c_9
              refine lv_aload_n hx hb dX9_holdsBack_54 rfl (lv_at hl 0 rfl) ?_
              refine va_get (D := my_D Γ) (ci := 7) (v := .ref q_tg) (C := RX9) (T := TX9) (N := 19) hx hb hts hinX9 hown hK hP 0 rfl rfl 12 (by decide) (hts (.fieldLink RX9 38 "BeltFloorModel" "target" "[I") (List.mem_of_getElem? (i := 1) rfl)) (fun _ h9 => h9) rfl dX9_holdsBack_55 ?_
              refine lv_iload_n hx hb dX9_holdsBack_58 rfl (lv_at hl 3 rfl) ?_
              refine lv_iconst (v := (-1 : Int32)) hx hb dX9_holdsBack_59 (by decide) ?_
              refine va_iast hx hb hK hP hD hS 3 0 rfl rfl hi_3 dX9_holdsBack_60 (fun H locs hP hD hS => ?_)
              replace hP : va_P (my_D Γ) vwCl (wStep Γ q_mo q_wy q_ah q_tg q_ws q_s q_tt q_nw q_tr q_ot q_di q_kp q_ik q_fr q_rw mi vwy vah (upd vtg l3.toNatClampNeg (-1 : Int32)) vws vs) H := hP
              replace hD : va_D A (wStep Γ q_mo q_wy q_ah q_tg q_ws q_s q_tt q_nw q_tr q_ot q_di q_kp q_ik q_fr q_rw mi vwy vah (upd vtg l3.toNatClampNeg (-1 : Int32)) vws vs) := hD
              refine lv_iconst (v := (1 : Int32)) hx hb dX9_holdsBack_61 (by decide) ?_
              refine lv_istore_n (lv' := [(2, .int (1 : Int32)), (0, .ref q_mo), (1, .ref q_s), (3, .int l3)]) hx hb dX9_holdsBack_62 rfl hl (by decide) rfl (fun ls hl => ?_)
              exact J_63 k2 hk2 (fun vtg vs l2 l3 => mX9_holdsBack_L10 k2 n vtg vs l2 l3) ih (upd vtg l3.toNatClampNeg (-1 : Int32)) vs (1 : Int32) l3 _ _ _ hP hD hS (lv_sub hl [1, 2, 0, 3] rfl) hm
  have J_2 : ∀ n : Nat, ∀ (vtg : Nat → Int32) (vs : Nat → Int32) (l2 : Int32) (H : Heap) (locs : List Loc) (ls : Array Slot), va_P (my_D Γ) vwCl (wStep Γ q_mo q_wy q_ah q_tg q_ws q_s q_tt q_nw q_tr q_ot q_di q_kp q_ik q_fr q_rw mi vwy vah vtg vws vs) H → va_D A (wStep Γ q_mo q_wy q_ah q_tg q_ws q_s q_tt q_nw q_tr q_ot q_di q_kp q_ik q_fr q_rw mi vwy vah vtg vws vs) → va_S A s.heap H locs → lv_has ls 4 [(0, .ref q_mo), (1, .ref q_s), (2, .int l2)] → mX9_holdsBack_L2 n vtg vs l2 = (some vtg_z) → W p l e (headSpec wsX9_holdsBack ({ frames := 3, cells := 0, slots := 0, locals := 64 } : Room)).room s m ([.ref q_mo, .ref q_s] : List Value).toArray below meth c H locs 0 0 (MQ below (my_Q Γ A none (wStep Γ q_mo q_wy q_ah q_tg q_ws q_s q_tt q_nw q_tr q_ot q_di q_kp q_ik q_fr q_rw mi vwy vah vtg_z vws vs)) ([.ref q_mo, .ref q_s] : List Value).toArray s 0 0 A) (F0 m 2 ls []) := by
    intro  n
    induction n with
    | zero => intro vtg vs l2 H locs ls hP hD hS hl hm; cases hm
    | succ n ih =>
      intro vtg vs l2 H locs ls hP hD hS hl hm
      unfold mX9_holdsBack_L2 at hm
      refine lv_iload_n hx hb dX9_holdsBack_2 rfl (lv_at hl 2 rfl) ?_
      refine lv_if_eq (tgt := 72) hx hb dX9_holdsBack_3 (by decide) (fun c_1 => ?_) (fun c_1 => ?_)
      · replace hm := if_s hm c_1
        obtain hf0 := Option.some.inj hm
        subst hf0
        exact W.vret hx hb hr (fun t ht hW => ⟨⟨rfl, by rw [ht]; exact hP⟩, hS.F ht⟩) hS.2.2 dX9_holdsBack_72
      · replace hm := if_f hm c_1
        refine lv_iconst (v := (0 : Int32)) hx hb dX9_holdsBack_6 (by decide) ?_
        refine lv_istore_n (lv' := [(2, .int (0 : Int32)), (0, .ref q_mo), (1, .ref q_s)]) hx hb dX9_holdsBack_7 rfl hl (by decide) rfl (fun ls hl => ?_)
        refine lv_iconst (v := (0 : Int32)) hx hb dX9_holdsBack_8 (by decide) ?_
        refine lv_istore_n (lv' := [(3, .int (0 : Int32)), (2, .int (0 : Int32)), (0, .ref q_mo), (1, .ref q_s)]) hx hb dX9_holdsBack_9 rfl hl (by decide) rfl (fun ls hl => ?_)
        exact J_10 (fun vtg vs l2 => mX9_holdsBack_L2 n vtg vs l2) ih 4096 vtg vs (0 : Int32) (0 : Int32) _ _ _ hP hD hS (lv_sub hl [2, 3, 1, 0] rfl) hm
  unfold mX9_holdsBack at hm
  refine lv_iconst (v := (1 : Int32)) hx hb dX9_holdsBack_0 (by decide) ?_
  refine lv_istore_n (lv' := [(2, .int (1 : Int32)), (0, .ref q_mo), (1, .ref q_s)]) hx hb dX9_holdsBack_1 rfl hl (by decide) rfl (fun ls hl => ?_)
  exact J_2 4096 vtg vs (1 : Int32) _ _ _ hP hD hS (lv_sub hl [1, 2, 0] rfl) hm
def mX9_belts_J162 (k125 : (Nat → Int32) → (Nat → Int32) → (Nat → Int32) → (Nat → Int32) → Int32 → Option ((Nat → Int32) × (Nat → Int32) × (Nat → Int32) × (Nat → Int32))) (vwy : Nat → Int32) (vtg : Nat → Int32) (vws : Nat → Int32) (vs : Nat → Int32) (l2 : Int32) (s1 : Int32) (s2 : Int32) : Option ((Nat → Int32) × (Nat → Int32) × (Nat → Int32) × (Nat → Int32)) := (if ¬ (s1 < 0 ∨ 2 ≤ s1.toNatClampNeg) then (k125 (upd vwy s1.toNatClampNeg s2) vtg vws vs (l2 + (1 : Int32))) else none)
def mX9_belts_L125  : Nat → (Nat → Int32) → (Nat → Int32) → (Nat → Int32) → (Nat → Int32) → Int32 → Option ((Nat → Int32) × (Nat → Int32) × (Nat → Int32) × (Nat → Int32))
  | 0, _, _, _, _, _ => none
  | n + 1, vwy, vtg, vws, vs, l2 => (if (2 : Int32) ≤ l2 then (bo1 (mX9_puts vs (0 : Int32) (0 : Int32) (vwy (0 : Int32).toNatClampNeg)) (fun vs_10 => (bo1 (mX9_puts vs_10 (1 : Int32) (0 : Int32) (vwy (1 : Int32).toNatClampNeg)) (fun vs_12 => (some (vwy, vtg, vws, vs_12)))))) else (bo1 (mX9_of vs l2 (0 : Int32)) (fun r_14 => (if ¬ (r_14 < 0 ∨ 36 ≤ r_14.toNatClampNeg) then (if (vtg r_14.toNatClampNeg) = (-1 : Int32) then (bo1 (mX9_of vs l2 (0 : Int32)) (fun r_19 => (mX9_belts_J162 (fun vwy vtg vws vs l2 => mX9_belts_L125 n vwy vtg vws vs l2) vwy vtg vws vs l2 l2 r_19))) else (mX9_belts_J162 (fun vwy vtg vws vs l2 => mX9_belts_L125 n vwy vtg vws vs l2) vwy vtg vws vs l2 l2 (vtg r_14.toNatClampNeg))) else none))))
def mX9_belts_J117 (k79 : (Nat → Int32) → (Nat → Int32) → (Nat → Int32) → (Nat → Int32) → Int32 → Option ((Nat → Int32) × (Nat → Int32) × (Nat → Int32) × (Nat → Int32))) (vwy : Nat → Int32) (vtg : Nat → Int32) (vws : Nat → Int32) (vs : Nat → Int32) (l2 : Int32) : Option ((Nat → Int32) × (Nat → Int32) × (Nat → Int32) × (Nat → Int32)) := (k79 vwy vtg vws vs (l2 + (1 : Int32)))
def mX9_belts_L79  : Nat → (Nat → Int32) → (Nat → Int32) → (Nat → Int32) → (Nat → Int32) → Int32 → Option ((Nat → Int32) × (Nat → Int32) × (Nat → Int32) × (Nat → Int32))
  | 0, _, _, _, _, _ => none
  | n + 1, vwy, vtg, vws, vs, l2 => (if (36 : Int32) ≤ l2 then (mX9_belts_L125 4096 vwy vtg vws vs (0 : Int32)) else (if ¬ (l2 < 0 ∨ 36 ≤ l2.toNatClampNeg) then (if (vtg l2.toNatClampNeg) = (-1 : Int32) then (mX9_belts_J117 (fun vwy vtg vws vs l2 => mX9_belts_L79 n vwy vtg vws vs l2) vwy vtg vws vs l2) else (if (vws l2.toNatClampNeg) = (1 : Int32) then (if ¬ (((36 : Int32) + (vtg l2.toNatClampNeg)) < 0 ∨ 117 ≤ ((36 : Int32) + (vtg l2.toNatClampNeg)).toNatClampNeg) then (mX9_belts_J117 (fun vwy vtg vws vs l2 => mX9_belts_L79 n vwy vtg vws vs l2) vwy vtg vws (upd vs ((36 : Int32) + (vtg l2.toNatClampNeg)).toNatClampNeg (1 : Int32)) l2) else none) else (mX9_belts_J117 (fun vwy vtg vws vs l2 => mX9_belts_L79 n vwy vtg vws vs l2) vwy vtg vws vs l2))) else none))
def mX9_belts_J71 (k38 : (Nat → Int32) → (Nat → Int32) → (Nat → Int32) → (Nat → Int32) → Int32 → Option ((Nat → Int32) × (Nat → Int32) × (Nat → Int32) × (Nat → Int32))) (vwy : Nat → Int32) (vtg : Nat → Int32) (vws : Nat → Int32) (vs : Nat → Int32) (l2 : Int32) : Option ((Nat → Int32) × (Nat → Int32) × (Nat → Int32) × (Nat → Int32)) := (k38 vwy vtg vws vs (l2 + (1 : Int32)))
def mX9_belts_L38  : Nat → (Nat → Int32) → (Nat → Int32) → (Nat → Int32) → (Nat → Int32) → Int32 → Option ((Nat → Int32) × (Nat → Int32) × (Nat → Int32) × (Nat → Int32))
  | 0, _, _, _, _, _ => none
  | n + 1, vwy, vtg, vws, vs, l2 => (if (36 : Int32) ≤ l2 then (mX9_belts_L79 4096 vwy vtg vws vs (0 : Int32)) else (if ¬ (l2 < 0 ∨ 36 ≤ l2.toNatClampNeg) then (if (vtg l2.toNatClampNeg) = (-1 : Int32) then (mX9_belts_J71 (fun vwy vtg vws vs l2 => mX9_belts_L38 n vwy vtg vws vs l2) vwy vtg vws vs l2) else (if (vws l2.toNatClampNeg) = (1 : Int32) then (if ¬ (((36 : Int32) + l2) < 0 ∨ 117 ≤ ((36 : Int32) + l2).toNatClampNeg) then (mX9_belts_J71 (fun vwy vtg vws vs l2 => mX9_belts_L38 n vwy vtg vws vs l2) vwy vtg vws (upd vs ((36 : Int32) + l2).toNatClampNeg (0 : Int32)) l2) else none) else (mX9_belts_J71 (fun vwy vtg vws vs l2 => mX9_belts_L38 n vwy vtg vws vs l2) vwy vtg vws vs l2))) else none))
def mX9_belts_L12  : Nat → (Nat → Int32) → (Nat → Int32) → (Nat → Int32) → (Nat → Int32) → Int32 → Option ((Nat → Int32) × (Nat → Int32) × (Nat → Int32) × (Nat → Int32))
  | 0, _, _, _, _, _ => none
  | n + 1, vwy, vtg, vws, vs, l2 => (if (36 : Int32) ≤ l2 then (mX9_belts_L38 4096 vwy vtg vws vs (0 : Int32)) else (if ¬ (((36 : Int32) + l2) < 0 ∨ 117 ≤ ((36 : Int32) + l2).toNatClampNeg) then (if ¬ (l2 < 0 ∨ 36 ≤ l2.toNatClampNeg) then (mX9_belts_L12 n vwy vtg (upd vws l2.toNatClampNeg (vs ((36 : Int32) + l2).toNatClampNeg)) vs (l2 + (1 : Int32))) else none) else none))
def mX9_belts (vwy : Nat → Int32) (vtg : Nat → Int32) (vws : Nat → Int32) (vs : Nat → Int32) : Option ((Nat → Int32) × (Nat → Int32) × (Nat → Int32) × (Nat → Int32)) := (bo2 (mX9_findsTargets vtg vws vs) (fun vtg_1 vws_2 => (bo1 (mX9_holdsBack vtg_1 vs) (fun vtg_4 => (mX9_belts_L12 4096 vwy vtg_4 vws_2 vs (0 : Int32))))))
set_option maxHeartbeats 4000000 in
set_option maxRecDepth 100000 in
theorem kX9_belts (l : Launch) (Γ : my_G) (q_mo q_wy q_ah q_tg q_ws q_s q_tt q_nw q_tr q_ot q_di q_kp q_ik q_fr q_rw : Nat) (mi : Nat → Int32) (vwy : Nat → Int32) (vah : Nat → Int32) (vtg : Nat → Int32) (vws : Nat → Int32) (vs : Nat → Int32)  (vwy_z : Nat → Int32) (vtg_z : Nat → Int32) (vws_z : Nat → Int32) (vs_z : Nat → Int32) (hm : mX9_belts vwy vtg vws vs = (some (vwy_z, vtg_z, vws_z, vs_z))) : Mn l yX9_belts wsX9_belts ({ frames := 4, cells := 0, slots := 0, locals := 89 } : Room) Γ [.ref q_mo, .ref q_s] (wStep Γ q_mo q_wy q_ah q_tg q_ws q_s q_tt q_nw q_tr q_ot q_di q_kp q_ik q_fr q_rw mi vwy vah vtg vws vs) none (wStep Γ q_mo q_wy q_ah q_tg q_ws q_s q_tt q_nw q_tr q_ot q_di q_kp q_ik q_fr q_rw mi vwy_z vah vtg_z vws_z vs_z) := by
  intro sz
  refine Met.ofW (cc := cX9_belts) (maxL := 4) (ret := none) (by decide) rfl ?_
  intro p e s m args below meth c s₁ B hml hv
  obtain ⟨rfl, hsz, hP, hK, hD0⟩ := hv
  have hx := B.exec
  have hb := B.bytes
  have hr := B.returns
  have hts := atoms_spec (ws := wsX9_belts) B.pre
  have hown : s.vm.findClass RX9 = some m.cls := findClass_of_methodNamed B.named
  have hlocks := B.notSynchronized
  have hinX9 : ∀ w ∈ u_ws RX9 TX9 19, w ∈ wsX9_belts := fun w h => List.mem_cons_of_mem _ (List.mem_append_right _ h)
  subst hsz
  have hD := hD0.self (sz := s.heap.size)
  have hA : ∀ q : Nat, s.heap.size ≤ q → va_A (wStep Γ q_mo q_wy q_ah q_tg q_ws q_s q_tt q_nw q_tr q_ot q_di q_kp q_ik q_fr q_rw mi vwy vah vtg vws vs) s.heap.size q := fun q h => Or.inr h
  generalize va_A (wStep Γ q_mo q_wy q_ah q_tg q_ws q_s q_tt q_nw q_tr q_ot q_di q_kp q_ik q_fr q_rw mi vwy vah vtg vws vs) s.heap.size = A at hD hA ⊢
  have hS : va_S A s.heap s.heap [] := va_S.rf
  have hl := lv_entry ([.ref q_mo, .ref q_s]) (n := 4) (Nat.le_of_ble_eq_true rfl)
  rw [lg_entry_eq]
  generalize (lg_sl ([.ref q_mo, .ref q_s]) ++ List.replicate (4 - (lg_sl ([.ref q_mo, .ref q_s])).length) Slot.unset).toArray = ls at hl ⊢
  replace hl : lv_has ls 4 [(0, .ref q_mo), (1, .ref q_s)] := hl
  have J_162 : ∀ (k125 : (Nat → Int32) → (Nat → Int32) → (Nat → Int32) → (Nat → Int32) → Int32 → Option ((Nat → Int32) × (Nat → Int32) × (Nat → Int32) × (Nat → Int32))), (∀ (vwy : Nat → Int32) (vtg : Nat → Int32) (vws : Nat → Int32) (vs : Nat → Int32) (l2 : Int32) (H : Heap) (locs : List Loc) (ls : Array Slot), va_P (my_D Γ) vwCl (wStep Γ q_mo q_wy q_ah q_tg q_ws q_s q_tt q_nw q_tr q_ot q_di q_kp q_ik q_fr q_rw mi vwy vah vtg vws vs) H → va_D A (wStep Γ q_mo q_wy q_ah q_tg q_ws q_s q_tt q_nw q_tr q_ot q_di q_kp q_ik q_fr q_rw mi vwy vah vtg vws vs) → va_S A s.heap H locs → lv_has ls 4 [(0, .ref q_mo), (1, .ref q_s), (2, .int l2)] → k125 vwy vtg vws vs l2 = (some (vwy_z, vtg_z, vws_z, vs_z)) → W p l e (headSpec wsX9_belts ({ frames := 4, cells := 0, slots := 0, locals := 89 } : Room)).room s m ([.ref q_mo, .ref q_s] : List Value).toArray below meth c H locs 0 0 (MQ below (my_Q Γ A none (wStep Γ q_mo q_wy q_ah q_tg q_ws q_s q_tt q_nw q_tr q_ot q_di q_kp q_ik q_fr q_rw mi vwy_z vah vtg_z vws_z vs_z)) ([.ref q_mo, .ref q_s] : List Value).toArray s 0 0 A) (F0 m 125 ls [])) → ∀ (vwy : Nat → Int32) (vtg : Nat → Int32) (vws : Nat → Int32) (vs : Nat → Int32) (l2 : Int32) (s1 : Int32) (s2 : Int32) (H : Heap) (locs : List Loc) (ls : Array Slot), va_P (my_D Γ) vwCl (wStep Γ q_mo q_wy q_ah q_tg q_ws q_s q_tt q_nw q_tr q_ot q_di q_kp q_ik q_fr q_rw mi vwy vah vtg vws vs) H → va_D A (wStep Γ q_mo q_wy q_ah q_tg q_ws q_s q_tt q_nw q_tr q_ot q_di q_kp q_ik q_fr q_rw mi vwy vah vtg vws vs) → va_S A s.heap H locs → lv_has ls 4 [(0, .ref q_mo), (1, .ref q_s), (2, .int l2)] → mX9_belts_J162 k125 vwy vtg vws vs l2 s1 s2 = (some (vwy_z, vtg_z, vws_z, vs_z)) → W p l e (headSpec wsX9_belts ({ frames := 4, cells := 0, slots := 0, locals := 89 } : Room)).room s m ([.ref q_mo, .ref q_s] : List Value).toArray below meth c H locs 0 0 (MQ below (my_Q Γ A none (wStep Γ q_mo q_wy q_ah q_tg q_ws q_s q_tt q_nw q_tr q_ot q_di q_kp q_ik q_fr q_rw mi vwy_z vah vtg_z vws_z vs_z)) ([.ref q_mo, .ref q_s] : List Value).toArray s 0 0 A) (F0 m 162 ls [.int s2, .int s1, .ref q_wy]) := by
    intro k125 hk125 vwy vtg vws vs l2 s1 s2 H locs ls hP hD hS hl hm
    unfold mX9_belts_J162 at hm
    obtain ⟨hi_18, hm⟩ := if_in hm
    refine va_iast hx hb hK hP hD hS 1 0 rfl rfl hi_18 dX9_belts_162 (fun H locs hP hD hS => ?_)
    replace hP : va_P (my_D Γ) vwCl (wStep Γ q_mo q_wy q_ah q_tg q_ws q_s q_tt q_nw q_tr q_ot q_di q_kp q_ik q_fr q_rw mi (upd vwy s1.toNatClampNeg s2) vah vtg vws vs) H := hP
    replace hD : va_D A (wStep Γ q_mo q_wy q_ah q_tg q_ws q_s q_tt q_nw q_tr q_ot q_di q_kp q_ik q_fr q_rw mi (upd vwy s1.toNatClampNeg s2) vah vtg vws vs) := hD
    refine lv_iinc (v := (l2 + (1 : Int32))) (lv' := [(2, .int (l2 + (1 : Int32))), (0, .ref q_mo), (1, .ref q_s)]) hx hb dX9_belts_163 hl (k := 2) rfl rfl (by decide) rfl (fun ls hl => ?_)
    refine lv_goto (tgt := 125) hx hb dX9_belts_166 (by decide) ?_
    exact hk125 (upd vwy s1.toNatClampNeg s2) vtg vws vs (l2 + (1 : Int32)) _ _ _ hP hD hS (lv_sub hl [1, 2, 0] rfl) hm
  have J_125 : ∀ n : Nat, ∀ (vwy : Nat → Int32) (vtg : Nat → Int32) (vws : Nat → Int32) (vs : Nat → Int32) (l2 : Int32) (H : Heap) (locs : List Loc) (ls : Array Slot), va_P (my_D Γ) vwCl (wStep Γ q_mo q_wy q_ah q_tg q_ws q_s q_tt q_nw q_tr q_ot q_di q_kp q_ik q_fr q_rw mi vwy vah vtg vws vs) H → va_D A (wStep Γ q_mo q_wy q_ah q_tg q_ws q_s q_tt q_nw q_tr q_ot q_di q_kp q_ik q_fr q_rw mi vwy vah vtg vws vs) → va_S A s.heap H locs → lv_has ls 4 [(0, .ref q_mo), (1, .ref q_s), (2, .int l2)] → mX9_belts_L125 n vwy vtg vws vs l2 = (some (vwy_z, vtg_z, vws_z, vs_z)) → W p l e (headSpec wsX9_belts ({ frames := 4, cells := 0, slots := 0, locals := 89 } : Room)).room s m ([.ref q_mo, .ref q_s] : List Value).toArray below meth c H locs 0 0 (MQ below (my_Q Γ A none (wStep Γ q_mo q_wy q_ah q_tg q_ws q_s q_tt q_nw q_tr q_ot q_di q_kp q_ik q_fr q_rw mi vwy_z vah vtg_z vws_z vs_z)) ([.ref q_mo, .ref q_s] : List Value).toArray s 0 0 A) (F0 m 125 ls []) := by
    intro  n
    induction n with
    | zero => intro vwy vtg vws vs l2 H locs ls hP hD hS hl hm; cases hm
    | succ n ih =>
      intro vwy vtg vws vs l2 H locs ls hP hD hS hl hm
      unfold mX9_belts_L125 at hm
      refine lv_iload_n hx hb dX9_belts_125 rfl (lv_at hl 2 rfl) ?_
      refine lv_iconst (v := (2 : Int32)) hx hb dX9_belts_126 (by decide) ?_
      refine lv_icmp_ge (tgt := 169) hx hb dX9_belts_127 (by decide) (fun c_9 => ?_) (fun c_9 => ?_)
      · replace hm := if_s hm c_9
        refine lv_aload_n hx hb dX9_belts_169 rfl (lv_at hl 1 rfl) ?_
        refine lv_iconst (v := (0 : Int32)) hx hb dX9_belts_170 (by decide) ?_
        refine lv_iconst (v := (0 : Int32)) hx hb dX9_belts_171 (by decide) ?_
        refine lv_aload_n hx hb dX9_belts_172 rfl (lv_at hl 0 rfl) ?_
        refine va_get (D := my_D Γ) (ci := 7) (v := .ref q_wy) (C := RX9) (T := TX9) (N := 19) hx hb hts hinX9 hown hK hP 0 rfl rfl 10 (by decide) (hts (.fieldLink RX9 32 "BeltFloorModel" "way" "[I") (List.mem_of_getElem? (i := 3) rfl)) (fun _ h9 => h9) rfl dX9_belts_173 ?_
        refine lv_iconst (v := (0 : Int32)) hx hb dX9_belts_176 (by decide) ?_
        refine va_iald hx hb hK hP 1 0 rfl rfl (show vp_in (0 : Int32) 2 from (by decide : ¬ ((0 : Int32) < 0 ∨ 2 ≤ (0 : Int32).toNatClampNeg))) dX9_belts_177 ?_
        obtain ⟨vs_10, hc_11, hm⟩ := bo1_s hm
        refine my_callP0 (wc := (wArr117 Γ q_s vs)) (w1 := (wArr117 Γ q_s vs_10)) (ws1 := (wStep Γ q_mo q_wy q_ah q_tg q_ws q_s q_tt q_nw q_tr q_ot q_di q_kp q_ik q_fr q_rw mi vwy vah vtg vws vs_10)) hP hD hS hA [5] rfl rfl rfl (va_runS (As := [.ref q_s, .int (0 : Int32), .int (0 : Int32), .int (vwy (0 : Int32).toNatClampNeg)]) (rest := []) ⟨hx, hb, hml, hown, hts⟩ (kX9_puts l Γ q_s vs (0 : Int32) (0 : Int32) (vwy (0 : Int32).toNatClampNeg) vs_10 hc_11 _) (va_cwS 4 hts gX9_belts_X9_puts rfl rfl rfl (by decide +kernel) ⟨Nat.le_of_ble_eq_true rfl, Nat.le_of_ble_eq_true rfl⟩) (my_preS (wc := (wArr117 Γ q_s vs)) [5] hK hP hD rfl rfl) rfl rfl hl.1 rfl (lv_room (Nat.le_of_ble_eq_true rfl)) dX9_belts_178 ⟨Nat.le_of_ble_eq_true rfl, Nat.le_of_ble_eq_true rfl⟩) (fun H locs hP hD hS => ?_)
        refine lv_aload_n hx hb dX9_belts_181 rfl (lv_at hl 1 rfl) ?_
        refine lv_iconst (v := (1 : Int32)) hx hb dX9_belts_182 (by decide) ?_
        refine lv_iconst (v := (0 : Int32)) hx hb dX9_belts_183 (by decide) ?_
        refine lv_aload_n hx hb dX9_belts_184 rfl (lv_at hl 0 rfl) ?_
        refine va_get (D := my_D Γ) (ci := 7) (v := .ref q_wy) (C := RX9) (T := TX9) (N := 19) hx hb hts hinX9 hown hK hP 0 rfl rfl 10 (by decide) (hts (.fieldLink RX9 32 "BeltFloorModel" "way" "[I") (List.mem_of_getElem? (i := 3) rfl)) (fun _ h9 => h9) rfl dX9_belts_185 ?_
        refine lv_iconst (v := (1 : Int32)) hx hb dX9_belts_188 (by decide) ?_
        refine va_iald hx hb hK hP 1 0 rfl rfl (show vp_in (1 : Int32) 2 from (by decide : ¬ ((1 : Int32) < 0 ∨ 2 ≤ (1 : Int32).toNatClampNeg))) dX9_belts_189 ?_
        obtain ⟨vs_12, hc_13, hm⟩ := bo1_s hm
        refine my_callP0 (wc := (wArr117 Γ q_s vs_10)) (w1 := (wArr117 Γ q_s vs_12)) (ws1 := (wStep Γ q_mo q_wy q_ah q_tg q_ws q_s q_tt q_nw q_tr q_ot q_di q_kp q_ik q_fr q_rw mi vwy vah vtg vws vs_12)) hP hD hS hA [5] rfl rfl rfl (va_runS (As := [.ref q_s, .int (1 : Int32), .int (0 : Int32), .int (vwy (1 : Int32).toNatClampNeg)]) (rest := []) ⟨hx, hb, hml, hown, hts⟩ (kX9_puts l Γ q_s vs_10 (1 : Int32) (0 : Int32) (vwy (1 : Int32).toNatClampNeg) vs_12 hc_13 _) (va_cwS 4 hts gX9_belts_X9_puts rfl rfl rfl (by decide +kernel) ⟨Nat.le_of_ble_eq_true rfl, Nat.le_of_ble_eq_true rfl⟩) (my_preS (wc := (wArr117 Γ q_s vs_10)) [5] hK hP hD rfl rfl) rfl rfl hl.1 rfl (lv_room (Nat.le_of_ble_eq_true rfl)) dX9_belts_190 ⟨Nat.le_of_ble_eq_true rfl, Nat.le_of_ble_eq_true rfl⟩) (fun H locs hP hD hS => ?_)
        obtain ⟨hf0, hf1, hf2, hf3⟩ := si4 hm
        subst hf0
        subst hf1
        subst hf2
        subst hf3
        exact W.vret hx hb hr (fun t ht hW => ⟨⟨rfl, by rw [ht]; exact hP⟩, hS.F ht⟩) hS.2.2 dX9_belts_193
      · replace hm := if_f hm c_9
        refine lv_aload_n hx hb dX9_belts_130 rfl (lv_at hl 0 rfl) ?_
        refine va_get (D := my_D Γ) (ci := 7) (v := .ref q_tg) (C := RX9) (T := TX9) (N := 19) hx hb hts hinX9 hown hK hP 0 rfl rfl 12 (by decide) (hts (.fieldLink RX9 38 "BeltFloorModel" "target" "[I") (List.mem_of_getElem? (i := 2) rfl)) (fun _ h9 => h9) rfl dX9_belts_131 ?_
        refine lv_aload_n hx hb dX9_belts_134 rfl (lv_at hl 1 rfl) ?_
        refine lv_iload_n hx hb dX9_belts_135 rfl (lv_at hl 2 rfl) ?_
        refine lv_iconst (v := (0 : Int32)) hx hb dX9_belts_136 (by decide) ?_
        obtain ⟨r_14, hc_15, hm⟩ := bo1_s hm
        refine my_callP1 (wc := (wArr117 Γ q_s vs)) (w1 := (wArr117 Γ q_s vs)) (ws1 := (wStep Γ q_mo q_wy q_ah q_tg q_ws q_s q_tt q_nw q_tr q_ot q_di q_kp q_ik q_fr q_rw mi vwy vah vtg vws vs)) hP hD hS hA [5] rfl rfl rfl (va_runS (As := [.ref q_s, .int l2, .int (0 : Int32)]) (rest := [.ref q_tg]) ⟨hx, hb, hml, hown, hts⟩ (kX9_of l Γ q_s vs l2 (0 : Int32) r_14 hc_15 _) (va_cwS 3 hts gX9_belts_X9_of rfl rfl rfl (by decide +kernel) ⟨Nat.le_of_ble_eq_true rfl, Nat.le_of_ble_eq_true rfl⟩) (my_preS (wc := (wArr117 Γ q_s vs)) [5] hK hP hD rfl rfl) rfl rfl hl.1 rfl (lv_room (Nat.le_of_ble_eq_true rfl)) dX9_belts_137 ⟨Nat.le_of_ble_eq_true rfl, Nat.le_of_ble_eq_true rfl⟩) (fun H locs hP hD hS => ?_)
        obtain ⟨hi_16, hm⟩ := if_in hm
        refine va_iald hx hb hK hP 3 0 rfl rfl hi_16 dX9_belts_140 ?_
        refine lv_istore_n (lv' := [(3, .int (vtg r_14.toNatClampNeg)), (0, .ref q_mo), (1, .ref q_s), (2, .int l2)]) hx hb dX9_belts_141 rfl hl (by decide) rfl (fun ls hl => ?_)
        refine lv_aload_n hx hb dX9_belts_142 rfl (lv_at hl 1 rfl) ?_
        refine va_get (D := my_D Γ) (ci := 7) (v := .ref q_wy) (C := RX9) (T := TX9) (N := 19) hx hb hts hinX9 hown hK hP 0 rfl rfl 10 (by decide) (hts (.fieldLink RX9 32 "BeltFloorModel" "way" "[I") (List.mem_of_getElem? (i := 3) rfl)) (fun _ h9 => h9) rfl dX9_belts_143 ?_
        refine lv_iload_n hx hb dX9_belts_146 rfl (lv_at hl 3 rfl) ?_
        refine lv_iload_n hx hb dX9_belts_147 rfl (lv_at hl 0 rfl) ?_
        refine lv_iconst (v := (-1 : Int32)) hx hb dX9_belts_148 (by decide) ?_
        refine lv_icmp_ne (tgt := 161) hx hb dX9_belts_149 (by decide) (fun c_17 => ?_) (fun c_17 => ?_)
        · replace hm := if_f hm c_17
          refine lv_iload_n hx hb dX9_belts_161 rfl (lv_at hl 0 rfl) ?_
          exact J_162 (fun vwy vtg vws vs l2 => mX9_belts_L125 n vwy vtg vws vs l2) ih vwy vtg vws vs l2 l2 (vtg r_14.toNatClampNeg) _ _ _ hP hD hS (lv_sub hl [1, 2, 3] rfl) hm
        · replace hm := if_s hm c_17
          refine lv_aload_n hx hb dX9_belts_152 rfl (lv_at hl 2 rfl) ?_
          refine lv_iload_n hx hb dX9_belts_153 rfl (lv_at hl 3 rfl) ?_
          refine lv_iconst (v := (0 : Int32)) hx hb dX9_belts_154 (by decide) ?_
          obtain ⟨r_19, hc_20, hm⟩ := bo1_s hm
          refine my_callP1 (wc := (wArr117 Γ q_s vs)) (w1 := (wArr117 Γ q_s vs)) (ws1 := (wStep Γ q_mo q_wy q_ah q_tg q_ws q_s q_tt q_nw q_tr q_ot q_di q_kp q_ik q_fr q_rw mi vwy vah vtg vws vs)) hP hD hS hA [5] rfl rfl rfl (va_runS (As := [.ref q_s, .int l2, .int (0 : Int32)]) (rest := [.int l2, .ref q_wy]) ⟨hx, hb, hml, hown, hts⟩ (kX9_of l Γ q_s vs l2 (0 : Int32) r_19 hc_20 _) (va_cwS 3 hts gX9_belts_X9_of rfl rfl rfl (by decide +kernel) ⟨Nat.le_of_ble_eq_true rfl, Nat.le_of_ble_eq_true rfl⟩) (my_preS (wc := (wArr117 Γ q_s vs)) [5] hK hP hD rfl rfl) rfl rfl hl.1 rfl (lv_room (Nat.le_of_ble_eq_true rfl)) dX9_belts_155 ⟨Nat.le_of_ble_eq_true rfl, Nat.le_of_ble_eq_true rfl⟩) (fun H locs hP hD hS => ?_)
          refine lv_goto (tgt := 162) hx hb dX9_belts_158 (by decide) ?_
          exact J_162 (fun vwy vtg vws vs l2 => mX9_belts_L125 n vwy vtg vws vs l2) ih vwy vtg vws vs l2 l2 r_19 _ _ _ hP hD hS (lv_sub hl [1, 2, 3] rfl) hm
  have J_117 : ∀ (k79 : (Nat → Int32) → (Nat → Int32) → (Nat → Int32) → (Nat → Int32) → Int32 → Option ((Nat → Int32) × (Nat → Int32) × (Nat → Int32) × (Nat → Int32))), (∀ (vwy : Nat → Int32) (vtg : Nat → Int32) (vws : Nat → Int32) (vs : Nat → Int32) (l2 : Int32) (H : Heap) (locs : List Loc) (ls : Array Slot), va_P (my_D Γ) vwCl (wStep Γ q_mo q_wy q_ah q_tg q_ws q_s q_tt q_nw q_tr q_ot q_di q_kp q_ik q_fr q_rw mi vwy vah vtg vws vs) H → va_D A (wStep Γ q_mo q_wy q_ah q_tg q_ws q_s q_tt q_nw q_tr q_ot q_di q_kp q_ik q_fr q_rw mi vwy vah vtg vws vs) → va_S A s.heap H locs → lv_has ls 4 [(0, .ref q_mo), (1, .ref q_s), (2, .int l2)] → k79 vwy vtg vws vs l2 = (some (vwy_z, vtg_z, vws_z, vs_z)) → W p l e (headSpec wsX9_belts ({ frames := 4, cells := 0, slots := 0, locals := 89 } : Room)).room s m ([.ref q_mo, .ref q_s] : List Value).toArray below meth c H locs 0 0 (MQ below (my_Q Γ A none (wStep Γ q_mo q_wy q_ah q_tg q_ws q_s q_tt q_nw q_tr q_ot q_di q_kp q_ik q_fr q_rw mi vwy_z vah vtg_z vws_z vs_z)) ([.ref q_mo, .ref q_s] : List Value).toArray s 0 0 A) (F0 m 79 ls [])) → ∀ (vwy : Nat → Int32) (vtg : Nat → Int32) (vws : Nat → Int32) (vs : Nat → Int32) (l2 : Int32) (H : Heap) (locs : List Loc) (ls : Array Slot), va_P (my_D Γ) vwCl (wStep Γ q_mo q_wy q_ah q_tg q_ws q_s q_tt q_nw q_tr q_ot q_di q_kp q_ik q_fr q_rw mi vwy vah vtg vws vs) H → va_D A (wStep Γ q_mo q_wy q_ah q_tg q_ws q_s q_tt q_nw q_tr q_ot q_di q_kp q_ik q_fr q_rw mi vwy vah vtg vws vs) → va_S A s.heap H locs → lv_has ls 4 [(0, .ref q_mo), (1, .ref q_s), (2, .int l2)] → mX9_belts_J117 k79 vwy vtg vws vs l2 = (some (vwy_z, vtg_z, vws_z, vs_z)) → W p l e (headSpec wsX9_belts ({ frames := 4, cells := 0, slots := 0, locals := 89 } : Room)).room s m ([.ref q_mo, .ref q_s] : List Value).toArray below meth c H locs 0 0 (MQ below (my_Q Γ A none (wStep Γ q_mo q_wy q_ah q_tg q_ws q_s q_tt q_nw q_tr q_ot q_di q_kp q_ik q_fr q_rw mi vwy_z vah vtg_z vws_z vs_z)) ([.ref q_mo, .ref q_s] : List Value).toArray s 0 0 A) (F0 m 117 ls []) := by
    intro k79 hk79 vwy vtg vws vs l2 H locs ls hP hD hS hl hm
    unfold mX9_belts_J117 at hm
    refine lv_iinc (v := (l2 + (1 : Int32))) (lv' := [(2, .int (l2 + (1 : Int32))), (0, .ref q_mo), (1, .ref q_s)]) hx hb dX9_belts_117 hl (k := 2) rfl rfl (by decide) rfl (fun ls hl => ?_)
    refine lv_goto (tgt := 79) hx hb dX9_belts_120 (by decide) ?_
    exact hk79 vwy vtg vws vs (l2 + (1 : Int32)) _ _ _ hP hD hS (lv_sub hl [1, 2, 0] rfl) hm
  have J_79 : ∀ n : Nat, ∀ (vwy : Nat → Int32) (vtg : Nat → Int32) (vws : Nat → Int32) (vs : Nat → Int32) (l2 : Int32) (H : Heap) (locs : List Loc) (ls : Array Slot), va_P (my_D Γ) vwCl (wStep Γ q_mo q_wy q_ah q_tg q_ws q_s q_tt q_nw q_tr q_ot q_di q_kp q_ik q_fr q_rw mi vwy vah vtg vws vs) H → va_D A (wStep Γ q_mo q_wy q_ah q_tg q_ws q_s q_tt q_nw q_tr q_ot q_di q_kp q_ik q_fr q_rw mi vwy vah vtg vws vs) → va_S A s.heap H locs → lv_has ls 4 [(0, .ref q_mo), (1, .ref q_s), (2, .int l2)] → mX9_belts_L79 n vwy vtg vws vs l2 = (some (vwy_z, vtg_z, vws_z, vs_z)) → W p l e (headSpec wsX9_belts ({ frames := 4, cells := 0, slots := 0, locals := 89 } : Room)).room s m ([.ref q_mo, .ref q_s] : List Value).toArray below meth c H locs 0 0 (MQ below (my_Q Γ A none (wStep Γ q_mo q_wy q_ah q_tg q_ws q_s q_tt q_nw q_tr q_ot q_di q_kp q_ik q_fr q_rw mi vwy_z vah vtg_z vws_z vs_z)) ([.ref q_mo, .ref q_s] : List Value).toArray s 0 0 A) (F0 m 79 ls []) := by
    intro  n
    induction n with
    | zero => intro vwy vtg vws vs l2 H locs ls hP hD hS hl hm; cases hm
    | succ n ih =>
      intro vwy vtg vws vs l2 H locs ls hP hD hS hl hm
      unfold mX9_belts_L79 at hm
      refine lv_iload_n hx hb dX9_belts_79 rfl (lv_at hl 2 rfl) ?_
      refine lv_bipush (v := (36 : Int32)) hx hb dX9_belts_80 (by decide) ?_
      refine lv_icmp_ge (tgt := 123) hx hb dX9_belts_82 (by decide) (fun c_8 => ?_) (fun c_8 => ?_)
      · replace hm := if_s hm c_8
        refine lv_iconst (v := (0 : Int32)) hx hb dX9_belts_123 (by decide) ?_
        refine lv_istore_n (lv' := [(2, .int (0 : Int32)), (0, .ref q_mo), (1, .ref q_s)]) hx hb dX9_belts_124 rfl hl (by decide) rfl (fun ls hl => ?_)
        exact J_125 4096 vwy vtg vws vs (0 : Int32) _ _ _ hP hD hS (lv_sub hl [1, 2, 0] rfl) hm
      · replace hm := if_f hm c_8
        refine lv_aload_n hx hb dX9_belts_85 rfl (lv_at hl 0 rfl) ?_
        refine va_get (D := my_D Γ) (ci := 7) (v := .ref q_tg) (C := RX9) (T := TX9) (N := 19) hx hb hts hinX9 hown hK hP 0 rfl rfl 12 (by decide) (hts (.fieldLink RX9 38 "BeltFloorModel" "target" "[I") (List.mem_of_getElem? (i := 2) rfl)) (fun _ h9 => h9) rfl dX9_belts_86 ?_
        refine lv_iload_n hx hb dX9_belts_89 rfl (lv_at hl 2 rfl) ?_
        obtain ⟨hi_21, hm⟩ := if_in hm
        refine va_iald hx hb hK hP 3 0 rfl rfl hi_21 dX9_belts_90 ?_
        refine lv_iconst (v := (-1 : Int32)) hx hb dX9_belts_91 (by decide) ?_
        refine lv_icmp_eq (tgt := 117) hx hb dX9_belts_92 (by decide) (fun c_22 => ?_) (fun c_22 => ?_)
        · replace hm := if_s hm c_22
          exact J_117 (fun vwy vtg vws vs l2 => mX9_belts_L79 n vwy vtg vws vs l2) ih vwy vtg vws vs l2 _ _ _ hP hD hS (lv_sub hl [0, 1, 2] rfl) hm
        · replace hm := if_f hm c_22
          refine lv_aload_n hx hb dX9_belts_95 rfl (lv_at hl 0 rfl) ?_
          refine va_get (D := my_D Γ) (ci := 7) (v := .ref q_ws) (C := RX9) (T := TX9) (N := 19) hx hb hts hinX9 hown hK hP 0 rfl rfl 13 (by decide) (hts (.fieldLink RX9 41 "BeltFloorModel" "was" "[I") (List.mem_of_getElem? (i := 1) rfl)) (fun _ h9 => h9) rfl dX9_belts_96 ?_
          refine lv_iload_n hx hb dX9_belts_99 rfl (lv_at hl 2 rfl) ?_
          refine va_iald hx hb hK hP 4 0 rfl rfl hi_21 dX9_belts_100 ?_
          refine lv_iconst (v := (1 : Int32)) hx hb dX9_belts_101 (by decide) ?_
          refine lv_icmp_ne (tgt := 117) hx hb dX9_belts_102 (by decide) (fun c_23 => ?_) (fun c_23 => ?_)
          · replace hm := if_f hm c_23
            exact J_117 (fun vwy vtg vws vs l2 => mX9_belts_L79 n vwy vtg vws vs l2) ih vwy vtg vws vs l2 _ _ _ hP hD hS (lv_sub hl [0, 1, 2] rfl) hm
          · replace hm := if_s hm c_23
            refine lv_aload_n hx hb dX9_belts_105 rfl (lv_at hl 1 rfl) ?_
            refine lv_bipush (v := (36 : Int32)) hx hb dX9_belts_106 (by decide) ?_
            refine lv_aload_n hx hb dX9_belts_108 rfl (lv_at hl 0 rfl) ?_
            refine va_get (D := my_D Γ) (ci := 7) (v := .ref q_tg) (C := RX9) (T := TX9) (N := 19) hx hb hts hinX9 hown hK hP 0 rfl rfl 12 (by decide) (hts (.fieldLink RX9 38 "BeltFloorModel" "target" "[I") (List.mem_of_getElem? (i := 2) rfl)) (fun _ h9 => h9) rfl dX9_belts_109 ?_
            refine lv_iload_n hx hb dX9_belts_112 rfl (lv_at hl 2 rfl) ?_
            refine va_iald hx hb hK hP 3 0 rfl rfl hi_21 dX9_belts_113 ?_
            refine lv_iadd hx hb dX9_belts_114 ?_
            refine lv_iconst (v := (1 : Int32)) hx hb dX9_belts_115 (by decide) ?_
            obtain ⟨hi_24, hm⟩ := if_in hm
            refine va_iast hx hb hK hP hD hS 5 0 rfl rfl hi_24 dX9_belts_116 (fun H locs hP hD hS => ?_)
            replace hP : va_P (my_D Γ) vwCl (wStep Γ q_mo q_wy q_ah q_tg q_ws q_s q_tt q_nw q_tr q_ot q_di q_kp q_ik q_fr q_rw mi vwy vah vtg vws (upd vs ((36 : Int32) + (vtg l2.toNatClampNeg)).toNatClampNeg (1 : Int32))) H := hP
            replace hD : va_D A (wStep Γ q_mo q_wy q_ah q_tg q_ws q_s q_tt q_nw q_tr q_ot q_di q_kp q_ik q_fr q_rw mi vwy vah vtg vws (upd vs ((36 : Int32) + (vtg l2.toNatClampNeg)).toNatClampNeg (1 : Int32))) := hD
            exact J_117 (fun vwy vtg vws vs l2 => mX9_belts_L79 n vwy vtg vws vs l2) ih vwy vtg vws (upd vs ((36 : Int32) + (vtg l2.toNatClampNeg)).toNatClampNeg (1 : Int32)) l2 _ _ _ hP hD hS (lv_sub hl [0, 1, 2] rfl) hm
  have J_71 : ∀ (k38 : (Nat → Int32) → (Nat → Int32) → (Nat → Int32) → (Nat → Int32) → Int32 → Option ((Nat → Int32) × (Nat → Int32) × (Nat → Int32) × (Nat → Int32))), (∀ (vwy : Nat → Int32) (vtg : Nat → Int32) (vws : Nat → Int32) (vs : Nat → Int32) (l2 : Int32) (H : Heap) (locs : List Loc) (ls : Array Slot), va_P (my_D Γ) vwCl (wStep Γ q_mo q_wy q_ah q_tg q_ws q_s q_tt q_nw q_tr q_ot q_di q_kp q_ik q_fr q_rw mi vwy vah vtg vws vs) H → va_D A (wStep Γ q_mo q_wy q_ah q_tg q_ws q_s q_tt q_nw q_tr q_ot q_di q_kp q_ik q_fr q_rw mi vwy vah vtg vws vs) → va_S A s.heap H locs → lv_has ls 4 [(0, .ref q_mo), (1, .ref q_s), (2, .int l2)] → k38 vwy vtg vws vs l2 = (some (vwy_z, vtg_z, vws_z, vs_z)) → W p l e (headSpec wsX9_belts ({ frames := 4, cells := 0, slots := 0, locals := 89 } : Room)).room s m ([.ref q_mo, .ref q_s] : List Value).toArray below meth c H locs 0 0 (MQ below (my_Q Γ A none (wStep Γ q_mo q_wy q_ah q_tg q_ws q_s q_tt q_nw q_tr q_ot q_di q_kp q_ik q_fr q_rw mi vwy_z vah vtg_z vws_z vs_z)) ([.ref q_mo, .ref q_s] : List Value).toArray s 0 0 A) (F0 m 38 ls [])) → ∀ (vwy : Nat → Int32) (vtg : Nat → Int32) (vws : Nat → Int32) (vs : Nat → Int32) (l2 : Int32) (H : Heap) (locs : List Loc) (ls : Array Slot), va_P (my_D Γ) vwCl (wStep Γ q_mo q_wy q_ah q_tg q_ws q_s q_tt q_nw q_tr q_ot q_di q_kp q_ik q_fr q_rw mi vwy vah vtg vws vs) H → va_D A (wStep Γ q_mo q_wy q_ah q_tg q_ws q_s q_tt q_nw q_tr q_ot q_di q_kp q_ik q_fr q_rw mi vwy vah vtg vws vs) → va_S A s.heap H locs → lv_has ls 4 [(0, .ref q_mo), (1, .ref q_s), (2, .int l2)] → mX9_belts_J71 k38 vwy vtg vws vs l2 = (some (vwy_z, vtg_z, vws_z, vs_z)) → W p l e (headSpec wsX9_belts ({ frames := 4, cells := 0, slots := 0, locals := 89 } : Room)).room s m ([.ref q_mo, .ref q_s] : List Value).toArray below meth c H locs 0 0 (MQ below (my_Q Γ A none (wStep Γ q_mo q_wy q_ah q_tg q_ws q_s q_tt q_nw q_tr q_ot q_di q_kp q_ik q_fr q_rw mi vwy_z vah vtg_z vws_z vs_z)) ([.ref q_mo, .ref q_s] : List Value).toArray s 0 0 A) (F0 m 71 ls []) := by
    intro k38 hk38 vwy vtg vws vs l2 H locs ls hP hD hS hl hm
    unfold mX9_belts_J71 at hm
    refine lv_iinc (v := (l2 + (1 : Int32))) (lv' := [(2, .int (l2 + (1 : Int32))), (0, .ref q_mo), (1, .ref q_s)]) hx hb dX9_belts_71 hl (k := 2) rfl rfl (by decide) rfl (fun ls hl => ?_)
    refine lv_goto (tgt := 38) hx hb dX9_belts_74 (by decide) ?_
    exact hk38 vwy vtg vws vs (l2 + (1 : Int32)) _ _ _ hP hD hS (lv_sub hl [1, 2, 0] rfl) hm
  have J_38 : ∀ n : Nat, ∀ (vwy : Nat → Int32) (vtg : Nat → Int32) (vws : Nat → Int32) (vs : Nat → Int32) (l2 : Int32) (H : Heap) (locs : List Loc) (ls : Array Slot), va_P (my_D Γ) vwCl (wStep Γ q_mo q_wy q_ah q_tg q_ws q_s q_tt q_nw q_tr q_ot q_di q_kp q_ik q_fr q_rw mi vwy vah vtg vws vs) H → va_D A (wStep Γ q_mo q_wy q_ah q_tg q_ws q_s q_tt q_nw q_tr q_ot q_di q_kp q_ik q_fr q_rw mi vwy vah vtg vws vs) → va_S A s.heap H locs → lv_has ls 4 [(0, .ref q_mo), (1, .ref q_s), (2, .int l2)] → mX9_belts_L38 n vwy vtg vws vs l2 = (some (vwy_z, vtg_z, vws_z, vs_z)) → W p l e (headSpec wsX9_belts ({ frames := 4, cells := 0, slots := 0, locals := 89 } : Room)).room s m ([.ref q_mo, .ref q_s] : List Value).toArray below meth c H locs 0 0 (MQ below (my_Q Γ A none (wStep Γ q_mo q_wy q_ah q_tg q_ws q_s q_tt q_nw q_tr q_ot q_di q_kp q_ik q_fr q_rw mi vwy_z vah vtg_z vws_z vs_z)) ([.ref q_mo, .ref q_s] : List Value).toArray s 0 0 A) (F0 m 38 ls []) := by
    intro  n
    induction n with
    | zero => intro vwy vtg vws vs l2 H locs ls hP hD hS hl hm; cases hm
    | succ n ih =>
      intro vwy vtg vws vs l2 H locs ls hP hD hS hl hm
      unfold mX9_belts_L38 at hm
      refine lv_iload_n hx hb dX9_belts_38 rfl (lv_at hl 2 rfl) ?_
      refine lv_bipush (v := (36 : Int32)) hx hb dX9_belts_39 (by decide) ?_
      refine lv_icmp_ge (tgt := 77) hx hb dX9_belts_41 (by decide) (fun c_7 => ?_) (fun c_7 => ?_)
      · replace hm := if_s hm c_7
        refine lv_iconst (v := (0 : Int32)) hx hb dX9_belts_77 (by decide) ?_
        refine lv_istore_n (lv' := [(2, .int (0 : Int32)), (0, .ref q_mo), (1, .ref q_s)]) hx hb dX9_belts_78 rfl hl (by decide) rfl (fun ls hl => ?_)
        exact J_79 4096 vwy vtg vws vs (0 : Int32) _ _ _ hP hD hS (lv_sub hl [1, 2, 0] rfl) hm
      · replace hm := if_f hm c_7
        refine lv_aload_n hx hb dX9_belts_44 rfl (lv_at hl 0 rfl) ?_
        refine va_get (D := my_D Γ) (ci := 7) (v := .ref q_tg) (C := RX9) (T := TX9) (N := 19) hx hb hts hinX9 hown hK hP 0 rfl rfl 12 (by decide) (hts (.fieldLink RX9 38 "BeltFloorModel" "target" "[I") (List.mem_of_getElem? (i := 2) rfl)) (fun _ h9 => h9) rfl dX9_belts_45 ?_
        refine lv_iload_n hx hb dX9_belts_48 rfl (lv_at hl 2 rfl) ?_
        obtain ⟨hi_25, hm⟩ := if_in hm
        refine va_iald hx hb hK hP 3 0 rfl rfl hi_25 dX9_belts_49 ?_
        refine lv_iconst (v := (-1 : Int32)) hx hb dX9_belts_50 (by decide) ?_
        refine lv_icmp_eq (tgt := 71) hx hb dX9_belts_51 (by decide) (fun c_26 => ?_) (fun c_26 => ?_)
        · replace hm := if_s hm c_26
          exact J_71 (fun vwy vtg vws vs l2 => mX9_belts_L38 n vwy vtg vws vs l2) ih vwy vtg vws vs l2 _ _ _ hP hD hS (lv_sub hl [0, 1, 2] rfl) hm
        · replace hm := if_f hm c_26
          refine lv_aload_n hx hb dX9_belts_54 rfl (lv_at hl 0 rfl) ?_
          refine va_get (D := my_D Γ) (ci := 7) (v := .ref q_ws) (C := RX9) (T := TX9) (N := 19) hx hb hts hinX9 hown hK hP 0 rfl rfl 13 (by decide) (hts (.fieldLink RX9 41 "BeltFloorModel" "was" "[I") (List.mem_of_getElem? (i := 1) rfl)) (fun _ h9 => h9) rfl dX9_belts_55 ?_
          refine lv_iload_n hx hb dX9_belts_58 rfl (lv_at hl 2 rfl) ?_
          refine va_iald hx hb hK hP 4 0 rfl rfl hi_25 dX9_belts_59 ?_
          refine lv_iconst (v := (1 : Int32)) hx hb dX9_belts_60 (by decide) ?_
          refine lv_icmp_ne (tgt := 71) hx hb dX9_belts_61 (by decide) (fun c_27 => ?_) (fun c_27 => ?_)
          · replace hm := if_f hm c_27
            exact J_71 (fun vwy vtg vws vs l2 => mX9_belts_L38 n vwy vtg vws vs l2) ih vwy vtg vws vs l2 _ _ _ hP hD hS (lv_sub hl [0, 1, 2] rfl) hm
          · replace hm := if_s hm c_27
            refine lv_aload_n hx hb dX9_belts_64 rfl (lv_at hl 1 rfl) ?_
            refine lv_bipush (v := (36 : Int32)) hx hb dX9_belts_65 (by decide) ?_
            refine lv_iload_n hx hb dX9_belts_67 rfl (lv_at hl 2 rfl) ?_
            refine lv_iadd hx hb dX9_belts_68 ?_
            refine lv_iconst (v := (0 : Int32)) hx hb dX9_belts_69 (by decide) ?_
            obtain ⟨hi_28, hm⟩ := if_in hm
            refine va_iast hx hb hK hP hD hS 5 0 rfl rfl hi_28 dX9_belts_70 (fun H locs hP hD hS => ?_)
            replace hP : va_P (my_D Γ) vwCl (wStep Γ q_mo q_wy q_ah q_tg q_ws q_s q_tt q_nw q_tr q_ot q_di q_kp q_ik q_fr q_rw mi vwy vah vtg vws (upd vs ((36 : Int32) + l2).toNatClampNeg (0 : Int32))) H := hP
            replace hD : va_D A (wStep Γ q_mo q_wy q_ah q_tg q_ws q_s q_tt q_nw q_tr q_ot q_di q_kp q_ik q_fr q_rw mi vwy vah vtg vws (upd vs ((36 : Int32) + l2).toNatClampNeg (0 : Int32))) := hD
            exact J_71 (fun vwy vtg vws vs l2 => mX9_belts_L38 n vwy vtg vws vs l2) ih vwy vtg vws (upd vs ((36 : Int32) + l2).toNatClampNeg (0 : Int32)) l2 _ _ _ hP hD hS (lv_sub hl [0, 1, 2] rfl) hm
  have J_12 : ∀ n : Nat, ∀ (vwy : Nat → Int32) (vtg : Nat → Int32) (vws : Nat → Int32) (vs : Nat → Int32) (l2 : Int32) (H : Heap) (locs : List Loc) (ls : Array Slot), va_P (my_D Γ) vwCl (wStep Γ q_mo q_wy q_ah q_tg q_ws q_s q_tt q_nw q_tr q_ot q_di q_kp q_ik q_fr q_rw mi vwy vah vtg vws vs) H → va_D A (wStep Γ q_mo q_wy q_ah q_tg q_ws q_s q_tt q_nw q_tr q_ot q_di q_kp q_ik q_fr q_rw mi vwy vah vtg vws vs) → va_S A s.heap H locs → lv_has ls 4 [(0, .ref q_mo), (1, .ref q_s), (2, .int l2)] → mX9_belts_L12 n vwy vtg vws vs l2 = (some (vwy_z, vtg_z, vws_z, vs_z)) → W p l e (headSpec wsX9_belts ({ frames := 4, cells := 0, slots := 0, locals := 89 } : Room)).room s m ([.ref q_mo, .ref q_s] : List Value).toArray below meth c H locs 0 0 (MQ below (my_Q Γ A none (wStep Γ q_mo q_wy q_ah q_tg q_ws q_s q_tt q_nw q_tr q_ot q_di q_kp q_ik q_fr q_rw mi vwy_z vah vtg_z vws_z vs_z)) ([.ref q_mo, .ref q_s] : List Value).toArray s 0 0 A) (F0 m 12 ls []) := by
    intro  n
    induction n with
    | zero => intro vwy vtg vws vs l2 H locs ls hP hD hS hl hm; cases hm
    | succ n ih =>
      intro vwy vtg vws vs l2 H locs ls hP hD hS hl hm
      unfold mX9_belts_L12 at hm
      refine lv_iload_n hx hb dX9_belts_12 rfl (lv_at hl 2 rfl) ?_
      refine lv_bipush (v := (36 : Int32)) hx hb dX9_belts_13 (by decide) ?_
      refine lv_icmp_ge (tgt := 36) hx hb dX9_belts_15 (by decide) (fun c_6 => ?_) (fun c_6 => ?_)
      · replace hm := if_s hm c_6
        refine lv_iconst (v := (0 : Int32)) hx hb dX9_belts_36 (by decide) ?_
        refine lv_istore_n (lv' := [(2, .int (0 : Int32)), (0, .ref q_mo), (1, .ref q_s)]) hx hb dX9_belts_37 rfl hl (by decide) rfl (fun ls hl => ?_)
        exact J_38 4096 vwy vtg vws vs (0 : Int32) _ _ _ hP hD hS (lv_sub hl [1, 2, 0] rfl) hm
      · replace hm := if_f hm c_6
        refine lv_aload_n hx hb dX9_belts_18 rfl (lv_at hl 0 rfl) ?_
        refine va_get (D := my_D Γ) (ci := 7) (v := .ref q_ws) (C := RX9) (T := TX9) (N := 19) hx hb hts hinX9 hown hK hP 0 rfl rfl 13 (by decide) (hts (.fieldLink RX9 41 "BeltFloorModel" "was" "[I") (List.mem_of_getElem? (i := 1) rfl)) (fun _ h9 => h9) rfl dX9_belts_19 ?_
        refine lv_iload_n hx hb dX9_belts_22 rfl (lv_at hl 2 rfl) ?_
        refine lv_aload_n hx hb dX9_belts_23 rfl (lv_at hl 1 rfl) ?_
        refine lv_bipush (v := (36 : Int32)) hx hb dX9_belts_24 (by decide) ?_
        refine lv_iload_n hx hb dX9_belts_26 rfl (lv_at hl 2 rfl) ?_
        refine lv_iadd hx hb dX9_belts_27 ?_
        obtain ⟨hi_29, hm⟩ := if_in hm
        refine va_iald hx hb hK hP 5 0 rfl rfl hi_29 dX9_belts_28 ?_
        obtain ⟨hi_30, hm⟩ := if_in hm
        refine lv_topi (fun y_31 ey_31 => ?_)
        refine va_iast hx hb hK hP hD hS 4 0 rfl rfl hi_30 dX9_belts_29 (fun H locs hP hD hS => ?_)
        replace hP : va_P (my_D Γ) vwCl (wStep Γ q_mo q_wy q_ah q_tg q_ws q_s q_tt q_nw q_tr q_ot q_di q_kp q_ik q_fr q_rw mi vwy vah vtg (upd vws l2.toNatClampNeg y_31) vs) H := hP
        replace hD : va_D A (wStep Γ q_mo q_wy q_ah q_tg q_ws q_s q_tt q_nw q_tr q_ot q_di q_kp q_ik q_fr q_rw mi vwy vah vtg (upd vws l2.toNatClampNeg y_31) vs) := hD
        subst ey_31
        refine lv_iinc (v := (l2 + (1 : Int32))) (lv' := [(2, .int (l2 + (1 : Int32))), (0, .ref q_mo), (1, .ref q_s)]) hx hb dX9_belts_30 hl (k := 2) rfl rfl (by decide) rfl (fun ls hl => ?_)
        refine lv_goto (tgt := 12) hx hb dX9_belts_33 (by decide) ?_
        exact ih vwy vtg (upd vws l2.toNatClampNeg (vs ((36 : Int32) + l2).toNatClampNeg)) vs (l2 + (1 : Int32)) _ _ _ hP hD hS (lv_sub hl [1, 2, 0] rfl) hm
  unfold mX9_belts at hm
  refine lv_aload_n hx hb dX9_belts_0 rfl (lv_at hl 0 rfl) ?_
  refine lv_aload_n hx hb dX9_belts_1 rfl (lv_at hl 1 rfl) ?_
  obtain ⟨vtg_1, vws_2, hc_3, hm⟩ := bo2_s hm
  refine my_callP0 (wc := (wStep Γ q_mo q_wy q_ah q_tg q_ws q_s q_tt q_nw q_tr q_ot q_di q_kp q_ik q_fr q_rw mi vwy vah vtg vws vs)) (w1 := (wStep Γ q_mo q_wy q_ah q_tg q_ws q_s q_tt q_nw q_tr q_ot q_di q_kp q_ik q_fr q_rw mi vwy vah vtg_1 vws_2 vs)) (ws1 := (wStep Γ q_mo q_wy q_ah q_tg q_ws q_s q_tt q_nw q_tr q_ot q_di q_kp q_ik q_fr q_rw mi vwy vah vtg_1 vws_2 vs)) hP hD hS hA [0, 1, 2, 3, 4, 5] rfl rfl rfl (va_runV (As := [.ref q_s]) (rest := []) ⟨hx, hb, hml, hown, hts⟩ (kX9_findsTargets l Γ q_mo q_wy q_ah q_tg q_ws q_s q_tt q_nw q_tr q_ot q_di q_kp q_ik q_fr q_rw mi vwy vah vtg vws vs vtg_1 vws_2 hc_3 _) (cwV 1 hts gX9_belts_X9_findsTargets rfl rfl rfl (by decide +kernel) ⟨Nat.le_of_ble_eq_true rfl, Nat.le_of_ble_eq_true rfl⟩) (my_preV (wc := (wStep Γ q_mo q_wy q_ah q_tg q_ws q_s q_tt q_nw q_tr q_ot q_di q_kp q_ik q_fr q_rw mi vwy vah vtg vws vs)) (ci := 7) (q0 := 0) [0, 1, 2, 3, 4, 5] hK hP hD rfl rfl rfl rfl) rfl rfl hl.1 rfl (lv_room (Nat.le_of_ble_eq_true rfl)) dX9_belts_2 ⟨Nat.le_of_ble_eq_true rfl, Nat.le_of_ble_eq_true rfl⟩) (fun H locs hP hD hS => ?_)
  refine lv_aload_n hx hb dX9_belts_5 rfl (lv_at hl 0 rfl) ?_
  refine lv_aload_n hx hb dX9_belts_6 rfl (lv_at hl 1 rfl) ?_
  obtain ⟨vtg_4, hc_5, hm⟩ := bo1_s hm
  refine my_callP0 (wc := (wStep Γ q_mo q_wy q_ah q_tg q_ws q_s q_tt q_nw q_tr q_ot q_di q_kp q_ik q_fr q_rw mi vwy vah vtg_1 vws_2 vs)) (w1 := (wStep Γ q_mo q_wy q_ah q_tg q_ws q_s q_tt q_nw q_tr q_ot q_di q_kp q_ik q_fr q_rw mi vwy vah vtg_4 vws_2 vs)) (ws1 := (wStep Γ q_mo q_wy q_ah q_tg q_ws q_s q_tt q_nw q_tr q_ot q_di q_kp q_ik q_fr q_rw mi vwy vah vtg_4 vws_2 vs)) hP hD hS hA [0, 1, 2, 3, 4, 5] rfl rfl rfl (va_runV (As := [.ref q_s]) (rest := []) ⟨hx, hb, hml, hown, hts⟩ (kX9_holdsBack l Γ q_mo q_wy q_ah q_tg q_ws q_s q_tt q_nw q_tr q_ot q_di q_kp q_ik q_fr q_rw mi vwy vah vtg_1 vws_2 vs vtg_4 hc_5 _) (cwV 1 hts gX9_belts_X9_holdsBack rfl rfl rfl (by decide +kernel) ⟨Nat.le_of_ble_eq_true rfl, Nat.le_of_ble_eq_true rfl⟩) (my_preV (wc := (wStep Γ q_mo q_wy q_ah q_tg q_ws q_s q_tt q_nw q_tr q_ot q_di q_kp q_ik q_fr q_rw mi vwy vah vtg_1 vws_2 vs)) (ci := 7) (q0 := 0) [0, 1, 2, 3, 4, 5] hK hP hD rfl rfl rfl rfl) rfl rfl hl.1 rfl (lv_room (Nat.le_of_ble_eq_true rfl)) dX9_belts_7 ⟨Nat.le_of_ble_eq_true rfl, Nat.le_of_ble_eq_true rfl⟩) (fun H locs hP hD hS => ?_)
  refine lv_iconst (v := (0 : Int32)) hx hb dX9_belts_10 (by decide) ?_
  refine lv_istore_n (lv' := [(2, .int (0 : Int32)), (0, .ref q_mo), (1, .ref q_s)]) hx hb dX9_belts_11 rfl hl (by decide) rfl (fun ls hl => ?_)
  exact J_12 4096 vwy vtg_4 vws_2 vs (0 : Int32) _ _ _ hP hD hS (lv_sub hl [1, 2, 0] rfl) hm
def mX9_one (vwy : Nat → Int32) (vah : Nat → Int32) (vtg : Nat → Int32) (vws : Nat → Int32) (vs : Nat → Int32) : Option (Int32 × (Nat → Int32) × (Nat → Int32) × (Nat → Int32) × (Nat → Int32) × (Nat → Int32)) := (bo3 (mX9_follow vwy vah vs) (fun vwy_1 vah_2 vs_3 => (bo4 (mX9_belts vwy_1 vtg vws vs_3) (fun vwy_5 vtg_6 vws_7 vs_8 => (bo1 (mX9_pits vs_8) (fun vs_10 => (bo2 (mX9_passes (upd vs_10 (116 : Int32).toNatClampNeg ((vs_10 (116 : Int32).toNatClampNeg) + (1 : Int32)))) (fun r_13 vs_14 => (some (r_13, vwy_5, vah_2, vtg_6, vws_7, vs_14))))))))))
set_option maxHeartbeats 4000000 in
set_option maxRecDepth 100000 in
theorem kX9_one (l : Launch) (Γ : my_G) (q_mo q_wy q_ah q_tg q_ws q_s q_tt q_nw q_tr q_ot q_di q_kp q_ik q_fr q_rw : Nat) (mi : Nat → Int32) (vwy : Nat → Int32) (vah : Nat → Int32) (vtg : Nat → Int32) (vws : Nat → Int32) (vs : Nat → Int32)  (rr : Int32) (vwy_z : Nat → Int32) (vah_z : Nat → Int32) (vtg_z : Nat → Int32) (vws_z : Nat → Int32) (vs_z : Nat → Int32) (hm : mX9_one vwy vah vtg vws vs = (some (rr, vwy_z, vah_z, vtg_z, vws_z, vs_z))) : Mn l yX9_one wsX9_one ({ frames := 6, cells := 0, slots := 0, locals := 134 } : Room) Γ [.ref q_mo, .ref q_s] (wStep Γ q_mo q_wy q_ah q_tg q_ws q_s q_tt q_nw q_tr q_ot q_di q_kp q_ik q_fr q_rw mi vwy vah vtg vws vs) (some (.int rr)) (wStep Γ q_mo q_wy q_ah q_tg q_ws q_s q_tt q_nw q_tr q_ot q_di q_kp q_ik q_fr q_rw mi vwy_z vah_z vtg_z vws_z vs_z) := by
  intro sz
  refine Met.ofW (cc := cX9_one) (maxL := 2) (ret := (some .int)) (by decide) rfl ?_
  intro p e s m args below meth c s₁ B hml hv
  obtain ⟨rfl, hsz, hP, hK, hD0⟩ := hv
  have hx := B.exec
  have hb := B.bytes
  have hr := B.returns
  have hts := atoms_spec (ws := wsX9_one) B.pre
  have hown : s.vm.findClass RX9 = some m.cls := findClass_of_methodNamed B.named
  have hlocks := B.notSynchronized
  have hinX9 : ∀ w ∈ u_ws RX9 TX9 19, w ∈ wsX9_one := fun w h => List.mem_cons_of_mem _ (List.mem_append_right _ h)
  subst hsz
  have hD := hD0.self (sz := s.heap.size)
  have hA : ∀ q : Nat, s.heap.size ≤ q → va_A (wStep Γ q_mo q_wy q_ah q_tg q_ws q_s q_tt q_nw q_tr q_ot q_di q_kp q_ik q_fr q_rw mi vwy vah vtg vws vs) s.heap.size q := fun q h => Or.inr h
  generalize va_A (wStep Γ q_mo q_wy q_ah q_tg q_ws q_s q_tt q_nw q_tr q_ot q_di q_kp q_ik q_fr q_rw mi vwy vah vtg vws vs) s.heap.size = A at hD hA ⊢
  have hS : va_S A s.heap s.heap [] := va_S.rf
  have hl := lv_entry ([.ref q_mo, .ref q_s]) (n := 2) (Nat.le_of_ble_eq_true rfl)
  rw [lg_entry_eq]
  generalize (lg_sl ([.ref q_mo, .ref q_s]) ++ List.replicate (2 - (lg_sl ([.ref q_mo, .ref q_s])).length) Slot.unset).toArray = ls at hl ⊢
  replace hl : lv_has ls 2 [(0, .ref q_mo), (1, .ref q_s)] := hl
  unfold mX9_one at hm
  refine lv_aload_n hx hb dX9_one_0 rfl (lv_at hl 0 rfl) ?_
  refine lv_aload_n hx hb dX9_one_1 rfl (lv_at hl 1 rfl) ?_
  obtain ⟨vwy_1, vah_2, vs_3, hc_4, hm⟩ := bo3_s hm
  refine my_callP0 (wc := (wStep Γ q_mo q_wy q_ah q_tg q_ws q_s q_tt q_nw q_tr q_ot q_di q_kp q_ik q_fr q_rw mi vwy vah vtg vws vs)) (w1 := (wStep Γ q_mo q_wy q_ah q_tg q_ws q_s q_tt q_nw q_tr q_ot q_di q_kp q_ik q_fr q_rw mi vwy_1 vah_2 vtg vws vs_3)) (ws1 := (wStep Γ q_mo q_wy q_ah q_tg q_ws q_s q_tt q_nw q_tr q_ot q_di q_kp q_ik q_fr q_rw mi vwy_1 vah_2 vtg vws vs_3)) hP hD hS hA [0, 1, 2, 3, 4, 5] rfl rfl rfl (va_runV (As := [.ref q_s]) (rest := []) ⟨hx, hb, hml, hown, hts⟩ (kX9_follow l Γ q_mo q_wy q_ah q_tg q_ws q_s q_tt q_nw q_tr q_ot q_di q_kp q_ik q_fr q_rw mi vwy vah vtg vws vs vwy_1 vah_2 vs_3 hc_4 _) (cwV 1 hts gX9_one_X9_follow rfl rfl rfl (by decide +kernel) ⟨Nat.le_of_ble_eq_true rfl, Nat.le_of_ble_eq_true rfl⟩) (my_preV (wc := (wStep Γ q_mo q_wy q_ah q_tg q_ws q_s q_tt q_nw q_tr q_ot q_di q_kp q_ik q_fr q_rw mi vwy vah vtg vws vs)) (ci := 7) (q0 := 0) [0, 1, 2, 3, 4, 5] hK hP hD rfl rfl rfl rfl) rfl rfl hl.1 rfl (lv_room (Nat.le_of_ble_eq_true rfl)) dX9_one_2 ⟨Nat.le_of_ble_eq_true rfl, Nat.le_of_ble_eq_true rfl⟩) (fun H locs hP hD hS => ?_)
  refine lv_aload_n hx hb dX9_one_5 rfl (lv_at hl 0 rfl) ?_
  refine lv_aload_n hx hb dX9_one_6 rfl (lv_at hl 1 rfl) ?_
  obtain ⟨vwy_5, vtg_6, vws_7, vs_8, hc_9, hm⟩ := bo4_s hm
  refine my_callP0 (wc := (wStep Γ q_mo q_wy q_ah q_tg q_ws q_s q_tt q_nw q_tr q_ot q_di q_kp q_ik q_fr q_rw mi vwy_1 vah_2 vtg vws vs_3)) (w1 := (wStep Γ q_mo q_wy q_ah q_tg q_ws q_s q_tt q_nw q_tr q_ot q_di q_kp q_ik q_fr q_rw mi vwy_5 vah_2 vtg_6 vws_7 vs_8)) (ws1 := (wStep Γ q_mo q_wy q_ah q_tg q_ws q_s q_tt q_nw q_tr q_ot q_di q_kp q_ik q_fr q_rw mi vwy_5 vah_2 vtg_6 vws_7 vs_8)) hP hD hS hA [0, 1, 2, 3, 4, 5] rfl rfl rfl (va_runV (As := [.ref q_s]) (rest := []) ⟨hx, hb, hml, hown, hts⟩ (kX9_belts l Γ q_mo q_wy q_ah q_tg q_ws q_s q_tt q_nw q_tr q_ot q_di q_kp q_ik q_fr q_rw mi vwy_1 vah_2 vtg vws vs_3 vwy_5 vtg_6 vws_7 vs_8 hc_9 _) (cwV 1 hts gX9_one_X9_belts rfl rfl rfl (by decide +kernel) ⟨Nat.le_of_ble_eq_true rfl, Nat.le_of_ble_eq_true rfl⟩) (my_preV (wc := (wStep Γ q_mo q_wy q_ah q_tg q_ws q_s q_tt q_nw q_tr q_ot q_di q_kp q_ik q_fr q_rw mi vwy_1 vah_2 vtg vws vs_3)) (ci := 7) (q0 := 0) [0, 1, 2, 3, 4, 5] hK hP hD rfl rfl rfl rfl) rfl rfl hl.1 rfl (lv_room (Nat.le_of_ble_eq_true rfl)) dX9_one_7 ⟨Nat.le_of_ble_eq_true rfl, Nat.le_of_ble_eq_true rfl⟩) (fun H locs hP hD hS => ?_)
  refine lv_aload_n hx hb dX9_one_10 rfl (lv_at hl 1 rfl) ?_
  obtain ⟨vs_10, hc_11, hm⟩ := bo1_s hm
  refine my_callP0 (wc := (wArr117 Γ q_s vs_8)) (w1 := (wArr117 Γ q_s vs_10)) (ws1 := (wStep Γ q_mo q_wy q_ah q_tg q_ws q_s q_tt q_nw q_tr q_ot q_di q_kp q_ik q_fr q_rw mi vwy_5 vah_2 vtg_6 vws_7 vs_10)) hP hD hS hA [5] rfl rfl rfl (va_runS (As := [.ref q_s]) (rest := []) ⟨hx, hb, hml, hown, hts⟩ (kX9_pits l Γ q_s vs_8 vs_10 hc_11 _) (va_cwS 1 hts gX9_one_X9_pits rfl rfl rfl (by decide +kernel) ⟨Nat.le_of_ble_eq_true rfl, Nat.le_of_ble_eq_true rfl⟩) (my_preS (wc := (wArr117 Γ q_s vs_8)) [5] hK hP hD rfl rfl) rfl rfl hl.1 rfl (lv_room (Nat.le_of_ble_eq_true rfl)) dX9_one_11 ⟨Nat.le_of_ble_eq_true rfl, Nat.le_of_ble_eq_true rfl⟩) (fun H locs hP hD hS => ?_)
  refine lv_aload_n hx hb dX9_one_14 rfl (lv_at hl 1 rfl) ?_
  refine lv_bipush (v := (116 : Int32)) hx hb dX9_one_15 (by decide) ?_
  refine lv_dup2_11 hx hb dX9_one_17 rfl rfl ?_
  refine va_iald hx hb hK hP 5 0 rfl rfl (show vp_in (116 : Int32) 117 from (by decide : ¬ ((116 : Int32) < 0 ∨ 117 ≤ (116 : Int32).toNatClampNeg))) dX9_one_18 ?_
  refine lv_iconst (v := (1 : Int32)) hx hb dX9_one_19 (by decide) ?_
  refine lv_iadd hx hb dX9_one_20 ?_
  refine lv_topi (fun y_12 ey_12 => ?_)
  refine va_iast hx hb hK hP hD hS 5 0 rfl rfl (show vp_in (116 : Int32) 117 from (by decide : ¬ ((116 : Int32) < 0 ∨ 117 ≤ (116 : Int32).toNatClampNeg))) dX9_one_21 (fun H locs hP hD hS => ?_)
  replace hP : va_P (my_D Γ) vwCl (wStep Γ q_mo q_wy q_ah q_tg q_ws q_s q_tt q_nw q_tr q_ot q_di q_kp q_ik q_fr q_rw mi vwy_5 vah_2 vtg_6 vws_7 (upd vs_10 (116 : Int32).toNatClampNeg y_12)) H := hP
  replace hD : va_D A (wStep Γ q_mo q_wy q_ah q_tg q_ws q_s q_tt q_nw q_tr q_ot q_di q_kp q_ik q_fr q_rw mi vwy_5 vah_2 vtg_6 vws_7 (upd vs_10 (116 : Int32).toNatClampNeg y_12)) := hD
  subst ey_12
  refine lv_aload_n hx hb dX9_one_22 rfl (lv_at hl 1 rfl) ?_
  obtain ⟨r_13, vs_14, hc_15, hm⟩ := bo2_s hm
  refine my_callP1 (wc := (wArr117 Γ q_s (upd vs_10 (116 : Int32).toNatClampNeg ((vs_10 (116 : Int32).toNatClampNeg) + (1 : Int32))))) (w1 := (wArr117 Γ q_s vs_14)) (ws1 := (wStep Γ q_mo q_wy q_ah q_tg q_ws q_s q_tt q_nw q_tr q_ot q_di q_kp q_ik q_fr q_rw mi vwy_5 vah_2 vtg_6 vws_7 vs_14)) hP hD hS hA [5] rfl rfl rfl (va_runS (As := [.ref q_s]) (rest := []) ⟨hx, hb, hml, hown, hts⟩ (kX9_passes l Γ q_s (upd vs_10 (116 : Int32).toNatClampNeg ((vs_10 (116 : Int32).toNatClampNeg) + (1 : Int32))) r_13 vs_14 hc_15 _) (va_cwS 1 hts gX9_one_X9_passes rfl rfl rfl (by decide +kernel) ⟨Nat.le_of_ble_eq_true rfl, Nat.le_of_ble_eq_true rfl⟩) (my_preS (wc := (wArr117 Γ q_s (upd vs_10 (116 : Int32).toNatClampNeg ((vs_10 (116 : Int32).toNatClampNeg) + (1 : Int32))))) [5] hK hP hD rfl rfl) rfl rfl hl.1 rfl (lv_room (Nat.le_of_ble_eq_true rfl)) dX9_one_23 ⟨Nat.le_of_ble_eq_true rfl, Nat.le_of_ble_eq_true rfl⟩) (fun H locs hP hD hS => ?_)
  obtain ⟨hf0, hf1, hf2, hf3, hf4, hf5⟩ := si6 hm
  subst hf0
  subst hf1
  subst hf2
  subst hf3
  subst hf4
  subst hf5
  exact W.iret (v := r_13) hx hb hr (fun t ht hW => ⟨⟨rfl, by rw [ht]; exact hP⟩, hS.F ht⟩) hS.2.2 dX9_one_26
def mX9_stepOn_L5  : Nat → (Nat → Int32) → (Nat → Int32) → (Nat → Int32) → (Nat → Int32) → (Nat → Int32) → Int32 → Int32 → Int32 → Option (Int32 × (Nat → Int32) × (Nat → Int32) × (Nat → Int32) × (Nat → Int32) × (Nat → Int32))
  | 0, _, _, _, _, _, _, _, _ => none
  | n + 1, vwy, vah, vtg, vws, vs, l2, l3, l4 => (if l2 ≤ l4 then (some (l3, vwy, vah, vtg, vws, vs)) else (bo6 (mX9_one vwy vah vtg vws vs) (fun r_2 vwy_3 vah_4 vtg_5 vws_6 vs_7 => (mX9_stepOn_L5 n vwy_3 vah_4 vtg_5 vws_6 vs_7 l2 (l3 + r_2) (l4 + (1 : Int32))))))
def mX9_stepOn (vwy : Nat → Int32) (vah : Nat → Int32) (vtg : Nat → Int32) (vws : Nat → Int32) (vs : Nat → Int32) (x1 : Int32) : Option (Int32 × (Nat → Int32) × (Nat → Int32) × (Nat → Int32) × (Nat → Int32) × (Nat → Int32)) := (mX9_stepOn_L5 4096 vwy vah vtg vws vs x1 (0 : Int32) (0 : Int32))
set_option maxHeartbeats 4000000 in
set_option maxRecDepth 100000 in
theorem kX9_stepOn (l : Launch) (Γ : my_G) (q_mo q_wy q_ah q_tg q_ws q_s q_tt q_nw q_tr q_ot q_di q_kp q_ik q_fr q_rw : Nat) (mi : Nat → Int32) (vwy : Nat → Int32) (vah : Nat → Int32) (vtg : Nat → Int32) (vws : Nat → Int32) (vs : Nat → Int32) (x1 : Int32) (rr : Int32) (vwy_z : Nat → Int32) (vah_z : Nat → Int32) (vtg_z : Nat → Int32) (vws_z : Nat → Int32) (vs_z : Nat → Int32) (hm : mX9_stepOn vwy vah vtg vws vs x1 = (some (rr, vwy_z, vah_z, vtg_z, vws_z, vs_z))) : Mn l yX9_stepOn wsX9_stepOn ({ frames := 7, cells := 0, slots := 0, locals := 155 } : Room) Γ [.ref q_mo, .ref q_s, .int x1] (wStep Γ q_mo q_wy q_ah q_tg q_ws q_s q_tt q_nw q_tr q_ot q_di q_kp q_ik q_fr q_rw mi vwy vah vtg vws vs) (some (.int rr)) (wStep Γ q_mo q_wy q_ah q_tg q_ws q_s q_tt q_nw q_tr q_ot q_di q_kp q_ik q_fr q_rw mi vwy_z vah_z vtg_z vws_z vs_z) := by
  intro sz
  refine Met.ofW (cc := cX9_stepOn) (maxL := 5) (ret := (some .int)) (by decide) rfl ?_
  intro p e s m args below meth c s₁ B hml hv
  obtain ⟨rfl, hsz, hP, hK, hD0⟩ := hv
  have hx := B.exec
  have hb := B.bytes
  have hr := B.returns
  have hts := atoms_spec (ws := wsX9_stepOn) B.pre
  have hown : s.vm.findClass RX9 = some m.cls := findClass_of_methodNamed B.named
  have hlocks := B.notSynchronized
  have hinX9 : ∀ w ∈ u_ws RX9 TX9 19, w ∈ wsX9_stepOn := fun w h => List.mem_cons_of_mem _ (List.mem_append_right _ h)
  subst hsz
  have hD := hD0.self (sz := s.heap.size)
  have hA : ∀ q : Nat, s.heap.size ≤ q → va_A (wStep Γ q_mo q_wy q_ah q_tg q_ws q_s q_tt q_nw q_tr q_ot q_di q_kp q_ik q_fr q_rw mi vwy vah vtg vws vs) s.heap.size q := fun q h => Or.inr h
  generalize va_A (wStep Γ q_mo q_wy q_ah q_tg q_ws q_s q_tt q_nw q_tr q_ot q_di q_kp q_ik q_fr q_rw mi vwy vah vtg vws vs) s.heap.size = A at hD hA ⊢
  have hS : va_S A s.heap s.heap [] := va_S.rf
  have hl := lv_entry ([.ref q_mo, .ref q_s, .int x1]) (n := 5) (Nat.le_of_ble_eq_true rfl)
  rw [lg_entry_eq]
  generalize (lg_sl ([.ref q_mo, .ref q_s, .int x1]) ++ List.replicate (5 - (lg_sl ([.ref q_mo, .ref q_s, .int x1])).length) Slot.unset).toArray = ls at hl ⊢
  replace hl : lv_has ls 5 [(0, .ref q_mo), (1, .ref q_s), (2, .int x1)] := hl
  have J_5 : ∀ n : Nat, ∀ (vwy : Nat → Int32) (vah : Nat → Int32) (vtg : Nat → Int32) (vws : Nat → Int32) (vs : Nat → Int32) (l2 : Int32) (l3 : Int32) (l4 : Int32) (H : Heap) (locs : List Loc) (ls : Array Slot), va_P (my_D Γ) vwCl (wStep Γ q_mo q_wy q_ah q_tg q_ws q_s q_tt q_nw q_tr q_ot q_di q_kp q_ik q_fr q_rw mi vwy vah vtg vws vs) H → va_D A (wStep Γ q_mo q_wy q_ah q_tg q_ws q_s q_tt q_nw q_tr q_ot q_di q_kp q_ik q_fr q_rw mi vwy vah vtg vws vs) → va_S A s.heap H locs → lv_has ls 5 [(0, .ref q_mo), (1, .ref q_s), (2, .int l2), (3, .int l3), (4, .int l4)] → mX9_stepOn_L5 n vwy vah vtg vws vs l2 l3 l4 = (some (rr, vwy_z, vah_z, vtg_z, vws_z, vs_z)) → W p l e (headSpec wsX9_stepOn ({ frames := 7, cells := 0, slots := 0, locals := 155 } : Room)).room s m ([.ref q_mo, .ref q_s, .int x1] : List Value).toArray below meth c H locs 0 0 (MQ below (my_Q Γ A (some (.int rr)) (wStep Γ q_mo q_wy q_ah q_tg q_ws q_s q_tt q_nw q_tr q_ot q_di q_kp q_ik q_fr q_rw mi vwy_z vah_z vtg_z vws_z vs_z)) ([.ref q_mo, .ref q_s, .int x1] : List Value).toArray s 0 0 A) (F0 m 5 ls []) := by
    intro  n
    induction n with
    | zero => intro vwy vah vtg vws vs l2 l3 l4 H locs ls hP hD hS hl hm; cases hm
    | succ n ih =>
      intro vwy vah vtg vws vs l2 l3 l4 H locs ls hP hD hS hl hm
      unfold mX9_stepOn_L5 at hm
      refine lv_iload hx hb dX9_stepOn_5 (lv_at hl 4 rfl) ?_
      refine lv_iload_n hx hb dX9_stepOn_7 rfl (lv_at hl 2 rfl) ?_
      refine lv_icmp_ge (tgt := 25) hx hb dX9_stepOn_8 (by decide) (fun c_1 => ?_) (fun c_1 => ?_)
      · replace hm := if_s hm c_1
        refine lv_iload_n hx hb dX9_stepOn_25 rfl (lv_at hl 3 rfl) ?_
        obtain ⟨hf0, hf1, hf2, hf3, hf4, hf5⟩ := si6 hm
        subst hf0
        subst hf1
        subst hf2
        subst hf3
        subst hf4
        subst hf5
        exact W.iret (v := l3) hx hb hr (fun t ht hW => ⟨⟨rfl, by rw [ht]; exact hP⟩, hS.F ht⟩) hS.2.2 dX9_stepOn_26
      · replace hm := if_f hm c_1
        refine lv_iload_n hx hb dX9_stepOn_11 rfl (lv_at hl 3 rfl) ?_
        refine lv_aload_n hx hb dX9_stepOn_12 rfl (lv_at hl 0 rfl) ?_
        refine lv_aload_n hx hb dX9_stepOn_13 rfl (lv_at hl 1 rfl) ?_
        obtain ⟨r_2, vwy_3, vah_4, vtg_5, vws_6, vs_7, hc_8, hm⟩ := bo6_s hm
        refine my_callP1 (wc := (wStep Γ q_mo q_wy q_ah q_tg q_ws q_s q_tt q_nw q_tr q_ot q_di q_kp q_ik q_fr q_rw mi vwy vah vtg vws vs)) (w1 := (wStep Γ q_mo q_wy q_ah q_tg q_ws q_s q_tt q_nw q_tr q_ot q_di q_kp q_ik q_fr q_rw mi vwy_3 vah_4 vtg_5 vws_6 vs_7)) (ws1 := (wStep Γ q_mo q_wy q_ah q_tg q_ws q_s q_tt q_nw q_tr q_ot q_di q_kp q_ik q_fr q_rw mi vwy_3 vah_4 vtg_5 vws_6 vs_7)) hP hD hS hA [0, 1, 2, 3, 4, 5] rfl rfl rfl (va_runV (As := [.ref q_s]) (rest := [.int l3]) ⟨hx, hb, hml, hown, hts⟩ (kX9_one l Γ q_mo q_wy q_ah q_tg q_ws q_s q_tt q_nw q_tr q_ot q_di q_kp q_ik q_fr q_rw mi vwy vah vtg vws vs r_2 vwy_3 vah_4 vtg_5 vws_6 vs_7 hc_8 _) (cwV 1 hts gX9_stepOn_X9_one rfl rfl rfl (by decide +kernel) ⟨Nat.le_of_ble_eq_true rfl, Nat.le_of_ble_eq_true rfl⟩) (my_preV (wc := (wStep Γ q_mo q_wy q_ah q_tg q_ws q_s q_tt q_nw q_tr q_ot q_di q_kp q_ik q_fr q_rw mi vwy vah vtg vws vs)) (ci := 7) (q0 := 0) [0, 1, 2, 3, 4, 5] hK hP hD rfl rfl rfl rfl) rfl rfl hl.1 rfl (lv_room (Nat.le_of_ble_eq_true rfl)) dX9_stepOn_14 ⟨Nat.le_of_ble_eq_true rfl, Nat.le_of_ble_eq_true rfl⟩) (fun H locs hP hD hS => ?_)
        refine lv_iadd hx hb dX9_stepOn_17 ?_
        refine lv_istore_n (lv' := [(3, .int (l3 + r_2)), (0, .ref q_mo), (1, .ref q_s), (2, .int l2), (4, .int l4)]) hx hb dX9_stepOn_18 rfl hl (by decide) rfl (fun ls hl => ?_)
        refine lv_iinc (v := (l4 + (1 : Int32))) (lv' := [(4, .int (l4 + (1 : Int32))), (3, .int (l3 + r_2)), (0, .ref q_mo), (1, .ref q_s), (2, .int l2)]) hx hb dX9_stepOn_19 hl (k := 4) rfl rfl (by decide) rfl (fun ls hl => ?_)
        refine lv_goto (tgt := 5) hx hb dX9_stepOn_22 (by decide) ?_
        exact ih vwy_3 vah_4 vtg_5 vws_6 vs_7 l2 (l3 + r_2) (l4 + (1 : Int32)) _ _ _ hP hD hS (lv_sub hl [2, 3, 4, 1, 0] rfl) hm
  unfold mX9_stepOn at hm
  refine lv_iconst (v := (0 : Int32)) hx hb dX9_stepOn_0 (by decide) ?_
  refine lv_istore_n (lv' := [(3, .int (0 : Int32)), (0, .ref q_mo), (1, .ref q_s), (2, .int x1)]) hx hb dX9_stepOn_1 rfl hl (by decide) rfl (fun ls hl => ?_)
  refine lv_iconst (v := (0 : Int32)) hx hb dX9_stepOn_2 (by decide) ?_
  refine lv_istore (lv' := [(4, .int (0 : Int32)), (3, .int (0 : Int32)), (0, .ref q_mo), (1, .ref q_s), (2, .int x1)]) hx hb dX9_stepOn_3 hl (by decide) rfl (fun ls hl => ?_)
  exact J_5 4096 vwy vah vtg vws vs x1 (0 : Int32) (0 : Int32) _ _ _ hP hD hS (lv_sub hl [2, 3, 4, 1, 0] rfl) hm
def mX9_turn (vwy : Nat → Int32) (vah : Nat → Int32) (vtg : Nat → Int32) (vws : Nat → Int32) (vs : Nat → Int32) (x1 : Int32) (x2 : Int32) : Option (Int32 × (Nat → Int32) × (Nat → Int32) × (Nat → Int32) × (Nat → Int32) × (Nat → Int32)) := (if (3 : Int32) ≤ x1 then (if (5 : Int32) ≤ x1 then (if x1 = (5 : Int32) then (bo1 (mX9_canPoint vs (jrem x2 (36 : Int32))) (fun r_30 => (if r_30 = 0 then (some ((0 : Int32), vwy, vah, vtg, vws, vs)) else (bo2 (mX9_pointOn vs (jrem x2 (36 : Int32))) (fun r_33 vs_34 => (some ((0 : Int32), vwy, vah, vtg, vws, vs_34))))))) else (if x1 = (6 : Int32) then (bo1 (mX9_canPut vs (jrem x2 (2 : Int32)) (jrem (x2 / (2 : Int32)) (36 : Int32))) (fun r_24 => (if r_24 = 0 then (some ((0 : Int32), vwy, vah, vtg, vws, vs)) else (bo2 (mX9_putOn vs (jrem x2 (2 : Int32)) (jrem (x2 / (2 : Int32)) (36 : Int32)) (jrem (x2 / (128 : Int32)) (4 : Int32))) (fun r_27 vs_28 => (some ((0 : Int32), vwy, vah, vtg, vws, vs_28))))))) else (if (11 : Int32) ≤ x1 then (if x1 = (11 : Int32) then (if (jrem (x2 / (2 : Int32)) (4 : Int32)) = 0 then (bo2 (mX9_wipeOn vs (jrem x2 (2 : Int32))) (fun r_15 vs_16 => (some ((0 : Int32), vwy, vah, vtg, vws, vs_16)))) else (some ((0 : Int32), vwy, vah, vtg, vws, vs))) else (bo6 (mX9_stepOn vwy vah vtg vws vs ((1 : Int32) + (jrem x2 (4 : Int32)))) (fun r_7 vwy_8 vah_9 vtg_10 vws_11 vs_12 => (some (r_7, vwy_8, vah_9, vtg_10, vws_11, vs_12))))) else (bo1 (mX9_of vs (jrem x2 (2 : Int32)) (8 : Int32)) (fun r_18 => (if (10 : Int32) ≤ r_18 then (some ((0 : Int32), vwy, vah, vtg, vws, vs)) else (bo2 (mX9_writeOn vs (jrem x2 (2 : Int32)) (jrem (x2 / (2 : Int32)) (6 : Int32))) (fun r_21 vs_22 => (some ((0 : Int32), vwy, vah, vtg, vws, vs_22)))))))))) else (bo1 (mX9_canCrate vs (jrem x2 (36 : Int32))) (fun r_36 => (if r_36 = 0 then (some ((0 : Int32), vwy, vah, vtg, vws, vs)) else (bo2 (mX9_crateOn vs (jrem x2 (36 : Int32))) (fun r_39 vs_40 => (some ((0 : Int32), vwy, vah, vtg, vws, vs_40)))))))) else (bo1 (mX9_canKind vs (jrem x2 (36 : Int32)) (jrem (x2 / (64 : Int32)) (7 : Int32))) (fun r_42 => (if r_42 = 0 then (some ((0 : Int32), vwy, vah, vtg, vws, vs)) else (bo2 (mX9_kindOn vs (jrem x2 (36 : Int32)) (jrem (x2 / (64 : Int32)) (7 : Int32))) (fun r_45 vs_46 => (some ((0 : Int32), vwy, vah, vtg, vws, vs_46))))))))
set_option maxHeartbeats 4000000 in
set_option maxRecDepth 100000 in
theorem kX9_turn (l : Launch) (Γ : my_G) (q_mo q_wy q_ah q_tg q_ws q_s q_tt q_nw q_tr q_ot q_di q_kp q_ik q_fr q_rw : Nat) (mi : Nat → Int32) (vwy : Nat → Int32) (vah : Nat → Int32) (vtg : Nat → Int32) (vws : Nat → Int32) (vs : Nat → Int32) (x1 : Int32) (x2 : Int32) (rr : Int32) (vwy_z : Nat → Int32) (vah_z : Nat → Int32) (vtg_z : Nat → Int32) (vws_z : Nat → Int32) (vs_z : Nat → Int32) (hm : mX9_turn vwy vah vtg vws vs x1 x2 = (some (rr, vwy_z, vah_z, vtg_z, vws_z, vs_z))) : Mn l yX9_turn wsX9_turn ({ frames := 8, cells := 0, slots := 0, locals := 179 } : Room) Γ [.ref q_mo, .ref q_s, .int x1, .int x2] (wStep Γ q_mo q_wy q_ah q_tg q_ws q_s q_tt q_nw q_tr q_ot q_di q_kp q_ik q_fr q_rw mi vwy vah vtg vws vs) (some (.int rr)) (wStep Γ q_mo q_wy q_ah q_tg q_ws q_s q_tt q_nw q_tr q_ot q_di q_kp q_ik q_fr q_rw mi vwy_z vah_z vtg_z vws_z vs_z) := by
  intro sz
  refine Met.ofW (cc := cX9_turn) (maxL := 5) (ret := (some .int)) (by decide) rfl ?_
  intro p e s m args below meth c s₁ B hml hv
  obtain ⟨rfl, hsz, hP, hK, hD0⟩ := hv
  have hx := B.exec
  have hb := B.bytes
  have hr := B.returns
  have hts := atoms_spec (ws := wsX9_turn) B.pre
  have hown : s.vm.findClass RX9 = some m.cls := findClass_of_methodNamed B.named
  have hlocks := B.notSynchronized
  have hinX9 : ∀ w ∈ u_ws RX9 TX9 19, w ∈ wsX9_turn := fun w h => List.mem_cons_of_mem _ (List.mem_append_right _ h)
  subst hsz
  have hD := hD0.self (sz := s.heap.size)
  have hA : ∀ q : Nat, s.heap.size ≤ q → va_A (wStep Γ q_mo q_wy q_ah q_tg q_ws q_s q_tt q_nw q_tr q_ot q_di q_kp q_ik q_fr q_rw mi vwy vah vtg vws vs) s.heap.size q := fun q h => Or.inr h
  generalize va_A (wStep Γ q_mo q_wy q_ah q_tg q_ws q_s q_tt q_nw q_tr q_ot q_di q_kp q_ik q_fr q_rw mi vwy vah vtg vws vs) s.heap.size = A at hD hA ⊢
  have hS : va_S A s.heap s.heap [] := va_S.rf
  have hl := lv_entry ([.ref q_mo, .ref q_s, .int x1, .int x2]) (n := 5) (Nat.le_of_ble_eq_true rfl)
  rw [lg_entry_eq]
  generalize (lg_sl ([.ref q_mo, .ref q_s, .int x1, .int x2]) ++ List.replicate (5 - (lg_sl ([.ref q_mo, .ref q_s, .int x1, .int x2])).length) Slot.unset).toArray = ls at hl ⊢
  replace hl : lv_has ls 5 [(0, .ref q_mo), (1, .ref q_s), (2, .int x1), (3, .int x2)] := hl
  unfold mX9_turn at hm
  refine lv_iload_n hx hb dX9_turn_0 rfl (lv_at hl 3 rfl) ?_
  refine lv_bipush (v := (36 : Int32)) hx hb dX9_turn_1 (by decide) ?_
  refine my_irem hx hb dX9_turn_3 (by decide) ?_
  refine lv_istore (lv' := [(4, .int (jrem x2 (36 : Int32))), (0, .ref q_mo), (1, .ref q_s), (2, .int x1), (3, .int x2)]) hx hb dX9_turn_4 hl (by decide) rfl (fun ls hl => ?_)
  refine lv_iload_n hx hb dX9_turn_6 rfl (lv_at hl 3 rfl) ?_
  refine lv_iconst (v := (3 : Int32)) hx hb dX9_turn_7 (by decide) ?_
  refine lv_icmp_ge (tgt := 44) hx hb dX9_turn_8 (by decide) (fun c_1 => ?_) (fun c_1 => ?_)
  · replace hm := if_s hm c_1
    refine lv_iload_n hx hb dX9_turn_44 rfl (lv_at hl 3 rfl) ?_
    refine lv_iconst (v := (5 : Int32)) hx hb dX9_turn_45 (by decide) ?_
    refine lv_icmp_ge (tgt := 68) hx hb dX9_turn_46 (by decide) (fun c_2 => ?_) (fun c_2 => ?_)
    · replace hm := if_s hm c_2
      refine lv_iload_n hx hb dX9_turn_68 rfl (lv_at hl 3 rfl) ?_
      refine lv_iconst (v := (5 : Int32)) hx hb dX9_turn_69 (by decide) ?_
      refine lv_icmp_ne (tgt := 92) hx hb dX9_turn_70 (by decide) (fun c_3 => ?_) (fun c_3 => ?_)
      · replace hm := if_f hm c_3
        refine lv_iload_n hx hb dX9_turn_92 rfl (lv_at hl 3 rfl) ?_
        refine lv_bipush (v := (6 : Int32)) hx hb dX9_turn_93 (by decide) ?_
        refine lv_icmp_ne (tgt := 138) hx hb dX9_turn_95 (by decide) (fun c_4 => ?_) (fun c_4 => ?_)
        · replace hm := if_f hm c_4
          refine lv_iload_n hx hb dX9_turn_138 rfl (lv_at hl 3 rfl) ?_
          refine lv_bipush (v := (11 : Int32)) hx hb dX9_turn_139 (by decide) ?_
          refine lv_icmp_ge (tgt := 175) hx hb dX9_turn_141 (by decide) (fun c_5 => ?_) (fun c_5 => ?_)
          · replace hm := if_s hm c_5
            refine lv_iload_n hx hb dX9_turn_175 rfl (lv_at hl 3 rfl) ?_
            refine lv_bipush (v := (11 : Int32)) hx hb dX9_turn_176 (by decide) ?_
            refine lv_icmp_ne (tgt := 200) hx hb dX9_turn_178 (by decide) (fun c_6 => ?_) (fun c_6 => ?_)
            · replace hm := if_f hm c_6
              refine lv_aload_n hx hb dX9_turn_200 rfl (lv_at hl 1 rfl) ?_
              refine lv_aload_n hx hb dX9_turn_201 rfl (lv_at hl 2 rfl) ?_
              refine lv_iconst (v := (1 : Int32)) hx hb dX9_turn_202 (by decide) ?_
              refine lv_iload_n hx hb dX9_turn_203 rfl (lv_at hl 4 rfl) ?_
              refine lv_iconst (v := (4 : Int32)) hx hb dX9_turn_204 (by decide) ?_
              refine my_irem hx hb dX9_turn_205 (by decide) ?_
              refine lv_iadd hx hb dX9_turn_206 ?_
              obtain ⟨r_7, vwy_8, vah_9, vtg_10, vws_11, vs_12, hc_13, hm⟩ := bo6_s hm
              refine my_callP1 (wc := (wStep Γ q_mo q_wy q_ah q_tg q_ws q_s q_tt q_nw q_tr q_ot q_di q_kp q_ik q_fr q_rw mi vwy vah vtg vws vs)) (w1 := (wStep Γ q_mo q_wy q_ah q_tg q_ws q_s q_tt q_nw q_tr q_ot q_di q_kp q_ik q_fr q_rw mi vwy_8 vah_9 vtg_10 vws_11 vs_12)) (ws1 := (wStep Γ q_mo q_wy q_ah q_tg q_ws q_s q_tt q_nw q_tr q_ot q_di q_kp q_ik q_fr q_rw mi vwy_8 vah_9 vtg_10 vws_11 vs_12)) hP hD hS hA [0, 1, 2, 3, 4, 5] rfl rfl rfl (va_runV (As := [.ref q_s, .int ((1 : Int32) + (jrem x2 (4 : Int32)))]) (rest := []) ⟨hx, hb, hml, hown, hts⟩ (kX9_stepOn l Γ q_mo q_wy q_ah q_tg q_ws q_s q_tt q_nw q_tr q_ot q_di q_kp q_ik q_fr q_rw mi vwy vah vtg vws vs ((1 : Int32) + (jrem x2 (4 : Int32))) r_7 vwy_8 vah_9 vtg_10 vws_11 vs_12 hc_13 _) (cwV 2 hts gX9_turn_X9_stepOn rfl rfl rfl (by decide +kernel) ⟨Nat.le_of_ble_eq_true rfl, Nat.le_of_ble_eq_true rfl⟩) (my_preV (wc := (wStep Γ q_mo q_wy q_ah q_tg q_ws q_s q_tt q_nw q_tr q_ot q_di q_kp q_ik q_fr q_rw mi vwy vah vtg vws vs)) (ci := 7) (q0 := 0) [0, 1, 2, 3, 4, 5] hK hP hD rfl rfl rfl rfl) rfl rfl hl.1 rfl (lv_room (Nat.le_of_ble_eq_true rfl)) dX9_turn_207 ⟨Nat.le_of_ble_eq_true rfl, Nat.le_of_ble_eq_true rfl⟩) (fun H locs hP hD hS => ?_)
              obtain ⟨hf0, hf1, hf2, hf3, hf4, hf5⟩ := si6 hm
              subst hf0
              subst hf1
              subst hf2
              subst hf3
              subst hf4
              subst hf5
              exact W.iret (v := r_7) hx hb hr (fun t ht hW => ⟨⟨rfl, by rw [ht]; exact hP⟩, hS.F ht⟩) hS.2.2 dX9_turn_210
            · replace hm := if_s hm c_6
              refine lv_iload_n hx hb dX9_turn_181 rfl (lv_at hl 4 rfl) ?_
              refine lv_iconst (v := (2 : Int32)) hx hb dX9_turn_182 (by decide) ?_
              refine lv_idiv hx hb dX9_turn_183 (by decide) ?_
              refine lv_iconst (v := (4 : Int32)) hx hb dX9_turn_184 (by decide) ?_
              refine my_irem hx hb dX9_turn_185 (by decide) ?_
              refine lv_if_ne (tgt := 211) hx hb dX9_turn_186 (by decide) (fun c_14 => ?_) (fun c_14 => ?_)
              · replace hm := if_f hm c_14
                refine lv_iconst (v := (0 : Int32)) hx hb dX9_turn_211 (by decide) ?_
                obtain ⟨hf0, hf1, hf2, hf3, hf4, hf5⟩ := si6 hm
                subst hf0
                subst hf1
                subst hf2
                subst hf3
                subst hf4
                subst hf5
                exact W.iret (v := (0 : Int32)) hx hb hr (fun t ht hW => ⟨⟨rfl, by rw [ht]; exact hP⟩, hS.F ht⟩) hS.2.2 dX9_turn_212
              · replace hm := if_s hm c_14
                refine lv_aload_n hx hb dX9_turn_189 rfl (lv_at hl 2 rfl) ?_
                refine lv_iload_n hx hb dX9_turn_190 rfl (lv_at hl 4 rfl) ?_
                refine lv_iconst (v := (2 : Int32)) hx hb dX9_turn_191 (by decide) ?_
                refine my_irem hx hb dX9_turn_192 (by decide) ?_
                obtain ⟨r_15, vs_16, hc_17, hm⟩ := bo2_s hm
                refine my_callP1 (wc := (wArr117 Γ q_s vs)) (w1 := (wArr117 Γ q_s vs_16)) (ws1 := (wStep Γ q_mo q_wy q_ah q_tg q_ws q_s q_tt q_nw q_tr q_ot q_di q_kp q_ik q_fr q_rw mi vwy vah vtg vws vs_16)) hP hD hS hA [5] rfl rfl rfl (va_runS (As := [.ref q_s, .int (jrem x2 (2 : Int32))]) (rest := []) ⟨hx, hb, hml, hown, hts⟩ (kX9_wipeOn l Γ q_s vs (jrem x2 (2 : Int32)) r_15 vs_16 hc_17 _) (va_cwS 2 hts gX9_turn_X9_wipeOn rfl rfl rfl (by decide +kernel) ⟨Nat.le_of_ble_eq_true rfl, Nat.le_of_ble_eq_true rfl⟩) (my_preS (wc := (wArr117 Γ q_s vs)) [5] hK hP hD rfl rfl) rfl rfl hl.1 rfl (lv_room (Nat.le_of_ble_eq_true rfl)) dX9_turn_193 ⟨Nat.le_of_ble_eq_true rfl, Nat.le_of_ble_eq_true rfl⟩) (fun H locs hP hD hS => ?_)
                refine lv_pop hx hb dX9_turn_196 rfl ?_
                refine lv_goto (tgt := 211) hx hb dX9_turn_197 (by decide) ?_
                refine lv_iconst (v := (0 : Int32)) hx hb dX9_turn_211 (by decide) ?_
                obtain ⟨hf0, hf1, hf2, hf3, hf4, hf5⟩ := si6 hm
                subst hf0
                subst hf1
                subst hf2
                subst hf3
                subst hf4
                subst hf5
                exact W.iret (v := (0 : Int32)) hx hb hr (fun t ht hW => ⟨⟨rfl, by rw [ht]; exact hP⟩, hS.F ht⟩) hS.2.2 dX9_turn_212
          · replace hm := if_f hm c_5
            refine lv_aload_n hx hb dX9_turn_144 rfl (lv_at hl 2 rfl) ?_
            refine lv_iload_n hx hb dX9_turn_145 rfl (lv_at hl 4 rfl) ?_
            refine lv_iconst (v := (2 : Int32)) hx hb dX9_turn_146 (by decide) ?_
            refine my_irem hx hb dX9_turn_147 (by decide) ?_
            refine lv_bipush (v := (8 : Int32)) hx hb dX9_turn_148 (by decide) ?_
            obtain ⟨r_18, hc_19, hm⟩ := bo1_s hm
            refine my_callP1 (wc := (wArr117 Γ q_s vs)) (w1 := (wArr117 Γ q_s vs)) (ws1 := (wStep Γ q_mo q_wy q_ah q_tg q_ws q_s q_tt q_nw q_tr q_ot q_di q_kp q_ik q_fr q_rw mi vwy vah vtg vws vs)) hP hD hS hA [5] rfl rfl rfl (va_runS (As := [.ref q_s, .int (jrem x2 (2 : Int32)), .int (8 : Int32)]) (rest := []) ⟨hx, hb, hml, hown, hts⟩ (kX9_of l Γ q_s vs (jrem x2 (2 : Int32)) (8 : Int32) r_18 hc_19 _) (va_cwS 3 hts gX9_turn_X9_of rfl rfl rfl (by decide +kernel) ⟨Nat.le_of_ble_eq_true rfl, Nat.le_of_ble_eq_true rfl⟩) (my_preS (wc := (wArr117 Γ q_s vs)) [5] hK hP hD rfl rfl) rfl rfl hl.1 rfl (lv_room (Nat.le_of_ble_eq_true rfl)) dX9_turn_150 ⟨Nat.le_of_ble_eq_true rfl, Nat.le_of_ble_eq_true rfl⟩) (fun H locs hP hD hS => ?_)
            refine lv_bipush (v := (10 : Int32)) hx hb dX9_turn_153 (by decide) ?_
            refine lv_icmp_ge (tgt := 211) hx hb dX9_turn_155 (by decide) (fun c_20 => ?_) (fun c_20 => ?_)
            · replace hm := if_s hm c_20
              refine lv_iconst (v := (0 : Int32)) hx hb dX9_turn_211 (by decide) ?_
              obtain ⟨hf0, hf1, hf2, hf3, hf4, hf5⟩ := si6 hm
              subst hf0
              subst hf1
              subst hf2
              subst hf3
              subst hf4
              subst hf5
              exact W.iret (v := (0 : Int32)) hx hb hr (fun t ht hW => ⟨⟨rfl, by rw [ht]; exact hP⟩, hS.F ht⟩) hS.2.2 dX9_turn_212
            · replace hm := if_f hm c_20
              refine lv_aload_n hx hb dX9_turn_158 rfl (lv_at hl 2 rfl) ?_
              refine lv_iload_n hx hb dX9_turn_159 rfl (lv_at hl 4 rfl) ?_
              refine lv_iconst (v := (2 : Int32)) hx hb dX9_turn_160 (by decide) ?_
              refine my_irem hx hb dX9_turn_161 (by decide) ?_
              refine lv_iload_n hx hb dX9_turn_162 rfl (lv_at hl 4 rfl) ?_
              refine lv_iconst (v := (2 : Int32)) hx hb dX9_turn_163 (by decide) ?_
              refine lv_idiv hx hb dX9_turn_164 (by decide) ?_
              refine lv_bipush (v := (6 : Int32)) hx hb dX9_turn_165 (by decide) ?_
              refine my_irem hx hb dX9_turn_167 (by decide) ?_
              obtain ⟨r_21, vs_22, hc_23, hm⟩ := bo2_s hm
              refine my_callP1 (wc := (wArr117 Γ q_s vs)) (w1 := (wArr117 Γ q_s vs_22)) (ws1 := (wStep Γ q_mo q_wy q_ah q_tg q_ws q_s q_tt q_nw q_tr q_ot q_di q_kp q_ik q_fr q_rw mi vwy vah vtg vws vs_22)) hP hD hS hA [5] rfl rfl rfl (va_runS (As := [.ref q_s, .int (jrem x2 (2 : Int32)), .int (jrem (x2 / (2 : Int32)) (6 : Int32))]) (rest := []) ⟨hx, hb, hml, hown, hts⟩ (kX9_writeOn l Γ q_s vs (jrem x2 (2 : Int32)) (jrem (x2 / (2 : Int32)) (6 : Int32)) r_21 vs_22 hc_23 _) (va_cwS 3 hts gX9_turn_X9_writeOn rfl rfl rfl (by decide +kernel) ⟨Nat.le_of_ble_eq_true rfl, Nat.le_of_ble_eq_true rfl⟩) (my_preS (wc := (wArr117 Γ q_s vs)) [5] hK hP hD rfl rfl) rfl rfl hl.1 rfl (lv_room (Nat.le_of_ble_eq_true rfl)) dX9_turn_168 ⟨Nat.le_of_ble_eq_true rfl, Nat.le_of_ble_eq_true rfl⟩) (fun H locs hP hD hS => ?_)
              refine lv_pop hx hb dX9_turn_171 rfl ?_
              refine lv_goto (tgt := 211) hx hb dX9_turn_172 (by decide) ?_
              refine lv_iconst (v := (0 : Int32)) hx hb dX9_turn_211 (by decide) ?_
              obtain ⟨hf0, hf1, hf2, hf3, hf4, hf5⟩ := si6 hm
              subst hf0
              subst hf1
              subst hf2
              subst hf3
              subst hf4
              subst hf5
              exact W.iret (v := (0 : Int32)) hx hb hr (fun t ht hW => ⟨⟨rfl, by rw [ht]; exact hP⟩, hS.F ht⟩) hS.2.2 dX9_turn_212
        · replace hm := if_s hm c_4
          refine lv_aload_n hx hb dX9_turn_98 rfl (lv_at hl 2 rfl) ?_
          refine lv_iload_n hx hb dX9_turn_99 rfl (lv_at hl 4 rfl) ?_
          refine lv_iconst (v := (2 : Int32)) hx hb dX9_turn_100 (by decide) ?_
          refine my_irem hx hb dX9_turn_101 (by decide) ?_
          refine lv_iload_n hx hb dX9_turn_102 rfl (lv_at hl 4 rfl) ?_
          refine lv_iconst (v := (2 : Int32)) hx hb dX9_turn_103 (by decide) ?_
          refine lv_idiv hx hb dX9_turn_104 (by decide) ?_
          refine lv_bipush (v := (36 : Int32)) hx hb dX9_turn_105 (by decide) ?_
          refine my_irem hx hb dX9_turn_107 (by decide) ?_
          obtain ⟨r_24, hc_25, hm⟩ := bo1_s hm
          refine my_callP1 (wc := (wArr117 Γ q_s vs)) (w1 := (wArr117 Γ q_s vs)) (ws1 := (wStep Γ q_mo q_wy q_ah q_tg q_ws q_s q_tt q_nw q_tr q_ot q_di q_kp q_ik q_fr q_rw mi vwy vah vtg vws vs)) hP hD hS hA [5] rfl rfl rfl (va_runS (As := [.ref q_s, .int (jrem x2 (2 : Int32)), .int (jrem (x2 / (2 : Int32)) (36 : Int32))]) (rest := []) ⟨hx, hb, hml, hown, hts⟩ (kX9_canPut l Γ q_s vs (jrem x2 (2 : Int32)) (jrem (x2 / (2 : Int32)) (36 : Int32)) r_24 hc_25 _) (va_cwS 3 hts gX9_turn_X9_canPut rfl rfl rfl (by decide +kernel) ⟨Nat.le_of_ble_eq_true rfl, Nat.le_of_ble_eq_true rfl⟩) (my_preS (wc := (wArr117 Γ q_s vs)) [5] hK hP hD rfl rfl) rfl rfl hl.1 rfl (lv_room (Nat.le_of_ble_eq_true rfl)) dX9_turn_108 ⟨Nat.le_of_ble_eq_true rfl, Nat.le_of_ble_eq_true rfl⟩) (fun H locs hP hD hS => ?_)
          refine lv_if_eq (tgt := 211) hx hb dX9_turn_111 (by decide) (fun c_26 => ?_) (fun c_26 => ?_)
          · replace hm := if_s hm c_26
            refine lv_iconst (v := (0 : Int32)) hx hb dX9_turn_211 (by decide) ?_
            obtain ⟨hf0, hf1, hf2, hf3, hf4, hf5⟩ := si6 hm
            subst hf0
            subst hf1
            subst hf2
            subst hf3
            subst hf4
            subst hf5
            exact W.iret (v := (0 : Int32)) hx hb hr (fun t ht hW => ⟨⟨rfl, by rw [ht]; exact hP⟩, hS.F ht⟩) hS.2.2 dX9_turn_212
          · replace hm := if_f hm c_26
            refine lv_aload_n hx hb dX9_turn_114 rfl (lv_at hl 2 rfl) ?_
            refine lv_iload_n hx hb dX9_turn_115 rfl (lv_at hl 4 rfl) ?_
            refine lv_iconst (v := (2 : Int32)) hx hb dX9_turn_116 (by decide) ?_
            refine my_irem hx hb dX9_turn_117 (by decide) ?_
            refine lv_iload_n hx hb dX9_turn_118 rfl (lv_at hl 4 rfl) ?_
            refine lv_iconst (v := (2 : Int32)) hx hb dX9_turn_119 (by decide) ?_
            refine lv_idiv hx hb dX9_turn_120 (by decide) ?_
            refine lv_bipush (v := (36 : Int32)) hx hb dX9_turn_121 (by decide) ?_
            refine my_irem hx hb dX9_turn_123 (by decide) ?_
            refine lv_iload_n hx hb dX9_turn_124 rfl (lv_at hl 4 rfl) ?_
            refine lv_sipush (v := (128 : Int32)) hx hb dX9_turn_125 (by decide) ?_
            refine lv_idiv hx hb dX9_turn_128 (by decide) ?_
            refine lv_iconst (v := (4 : Int32)) hx hb dX9_turn_129 (by decide) ?_
            refine my_irem hx hb dX9_turn_130 (by decide) ?_
            obtain ⟨r_27, vs_28, hc_29, hm⟩ := bo2_s hm
            refine my_callP1 (wc := (wArr117 Γ q_s vs)) (w1 := (wArr117 Γ q_s vs_28)) (ws1 := (wStep Γ q_mo q_wy q_ah q_tg q_ws q_s q_tt q_nw q_tr q_ot q_di q_kp q_ik q_fr q_rw mi vwy vah vtg vws vs_28)) hP hD hS hA [5] rfl rfl rfl (va_runS (As := [.ref q_s, .int (jrem x2 (2 : Int32)), .int (jrem (x2 / (2 : Int32)) (36 : Int32)), .int (jrem (x2 / (128 : Int32)) (4 : Int32))]) (rest := []) ⟨hx, hb, hml, hown, hts⟩ (kX9_putOn l Γ q_s vs (jrem x2 (2 : Int32)) (jrem (x2 / (2 : Int32)) (36 : Int32)) (jrem (x2 / (128 : Int32)) (4 : Int32)) r_27 vs_28 hc_29 _) (va_cwS 4 hts gX9_turn_X9_putOn rfl rfl rfl (by decide +kernel) ⟨Nat.le_of_ble_eq_true rfl, Nat.le_of_ble_eq_true rfl⟩) (my_preS (wc := (wArr117 Γ q_s vs)) [5] hK hP hD rfl rfl) rfl rfl hl.1 rfl (lv_room (Nat.le_of_ble_eq_true rfl)) dX9_turn_131 ⟨Nat.le_of_ble_eq_true rfl, Nat.le_of_ble_eq_true rfl⟩) (fun H locs hP hD hS => ?_)
            refine lv_pop hx hb dX9_turn_134 rfl ?_
            refine lv_goto (tgt := 211) hx hb dX9_turn_135 (by decide) ?_
            refine lv_iconst (v := (0 : Int32)) hx hb dX9_turn_211 (by decide) ?_
            obtain ⟨hf0, hf1, hf2, hf3, hf4, hf5⟩ := si6 hm
            subst hf0
            subst hf1
            subst hf2
            subst hf3
            subst hf4
            subst hf5
            exact W.iret (v := (0 : Int32)) hx hb hr (fun t ht hW => ⟨⟨rfl, by rw [ht]; exact hP⟩, hS.F ht⟩) hS.2.2 dX9_turn_212
      · replace hm := if_s hm c_3
        refine lv_aload_n hx hb dX9_turn_73 rfl (lv_at hl 2 rfl) ?_
        refine lv_iload hx hb dX9_turn_74 (lv_at hl 0 rfl) ?_
        obtain ⟨r_30, hc_31, hm⟩ := bo1_s hm
        refine my_callP1 (wc := (wArr117 Γ q_s vs)) (w1 := (wArr117 Γ q_s vs)) (ws1 := (wStep Γ q_mo q_wy q_ah q_tg q_ws q_s q_tt q_nw q_tr q_ot q_di q_kp q_ik q_fr q_rw mi vwy vah vtg vws vs)) hP hD hS hA [5] rfl rfl rfl (va_runS (As := [.ref q_s, .int (jrem x2 (36 : Int32))]) (rest := []) ⟨hx, hb, hml, hown, hts⟩ (kX9_canPoint l Γ q_s vs (jrem x2 (36 : Int32)) r_30 hc_31 _) (va_cwS 2 hts gX9_turn_X9_canPoint rfl rfl rfl (by decide +kernel) ⟨Nat.le_of_ble_eq_true rfl, Nat.le_of_ble_eq_true rfl⟩) (my_preS (wc := (wArr117 Γ q_s vs)) [5] hK hP hD rfl rfl) rfl rfl hl.1 rfl (lv_room (Nat.le_of_ble_eq_true rfl)) dX9_turn_76 ⟨Nat.le_of_ble_eq_true rfl, Nat.le_of_ble_eq_true rfl⟩) (fun H locs hP hD hS => ?_)
        refine lv_if_eq (tgt := 211) hx hb dX9_turn_79 (by decide) (fun c_32 => ?_) (fun c_32 => ?_)
        · replace hm := if_s hm c_32
          refine lv_iconst (v := (0 : Int32)) hx hb dX9_turn_211 (by decide) ?_
          obtain ⟨hf0, hf1, hf2, hf3, hf4, hf5⟩ := si6 hm
          subst hf0
          subst hf1
          subst hf2
          subst hf3
          subst hf4
          subst hf5
          exact W.iret (v := (0 : Int32)) hx hb hr (fun t ht hW => ⟨⟨rfl, by rw [ht]; exact hP⟩, hS.F ht⟩) hS.2.2 dX9_turn_212
        · replace hm := if_f hm c_32
          refine lv_aload_n hx hb dX9_turn_82 rfl (lv_at hl 2 rfl) ?_
          refine lv_iload hx hb dX9_turn_83 (lv_at hl 0 rfl) ?_
          obtain ⟨r_33, vs_34, hc_35, hm⟩ := bo2_s hm
          refine my_callP1 (wc := (wArr117 Γ q_s vs)) (w1 := (wArr117 Γ q_s vs_34)) (ws1 := (wStep Γ q_mo q_wy q_ah q_tg q_ws q_s q_tt q_nw q_tr q_ot q_di q_kp q_ik q_fr q_rw mi vwy vah vtg vws vs_34)) hP hD hS hA [5] rfl rfl rfl (va_runS (As := [.ref q_s, .int (jrem x2 (36 : Int32))]) (rest := []) ⟨hx, hb, hml, hown, hts⟩ (kX9_pointOn l Γ q_s vs (jrem x2 (36 : Int32)) r_33 vs_34 hc_35 _) (va_cwS 2 hts gX9_turn_X9_pointOn rfl rfl rfl (by decide +kernel) ⟨Nat.le_of_ble_eq_true rfl, Nat.le_of_ble_eq_true rfl⟩) (my_preS (wc := (wArr117 Γ q_s vs)) [5] hK hP hD rfl rfl) rfl rfl hl.1 rfl (lv_room (Nat.le_of_ble_eq_true rfl)) dX9_turn_85 ⟨Nat.le_of_ble_eq_true rfl, Nat.le_of_ble_eq_true rfl⟩) (fun H locs hP hD hS => ?_)
          refine lv_pop hx hb dX9_turn_88 rfl ?_
          refine lv_goto (tgt := 211) hx hb dX9_turn_89 (by decide) ?_
          refine lv_iconst (v := (0 : Int32)) hx hb dX9_turn_211 (by decide) ?_
          obtain ⟨hf0, hf1, hf2, hf3, hf4, hf5⟩ := si6 hm
          subst hf0
          subst hf1
          subst hf2
          subst hf3
          subst hf4
          subst hf5
          exact W.iret (v := (0 : Int32)) hx hb hr (fun t ht hW => ⟨⟨rfl, by rw [ht]; exact hP⟩, hS.F ht⟩) hS.2.2 dX9_turn_212
    · replace hm := if_f hm c_2
      refine lv_aload_n hx hb dX9_turn_49 rfl (lv_at hl 2 rfl) ?_
      refine lv_iload hx hb dX9_turn_50 (lv_at hl 0 rfl) ?_
      obtain ⟨r_36, hc_37, hm⟩ := bo1_s hm
      refine my_callP1 (wc := (wArr117 Γ q_s vs)) (w1 := (wArr117 Γ q_s vs)) (ws1 := (wStep Γ q_mo q_wy q_ah q_tg q_ws q_s q_tt q_nw q_tr q_ot q_di q_kp q_ik q_fr q_rw mi vwy vah vtg vws vs)) hP hD hS hA [5] rfl rfl rfl (va_runS (As := [.ref q_s, .int (jrem x2 (36 : Int32))]) (rest := []) ⟨hx, hb, hml, hown, hts⟩ (kX9_canCrate l Γ q_s vs (jrem x2 (36 : Int32)) r_36 hc_37 _) (va_cwS 2 hts gX9_turn_X9_canCrate rfl rfl rfl (by decide +kernel) ⟨Nat.le_of_ble_eq_true rfl, Nat.le_of_ble_eq_true rfl⟩) (my_preS (wc := (wArr117 Γ q_s vs)) [5] hK hP hD rfl rfl) rfl rfl hl.1 rfl (lv_room (Nat.le_of_ble_eq_true rfl)) dX9_turn_52 ⟨Nat.le_of_ble_eq_true rfl, Nat.le_of_ble_eq_true rfl⟩) (fun H locs hP hD hS => ?_)
      refine lv_if_eq (tgt := 211) hx hb dX9_turn_55 (by decide) (fun c_38 => ?_) (fun c_38 => ?_)
      · replace hm := if_s hm c_38
        refine lv_iconst (v := (0 : Int32)) hx hb dX9_turn_211 (by decide) ?_
        obtain ⟨hf0, hf1, hf2, hf3, hf4, hf5⟩ := si6 hm
        subst hf0
        subst hf1
        subst hf2
        subst hf3
        subst hf4
        subst hf5
        exact W.iret (v := (0 : Int32)) hx hb hr (fun t ht hW => ⟨⟨rfl, by rw [ht]; exact hP⟩, hS.F ht⟩) hS.2.2 dX9_turn_212
      · replace hm := if_f hm c_38
        refine lv_aload_n hx hb dX9_turn_58 rfl (lv_at hl 2 rfl) ?_
        refine lv_iload hx hb dX9_turn_59 (lv_at hl 0 rfl) ?_
        obtain ⟨r_39, vs_40, hc_41, hm⟩ := bo2_s hm
        refine my_callP1 (wc := (wArr117 Γ q_s vs)) (w1 := (wArr117 Γ q_s vs_40)) (ws1 := (wStep Γ q_mo q_wy q_ah q_tg q_ws q_s q_tt q_nw q_tr q_ot q_di q_kp q_ik q_fr q_rw mi vwy vah vtg vws vs_40)) hP hD hS hA [5] rfl rfl rfl (va_runS (As := [.ref q_s, .int (jrem x2 (36 : Int32))]) (rest := []) ⟨hx, hb, hml, hown, hts⟩ (kX9_crateOn l Γ q_s vs (jrem x2 (36 : Int32)) r_39 vs_40 hc_41 _) (va_cwS 2 hts gX9_turn_X9_crateOn rfl rfl rfl (by decide +kernel) ⟨Nat.le_of_ble_eq_true rfl, Nat.le_of_ble_eq_true rfl⟩) (my_preS (wc := (wArr117 Γ q_s vs)) [5] hK hP hD rfl rfl) rfl rfl hl.1 rfl (lv_room (Nat.le_of_ble_eq_true rfl)) dX9_turn_61 ⟨Nat.le_of_ble_eq_true rfl, Nat.le_of_ble_eq_true rfl⟩) (fun H locs hP hD hS => ?_)
        refine lv_pop hx hb dX9_turn_64 rfl ?_
        refine lv_goto (tgt := 211) hx hb dX9_turn_65 (by decide) ?_
        refine lv_iconst (v := (0 : Int32)) hx hb dX9_turn_211 (by decide) ?_
        obtain ⟨hf0, hf1, hf2, hf3, hf4, hf5⟩ := si6 hm
        subst hf0
        subst hf1
        subst hf2
        subst hf3
        subst hf4
        subst hf5
        exact W.iret (v := (0 : Int32)) hx hb hr (fun t ht hW => ⟨⟨rfl, by rw [ht]; exact hP⟩, hS.F ht⟩) hS.2.2 dX9_turn_212
  · replace hm := if_f hm c_1
    refine lv_aload_n hx hb dX9_turn_11 rfl (lv_at hl 2 rfl) ?_
    refine lv_iload hx hb dX9_turn_12 (lv_at hl 0 rfl) ?_
    refine lv_iload_n hx hb dX9_turn_14 rfl (lv_at hl 4 rfl) ?_
    refine lv_bipush (v := (64 : Int32)) hx hb dX9_turn_15 (by decide) ?_
    refine lv_idiv hx hb dX9_turn_17 (by decide) ?_
    refine lv_bipush (v := (7 : Int32)) hx hb dX9_turn_18 (by decide) ?_
    refine my_irem hx hb dX9_turn_20 (by decide) ?_
    obtain ⟨r_42, hc_43, hm⟩ := bo1_s hm
    refine my_callP1 (wc := (wArr117 Γ q_s vs)) (w1 := (wArr117 Γ q_s vs)) (ws1 := (wStep Γ q_mo q_wy q_ah q_tg q_ws q_s q_tt q_nw q_tr q_ot q_di q_kp q_ik q_fr q_rw mi vwy vah vtg vws vs)) hP hD hS hA [5] rfl rfl rfl (va_runS (As := [.ref q_s, .int (jrem x2 (36 : Int32)), .int (jrem (x2 / (64 : Int32)) (7 : Int32))]) (rest := []) ⟨hx, hb, hml, hown, hts⟩ (kX9_canKind l Γ q_s vs (jrem x2 (36 : Int32)) (jrem (x2 / (64 : Int32)) (7 : Int32)) r_42 hc_43 _) (va_cwS 3 hts gX9_turn_X9_canKind rfl rfl rfl (by decide +kernel) ⟨Nat.le_of_ble_eq_true rfl, Nat.le_of_ble_eq_true rfl⟩) (my_preS (wc := (wArr117 Γ q_s vs)) [5] hK hP hD rfl rfl) rfl rfl hl.1 rfl (lv_room (Nat.le_of_ble_eq_true rfl)) dX9_turn_21 ⟨Nat.le_of_ble_eq_true rfl, Nat.le_of_ble_eq_true rfl⟩) (fun H locs hP hD hS => ?_)
    refine lv_if_eq (tgt := 211) hx hb dX9_turn_24 (by decide) (fun c_44 => ?_) (fun c_44 => ?_)
    · replace hm := if_s hm c_44
      refine lv_iconst (v := (0 : Int32)) hx hb dX9_turn_211 (by decide) ?_
      obtain ⟨hf0, hf1, hf2, hf3, hf4, hf5⟩ := si6 hm
      subst hf0
      subst hf1
      subst hf2
      subst hf3
      subst hf4
      subst hf5
      exact W.iret (v := (0 : Int32)) hx hb hr (fun t ht hW => ⟨⟨rfl, by rw [ht]; exact hP⟩, hS.F ht⟩) hS.2.2 dX9_turn_212
    · replace hm := if_f hm c_44
      refine lv_aload_n hx hb dX9_turn_27 rfl (lv_at hl 2 rfl) ?_
      refine lv_iload hx hb dX9_turn_28 (lv_at hl 0 rfl) ?_
      refine lv_iload_n hx hb dX9_turn_30 rfl (lv_at hl 4 rfl) ?_
      refine lv_bipush (v := (64 : Int32)) hx hb dX9_turn_31 (by decide) ?_
      refine lv_idiv hx hb dX9_turn_33 (by decide) ?_
      refine lv_bipush (v := (7 : Int32)) hx hb dX9_turn_34 (by decide) ?_
      refine my_irem hx hb dX9_turn_36 (by decide) ?_
      obtain ⟨r_45, vs_46, hc_47, hm⟩ := bo2_s hm
      refine my_callP1 (wc := (wArr117 Γ q_s vs)) (w1 := (wArr117 Γ q_s vs_46)) (ws1 := (wStep Γ q_mo q_wy q_ah q_tg q_ws q_s q_tt q_nw q_tr q_ot q_di q_kp q_ik q_fr q_rw mi vwy vah vtg vws vs_46)) hP hD hS hA [5] rfl rfl rfl (va_runS (As := [.ref q_s, .int (jrem x2 (36 : Int32)), .int (jrem (x2 / (64 : Int32)) (7 : Int32))]) (rest := []) ⟨hx, hb, hml, hown, hts⟩ (kX9_kindOn l Γ q_s vs (jrem x2 (36 : Int32)) (jrem (x2 / (64 : Int32)) (7 : Int32)) r_45 vs_46 hc_47 _) (va_cwS 3 hts gX9_turn_X9_kindOn rfl rfl rfl (by decide +kernel) ⟨Nat.le_of_ble_eq_true rfl, Nat.le_of_ble_eq_true rfl⟩) (my_preS (wc := (wArr117 Γ q_s vs)) [5] hK hP hD rfl rfl) rfl rfl hl.1 rfl (lv_room (Nat.le_of_ble_eq_true rfl)) dX9_turn_37 ⟨Nat.le_of_ble_eq_true rfl, Nat.le_of_ble_eq_true rfl⟩) (fun H locs hP hD hS => ?_)
      refine lv_pop hx hb dX9_turn_40 rfl ?_
      refine lv_goto (tgt := 211) hx hb dX9_turn_41 (by decide) ?_
      refine lv_iconst (v := (0 : Int32)) hx hb dX9_turn_211 (by decide) ?_
      obtain ⟨hf0, hf1, hf2, hf3, hf4, hf5⟩ := si6 hm
      subst hf0
      subst hf1
      subst hf2
      subst hf3
      subst hf4
      subst hf5
      exact W.iret (v := (0 : Int32)) hx hb hr (fun t ht hW => ⟨⟨rfl, by rw [ht]; exact hP⟩, hS.F ht⟩) hS.2.2 dX9_turn_212
