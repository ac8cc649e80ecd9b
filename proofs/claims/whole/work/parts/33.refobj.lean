def mX9_areLike_J111 (k35 : (Nat → Int32) → (Nat → Int32) → Int32 → Int32 → Option (Int32)) (vs : Nat → Int32) (vt : Nat → Int32) (l3 : Int32) (s0 : Int32) : Option (Int32) := (k35 vs vt s0 (l3 + (1 : Int32)))
def mX9_areLike_J110 (k35 : (Nat → Int32) → (Nat → Int32) → Int32 → Int32 → Option (Int32)) (vs : Nat → Int32) (vt : Nat → Int32) (l3 : Int32) : Option (Int32) := (mX9_areLike_J111 k35 vs vt l3 (0 : Int32))
def mX9_areLike_L35  : Nat → (Nat → Int32) → (Nat → Int32) → Int32 → Int32 → Option (Int32)
  | 0, _, _, _, _ => none
  | n + 1, vs, vt, l2, l3 => (if (2 : Int32) ≤ l3 then (if l2 = 0 ∨ l2 = 1 then (some l2) else none) else (if l2 = 0 then (mX9_areLike_J110 (fun vs vt l2 l3 => mX9_areLike_L35 n vs vt l2 l3) vs vt l3) else (bo1 (mX9_of vs l3 (0 : Int32)) (fun r_5 => (bo1 (mX9_of vt l3 (0 : Int32)) (fun r_7 => (if r_5 = r_7 then (bo1 (mX9_of vs l3 (1 : Int32)) (fun r_10 => (bo1 (mX9_of vt l3 (1 : Int32)) (fun r_12 => (if r_10 = r_12 then (bo1 (mX9_of vs l3 (2 : Int32)) (fun r_15 => (bo1 (mX9_of vt l3 (2 : Int32)) (fun r_17 => (if r_15 = r_17 then (bo1 (mX9_of vs l3 (7 : Int32)) (fun r_20 => (bo1 (mX9_of vt l3 (7 : Int32)) (fun r_22 => (if r_20 = r_22 then (mX9_areLike_J111 (fun vs vt l2 l3 => mX9_areLike_L35 n vs vt l2 l3) vs vt l3 (1 : Int32)) else (mX9_areLike_J110 (fun vs vt l2 l3 => mX9_areLike_L35 n vs vt l2 l3) vs vt l3)))))) else (mX9_areLike_J110 (fun vs vt l2 l3 => mX9_areLike_L35 n vs vt l2 l3) vs vt l3)))))) else (mX9_areLike_J110 (fun vs vt l2 l3 => mX9_areLike_L35 n vs vt l2 l3) vs vt l3)))))) else (mX9_areLike_J110 (fun vs vt l2 l3 => mX9_areLike_L35 n vs vt l2 l3) vs vt l3))))))))
def mX9_areLike_L2  : Nat → (Nat → Int32) → (Nat → Int32) → Int32 → Option (Int32)
  | 0, _, _, _ => none
  | n + 1, vs, vt, l2 => (if (36 : Int32) ≤ l2 then (mX9_areLike_L35 4096 vs vt (1 : Int32) (0 : Int32)) else (if ¬ (((36 : Int32) + l2) < 0 ∨ 117 ≤ ((36 : Int32) + l2).toNatClampNeg) then (if (vs ((36 : Int32) + l2).toNatClampNeg) = (vt ((36 : Int32) + l2).toNatClampNeg) then (mX9_areLike_L2 n vs vt (l2 + (1 : Int32))) else (some (0 : Int32))) else none))
def mX9_areLike (vs : Nat → Int32) (vt : Nat → Int32) : Option (Int32) := (mX9_areLike_L2 4096 vs vt (0 : Int32))
set_option maxHeartbeats 4000000 in
set_option maxRecDepth 100000 in
theorem kX9_areLike (l : Launch) (Γ : my_G) (q_s q_t : Nat) (vs : Nat → Int32) (vt : Nat → Int32)  (rr : Int32) (hm : mX9_areLike vs vt = (some rr)) : Mn l yX9_areLike wsX9_areLike ({ frames := 1, cells := 0, slots := 0, locals := 22 } : Room) Γ [.ref q_s, .ref q_t] (wArr117 Γ q_s vs ++ wArr117 Γ q_t vt) (some (.int rr)) (wArr117 Γ q_s vs ++ wArr117 Γ q_t vt) := by
  intro sz
  refine Met.ofW (cc := cX9_areLike) (maxL := 4) (ret := (some .boolean)) (by decide) rfl ?_
  intro p e s m args below meth c s₁ B hml hv
  obtain ⟨rfl, hsz, hP, hK, hD0⟩ := hv
  have hx := B.exec
  have hb := B.bytes
  have hr := B.returns
  have hts := atoms_spec (ws := wsX9_areLike) B.pre
  have hown : s.vm.findClass RX9 = some m.cls := findClass_of_methodNamed B.named
  have hlocks := B.notSynchronized
  subst hsz
  have hD := hD0.self (sz := s.heap.size)
  have hA : ∀ q : Nat, s.heap.size ≤ q → va_A (wArr117 Γ q_s vs ++ wArr117 Γ q_t vt) s.heap.size q := fun q h => Or.inr h
  generalize va_A (wArr117 Γ q_s vs ++ wArr117 Γ q_t vt) s.heap.size = A at hD hA ⊢
  have hS : va_S A s.heap s.heap [] := va_S.rf
  have hl := lv_entry ([.ref q_s, .ref q_t]) (n := 4) (Nat.le_of_ble_eq_true rfl)
  rw [lg_entry_eq]
  generalize (lg_sl ([.ref q_s, .ref q_t]) ++ List.replicate (4 - (lg_sl ([.ref q_s, .ref q_t])).length) Slot.unset).toArray = ls at hl ⊢
  replace hl : lv_has ls 4 [(0, .ref q_s), (1, .ref q_t)] := hl
  have J_111 : ∀ (k35 : (Nat → Int32) → (Nat → Int32) → Int32 → Int32 → Option (Int32)), (∀ (vs : Nat → Int32) (vt : Nat → Int32) (l2 : Int32) (l3 : Int32) (H : Heap) (locs : List Loc) (ls : Array Slot), va_P (my_D Γ) vwCl (wArr117 Γ q_s vs ++ wArr117 Γ q_t vt) H → va_D A (wArr117 Γ q_s vs ++ wArr117 Γ q_t vt) → va_S A s.heap H locs → lv_has ls 4 [(0, .ref q_s), (1, .ref q_t), (2, .int l2), (3, .int l3)] → k35 vs vt l2 l3 = (some rr) → W p l e (headSpec wsX9_areLike ({ frames := 1, cells := 0, slots := 0, locals := 22 } : Room)).room s m ([.ref q_s, .ref q_t] : List Value).toArray below meth c H locs 0 0 (MQ below (my_Q Γ A (some (.int rr)) (wArr117 Γ q_s vs ++ wArr117 Γ q_t vt)) ([.ref q_s, .ref q_t] : List Value).toArray s 0 0 A) (F0 m 35 ls [])) → ∀ (vs : Nat → Int32) (vt : Nat → Int32) (l3 : Int32) (s0 : Int32) (H : Heap) (locs : List Loc) (ls : Array Slot), va_P (my_D Γ) vwCl (wArr117 Γ q_s vs ++ wArr117 Γ q_t vt) H → va_D A (wArr117 Γ q_s vs ++ wArr117 Γ q_t vt) → va_S A s.heap H locs → lv_has ls 4 [(0, .ref q_s), (1, .ref q_t), (3, .int l3)] → mX9_areLike_J111 k35 vs vt l3 s0 = (some rr) → W p l e (headSpec wsX9_areLike ({ frames := 1, cells := 0, slots := 0, locals := 22 } : Room)).room s m ([.ref q_s, .ref q_t] : List Value).toArray below meth c H locs 0 0 (MQ below (my_Q Γ A (some (.int rr)) (wArr117 Γ q_s vs ++ wArr117 Γ q_t vt)) ([.ref q_s, .ref q_t] : List Value).toArray s 0 0 A) (F0 m 111 ls [.int s0]) := by
    intro k35 hk35 vs vt l3 s0 H locs ls hP hD hS hl hm
    unfold mX9_areLike_J111 at hm
    refine lv_istore_n (lv' := [(2, .int s0), (0, .ref q_s), (1, .ref q_t), (3, .int l3)]) hx hb dX9_areLike_111 rfl hl (by decide) rfl (fun ls hl => ?_)
    refine lv_iinc (v := (l3 + (1 : Int32))) (lv' := [(3, .int (l3 + (1 : Int32))), (2, .int s0), (0, .ref q_s), (1, .ref q_t)]) hx hb dX9_areLike_112 hl (k := 3) rfl rfl (by decide) rfl (fun ls hl => ?_)
    refine lv_goto (tgt := 35) hx hb dX9_areLike_115 (by decide) ?_
    exact hk35 vs vt s0 (l3 + (1 : Int32)) _ _ _ hP hD hS (lv_sub hl [2, 3, 1, 0] rfl) hm
  have J_110 : ∀ (k35 : (Nat → Int32) → (Nat → Int32) → Int32 → Int32 → Option (Int32)), (∀ (vs : Nat → Int32) (vt : Nat → Int32) (l2 : Int32) (l3 : Int32) (H : Heap) (locs : List Loc) (ls : Array Slot), va_P (my_D Γ) vwCl (wArr117 Γ q_s vs ++ wArr117 Γ q_t vt) H → va_D A (wArr117 Γ q_s vs ++ wArr117 Γ q_t vt) → va_S A s.heap H locs → lv_has ls 4 [(0, .ref q_s), (1, .ref q_t), (2, .int l2), (3, .int l3)] → k35 vs vt l2 l3 = (some rr) → W p l e (headSpec wsX9_areLike ({ frames := 1, cells := 0, slots := 0, locals := 22 } : Room)).room s m ([.ref q_s, .ref q_t] : List Value).toArray below meth c H locs 0 0 (MQ below (my_Q Γ A (some (.int rr)) (wArr117 Γ q_s vs ++ wArr117 Γ q_t vt)) ([.ref q_s, .ref q_t] : List Value).toArray s 0 0 A) (F0 m 35 ls [])) → ∀ (vs : Nat → Int32) (vt : Nat → Int32) (l3 : Int32) (H : Heap) (locs : List Loc) (ls : Array Slot), va_P (my_D Γ) vwCl (wArr117 Γ q_s vs ++ wArr117 Γ q_t vt) H → va_D A (wArr117 Γ q_s vs ++ wArr117 Γ q_t vt) → va_S A s.heap H locs → lv_has ls 4 [(0, .ref q_s), (1, .ref q_t), (3, .int l3)] → mX9_areLike_J110 k35 vs vt l3 = (some rr) → W p l e (headSpec wsX9_areLike ({ frames := 1, cells := 0, slots := 0, locals := 22 } : Room)).room s m ([.ref q_s, .ref q_t] : List Value).toArray below meth c H locs 0 0 (MQ below (my_Q Γ A (some (.int rr)) (wArr117 Γ q_s vs ++ wArr117 Γ q_t vt)) ([.ref q_s, .ref q_t] : List Value).toArray s 0 0 A) (F0 m 110 ls []) := by
    intro k35 hk35 vs vt l3 H locs ls hP hD hS hl hm
    unfold mX9_areLike_J110 at hm
    refine lv_iconst (v := (0 : Int32)) hx hb dX9_areLike_110 (by decide) ?_
    exact J_111 k35 hk35 vs vt l3 (0 : Int32) _ _ _ hP hD hS (lv_sub hl [0, 1, 2] rfl) hm
  have J_35 : ∀ n : Nat, ∀ (vs : Nat → Int32) (vt : Nat → Int32) (l2 : Int32) (l3 : Int32) (H : Heap) (locs : List Loc) (ls : Array Slot), va_P (my_D Γ) vwCl (wArr117 Γ q_s vs ++ wArr117 Γ q_t vt) H → va_D A (wArr117 Γ q_s vs ++ wArr117 Γ q_t vt) → va_S A s.heap H locs → lv_has ls 4 [(0, .ref q_s), (1, .ref q_t), (2, .int l2), (3, .int l3)] → mX9_areLike_L35 n vs vt l2 l3 = (some rr) → W p l e (headSpec wsX9_areLike ({ frames := 1, cells := 0, slots := 0, locals := 22 } : Room)).room s m ([.ref q_s, .ref q_t] : List Value).toArray below meth c H locs 0 0 (MQ below (my_Q Γ A (some (.int rr)) (wArr117 Γ q_s vs ++ wArr117 Γ q_t vt)) ([.ref q_s, .ref q_t] : List Value).toArray s 0 0 A) (F0 m 35 ls []) := by
    intro  n
    induction n with
    | zero => intro vs vt l2 l3 H locs ls hP hD hS hl hm; cases hm
    | succ n ih =>
      intro vs vt l2 l3 H locs ls hP hD hS hl hm
      unfold mX9_areLike_L35 at hm
      refine lv_iload_n hx hb dX9_areLike_35 rfl (lv_at hl 3 rfl) ?_
      refine lv_iconst (v := (2 : Int32)) hx hb dX9_areLike_36 (by decide) ?_
      refine lv_icmp_ge (tgt := 118) hx hb dX9_areLike_37 (by decide) (fun c_2 => ?_) (fun c_2 => ?_)
      · replace hm := if_s hm c_2
        refine lv_iload_n hx hb dX9_areLike_118 rfl (lv_at hl 2 rfl) ?_
        obtain ⟨hz_3, hm⟩ := if_bz hm
        obtain hf0 := Option.some.inj hm
        subst hf0
        exact W.zret (v := l2) hx hb hr hz_3 (fun t ht hW => ⟨⟨rfl, by rw [ht]; exact hP⟩, hS.F ht⟩) hS.2.2 dX9_areLike_119
      · replace hm := if_f hm c_2
        refine lv_iload_n hx hb dX9_areLike_40 rfl (lv_at hl 2 rfl) ?_
        refine lv_if_eq (tgt := 110) hx hb dX9_areLike_41 (by decide) (fun c_4 => ?_) (fun c_4 => ?_)
        · replace hm := if_s hm c_4
          exact J_110 (fun vs vt l2 l3 => mX9_areLike_L35 n vs vt l2 l3) ih vs vt l3 _ _ _ hP hD hS (lv_sub hl [0, 1, 3] rfl) hm
        · replace hm := if_f hm c_4
          refine lv_aload_n hx hb dX9_areLike_44 rfl (lv_at hl 0 rfl) ?_
          refine lv_iload_n hx hb dX9_areLike_45 rfl (lv_at hl 3 rfl) ?_
          refine lv_iconst (v := (0 : Int32)) hx hb dX9_areLike_46 (by decide) ?_
          obtain ⟨r_5, hc_6, hm⟩ := bo1_s hm
          refine my_callP1 (wc := (wArr117 Γ q_s vs)) (w1 := (wArr117 Γ q_s vs)) (ws1 := (wArr117 Γ q_s vs ++ wArr117 Γ q_t vt)) hP hD hS hA [0] rfl rfl rfl (va_runS (As := [.ref q_s, .int l3, .int (0 : Int32)]) (rest := []) ⟨hx, hb, hml, hown, hts⟩ (kX9_of l Γ q_s vs l3 (0 : Int32) r_5 hc_6 _) (va_cwS 3 hts gX9_areLike_X9_of rfl rfl rfl (by decide +kernel) ⟨Nat.le_of_ble_eq_true rfl, Nat.le_of_ble_eq_true rfl⟩) (my_preS (wc := (wArr117 Γ q_s vs)) [0] hK hP hD rfl rfl) rfl rfl hl.1 rfl (lv_room (Nat.le_of_ble_eq_true rfl)) dX9_areLike_47 ⟨Nat.le_of_ble_eq_true rfl, Nat.le_of_ble_eq_true rfl⟩) (fun H locs hP hD hS => ?_)
          refine lv_aload_n hx hb dX9_areLike_50 rfl (lv_at hl 1 rfl) ?_
          refine lv_iload_n hx hb dX9_areLike_51 rfl (lv_at hl 3 rfl) ?_
          refine lv_iconst (v := (0 : Int32)) hx hb dX9_areLike_52 (by decide) ?_
          obtain ⟨r_7, hc_8, hm⟩ := bo1_s hm
          refine my_callP1 (wc := (wArr117 Γ q_t vt)) (w1 := (wArr117 Γ q_t vt)) (ws1 := (wArr117 Γ q_s vs ++ wArr117 Γ q_t vt)) hP hD hS hA [1] rfl rfl rfl (va_runS (As := [.ref q_t, .int l3, .int (0 : Int32)]) (rest := [.int r_5]) ⟨hx, hb, hml, hown, hts⟩ (kX9_of l Γ q_t vt l3 (0 : Int32) r_7 hc_8 _) (va_cwS 3 hts gX9_areLike_X9_of rfl rfl rfl (by decide +kernel) ⟨Nat.le_of_ble_eq_true rfl, Nat.le_of_ble_eq_true rfl⟩) (my_preS (wc := (wArr117 Γ q_t vt)) [1] hK hP hD rfl rfl) rfl rfl hl.1 rfl (lv_room (Nat.le_of_ble_eq_true rfl)) dX9_areLike_53 ⟨Nat.le_of_ble_eq_true rfl, Nat.le_of_ble_eq_true rfl⟩) (fun H locs hP hD hS => ?_)
          refine lv_icmp_ne (tgt := 110) hx hb dX9_areLike_56 (by decide) (fun c_9 => ?_) (fun c_9 => ?_)
          · replace hm := if_f hm c_9
            exact J_110 (fun vs vt l2 l3 => mX9_areLike_L35 n vs vt l2 l3) ih vs vt l3 _ _ _ hP hD hS (lv_sub hl [0, 1, 3] rfl) hm
          · replace hm := if_s hm c_9
            refine lv_aload_n hx hb dX9_areLike_59 rfl (lv_at hl 0 rfl) ?_
            refine lv_iload_n hx hb dX9_areLike_60 rfl (lv_at hl 3 rfl) ?_
            refine lv_iconst (v := (1 : Int32)) hx hb dX9_areLike_61 (by decide) ?_
            obtain ⟨r_10, hc_11, hm⟩ := bo1_s hm
            refine my_callP1 (wc := (wArr117 Γ q_s vs)) (w1 := (wArr117 Γ q_s vs)) (ws1 := (wArr117 Γ q_s vs ++ wArr117 Γ q_t vt)) hP hD hS hA [0] rfl rfl rfl (va_runS (As := [.ref q_s, .int l3, .int (1 : Int32)]) (rest := []) ⟨hx, hb, hml, hown, hts⟩ (kX9_of l Γ q_s vs l3 (1 : Int32) r_10 hc_11 _) (va_cwS 3 hts gX9_areLike_X9_of rfl rfl rfl (by decide +kernel) ⟨Nat.le_of_ble_eq_true rfl, Nat.le_of_ble_eq_true rfl⟩) (my_preS (wc := (wArr117 Γ q_s vs)) [0] hK hP hD rfl rfl) rfl rfl hl.1 rfl (lv_room (Nat.le_of_ble_eq_true rfl)) dX9_areLike_62 ⟨Nat.le_of_ble_eq_true rfl, Nat.le_of_ble_eq_true rfl⟩) (fun H locs hP hD hS => ?_)
            refine lv_aload_n hx hb dX9_areLike_65 rfl (lv_at hl 1 rfl) ?_
            refine lv_iload_n hx hb dX9_areLike_66 rfl (lv_at hl 3 rfl) ?_
            refine lv_iconst (v := (1 : Int32)) hx hb dX9_areLike_67 (by decide) ?_
            obtain ⟨r_12, hc_13, hm⟩ := bo1_s hm
            refine my_callP1 (wc := (wArr117 Γ q_t vt)) (w1 := (wArr117 Γ q_t vt)) (ws1 := (wArr117 Γ q_s vs ++ wArr117 Γ q_t vt)) hP hD hS hA [1] rfl rfl rfl (va_runS (As := [.ref q_t, .int l3, .int (1 : Int32)]) (rest := [.int r_10]) ⟨hx, hb, hml, hown, hts⟩ (kX9_of l Γ q_t vt l3 (1 : Int32) r_12 hc_13 _) (va_cwS 3 hts gX9_areLike_X9_of rfl rfl rfl (by decide +kernel) ⟨Nat.le_of_ble_eq_true rfl, Nat.le_of_ble_eq_true rfl⟩) (my_preS (wc := (wArr117 Γ q_t vt)) [1] hK hP hD rfl rfl) rfl rfl hl.1 rfl (lv_room (Nat.le_of_ble_eq_true rfl)) dX9_areLike_68 ⟨Nat.le_of_ble_eq_true rfl, Nat.le_of_ble_eq_true rfl⟩) (fun H locs hP hD hS => ?_)
            refine lv_icmp_ne (tgt := 110) hx hb dX9_areLike_71 (by decide) (fun c_14 => ?_) (fun c_14 => ?_)
            · replace hm := if_f hm c_14
              exact J_110 (fun vs vt l2 l3 => mX9_areLike_L35 n vs vt l2 l3) ih vs vt l3 _ _ _ hP hD hS (lv_sub hl [0, 1, 3] rfl) hm
            · replace hm := if_s hm c_14
              refine lv_aload_n hx hb dX9_areLike_74 rfl (lv_at hl 0 rfl) ?_
              refine lv_iload_n hx hb dX9_areLike_75 rfl (lv_at hl 3 rfl) ?_
              refine lv_iconst (v := (2 : Int32)) hx hb dX9_areLike_76 (by decide) ?_
              obtain ⟨r_15, hc_16, hm⟩ := bo1_s hm
              refine my_callP1 (wc := (wArr117 Γ q_s vs)) (w1 := (wArr117 Γ q_s vs)) (ws1 := (wArr117 Γ q_s vs ++ wArr117 Γ q_t vt)) hP hD hS hA [0] rfl rfl rfl (va_runS (As := [.ref q_s, .int l3, .int (2 : Int32)]) (rest := []) ⟨hx, hb, hml, hown, hts⟩ (kX9_of l Γ q_s vs l3 (2 : Int32) r_15 hc_16 _) (va_cwS 3 hts gX9_areLike_X9_of rfl rfl rfl (by decide +kernel) ⟨Nat.le_of_ble_eq_true rfl, Nat.le_of_ble_eq_true rfl⟩) (my_preS (wc := (wArr117 Γ q_s vs)) [0] hK hP hD rfl rfl) rfl rfl hl.1 rfl (lv_room (Nat.le_of_ble_eq_true rfl)) dX9_areLike_77 ⟨Nat.le_of_ble_eq_true rfl, Nat.le_of_ble_eq_true rfl⟩) (fun H locs hP hD hS => ?_)
              refine lv_aload_n hx hb dX9_areLike_80 rfl (lv_at hl 1 rfl) ?_
              refine lv_iload_n hx hb dX9_areLike_81 rfl (lv_at hl 3 rfl) ?_
              refine lv_iconst (v := (2 : Int32)) hx hb dX9_areLike_82 (by decide) ?_
              obtain ⟨r_17, hc_18, hm⟩ := bo1_s hm
              refine my_callP1 (wc := (wArr117 Γ q_t vt)) (w1 := (wArr117 Γ q_t vt)) (ws1 := (wArr117 Γ q_s vs ++ wArr117 Γ q_t vt)) hP hD hS hA [1] rfl rfl rfl (va_runS (As := [.ref q_t, .int l3, .int (2 : Int32)]) (rest := [.int r_15]) ⟨hx, hb, hml, hown, hts⟩ (kX9_of l Γ q_t vt l3 (2 : Int32) r_17 hc_18 _) (va_cwS 3 hts gX9_areLike_X9_of rfl rfl rfl (by decide +kernel) ⟨Nat.le_of_ble_eq_true rfl, Nat.le_of_ble_eq_true rfl⟩) (my_preS (wc := (wArr117 Γ q_t vt)) [1] hK hP hD rfl rfl) rfl rfl hl.1 rfl (lv_room (Nat.le_of_ble_eq_true rfl)) dX9_areLike_83 ⟨Nat.le_of_ble_eq_true rfl, Nat.le_of_ble_eq_true rfl⟩) (fun H locs hP hD hS => ?_)
              refine lv_icmp_ne (tgt := 110) hx hb dX9_areLike_86 (by decide) (fun c_19 => ?_) (fun c_19 => ?_)
              · replace hm := if_f hm c_19
                exact J_110 (fun vs vt l2 l3 => mX9_areLike_L35 n vs vt l2 l3) ih vs vt l3 _ _ _ hP hD hS (lv_sub hl [0, 1, 3] rfl) hm
              · replace hm := if_s hm c_19
                refine lv_aload_n hx hb dX9_areLike_89 rfl (lv_at hl 0 rfl) ?_
                refine lv_iload_n hx hb dX9_areLike_90 rfl (lv_at hl 3 rfl) ?_
                refine lv_bipush (v := (7 : Int32)) hx hb dX9_areLike_91 (by decide) ?_
                obtain ⟨r_20, hc_21, hm⟩ := bo1_s hm
                refine my_callP1 (wc := (wArr117 Γ q_s vs)) (w1 := (wArr117 Γ q_s vs)) (ws1 := (wArr117 Γ q_s vs ++ wArr117 Γ q_t vt)) hP hD hS hA [0] rfl rfl rfl (va_runS (As := [.ref q_s, .int l3, .int (7 : Int32)]) (rest := []) ⟨hx, hb, hml, hown, hts⟩ (kX9_of l Γ q_s vs l3 (7 : Int32) r_20 hc_21 _) (va_cwS 3 hts gX9_areLike_X9_of rfl rfl rfl (by decide +kernel) ⟨Nat.le_of_ble_eq_true rfl, Nat.le_of_ble_eq_true rfl⟩) (my_preS (wc := (wArr117 Γ q_s vs)) [0] hK hP hD rfl rfl) rfl rfl hl.1 rfl (lv_room (Nat.le_of_ble_eq_true rfl)) dX9_areLike_93 ⟨Nat.le_of_ble_eq_true rfl, Nat.le_of_ble_eq_true rfl⟩) (fun H locs hP hD hS => ?_)
                refine lv_aload_n hx hb dX9_areLike_96 rfl (lv_at hl 1 rfl) ?_
                refine lv_iload_n hx hb dX9_areLike_97 rfl (lv_at hl 3 rfl) ?_
                refine lv_bipush (v := (7 : Int32)) hx hb dX9_areLike_98 (by decide) ?_
                obtain ⟨r_22, hc_23, hm⟩ := bo1_s hm
                refine my_callP1 (wc := (wArr117 Γ q_t vt)) (w1 := (wArr117 Γ q_t vt)) (ws1 := (wArr117 Γ q_s vs ++ wArr117 Γ q_t vt)) hP hD hS hA [1] rfl rfl rfl (va_runS (As := [.ref q_t, .int l3, .int (7 : Int32)]) (rest := [.int r_20]) ⟨hx, hb, hml, hown, hts⟩ (kX9_of l Γ q_t vt l3 (7 : Int32) r_22 hc_23 _) (va_cwS 3 hts gX9_areLike_X9_of rfl rfl rfl (by decide +kernel) ⟨Nat.le_of_ble_eq_true rfl, Nat.le_of_ble_eq_true rfl⟩) (my_preS (wc := (wArr117 Γ q_t vt)) [1] hK hP hD rfl rfl) rfl rfl hl.1 rfl (lv_room (Nat.le_of_ble_eq_true rfl)) dX9_areLike_100 ⟨Nat.le_of_ble_eq_true rfl, Nat.le_of_ble_eq_true rfl⟩) (fun H locs hP hD hS => ?_)
                refine lv_icmp_ne (tgt := 110) hx hb dX9_areLike_103 (by decide) (fun c_24 => ?_) (fun c_24 => ?_)
                · replace hm := if_f hm c_24
                  exact J_110 (fun vs vt l2 l3 => mX9_areLike_L35 n vs vt l2 l3) ih vs vt l3 _ _ _ hP hD hS (lv_sub hl [0, 1, 3] rfl) hm
                · replace hm := if_s hm c_24
                  refine lv_iconst (v := (1 : Int32)) hx hb dX9_areLike_106 (by decide) ?_
                  refine lv_goto (tgt := 111) hx hb dX9_areLike_107 (by decide) ?_
                  exact J_111 (fun vs vt l2 l3 => mX9_areLike_L35 n vs vt l2 l3) ih vs vt l3 (1 : Int32) _ _ _ hP hD hS (lv_sub hl [0, 1, 3] rfl) hm
  have J_2 : ∀ n : Nat, ∀ (vs : Nat → Int32) (vt : Nat → Int32) (l2 : Int32) (H : Heap) (locs : List Loc) (ls : Array Slot), va_P (my_D Γ) vwCl (wArr117 Γ q_s vs ++ wArr117 Γ q_t vt) H → va_D A (wArr117 Γ q_s vs ++ wArr117 Γ q_t vt) → va_S A s.heap H locs → lv_has ls 4 [(0, .ref q_s), (1, .ref q_t), (2, .int l2)] → mX9_areLike_L2 n vs vt l2 = (some rr) → W p l e (headSpec wsX9_areLike ({ frames := 1, cells := 0, slots := 0, locals := 22 } : Room)).room s m ([.ref q_s, .ref q_t] : List Value).toArray below meth c H locs 0 0 (MQ below (my_Q Γ A (some (.int rr)) (wArr117 Γ q_s vs ++ wArr117 Γ q_t vt)) ([.ref q_s, .ref q_t] : List Value).toArray s 0 0 A) (F0 m 2 ls []) := by
    intro  n
    induction n with
    | zero => intro vs vt l2 H locs ls hP hD hS hl hm; cases hm
    | succ n ih =>
      intro vs vt l2 H locs ls hP hD hS hl hm
      unfold mX9_areLike_L2 at hm
      refine lv_iload_n hx hb dX9_areLike_2 rfl (lv_at hl 2 rfl) ?_
      refine lv_bipush (v := (36 : Int32)) hx hb dX9_areLike_3 (by decide) ?_
      refine lv_icmp_ge (tgt := 31) hx hb dX9_areLike_5 (by decide) (fun c_1 => ?_) (fun c_1 => ?_)
      · replace hm := if_s hm c_1
        refine lv_iconst (v := (1 : Int32)) hx hb dX9_areLike_31 (by decide) ?_
        refine lv_istore_n (lv' := [(2, .int (1 : Int32)), (0, .ref q_s), (1, .ref q_t)]) hx hb dX9_areLike_32 rfl hl (by decide) rfl (fun ls hl => ?_)
        refine lv_iconst (v := (0 : Int32)) hx hb dX9_areLike_33 (by decide) ?_
        refine lv_istore_n (lv' := [(3, .int (0 : Int32)), (2, .int (1 : Int32)), (0, .ref q_s), (1, .ref q_t)]) hx hb dX9_areLike_34 rfl hl (by decide) rfl (fun ls hl => ?_)
        exact J_35 4096 vs vt (1 : Int32) (0 : Int32) _ _ _ hP hD hS (lv_sub hl [2, 3, 1, 0] rfl) hm
      · replace hm := if_f hm c_1
        refine lv_aload_n hx hb dX9_areLike_8 rfl (lv_at hl 0 rfl) ?_
        refine lv_bipush (v := (36 : Int32)) hx hb dX9_areLike_9 (by decide) ?_
        refine lv_iload_n hx hb dX9_areLike_11 rfl (lv_at hl 2 rfl) ?_
        refine lv_iadd hx hb dX9_areLike_12 ?_
        obtain ⟨hi_25, hm⟩ := if_in hm
        refine va_iald hx hb hK hP 0 0 rfl rfl hi_25 dX9_areLike_13 ?_
        refine lv_aload_n hx hb dX9_areLike_14 rfl (lv_at hl 1 rfl) ?_
        refine lv_bipush (v := (36 : Int32)) hx hb dX9_areLike_15 (by decide) ?_
        refine lv_iload_n hx hb dX9_areLike_17 rfl (lv_at hl 2 rfl) ?_
        refine lv_iadd hx hb dX9_areLike_18 ?_
        refine va_iald hx hb hK hP 1 0 rfl rfl hi_25 dX9_areLike_19 ?_
        refine lv_icmp_eq (tgt := 25) hx hb dX9_areLike_20 (by decide) (fun c_26 => ?_) (fun c_26 => ?_)
        · replace hm := if_s hm c_26
          refine lv_iinc (v := (l2 + (1 : Int32))) (lv' := [(2, .int (l2 + (1 : Int32))), (0, .ref q_s), (1, .ref q_t)]) hx hb dX9_areLike_25 hl (k := 2) rfl rfl (by decide) rfl (fun ls hl => ?_)
          refine lv_goto (tgt := 2) hx hb dX9_areLike_28 (by decide) ?_
          exact ih vs vt (l2 + (1 : Int32)) _ _ _ hP hD hS (lv_sub hl [1, 2, 0] rfl) hm
        · replace hm := if_f hm c_26
          refine lv_iconst (v := (0 : Int32)) hx hb dX9_areLike_23 (by decide) ?_
          obtain hf0 := Option.some.inj hm
          subst hf0
          exact W.zret (v := (0 : Int32)) hx hb hr rfl (fun t ht hW => ⟨⟨rfl, by rw [ht]; exact hP⟩, hS.F ht⟩) hS.2.2 dX9_areLike_24
  unfold mX9_areLike at hm
  refine lv_iconst (v := (0 : Int32)) hx hb dX9_areLike_0 (by decide) ?_
  refine lv_istore_n (lv' := [(2, .int (0 : Int32)), (0, .ref q_s), (1, .ref q_t)]) hx hb dX9_areLike_1 rfl hl (by decide) rfl (fun ls hl => ?_)
  exact J_2 4096 vs vt (0 : Int32) _ _ _ hP hD hS (lv_sub hl [1, 2, 0] rfl) hm
def mX9_brings_J53  (vs : Nat → Int32) (l3 : Int32) (s0 : Int32) (s1 : Int32) : Option (Int32) := (if (mX9_next s0 s1) = (-1 : Int32) then (some (-1 : Int32)) else (bo1 (mX9_isHard vs (mX9_next s0 s1)) (fun r_4 => (if r_4 = 0 then (some (((4 : Int32) * (mX9_next s0 s1)) + l3)) else (some (-1 : Int32))))))
def mX9_brings (vs : Nat → Int32) (x1 : Int32) (x2 : Int32) : Option (Int32) := (if x2 ≤ (1 : Int32) then (if x2 = 0 then (mX9_brings_J53 vs (jrem x1 (4 : Int32)) (x1 / (4 : Int32)) (jrem x1 (4 : Int32))) else (mX9_brings_J53 vs (jrem x1 (4 : Int32)) (x1 / (4 : Int32)) (jrem ((jrem x1 (4 : Int32)) + (2 : Int32)) (4 : Int32)))) else (if x2 = (2 : Int32) then (some ((x1 - (jrem x1 (4 : Int32))) + (jrem ((jrem x1 (4 : Int32)) + (3 : Int32)) (4 : Int32)))) else (if x2 = (3 : Int32) then (some ((x1 - (jrem x1 (4 : Int32))) + (jrem ((jrem x1 (4 : Int32)) + (1 : Int32)) (4 : Int32)))) else (some ((x1 - (jrem x1 (4 : Int32))) + (jrem ((jrem x1 (4 : Int32)) + (2 : Int32)) (4 : Int32)))))))
set_option maxHeartbeats 4000000 in
set_option maxRecDepth 100000 in
theorem kX9_brings (l : Launch) (Γ : my_G) (q_s : Nat) (vs : Nat → Int32) (x1 : Int32) (x2 : Int32) (rr : Int32) (hm : mX9_brings vs x1 x2 = (some rr)) : Mn l yX9_brings wsX9_brings ({ frames := 2, cells := 0, slots := 0, locals := 48 } : Room) Γ [.ref q_s, .int x1, .int x2] (wArr117 Γ q_s vs) (some (.int rr)) (wArr117 Γ q_s vs) := by
  intro sz
  refine Met.ofW (cc := cX9_brings) (maxL := 5) (ret := (some .int)) (by decide) rfl ?_
  intro p e s m args below meth c s₁ B hml hv
  obtain ⟨rfl, hsz, hP, hK, hD0⟩ := hv
  have hx := B.exec
  have hb := B.bytes
  have hr := B.returns
  have hts := atoms_spec (ws := wsX9_brings) B.pre
  have hown : s.vm.findClass RX9 = some m.cls := findClass_of_methodNamed B.named
  have hlocks := B.notSynchronized
  subst hsz
  have hD := hD0.self (sz := s.heap.size)
  have hA : ∀ q : Nat, s.heap.size ≤ q → va_A (wArr117 Γ q_s vs) s.heap.size q := fun q h => Or.inr h
  generalize va_A (wArr117 Γ q_s vs) s.heap.size = A at hD hA ⊢
  have hS : va_S A s.heap s.heap [] := va_S.rf
  have hl := lv_entry ([.ref q_s, .int x1, .int x2]) (n := 5) (Nat.le_of_ble_eq_true rfl)
  rw [lg_entry_eq]
  generalize (lg_sl ([.ref q_s, .int x1, .int x2]) ++ List.replicate (5 - (lg_sl ([.ref q_s, .int x1, .int x2])).length) Slot.unset).toArray = ls at hl ⊢
  replace hl : lv_has ls 5 [(0, .ref q_s), (1, .int x1), (2, .int x2)] := hl
  have J_53 : ∀ (vs : Nat → Int32) (l3 : Int32) (s0 : Int32) (s1 : Int32) (H : Heap) (locs : List Loc) (ls : Array Slot), va_P (my_D Γ) vwCl (wArr117 Γ q_s vs) H → va_D A (wArr117 Γ q_s vs) → va_S A s.heap H locs → lv_has ls 5 [(0, .ref q_s), (3, .int l3)] → mX9_brings_J53 vs l3 s0 s1 = (some rr) → W p l e (headSpec wsX9_brings ({ frames := 2, cells := 0, slots := 0, locals := 48 } : Room)).room s m ([.ref q_s, .int x1, .int x2] : List Value).toArray below meth c H locs 0 0 (MQ below (my_Q Γ A (some (.int rr)) (wArr117 Γ q_s vs)) ([.ref q_s, .int x1, .int x2] : List Value).toArray s 0 0 A) (F0 m 53 ls [.int s1, .int s0]) := by
    intro  vs l3 s0 s1 H locs ls hP hD hS hl hm
    unfold mX9_brings_J53 at hm
    refine my_callP1 (wc := ([] : va_W)) (w1 := ([] : va_W)) (ws1 := (wArr117 Γ q_s vs)) hP hD hS hA [] rfl rfl rfl (va_runS (As := [.int s0, .int s1]) (rest := []) ⟨hx, hb, hml, hown, hts⟩ (kX9_next l Γ s0 s1 (mX9_next s0 s1) rfl _) (va_cwS 2 hts gX9_brings_X9_next rfl rfl rfl (by decide +kernel) ⟨Nat.le_of_ble_eq_true rfl, Nat.le_of_ble_eq_true rfl⟩) (my_preS (wc := ([] : va_W)) [] hK hP hD rfl rfl) rfl rfl hl.1 rfl (lv_room (Nat.le_of_ble_eq_true rfl)) dX9_brings_53 ⟨Nat.le_of_ble_eq_true rfl, Nat.le_of_ble_eq_true rfl⟩) (fun H locs hP hD hS => ?_)
    refine lv_istore (lv' := [(4, .int (mX9_next s0 s1)), (0, .ref q_s), (3, .int l3)]) hx hb dX9_brings_56 hl (by decide) rfl (fun ls hl => ?_)
    refine lv_iload hx hb dX9_brings_58 (lv_at hl 0 rfl) ?_
    refine lv_iconst (v := (-1 : Int32)) hx hb dX9_brings_60 (by decide) ?_
    refine lv_icmp_eq (tgt := 73) hx hb dX9_brings_61 (by decide) (fun c_3 => ?_) (fun c_3 => ?_)
    · replace hm := if_s hm c_3
      refine lv_iconst (v := (-1 : Int32)) hx hb dX9_brings_73 (by decide) ?_
      refine lv_goto (tgt := 83) hx hb dX9_brings_74 (by decide) ?_
      obtain hf0 := Option.some.inj hm
      subst hf0
      exact W.iret (v := (-1 : Int32)) hx hb hr (fun t ht hW => ⟨⟨rfl, by rw [ht]; exact hP⟩, hS.F ht⟩) hS.2.2 dX9_brings_83
    · replace hm := if_f hm c_3
      refine lv_aload_n hx hb dX9_brings_64 rfl (lv_at hl 1 rfl) ?_
      refine lv_iload hx hb dX9_brings_65 (lv_at hl 0 rfl) ?_
      obtain ⟨r_4, hc_5, hm⟩ := bo1_s hm
      refine my_callP1 (wc := (wArr117 Γ q_s vs)) (w1 := (wArr117 Γ q_s vs)) (ws1 := (wArr117 Γ q_s vs)) hP hD hS hA [0] rfl rfl rfl (va_runS (As := [.ref q_s, .int (mX9_next s0 s1)]) (rest := []) ⟨hx, hb, hml, hown, hts⟩ (kX9_isHard l Γ q_s vs (mX9_next s0 s1) r_4 hc_5 _) (va_cwS 2 hts gX9_brings_X9_isHard rfl rfl rfl (by decide +kernel) ⟨Nat.le_of_ble_eq_true rfl, Nat.le_of_ble_eq_true rfl⟩) (my_preS (wc := (wArr117 Γ q_s vs)) [0] hK hP hD rfl rfl) rfl rfl hl.1 rfl (lv_room (Nat.le_of_ble_eq_true rfl)) dX9_brings_67 ⟨Nat.le_of_ble_eq_true rfl, Nat.le_of_ble_eq_true rfl⟩) (fun H locs hP hD hS => ?_)
      refine lv_if_eq (tgt := 77) hx hb dX9_brings_70 (by decide) (fun c_6 => ?_) (fun c_6 => ?_)
      · replace hm := if_s hm c_6
        refine lv_iconst (v := (4 : Int32)) hx hb dX9_brings_77 (by decide) ?_
        refine lv_iload hx hb dX9_brings_78 (lv_at hl 0 rfl) ?_
        refine lv_imul hx hb dX9_brings_80 ?_
        refine lv_iload_n hx hb dX9_brings_81 rfl (lv_at hl 2 rfl) ?_
        refine lv_iadd hx hb dX9_brings_82 ?_
        obtain hf0 := Option.some.inj hm
        subst hf0
        exact W.iret (v := (((4 : Int32) * (mX9_next s0 s1)) + l3)) hx hb hr (fun t ht hW => ⟨⟨rfl, by rw [ht]; exact hP⟩, hS.F ht⟩) hS.2.2 dX9_brings_83
      · replace hm := if_f hm c_6
        refine lv_iconst (v := (-1 : Int32)) hx hb dX9_brings_73 (by decide) ?_
        refine lv_goto (tgt := 83) hx hb dX9_brings_74 (by decide) ?_
        obtain hf0 := Option.some.inj hm
        subst hf0
        exact W.iret (v := (-1 : Int32)) hx hb hr (fun t ht hW => ⟨⟨rfl, by rw [ht]; exact hP⟩, hS.F ht⟩) hS.2.2 dX9_brings_83
  unfold mX9_brings at hm
  refine lv_iload_n hx hb dX9_brings_0 rfl (lv_at hl 1 rfl) ?_
  refine lv_iconst (v := (4 : Int32)) hx hb dX9_brings_1 (by decide) ?_
  refine my_irem hx hb dX9_brings_2 (by decide) ?_
  refine lv_istore_n (lv' := [(3, .int (jrem x1 (4 : Int32))), (0, .ref q_s), (1, .int x1), (2, .int x2)]) hx hb dX9_brings_3 rfl hl (by decide) rfl (fun ls hl => ?_)
  refine lv_iload_n hx hb dX9_brings_4 rfl (lv_at hl 3 rfl) ?_
  refine lv_iconst (v := (1 : Int32)) hx hb dX9_brings_5 (by decide) ?_
  refine lv_icmp_le (tgt := 37) hx hb dX9_brings_6 (by decide) (fun c_1 => ?_) (fun c_1 => ?_)
  · replace hm := if_s hm c_1
    refine lv_iload_n hx hb dX9_brings_37 rfl (lv_at hl 2 rfl) ?_
    refine lv_iconst (v := (4 : Int32)) hx hb dX9_brings_38 (by decide) ?_
    refine lv_idiv hx hb dX9_brings_39 (by decide) ?_
    refine lv_iload_n hx hb dX9_brings_40 rfl (lv_at hl 3 rfl) ?_
    refine lv_if_ne (tgt := 48) hx hb dX9_brings_41 (by decide) (fun c_2 => ?_) (fun c_2 => ?_)
    · replace hm := if_f hm c_2
      refine lv_iload_n hx hb dX9_brings_48 rfl (lv_at hl 0 rfl) ?_
      refine lv_iconst (v := (2 : Int32)) hx hb dX9_brings_49 (by decide) ?_
      refine lv_iadd hx hb dX9_brings_50 ?_
      refine lv_iconst (v := (4 : Int32)) hx hb dX9_brings_51 (by decide) ?_
      refine my_irem hx hb dX9_brings_52 (by decide) ?_
      exact J_53 vs (jrem x1 (4 : Int32)) (x1 / (4 : Int32)) (jrem ((jrem x1 (4 : Int32)) + (2 : Int32)) (4 : Int32)) _ _ _ hP hD hS (lv_sub hl [1, 0] rfl) hm
    · replace hm := if_s hm c_2
      refine lv_iload_n hx hb dX9_brings_44 rfl (lv_at hl 0 rfl) ?_
      refine lv_goto (tgt := 53) hx hb dX9_brings_45 (by decide) ?_
      exact J_53 vs (jrem x1 (4 : Int32)) (x1 / (4 : Int32)) (jrem x1 (4 : Int32)) _ _ _ hP hD hS (lv_sub hl [1, 0] rfl) hm
  · replace hm := if_f hm c_1
    refine lv_iload_n hx hb dX9_brings_9 rfl (lv_at hl 2 rfl) ?_
    refine lv_iload_n hx hb dX9_brings_10 rfl (lv_at hl 0 rfl) ?_
    refine lv_isub hx hb dX9_brings_11 ?_
    refine lv_iload_n hx hb dX9_brings_12 rfl (lv_at hl 0 rfl) ?_
    refine lv_iload_n hx hb dX9_brings_13 rfl (lv_at hl 3 rfl) ?_
    refine lv_iconst (v := (2 : Int32)) hx hb dX9_brings_14 (by decide) ?_
    refine lv_icmp_ne (tgt := 22) hx hb dX9_brings_15 (by decide) (fun c_7 => ?_) (fun c_7 => ?_)
    · replace hm := if_f hm c_7
      refine lv_iload_n hx hb dX9_brings_22 rfl (lv_at hl 3 rfl) ?_
      refine lv_iconst (v := (3 : Int32)) hx hb dX9_brings_23 (by decide) ?_
      refine lv_icmp_ne (tgt := 31) hx hb dX9_brings_24 (by decide) (fun c_8 => ?_) (fun c_8 => ?_)
      · replace hm := if_f hm c_8
        refine lv_iconst (v := (2 : Int32)) hx hb dX9_brings_31 (by decide) ?_
        refine lv_iadd hx hb dX9_brings_32 ?_
        refine lv_iconst (v := (4 : Int32)) hx hb dX9_brings_33 (by decide) ?_
        refine my_irem hx hb dX9_brings_34 (by decide) ?_
        refine lv_iadd hx hb dX9_brings_35 ?_
        obtain hf0 := Option.some.inj hm
        subst hf0
        exact W.iret (v := ((x1 - (jrem x1 (4 : Int32))) + (jrem ((jrem x1 (4 : Int32)) + (2 : Int32)) (4 : Int32)))) hx hb hr (fun t ht hW => ⟨⟨rfl, by rw [ht]; exact hP⟩, hS.F ht⟩) hS.2.2 dX9_brings_36
      · replace hm := if_s hm c_8
        refine lv_iconst (v := (1 : Int32)) hx hb dX9_brings_27 (by decide) ?_
        refine lv_goto (tgt := 32) hx hb dX9_brings_28 (by decide) ?_
        refine lv_iadd hx hb dX9_brings_32 ?_
        refine lv_iconst (v := (4 : Int32)) hx hb dX9_brings_33 (by decide) ?_
        refine my_irem hx hb dX9_brings_34 (by decide) ?_
        refine lv_iadd hx hb dX9_brings_35 ?_
        obtain hf0 := Option.some.inj hm
        subst hf0
        exact W.iret (v := ((x1 - (jrem x1 (4 : Int32))) + (jrem ((jrem x1 (4 : Int32)) + (1 : Int32)) (4 : Int32)))) hx hb hr (fun t ht hW => ⟨⟨rfl, by rw [ht]; exact hP⟩, hS.F ht⟩) hS.2.2 dX9_brings_36
    · replace hm := if_s hm c_7
      refine lv_iconst (v := (3 : Int32)) hx hb dX9_brings_18 (by decide) ?_
      refine lv_goto (tgt := 32) hx hb dX9_brings_19 (by decide) ?_
      refine lv_iadd hx hb dX9_brings_32 ?_
      refine lv_iconst (v := (4 : Int32)) hx hb dX9_brings_33 (by decide) ?_
      refine my_irem hx hb dX9_brings_34 (by decide) ?_
      refine lv_iadd hx hb dX9_brings_35 ?_
      obtain hf0 := Option.some.inj hm
      subst hf0
      exact W.iret (v := ((x1 - (jrem x1 (4 : Int32))) + (jrem ((jrem x1 (4 : Int32)) + (3 : Int32)) (4 : Int32)))) hx hb hr (fun t ht hW => ⟨⟨rfl, by rw [ht]; exact hP⟩, hS.F ht⟩) hS.2.2 dX9_brings_36
def mX9_ofRobot (mi : Nat → Int32) (vnw : Nat → Int32) (x0 : Int32) (x1 : Int32) : Option (Int32 × (Nat → Int32)) := (bo2 (mX9_noRobot mi x0) (fun r_1 mi_2 => (if r_1 = 0 then (bo1 (mX9_of vnw x0 x1) (fun r_5 => (some (r_5, mi_2)))) else (some ((0 : Int32), mi_2)))))
set_option maxHeartbeats 4000000 in
set_option maxRecDepth 100000 in
theorem kX9_ofRobot (l : Launch) (Γ : my_G) (q_mo q_tt q_nw q_tr q_ot q_di q_kp q_ik q_wy q_ah q_tg q_ws q_fr q_rw : Nat) (mi : Nat → Int32) (vtt : Nat → Int32) (vnw : Nat → Int32) (vtr : Nat → Int32) (vot : Nat → Int32) (vdi : Nat → Int32) (vkp : Nat → Int32) (vik : Nat → Int32) (vwy : Nat → Int32) (vah : Nat → Int32) (vtg : Nat → Int32) (vws : Nat → Int32) (vfr : Nat → Int32) (vrw : Nat → Int32) (x0 : Int32) (x1 : Int32) (rr : Int32) (mi_z : Nat → Int32) (hm : mX9_ofRobot mi vnw x0 x1 = (some (rr, mi_z))) : Mn l yX9_ofRobot wsX9_ofRobot ({ frames := 3, cells := 0, slots := 0, locals := 66 } : Room) Γ [.ref q_mo, .int x0, .int x1] (wModel Γ q_mo q_tt q_nw q_tr q_ot q_di q_kp q_ik q_wy q_ah q_tg q_ws q_fr q_rw mi vtt vnw vtr vot vdi vkp vik vwy vah vtg vws vfr vrw) (some (.int rr)) (wModel Γ q_mo q_tt q_nw q_tr q_ot q_di q_kp q_ik q_wy q_ah q_tg q_ws q_fr q_rw mi_z vtt vnw vtr vot vdi vkp vik vwy vah vtg vws vfr vrw) := by
  intro sz
  refine Met.ofW (cc := cX9_ofRobot) (maxL := 3) (ret := (some .int)) (by decide) rfl ?_
  intro p e s m args below meth c s₁ B hml hv
  obtain ⟨rfl, hsz, hP, hK, hD0⟩ := hv
  have hx := B.exec
  have hb := B.bytes
  have hr := B.returns
  have hts := atoms_spec (ws := wsX9_ofRobot) B.pre
  have hown : s.vm.findClass RX9 = some m.cls := findClass_of_methodNamed B.named
  have hlocks := B.notSynchronized
  have hinX9 : ∀ w ∈ u_ws RX9 TX9 19, w ∈ wsX9_ofRobot := fun w h => List.mem_cons_of_mem _ (List.mem_append_right _ h)
  subst hsz
  have hD := hD0.self (sz := s.heap.size)
  have hA : ∀ q : Nat, s.heap.size ≤ q → va_A (wModel Γ q_mo q_tt q_nw q_tr q_ot q_di q_kp q_ik q_wy q_ah q_tg q_ws q_fr q_rw mi vtt vnw vtr vot vdi vkp vik vwy vah vtg vws vfr vrw) s.heap.size q := fun q h => Or.inr h
  generalize va_A (wModel Γ q_mo q_tt q_nw q_tr q_ot q_di q_kp q_ik q_wy q_ah q_tg q_ws q_fr q_rw mi vtt vnw vtr vot vdi vkp vik vwy vah vtg vws vfr vrw) s.heap.size = A at hD hA ⊢
  have hS : va_S A s.heap s.heap [] := va_S.rf
  have hl := lv_entry ([.ref q_mo, .int x0, .int x1]) (n := 3) (Nat.le_of_ble_eq_true rfl)
  rw [lg_entry_eq]
  generalize (lg_sl ([.ref q_mo, .int x0, .int x1]) ++ List.replicate (3 - (lg_sl ([.ref q_mo, .int x0, .int x1])).length) Slot.unset).toArray = ls at hl ⊢
  replace hl : lv_has ls 3 [(0, .ref q_mo), (1, .int x0), (2, .int x1)] := hl
  unfold mX9_ofRobot at hm
  refine lv_aload_n hx hb dX9_ofRobot_0 rfl (lv_at hl 0 rfl) ?_
  refine lv_iload_n hx hb dX9_ofRobot_1 rfl (lv_at hl 1 rfl) ?_
  obtain ⟨r_1, mi_2, hc_3, hm⟩ := bo2_s hm
  refine my_callP1 (wc := (wMo Γ q_mo q_tt q_nw q_tr q_ot q_di q_kp q_ik q_wy q_ah q_tg q_ws q_fr q_rw mi)) (w1 := (wMo Γ q_mo q_tt q_nw q_tr q_ot q_di q_kp q_ik q_wy q_ah q_tg q_ws q_fr q_rw mi_2)) (ws1 := (wModel Γ q_mo q_tt q_nw q_tr q_ot q_di q_kp q_ik q_wy q_ah q_tg q_ws q_fr q_rw mi_2 vtt vnw vtr vot vdi vkp vik vwy vah vtg vws vfr vrw)) hP hD hS hA [0] rfl rfl rfl (va_runV (As := [.int x0]) (rest := []) ⟨hx, hb, hml, hown, hts⟩ (kX9_noRobot l Γ q_mo q_tt q_nw q_tr q_ot q_di q_kp q_ik q_wy q_ah q_tg q_ws q_fr q_rw mi x0 r_1 mi_2 hc_3 _) (cwV 1 hts gX9_ofRobot_X9_noRobot rfl rfl rfl (by decide +kernel) ⟨Nat.le_of_ble_eq_true rfl, Nat.le_of_ble_eq_true rfl⟩) (my_preV (wc := (wMo Γ q_mo q_tt q_nw q_tr q_ot q_di q_kp q_ik q_wy q_ah q_tg q_ws q_fr q_rw mi)) (ci := 7) (q0 := 0) [0] hK hP hD rfl rfl rfl rfl) rfl rfl hl.1 rfl (lv_room (Nat.le_of_ble_eq_true rfl)) dX9_ofRobot_2 ⟨Nat.le_of_ble_eq_true rfl, Nat.le_of_ble_eq_true rfl⟩) (fun H locs hP hD hS => ?_)
  refine lv_if_eq (tgt := 12) hx hb dX9_ofRobot_5 (by decide) (fun c_4 => ?_) (fun c_4 => ?_)
  · replace hm := if_s hm c_4
    refine lv_aload_n hx hb dX9_ofRobot_12 rfl (lv_at hl 0 rfl) ?_
    refine va_get (D := my_D Γ) (ci := 7) (v := .ref q_nw) (C := RX9) (T := TX9) (N := 19) hx hb hts hinX9 hown hK hP 0 rfl rfl 3 (by decide) (hts (.fieldLink RX9 13 "BeltFloorModel" "now" "[I") (List.mem_of_getElem? (i := 1) rfl)) (fun _ h9 => h9) rfl dX9_ofRobot_13 ?_
    refine lv_iload_n hx hb dX9_ofRobot_16 rfl (lv_at hl 1 rfl) ?_
    refine lv_iload_n hx hb dX9_ofRobot_17 rfl (lv_at hl 2 rfl) ?_
    obtain ⟨r_5, hc_6, hm⟩ := bo1_s hm
    refine my_callP1 (wc := (wArr117 Γ q_nw vnw)) (w1 := (wArr117 Γ q_nw vnw)) (ws1 := (wModel Γ q_mo q_tt q_nw q_tr q_ot q_di q_kp q_ik q_wy q_ah q_tg q_ws q_fr q_rw mi_2 vtt vnw vtr vot vdi vkp vik vwy vah vtg vws vfr vrw)) hP hD hS hA [2] rfl rfl rfl (va_runS (As := [.ref q_nw, .int x0, .int x1]) (rest := []) ⟨hx, hb, hml, hown, hts⟩ (kX9_of l Γ q_nw vnw x0 x1 r_5 hc_6 _) (va_cwS 3 hts gX9_ofRobot_X9_of rfl rfl rfl (by decide +kernel) ⟨Nat.le_of_ble_eq_true rfl, Nat.le_of_ble_eq_true rfl⟩) (my_preS (wc := (wArr117 Γ q_nw vnw)) [2] hK hP hD rfl rfl) rfl rfl hl.1 rfl (lv_room (Nat.le_of_ble_eq_true rfl)) dX9_ofRobot_18 ⟨Nat.le_of_ble_eq_true rfl, Nat.le_of_ble_eq_true rfl⟩) (fun H locs hP hD hS => ?_)
    obtain ⟨hf0, hf1⟩ := si2 hm
    subst hf0
    subst hf1
    exact W.iret (v := r_5) hx hb hr (fun t ht hW => ⟨⟨rfl, by rw [ht]; exact hP⟩, hS.F ht⟩) hS.2.2 dX9_ofRobot_21
  · replace hm := if_f hm c_4
    refine lv_iconst (v := (0 : Int32)) hx hb dX9_ofRobot_8 (by decide) ?_
    refine lv_goto (tgt := 21) hx hb dX9_ofRobot_9 (by decide) ?_
    obtain ⟨hf0, hf1⟩ := si2 hm
    subst hf0
    subst hf1
    exact W.iret (v := (0 : Int32)) hx hb hr (fun t ht hW => ⟨⟨rfl, by rw [ht]; exact hP⟩, hS.F ht⟩) hS.2.2 dX9_ofRobot_21
def mX9_remember_J49  (mi : Nat → Int32) (vnw : Nat → Int32) (vdi : Nat → Int32)  : Option ((Nat → Int32) × (Nat → Int32)) := (bo1 (mX9_copyState_117_1638 vnw vdi (0 : Int32) ((117 : Int32) * (mi 7))) (fun vdi_2 => (some ((upd mi 7 ((mi 7) + (1 : Int32))), vdi_2))))
def mX9_remember_L11  : Nat → (Nat → Int32) → (Nat → Int32) → (Nat → Int32) → Int32 → Option ((Nat → Int32) × (Nat → Int32))
  | 0, _, _, _, _ => none
  | n + 1, mi, vnw, vdi, l1 => (if (1521 : Int32) ≤ l1 then (mX9_remember_J49 (upd mi 7 ((mi 7) - (1 : Int32))) vnw vdi) else (if ¬ ((l1 + (117 : Int32)) < 0 ∨ 1638 ≤ (l1 + (117 : Int32)).toNatClampNeg) then (if ¬ (l1 < 0 ∨ 1638 ≤ l1.toNatClampNeg) then (mX9_remember_L11 n mi vnw (upd vdi l1.toNatClampNeg (vdi (l1 + (117 : Int32)).toNatClampNeg)) (l1 + (1 : Int32))) else none) else none))
def mX9_remember (mi : Nat → Int32) (vnw : Nat → Int32) (vdi : Nat → Int32) : Option ((Nat → Int32) × (Nat → Int32)) := (if (mi 7) = (14 : Int32) then (mX9_remember_L11 4096 mi vnw vdi (0 : Int32)) else (mX9_remember_J49 mi vnw vdi))
set_option maxHeartbeats 4000000 in
set_option maxRecDepth 100000 in
theorem kX9_remember (l : Launch) (Γ : my_G) (q_mo q_tt q_nw q_tr q_ot q_di q_kp q_ik q_wy q_ah q_tg q_ws q_fr q_rw : Nat) (mi : Nat → Int32) (vtt : Nat → Int32) (vnw : Nat → Int32) (vtr : Nat → Int32) (vot : Nat → Int32) (vdi : Nat → Int32) (vkp : Nat → Int32) (vik : Nat → Int32) (vwy : Nat → Int32) (vah : Nat → Int32) (vtg : Nat → Int32) (vws : Nat → Int32) (vfr : Nat → Int32) (vrw : Nat → Int32)  (mi_z : Nat → Int32) (vdi_z : Nat → Int32) (hm : mX9_remember mi vnw vdi = (some (mi_z, vdi_z))) : Mn l yX9_remember wsX9_remember ({ frames := 1, cells := 0, slots := 0, locals := 24 } : Room) Γ [.ref q_mo] (wModel Γ q_mo q_tt q_nw q_tr q_ot q_di q_kp q_ik q_wy q_ah q_tg q_ws q_fr q_rw mi vtt vnw vtr vot vdi vkp vik vwy vah vtg vws vfr vrw) none (wModel Γ q_mo q_tt q_nw q_tr q_ot q_di q_kp q_ik q_wy q_ah q_tg q_ws q_fr q_rw mi_z vtt vnw vtr vot vdi_z vkp vik vwy vah vtg vws vfr vrw) := by
  intro sz
  refine Met.ofW (cc := cX9_remember) (maxL := 2) (ret := none) (by decide) rfl ?_
  intro p e s m args below meth c s₁ B hml hv
  obtain ⟨rfl, hsz, hP, hK, hD0⟩ := hv
  have hx := B.exec
  have hb := B.bytes
  have hr := B.returns
  have hts := atoms_spec (ws := wsX9_remember) B.pre
  have hown : s.vm.findClass RX9 = some m.cls := findClass_of_methodNamed B.named
  have hlocks := B.notSynchronized
  have hinX9 : ∀ w ∈ u_ws RX9 TX9 19, w ∈ wsX9_remember := fun w h => List.mem_cons_of_mem _ (List.mem_append_right _ h)
  subst hsz
  have hD := hD0.self (sz := s.heap.size)
  have hA : ∀ q : Nat, s.heap.size ≤ q → va_A (wModel Γ q_mo q_tt q_nw q_tr q_ot q_di q_kp q_ik q_wy q_ah q_tg q_ws q_fr q_rw mi vtt vnw vtr vot vdi vkp vik vwy vah vtg vws vfr vrw) s.heap.size q := fun q h => Or.inr h
  generalize va_A (wModel Γ q_mo q_tt q_nw q_tr q_ot q_di q_kp q_ik q_wy q_ah q_tg q_ws q_fr q_rw mi vtt vnw vtr vot vdi vkp vik vwy vah vtg vws vfr vrw) s.heap.size = A at hD hA ⊢
  have hS : va_S A s.heap s.heap [] := va_S.rf
  have hl := lv_entry ([.ref q_mo]) (n := 2) (Nat.le_of_ble_eq_true rfl)
  rw [lg_entry_eq]
  generalize (lg_sl ([.ref q_mo]) ++ List.replicate (2 - (lg_sl ([.ref q_mo])).length) Slot.unset).toArray = ls at hl ⊢
  replace hl : lv_has ls 2 [(0, .ref q_mo)] := hl
  have J_49 : ∀ (mi : Nat → Int32) (vnw : Nat → Int32) (vdi : Nat → Int32)  (H : Heap) (locs : List Loc) (ls : Array Slot), va_P (my_D Γ) vwCl (wModel Γ q_mo q_tt q_nw q_tr q_ot q_di q_kp q_ik q_wy q_ah q_tg q_ws q_fr q_rw mi vtt vnw vtr vot vdi vkp vik vwy vah vtg vws vfr vrw) H → va_D A (wModel Γ q_mo q_tt q_nw q_tr q_ot q_di q_kp q_ik q_wy q_ah q_tg q_ws q_fr q_rw mi vtt vnw vtr vot vdi vkp vik vwy vah vtg vws vfr vrw) → va_S A s.heap H locs → lv_has ls 2 [(0, .ref q_mo)] → mX9_remember_J49 mi vnw vdi = (some (mi_z, vdi_z)) → W p l e (headSpec wsX9_remember ({ frames := 1, cells := 0, slots := 0, locals := 24 } : Room)).room s m ([.ref q_mo] : List Value).toArray below meth c H locs 0 0 (MQ below (my_Q Γ A none (wModel Γ q_mo q_tt q_nw q_tr q_ot q_di q_kp q_ik q_wy q_ah q_tg q_ws q_fr q_rw mi_z vtt vnw vtr vot vdi_z vkp vik vwy vah vtg vws vfr vrw)) ([.ref q_mo] : List Value).toArray s 0 0 A) (F0 m 49 ls []) := by
    intro  mi vnw vdi H locs ls hP hD hS hl hm
    unfold mX9_remember_J49 at hm
    refine lv_aload_n hx hb dX9_remember_49 rfl (lv_at hl 0 rfl) ?_
    refine va_get (D := my_D Γ) (ci := 7) (v := .ref q_nw) (C := RX9) (T := TX9) (N := 19) hx hb hts hinX9 hown hK hP 0 rfl rfl 3 (by decide) (hts (.fieldLink RX9 13 "BeltFloorModel" "now" "[I") (List.mem_of_getElem? (i := 3) rfl)) (fun _ h9 => h9) rfl dX9_remember_50 ?_
    refine lv_iconst (v := (0 : Int32)) hx hb dX9_remember_53 (by decide) ?_
    refine lv_aload_n hx hb dX9_remember_54 rfl (lv_at hl 0 rfl) ?_
    refine va_get (D := my_D Γ) (ci := 7) (v := .ref q_di) (C := RX9) (T := TX9) (N := 19) hx hb hts hinX9 hown hK hP 0 rfl rfl 6 (by decide) (hts (.fieldLink RX9 22 "BeltFloorModel" "diary" "[I") (List.mem_of_getElem? (i := 2) rfl)) (fun _ h9 => h9) rfl dX9_remember_55 ?_
    refine lv_bipush (v := (117 : Int32)) hx hb dX9_remember_58 (by decide) ?_
    refine lv_aload_n hx hb dX9_remember_60 rfl (lv_at hl 0 rfl) ?_
    refine va_get (D := my_D Γ) (ci := 7) (v := .int (mi 7)) (C := RX9) (T := TX9) (N := 19) hx hb hts hinX9 hown hK hP 0 rfl rfl 7 (by decide) (hts (.fieldLink RX9 224 "BeltFloorModel" "acts" "I") (List.mem_of_getElem? (i := 1) rfl)) (fun _ h9 => h9) rfl dX9_remember_61 ?_
    refine lv_imul hx hb dX9_remember_64 ?_
    obtain ⟨vdi_2, hc_3, hm⟩ := bo1_s hm
    refine my_callP0 (wc := (wArr117 Γ q_nw vnw ++ wArr1638 Γ q_di vdi)) (w1 := (wArr117 Γ q_nw vnw ++ wArr1638 Γ q_di vdi_2)) (ws1 := (wModel Γ q_mo q_tt q_nw q_tr q_ot q_di q_kp q_ik q_wy q_ah q_tg q_ws q_fr q_rw mi vtt vnw vtr vot vdi_2 vkp vik vwy vah vtg vws vfr vrw)) hP hD hS hA [2, 5] rfl rfl rfl (va_runS (As := [.ref q_nw, .int (0 : Int32), .ref q_di, .int ((117 : Int32) * (mi 7))]) (rest := []) ⟨hx, hb, hml, hown, hts⟩ (kX9_copyState_117_1638 l Γ q_nw q_di vnw vdi (0 : Int32) ((117 : Int32) * (mi 7)) vdi_2 hc_3 _) (va_cwS 4 hts gX9_remember_X9_copyState rfl rfl rfl (by decide +kernel) ⟨Nat.le_of_ble_eq_true rfl, Nat.le_of_ble_eq_true rfl⟩) (my_preS (wc := (wArr117 Γ q_nw vnw ++ wArr1638 Γ q_di vdi)) [2, 5] hK hP hD rfl rfl) rfl rfl hl.1 rfl (lv_room (Nat.le_of_ble_eq_true rfl)) dX9_remember_65 ⟨Nat.le_of_ble_eq_true rfl, Nat.le_of_ble_eq_true rfl⟩) (fun H locs hP hD hS => ?_)
    refine lv_aload_n hx hb dX9_remember_68 rfl (lv_at hl 0 rfl) ?_
    refine lv_dup hx hb dX9_remember_69 rfl ?_
    refine va_get (D := my_D Γ) (ci := 7) (v := .int (mi 7)) (C := RX9) (T := TX9) (N := 19) hx hb hts hinX9 hown hK hP 0 rfl rfl 7 (by decide) (hts (.fieldLink RX9 224 "BeltFloorModel" "acts" "I") (List.mem_of_getElem? (i := 1) rfl)) (fun _ h9 => h9) rfl dX9_remember_70 ?_
    refine lv_iconst (v := (1 : Int32)) hx hb dX9_remember_73 (by decide) ?_
    refine lv_iadd hx hb dX9_remember_74 ?_
    refine lv_topi (fun y_4 ey_4 => ?_)
    refine va_put (D := my_D Γ) (ci := 7) (v := .int y_4) (ty := .int) (C := RX9) (T := TX9) (N := 19) hx hb hts hinX9 tyX9 tyX9_ok nmX9 hown hK hP hD hS 0 rfl rfl 7 (by decide) (hts (.fieldLink RX9 224 "BeltFloorModel" "acts" "I") (List.mem_of_getElem? (i := 1) rfl)) (fun _ h9 => h9) rfl (by decide +kernel) rfl rfl (Nat.le_of_ble_eq_true rfl) dX9_remember_75 (fun H locs hP hD hS => ?_)
    replace hP : va_P (my_D Γ) vwCl (wModel Γ q_mo q_tt q_nw q_tr q_ot q_di q_kp q_ik q_wy q_ah q_tg q_ws q_fr q_rw (upd mi 7 y_4) vtt vnw vtr vot vdi_2 vkp vik vwy vah vtg vws vfr vrw) H := hP
    replace hD : va_D A (wModel Γ q_mo q_tt q_nw q_tr q_ot q_di q_kp q_ik q_wy q_ah q_tg q_ws q_fr q_rw (upd mi 7 y_4) vtt vnw vtr vot vdi_2 vkp vik vwy vah vtg vws vfr vrw) := hD
    subst ey_4
    obtain ⟨hf0, hf1⟩ := si2 hm
    subst hf0
    subst hf1
    exact W.vret hx hb hr (fun t ht hW => ⟨⟨rfl, by rw [ht]; exact hP⟩, hS.F ht⟩) hS.2.2 dX9_remember_78
  have J_11 : ∀ n : Nat, ∀ (mi : Nat → Int32) (vnw : Nat → Int32) (vdi : Nat → Int32) (l1 : Int32) (H : Heap) (locs : List Loc) (ls : Array Slot), va_P (my_D Γ) vwCl (wModel Γ q_mo q_tt q_nw q_tr q_ot q_di q_kp q_ik q_wy q_ah q_tg q_ws q_fr q_rw mi vtt vnw vtr vot vdi vkp vik vwy vah vtg vws vfr vrw) H → va_D A (wModel Γ q_mo q_tt q_nw q_tr q_ot q_di q_kp q_ik q_wy q_ah q_tg q_ws q_fr q_rw mi vtt vnw vtr vot vdi vkp vik vwy vah vtg vws vfr vrw) → va_S A s.heap H locs → lv_has ls 2 [(0, .ref q_mo), (1, .int l1)] → mX9_remember_L11 n mi vnw vdi l1 = (some (mi_z, vdi_z)) → W p l e (headSpec wsX9_remember ({ frames := 1, cells := 0, slots := 0, locals := 24 } : Room)).room s m ([.ref q_mo] : List Value).toArray below meth c H locs 0 0 (MQ below (my_Q Γ A none (wModel Γ q_mo q_tt q_nw q_tr q_ot q_di q_kp q_ik q_wy q_ah q_tg q_ws q_fr q_rw mi_z vtt vnw vtr vot vdi_z vkp vik vwy vah vtg vws vfr vrw)) ([.ref q_mo] : List Value).toArray s 0 0 A) (F0 m 11 ls []) := by
    intro  n
    induction n with
    | zero => intro mi vnw vdi l1 H locs ls hP hD hS hl hm; cases hm
    | succ n ih =>
      intro mi vnw vdi l1 H locs ls hP hD hS hl hm
      unfold mX9_remember_L11 at hm
      refine lv_iload_n hx hb dX9_remember_11 rfl (lv_at hl 1 rfl) ?_
      refine lv_sipush (v := (1521 : Int32)) hx hb dX9_remember_12 (by decide) ?_
      refine lv_icmp_ge (tgt := 39) hx hb dX9_remember_15 (by decide) (fun c_5 => ?_) (fun c_5 => ?_)
      · replace hm := if_s hm c_5
        refine lv_aload_n hx hb dX9_remember_39 rfl (lv_at hl 0 rfl) ?_
        refine lv_dup hx hb dX9_remember_40 rfl ?_
        refine va_get (D := my_D Γ) (ci := 7) (v := .int (mi 7)) (C := RX9) (T := TX9) (N := 19) hx hb hts hinX9 hown hK hP 0 rfl rfl 7 (by decide) (hts (.fieldLink RX9 224 "BeltFloorModel" "acts" "I") (List.mem_of_getElem? (i := 1) rfl)) (fun _ h9 => h9) rfl dX9_remember_41 ?_
        refine lv_iconst (v := (1 : Int32)) hx hb dX9_remember_44 (by decide) ?_
        refine lv_isub hx hb dX9_remember_45 ?_
        refine lv_topi (fun y_6 ey_6 => ?_)
        refine va_put (D := my_D Γ) (ci := 7) (v := .int y_6) (ty := .int) (C := RX9) (T := TX9) (N := 19) hx hb hts hinX9 tyX9 tyX9_ok nmX9 hown hK hP hD hS 0 rfl rfl 7 (by decide) (hts (.fieldLink RX9 224 "BeltFloorModel" "acts" "I") (List.mem_of_getElem? (i := 1) rfl)) (fun _ h9 => h9) rfl (by decide +kernel) rfl rfl (Nat.le_of_ble_eq_true rfl) dX9_remember_46 (fun H locs hP hD hS => ?_)
        replace hP : va_P (my_D Γ) vwCl (wModel Γ q_mo q_tt q_nw q_tr q_ot q_di q_kp q_ik q_wy q_ah q_tg q_ws q_fr q_rw (upd mi 7 y_6) vtt vnw vtr vot vdi vkp vik vwy vah vtg vws vfr vrw) H := hP
        replace hD : va_D A (wModel Γ q_mo q_tt q_nw q_tr q_ot q_di q_kp q_ik q_wy q_ah q_tg q_ws q_fr q_rw (upd mi 7 y_6) vtt vnw vtr vot vdi vkp vik vwy vah vtg vws vfr vrw) := hD
        subst ey_6
        exact J_49 (upd mi 7 ((mi 7) - (1 : Int32))) vnw vdi _ _ _ hP hD hS (lv_sub hl [0] rfl) hm
      · replace hm := if_f hm c_5
        refine lv_aload_n hx hb dX9_remember_18 rfl (lv_at hl 0 rfl) ?_
        refine va_get (D := my_D Γ) (ci := 7) (v := .ref q_di) (C := RX9) (T := TX9) (N := 19) hx hb hts hinX9 hown hK hP 0 rfl rfl 6 (by decide) (hts (.fieldLink RX9 22 "BeltFloorModel" "diary" "[I") (List.mem_of_getElem? (i := 2) rfl)) (fun _ h9 => h9) rfl dX9_remember_19 ?_
        refine lv_iload_n hx hb dX9_remember_22 rfl (lv_at hl 1 rfl) ?_
        refine lv_aload_n hx hb dX9_remember_23 rfl (lv_at hl 0 rfl) ?_
        refine va_get (D := my_D Γ) (ci := 7) (v := .ref q_di) (C := RX9) (T := TX9) (N := 19) hx hb hts hinX9 hown hK hP 0 rfl rfl 6 (by decide) (hts (.fieldLink RX9 22 "BeltFloorModel" "diary" "[I") (List.mem_of_getElem? (i := 2) rfl)) (fun _ h9 => h9) rfl dX9_remember_24 ?_
        refine lv_iload_n hx hb dX9_remember_27 rfl (lv_at hl 1 rfl) ?_
        refine lv_bipush (v := (117 : Int32)) hx hb dX9_remember_28 (by decide) ?_
        refine lv_iadd hx hb dX9_remember_30 ?_
        obtain ⟨hi_7, hm⟩ := if_in hm
        refine va_iald hx hb hK hP 5 0 rfl rfl hi_7 dX9_remember_31 ?_
        obtain ⟨hi_8, hm⟩ := if_in hm
        refine lv_topi (fun y_9 ey_9 => ?_)
        refine va_iast hx hb hK hP hD hS 5 0 rfl rfl hi_8 dX9_remember_32 (fun H locs hP hD hS => ?_)
        replace hP : va_P (my_D Γ) vwCl (wModel Γ q_mo q_tt q_nw q_tr q_ot q_di q_kp q_ik q_wy q_ah q_tg q_ws q_fr q_rw mi vtt vnw vtr vot (upd vdi l1.toNatClampNeg y_9) vkp vik vwy vah vtg vws vfr vrw) H := hP
        replace hD : va_D A (wModel Γ q_mo q_tt q_nw q_tr q_ot q_di q_kp q_ik q_wy q_ah q_tg q_ws q_fr q_rw mi vtt vnw vtr vot (upd vdi l1.toNatClampNeg y_9) vkp vik vwy vah vtg vws vfr vrw) := hD
        subst ey_9
        refine lv_iinc (v := (l1 + (1 : Int32))) (lv' := [(1, .int (l1 + (1 : Int32))), (0, .ref q_mo)]) hx hb dX9_remember_33 hl (k := 1) rfl rfl (by decide) rfl (fun ls hl => ?_)
        refine lv_goto (tgt := 11) hx hb dX9_remember_36 (by decide) ?_
        exact ih mi vnw (upd vdi l1.toNatClampNeg (vdi (l1 + (117 : Int32)).toNatClampNeg)) (l1 + (1 : Int32)) _ _ _ hP hD hS (lv_sub hl [1, 0] rfl) hm
  unfold mX9_remember at hm
  refine lv_aload_n hx hb dX9_remember_0 rfl (lv_at hl 0 rfl) ?_
  refine va_get (D := my_D Γ) (ci := 7) (v := .int (mi 7)) (C := RX9) (T := TX9) (N := 19) hx hb hts hinX9 hown hK hP 0 rfl rfl 7 (by decide) (hts (.fieldLink RX9 224 "BeltFloorModel" "acts" "I") (List.mem_of_getElem? (i := 1) rfl)) (fun _ h9 => h9) rfl dX9_remember_1 ?_
  refine lv_bipush (v := (14 : Int32)) hx hb dX9_remember_4 (by decide) ?_
  refine lv_icmp_ne (tgt := 49) hx hb dX9_remember_6 (by decide) (fun c_1 => ?_) (fun c_1 => ?_)
  · replace hm := if_f hm c_1
    exact J_49 mi vnw vdi _ _ _ hP hD hS (lv_sub hl [0] rfl) hm
  · replace hm := if_s hm c_1
    refine lv_iconst (v := (0 : Int32)) hx hb dX9_remember_9 (by decide) ?_
    refine lv_istore_n (lv' := [(1, .int (0 : Int32)), (0, .ref q_mo)]) hx hb dX9_remember_10 rfl hl (by decide) rfl (fun ls hl => ?_)
    exact J_11 4096 mi vnw vdi (0 : Int32) _ _ _ hP hD hS (lv_sub hl [1, 0] rfl) hm
def mX9_loop_L44  : Nat → (Nat → Int32) → (Nat → Int32) → (Nat → Int32) → (Nat → Int32) → (Nat → Int32) → (Nat → Int32) → (Nat → Int32) → (Nat → Int32) → Int32 → Option (Int32 × (Nat → Int32) × (Nat → Int32) × (Nat → Int32) × (Nat → Int32) × (Nat → Int32) × (Nat → Int32) × (Nat → Int32))
  | 0, _, _, _, _, _, _, _, _, _ => none
  | n + 1, mi, vnw, vtr, vot, vwy, vah, vtg, vws, l1 => (if (120 : Int32) < l1 then (some ((-1 : Int32), mi, vtr, vot, vwy, vah, vtg, vws)) else (bo6 (mX9_one vwy vah vtg vws vtr) (fun r_13 vwy_14 vah_15 vtg_16 vws_17 vtr_18 => (bo1 (mX9_areLike vtr_18 vot) (fun r_20 => (if r_20 = 0 then (mX9_loop_L44 n mi vnw vtr_18 vot vwy_14 vah_15 vtg_16 vws_17 (l1 + (1 : Int32))) else (some (l1, mi, vtr_18, vot, vwy_14, vah_15, vtg_16, vws_17))))))))
def mX9_loop (mi : Nat → Int32) (vnw : Nat → Int32) (vtr : Nat → Int32) (vot : Nat → Int32) (vwy : Nat → Int32) (vah : Nat → Int32) (vtg : Nat → Int32) (vws : Nat → Int32) : Option (Int32 × (Nat → Int32) × (Nat → Int32) × (Nat → Int32) × (Nat → Int32) × (Nat → Int32) × (Nat → Int32) × (Nat → Int32)) := (bo1 (mX9_copyState_117_117 vnw vtr (0 : Int32) (0 : Int32)) (fun vtr_1 => (bo6 (mX9_stepOn vwy vah vtg vws vtr_1 (120 : Int32)) (fun r_3 vwy_4 vah_5 vtg_6 vws_7 vtr_8 => (bo1 (mX9_copyState_117_117 vtr_8 vot (0 : Int32) (0 : Int32)) (fun vot_10 => (mX9_loop_L44 4096 (upd mi 0 (0 : Int32)) vnw vtr_8 vot_10 vwy_4 vah_5 vtg_6 vws_7 (1 : Int32))))))))
set_option maxHeartbeats 4000000 in
set_option maxRecDepth 100000 in
theorem kX9_loop (l : Launch) (Γ : my_G) (q_mo q_tt q_nw q_tr q_ot q_di q_kp q_ik q_wy q_ah q_tg q_ws q_fr q_rw : Nat) (mi : Nat → Int32) (vtt : Nat → Int32) (vnw : Nat → Int32) (vtr : Nat → Int32) (vot : Nat → Int32) (vdi : Nat → Int32) (vkp : Nat → Int32) (vik : Nat → Int32) (vwy : Nat → Int32) (vah : Nat → Int32) (vtg : Nat → Int32) (vws : Nat → Int32) (vfr : Nat → Int32) (vrw : Nat → Int32)  (rr : Int32) (mi_z : Nat → Int32) (vtr_z : Nat → Int32) (vot_z : Nat → Int32) (vwy_z : Nat → Int32) (vah_z : Nat → Int32) (vtg_z : Nat → Int32) (vws_z : Nat → Int32) (hm : mX9_loop mi vnw vtr vot vwy vah vtg vws = (some (rr, mi_z, vtr_z, vot_z, vwy_z, vah_z, vtg_z, vws_z))) : Mn l yX9_loop wsX9_loop ({ frames := 8, cells := 0, slots := 0, locals := 179 } : Room) Γ [.ref q_mo] (wModel Γ q_mo q_tt q_nw q_tr q_ot q_di q_kp q_ik q_wy q_ah q_tg q_ws q_fr q_rw mi vtt vnw vtr vot vdi vkp vik vwy vah vtg vws vfr vrw) (some (.int rr)) (wModel Γ q_mo q_tt q_nw q_tr q_ot q_di q_kp q_ik q_wy q_ah q_tg q_ws q_fr q_rw mi_z vtt vnw vtr_z vot_z vdi vkp vik vwy_z vah_z vtg_z vws_z vfr vrw) := by
  intro sz
  refine Met.ofW (cc := cX9_loop) (maxL := 2) (ret := (some .int)) (by decide) rfl ?_
  intro p e s m args below meth c s₁ B hml hv
  obtain ⟨rfl, hsz, hP, hK, hD0⟩ := hv
  have hx := B.exec
  have hb := B.bytes
  have hr := B.returns
  have hts := atoms_spec (ws := wsX9_loop) B.pre
  have hown : s.vm.findClass RX9 = some m.cls := findClass_of_methodNamed B.named
  have hlocks := B.notSynchronized
  have hinX9 : ∀ w ∈ u_ws RX9 TX9 19, w ∈ wsX9_loop := fun w h => List.mem_cons_of_mem _ (List.mem_append_right _ h)
  subst hsz
  have hD := hD0.self (sz := s.heap.size)
  have hA : ∀ q : Nat, s.heap.size ≤ q → va_A (wModel Γ q_mo q_tt q_nw q_tr q_ot q_di q_kp q_ik q_wy q_ah q_tg q_ws q_fr q_rw mi vtt vnw vtr vot vdi vkp vik vwy vah vtg vws vfr vrw) s.heap.size q := fun q h => Or.inr h
  generalize va_A (wModel Γ q_mo q_tt q_nw q_tr q_ot q_di q_kp q_ik q_wy q_ah q_tg q_ws q_fr q_rw mi vtt vnw vtr vot vdi vkp vik vwy vah vtg vws vfr vrw) s.heap.size = A at hD hA ⊢
  have hS : va_S A s.heap s.heap [] := va_S.rf
  have hl := lv_entry ([.ref q_mo]) (n := 2) (Nat.le_of_ble_eq_true rfl)
  rw [lg_entry_eq]
  generalize (lg_sl ([.ref q_mo]) ++ List.replicate (2 - (lg_sl ([.ref q_mo])).length) Slot.unset).toArray = ls at hl ⊢
  replace hl : lv_has ls 2 [(0, .ref q_mo)] := hl
  have J_44 : ∀ n : Nat, ∀ (mi : Nat → Int32) (vnw : Nat → Int32) (vtr : Nat → Int32) (vot : Nat → Int32) (vwy : Nat → Int32) (vah : Nat → Int32) (vtg : Nat → Int32) (vws : Nat → Int32) (l1 : Int32) (H : Heap) (locs : List Loc) (ls : Array Slot), va_P (my_D Γ) vwCl (wModel Γ q_mo q_tt q_nw q_tr q_ot q_di q_kp q_ik q_wy q_ah q_tg q_ws q_fr q_rw mi vtt vnw vtr vot vdi vkp vik vwy vah vtg vws vfr vrw) H → va_D A (wModel Γ q_mo q_tt q_nw q_tr q_ot q_di q_kp q_ik q_wy q_ah q_tg q_ws q_fr q_rw mi vtt vnw vtr vot vdi vkp vik vwy vah vtg vws vfr vrw) → va_S A s.heap H locs → lv_has ls 2 [(0, .ref q_mo), (1, .int l1)] → mX9_loop_L44 n mi vnw vtr vot vwy vah vtg vws l1 = (some (rr, mi_z, vtr_z, vot_z, vwy_z, vah_z, vtg_z, vws_z)) → W p l e (headSpec wsX9_loop ({ frames := 8, cells := 0, slots := 0, locals := 179 } : Room)).room s m ([.ref q_mo] : List Value).toArray below meth c H locs 0 0 (MQ below (my_Q Γ A (some (.int rr)) (wModel Γ q_mo q_tt q_nw q_tr q_ot q_di q_kp q_ik q_wy q_ah q_tg q_ws q_fr q_rw mi_z vtt vnw vtr_z vot_z vdi vkp vik vwy_z vah_z vtg_z vws_z vfr vrw)) ([.ref q_mo] : List Value).toArray s 0 0 A) (F0 m 44 ls []) := by
    intro  n
    induction n with
    | zero => intro mi vnw vtr vot vwy vah vtg vws l1 H locs ls hP hD hS hl hm; cases hm
    | succ n ih =>
      intro mi vnw vtr vot vwy vah vtg vws l1 H locs ls hP hD hS hl hm
      unfold mX9_loop_L44 at hm
      refine lv_iload_n hx hb dX9_loop_44 rfl (lv_at hl 1 rfl) ?_
      refine lv_bipush (v := (120 : Int32)) hx hb dX9_loop_45 (by decide) ?_
      refine lv_icmp_gt (tgt := 81) hx hb dX9_loop_47 (by decide) (fun c_12 => ?_) (fun c_12 => ?_)
      · replace hm := if_s hm c_12
        refine lv_iconst (v := (-1 : Int32)) hx hb dX9_loop_81 (by decide) ?_
        obtain ⟨hf0, hf1, hf2, hf3, hf4, hf5, hf6, hf7⟩ := si8 hm
        subst hf0
        subst hf1
        subst hf2
        subst hf3
        subst hf4
        subst hf5
        subst hf6
        subst hf7
        exact W.iret (v := (-1 : Int32)) hx hb hr (fun t ht hW => ⟨⟨rfl, by rw [ht]; exact hP⟩, hS.F ht⟩) hS.2.2 dX9_loop_82
      · replace hm := if_f hm c_12
        refine lv_aload_n hx hb dX9_loop_50 rfl (lv_at hl 0 rfl) ?_
        refine lv_aload_n hx hb dX9_loop_51 rfl (lv_at hl 0 rfl) ?_
        refine va_get (D := my_D Γ) (ci := 7) (v := .ref q_tr) (C := RX9) (T := TX9) (N := 19) hx hb hts hinX9 hown hK hP 0 rfl rfl 4 (by decide) (hts (.fieldLink RX9 16 "BeltFloorModel" "trial" "[I") (List.mem_of_getElem? (i := 3) rfl)) (fun _ h9 => h9) rfl dX9_loop_52 ?_
        obtain ⟨r_13, vwy_14, vah_15, vtg_16, vws_17, vtr_18, hc_19, hm⟩ := bo6_s hm
        refine my_callP1 (wc := (wStep Γ q_mo q_wy q_ah q_tg q_ws q_tr q_tt q_nw q_tr q_ot q_di q_kp q_ik q_fr q_rw mi vwy vah vtg vws vtr)) (w1 := (wStep Γ q_mo q_wy q_ah q_tg q_ws q_tr q_tt q_nw q_tr q_ot q_di q_kp q_ik q_fr q_rw mi vwy_14 vah_15 vtg_16 vws_17 vtr_18)) (ws1 := (wModel Γ q_mo q_tt q_nw q_tr q_ot q_di q_kp q_ik q_wy q_ah q_tg q_ws q_fr q_rw mi vtt vnw vtr_18 vot vdi vkp vik vwy_14 vah_15 vtg_16 vws_17 vfr vrw)) hP hD hS hA [0, 8, 9, 10, 11, 3] rfl rfl rfl (va_runV (As := [.ref q_tr]) (rest := []) ⟨hx, hb, hml, hown, hts⟩ (kX9_one l Γ q_mo q_wy q_ah q_tg q_ws q_tr q_tt q_nw q_tr q_ot q_di q_kp q_ik q_fr q_rw mi vwy vah vtg vws vtr r_13 vwy_14 vah_15 vtg_16 vws_17 vtr_18 hc_19 _) (cwV 1 hts gX9_loop_X9_one rfl rfl rfl (by decide +kernel) ⟨Nat.le_of_ble_eq_true rfl, Nat.le_of_ble_eq_true rfl⟩) (my_preV (wc := (wStep Γ q_mo q_wy q_ah q_tg q_ws q_tr q_tt q_nw q_tr q_ot q_di q_kp q_ik q_fr q_rw mi vwy vah vtg vws vtr)) (ci := 7) (q0 := 0) [0, 8, 9, 10, 11, 3] hK hP hD rfl rfl rfl rfl) rfl rfl hl.1 rfl (lv_room (Nat.le_of_ble_eq_true rfl)) dX9_loop_55 ⟨Nat.le_of_ble_eq_true rfl, Nat.le_of_ble_eq_true rfl⟩) (fun H locs hP hD hS => ?_)
        refine lv_pop hx hb dX9_loop_58 rfl ?_
        refine lv_aload_n hx hb dX9_loop_59 rfl (lv_at hl 0 rfl) ?_
        refine va_get (D := my_D Γ) (ci := 7) (v := .ref q_tr) (C := RX9) (T := TX9) (N := 19) hx hb hts hinX9 hown hK hP 0 rfl rfl 4 (by decide) (hts (.fieldLink RX9 16 "BeltFloorModel" "trial" "[I") (List.mem_of_getElem? (i := 3) rfl)) (fun _ h9 => h9) rfl dX9_loop_60 ?_
        refine lv_aload_n hx hb dX9_loop_63 rfl (lv_at hl 0 rfl) ?_
        refine va_get (D := my_D Γ) (ci := 7) (v := .ref q_ot) (C := RX9) (T := TX9) (N := 19) hx hb hts hinX9 hown hK hP 0 rfl rfl 5 (by decide) (hts (.fieldLink RX9 19 "BeltFloorModel" "other" "[I") (List.mem_of_getElem? (i := 4) rfl)) (fun _ h9 => h9) rfl dX9_loop_64 ?_
        obtain ⟨r_20, hc_21, hm⟩ := bo1_s hm
        refine my_callP1 (wc := (wArr117 Γ q_tr vtr_18 ++ wArr117 Γ q_ot vot)) (w1 := (wArr117 Γ q_tr vtr_18 ++ wArr117 Γ q_ot vot)) (ws1 := (wModel Γ q_mo q_tt q_nw q_tr q_ot q_di q_kp q_ik q_wy q_ah q_tg q_ws q_fr q_rw mi vtt vnw vtr_18 vot vdi vkp vik vwy_14 vah_15 vtg_16 vws_17 vfr vrw)) hP hD hS hA [3, 4] rfl rfl rfl (va_runS (As := [.ref q_tr, .ref q_ot]) (rest := []) ⟨hx, hb, hml, hown, hts⟩ (kX9_areLike l Γ q_tr q_ot vtr_18 vot r_20 hc_21 _) (va_cwS 2 hts gX9_loop_X9_areLike rfl rfl rfl (by decide +kernel) ⟨Nat.le_of_ble_eq_true rfl, Nat.le_of_ble_eq_true rfl⟩) (my_preS (wc := (wArr117 Γ q_tr vtr_18 ++ wArr117 Γ q_ot vot)) [3, 4] hK hP hD rfl rfl) rfl rfl hl.1 rfl (lv_room (Nat.le_of_ble_eq_true rfl)) dX9_loop_67 ⟨Nat.le_of_ble_eq_true rfl, Nat.le_of_ble_eq_true rfl⟩) (fun H locs hP hD hS => ?_)
        refine lv_if_eq (tgt := 75) hx hb dX9_loop_70 (by decide) (fun c_22 => ?_) (fun c_22 => ?_)
        · replace hm := if_s hm c_22
          refine lv_iinc (v := (l1 + (1 : Int32))) (lv' := [(1, .int (l1 + (1 : Int32))), (0, .ref q_mo)]) hx hb dX9_loop_75 hl (k := 1) rfl rfl (by decide) rfl (fun ls hl => ?_)
          refine lv_goto (tgt := 44) hx hb dX9_loop_78 (by decide) ?_
          exact ih mi vnw vtr_18 vot vwy_14 vah_15 vtg_16 vws_17 (l1 + (1 : Int32)) _ _ _ hP hD hS (lv_sub hl [1, 0] rfl) hm
        · replace hm := if_f hm c_22
          refine lv_iload_n hx hb dX9_loop_73 rfl (lv_at hl 1 rfl) ?_
          obtain ⟨hf0, hf1, hf2, hf3, hf4, hf5, hf6, hf7⟩ := si8 hm
          subst hf0
          subst hf1
          subst hf2
          subst hf3
          subst hf4
          subst hf5
          subst hf6
          subst hf7
          exact W.iret (v := l1) hx hb hr (fun t ht hW => ⟨⟨rfl, by rw [ht]; exact hP⟩, hS.F ht⟩) hS.2.2 dX9_loop_74
  unfold mX9_loop at hm
  refine lv_aload_n hx hb dX9_loop_0 rfl (lv_at hl 0 rfl) ?_
  refine lv_iconst (v := (0 : Int32)) hx hb dX9_loop_1 (by decide) ?_
  refine va_put (D := my_D Γ) (ci := 7) (v := .int (0 : Int32)) (ty := .int) (C := RX9) (T := TX9) (N := 19) hx hb hts hinX9 tyX9 tyX9_ok nmX9 hown hK hP hD hS 0 rfl rfl 0 (by decide) (hts (.fieldLink RX9 54 "BeltFloorModel" "refusal" "I") (List.mem_of_getElem? (i := 1) rfl)) (fun _ h9 => h9) rfl (by decide +kernel) rfl rfl (Nat.le_of_ble_eq_true rfl) dX9_loop_2 (fun H locs hP hD hS => ?_)
  replace hP : va_P (my_D Γ) vwCl (wModel Γ q_mo q_tt q_nw q_tr q_ot q_di q_kp q_ik q_wy q_ah q_tg q_ws q_fr q_rw (upd mi 0 (0 : Int32)) vtt vnw vtr vot vdi vkp vik vwy vah vtg vws vfr vrw) H := hP
  replace hD : va_D A (wModel Γ q_mo q_tt q_nw q_tr q_ot q_di q_kp q_ik q_wy q_ah q_tg q_ws q_fr q_rw (upd mi 0 (0 : Int32)) vtt vnw vtr vot vdi vkp vik vwy vah vtg vws vfr vrw) := hD
  refine lv_aload_n hx hb dX9_loop_5 rfl (lv_at hl 0 rfl) ?_
  refine va_get (D := my_D Γ) (ci := 7) (v := .ref q_nw) (C := RX9) (T := TX9) (N := 19) hx hb hts hinX9 hown hK hP 0 rfl rfl 3 (by decide) (hts (.fieldLink RX9 13 "BeltFloorModel" "now" "[I") (List.mem_of_getElem? (i := 2) rfl)) (fun _ h9 => h9) rfl dX9_loop_6 ?_
  refine lv_iconst (v := (0 : Int32)) hx hb dX9_loop_9 (by decide) ?_
  refine lv_aload_n hx hb dX9_loop_10 rfl (lv_at hl 0 rfl) ?_
  refine va_get (D := my_D Γ) (ci := 7) (v := .ref q_tr) (C := RX9) (T := TX9) (N := 19) hx hb hts hinX9 hown hK hP 0 rfl rfl 4 (by decide) (hts (.fieldLink RX9 16 "BeltFloorModel" "trial" "[I") (List.mem_of_getElem? (i := 3) rfl)) (fun _ h9 => h9) rfl dX9_loop_11 ?_
  refine lv_iconst (v := (0 : Int32)) hx hb dX9_loop_14 (by decide) ?_
  obtain ⟨vtr_1, hc_2, hm⟩ := bo1_s hm
  refine my_callP0 (wc := (wArr117 Γ q_nw vnw ++ wArr117 Γ q_tr vtr)) (w1 := (wArr117 Γ q_nw vnw ++ wArr117 Γ q_tr vtr_1)) (ws1 := (wModel Γ q_mo q_tt q_nw q_tr q_ot q_di q_kp q_ik q_wy q_ah q_tg q_ws q_fr q_rw (upd mi 0 (0 : Int32)) vtt vnw vtr_1 vot vdi vkp vik vwy vah vtg vws vfr vrw)) hP hD hS hA [2, 3] rfl rfl rfl (va_runS (As := [.ref q_nw, .int (0 : Int32), .ref q_tr, .int (0 : Int32)]) (rest := []) ⟨hx, hb, hml, hown, hts⟩ (kX9_copyState_117_117 l Γ q_nw q_tr vnw vtr (0 : Int32) (0 : Int32) vtr_1 hc_2 _) (va_cwS 4 hts gX9_loop_X9_copyState rfl rfl rfl (by decide +kernel) ⟨Nat.le_of_ble_eq_true rfl, Nat.le_of_ble_eq_true rfl⟩) (my_preS (wc := (wArr117 Γ q_nw vnw ++ wArr117 Γ q_tr vtr)) [2, 3] hK hP hD rfl rfl) rfl rfl hl.1 rfl (lv_room (Nat.le_of_ble_eq_true rfl)) dX9_loop_15 ⟨Nat.le_of_ble_eq_true rfl, Nat.le_of_ble_eq_true rfl⟩) (fun H locs hP hD hS => ?_)
  refine lv_aload_n hx hb dX9_loop_18 rfl (lv_at hl 0 rfl) ?_
  refine lv_aload_n hx hb dX9_loop_19 rfl (lv_at hl 0 rfl) ?_
  refine va_get (D := my_D Γ) (ci := 7) (v := .ref q_tr) (C := RX9) (T := TX9) (N := 19) hx hb hts hinX9 hown hK hP 0 rfl rfl 4 (by decide) (hts (.fieldLink RX9 16 "BeltFloorModel" "trial" "[I") (List.mem_of_getElem? (i := 3) rfl)) (fun _ h9 => h9) rfl dX9_loop_20 ?_
  refine lv_bipush (v := (120 : Int32)) hx hb dX9_loop_23 (by decide) ?_
  obtain ⟨r_3, vwy_4, vah_5, vtg_6, vws_7, vtr_8, hc_9, hm⟩ := bo6_s hm
  refine my_callP1 (wc := (wStep Γ q_mo q_wy q_ah q_tg q_ws q_tr q_tt q_nw q_tr q_ot q_di q_kp q_ik q_fr q_rw (upd mi 0 (0 : Int32)) vwy vah vtg vws vtr_1)) (w1 := (wStep Γ q_mo q_wy q_ah q_tg q_ws q_tr q_tt q_nw q_tr q_ot q_di q_kp q_ik q_fr q_rw (upd mi 0 (0 : Int32)) vwy_4 vah_5 vtg_6 vws_7 vtr_8)) (ws1 := (wModel Γ q_mo q_tt q_nw q_tr q_ot q_di q_kp q_ik q_wy q_ah q_tg q_ws q_fr q_rw (upd mi 0 (0 : Int32)) vtt vnw vtr_8 vot vdi vkp vik vwy_4 vah_5 vtg_6 vws_7 vfr vrw)) hP hD hS hA [0, 8, 9, 10, 11, 3] rfl rfl rfl (va_runV (As := [.ref q_tr, .int (120 : Int32)]) (rest := []) ⟨hx, hb, hml, hown, hts⟩ (kX9_stepOn l Γ q_mo q_wy q_ah q_tg q_ws q_tr q_tt q_nw q_tr q_ot q_di q_kp q_ik q_fr q_rw (upd mi 0 (0 : Int32)) vwy vah vtg vws vtr_1 (120 : Int32) r_3 vwy_4 vah_5 vtg_6 vws_7 vtr_8 hc_9 _) (cwV 2 hts gX9_loop_X9_stepOn rfl rfl rfl (by decide +kernel) ⟨Nat.le_of_ble_eq_true rfl, Nat.le_of_ble_eq_true rfl⟩) (my_preV (wc := (wStep Γ q_mo q_wy q_ah q_tg q_ws q_tr q_tt q_nw q_tr q_ot q_di q_kp q_ik q_fr q_rw (upd mi 0 (0 : Int32)) vwy vah vtg vws vtr_1)) (ci := 7) (q0 := 0) [0, 8, 9, 10, 11, 3] hK hP hD rfl rfl rfl rfl) rfl rfl hl.1 rfl (lv_room (Nat.le_of_ble_eq_true rfl)) dX9_loop_25 ⟨Nat.le_of_ble_eq_true rfl, Nat.le_of_ble_eq_true rfl⟩) (fun H locs hP hD hS => ?_)
  refine lv_pop hx hb dX9_loop_28 rfl ?_
  refine lv_aload_n hx hb dX9_loop_29 rfl (lv_at hl 0 rfl) ?_
  refine va_get (D := my_D Γ) (ci := 7) (v := .ref q_tr) (C := RX9) (T := TX9) (N := 19) hx hb hts hinX9 hown hK hP 0 rfl rfl 4 (by decide) (hts (.fieldLink RX9 16 "BeltFloorModel" "trial" "[I") (List.mem_of_getElem? (i := 3) rfl)) (fun _ h9 => h9) rfl dX9_loop_30 ?_
  refine lv_iconst (v := (0 : Int32)) hx hb dX9_loop_33 (by decide) ?_
  refine lv_aload_n hx hb dX9_loop_34 rfl (lv_at hl 0 rfl) ?_
  refine va_get (D := my_D Γ) (ci := 7) (v := .ref q_ot) (C := RX9) (T := TX9) (N := 19) hx hb hts hinX9 hown hK hP 0 rfl rfl 5 (by decide) (hts (.fieldLink RX9 19 "BeltFloorModel" "other" "[I") (List.mem_of_getElem? (i := 4) rfl)) (fun _ h9 => h9) rfl dX9_loop_35 ?_
  refine lv_iconst (v := (0 : Int32)) hx hb dX9_loop_38 (by decide) ?_
  obtain ⟨vot_10, hc_11, hm⟩ := bo1_s hm
  refine my_callP0 (wc := (wArr117 Γ q_tr vtr_8 ++ wArr117 Γ q_ot vot)) (w1 := (wArr117 Γ q_tr vtr_8 ++ wArr117 Γ q_ot vot_10)) (ws1 := (wModel Γ q_mo q_tt q_nw q_tr q_ot q_di q_kp q_ik q_wy q_ah q_tg q_ws q_fr q_rw (upd mi 0 (0 : Int32)) vtt vnw vtr_8 vot_10 vdi vkp vik vwy_4 vah_5 vtg_6 vws_7 vfr vrw)) hP hD hS hA [3, 4] rfl rfl rfl (va_runS (As := [.ref q_tr, .int (0 : Int32), .ref q_ot, .int (0 : Int32)]) (rest := []) ⟨hx, hb, hml, hown, hts⟩ (kX9_copyState_117_117 l Γ q_tr q_ot vtr_8 vot (0 : Int32) (0 : Int32) vot_10 hc_11 _) (va_cwS 4 hts gX9_loop_X9_copyState rfl rfl rfl (by decide +kernel) ⟨Nat.le_of_ble_eq_true rfl, Nat.le_of_ble_eq_true rfl⟩) (my_preS (wc := (wArr117 Γ q_tr vtr_8 ++ wArr117 Γ q_ot vot)) [3, 4] hK hP hD rfl rfl) rfl rfl hl.1 rfl (lv_room (Nat.le_of_ble_eq_true rfl)) dX9_loop_39 ⟨Nat.le_of_ble_eq_true rfl, Nat.le_of_ble_eq_true rfl⟩) (fun H locs hP hD hS => ?_)
  refine lv_iconst (v := (1 : Int32)) hx hb dX9_loop_42 (by decide) ?_
  refine lv_istore_n (lv' := [(1, .int (1 : Int32)), (0, .ref q_mo)]) hx hb dX9_loop_43 rfl hl (by decide) rfl (fun ls hl => ?_)
  exact J_44 4096 (upd mi 0 (0 : Int32)) vnw vtr_8 vot_10 vwy_4 vah_5 vtg_6 vws_7 (1 : Int32) _ _ _ hP hD hS (lv_sub hl [1, 0] rfl) hm
def mX9_fewest_J202 (k94 : (Nat → Int32) → (Nat → Int32) → (Nat → Int32) → (Nat → Int32) → Int32 → Int32 → Int32 → Option (Int32 × (Nat → Int32) × (Nat → Int32) × (Nat → Int32))) (k129 : (Nat → Int32) → (Nat → Int32) → (Nat → Int32) → (Nat → Int32) → Int32 → Int32 → Int32 → Int32 → Option (Int32 × (Nat → Int32) × (Nat → Int32) × (Nat → Int32))) (mi : Nat → Int32) (vnw : Nat → Int32) (vfr : Nat → Int32) (vrw : Nat → Int32) (l2 : Int32) (l3 : Int32) (l4 : Int32) (l5 : Int32) : Option (Int32 × (Nat → Int32) × (Nat → Int32) × (Nat → Int32)) := (k129 mi vnw vfr vrw l2 l3 l4 (l5 + (1 : Int32)))
def mX9_fewest_L129 (k94 : (Nat → Int32) → (Nat → Int32) → (Nat → Int32) → (Nat → Int32) → Int32 → Int32 → Int32 → Option (Int32 × (Nat → Int32) × (Nat → Int32) × (Nat → Int32))) : Nat → (Nat → Int32) → (Nat → Int32) → (Nat → Int32) → (Nat → Int32) → Int32 → Int32 → Int32 → Int32 → Option (Int32 × (Nat → Int32) × (Nat → Int32) × (Nat → Int32))
  | 0, _, _, _, _, _, _, _, _ => none
  | n + 1, mi, vnw, vfr, vrw, l2, l3, l4, l5 => (if (5 : Int32) ≤ l5 then (k94 mi vnw vfr vrw l2 l3 (l4 + (1 : Int32))) else (if ¬ (l4 < 0 ∨ 144 ≤ l4.toNatClampNeg) then (bo1 (mX9_brings vnw (vrw l4.toNatClampNeg) l5) (fun r_18 => (if r_18 = (-1 : Int32) then (mX9_fewest_J202 k94 (fun mi vnw vfr vrw l2 l3 l4 l5 => mX9_fewest_L129 k94 n mi vnw vfr vrw l2 l3 l4 l5) mi vnw vfr vrw l2 l3 l4 l5) else (if ¬ (r_18 < 0 ∨ 144 ≤ r_18.toNatClampNeg) then (if (vfr r_18.toNatClampNeg) = (-1 : Int32) then (if ¬ ((vrw l4.toNatClampNeg) < 0 ∨ 144 ≤ (vrw l4.toNatClampNeg).toNatClampNeg) then (if ¬ (l3 < 0 ∨ 144 ≤ l3.toNatClampNeg) then (mX9_fewest_J202 k94 (fun mi vnw vfr vrw l2 l3 l4 l5 => mX9_fewest_L129 k94 n mi vnw vfr vrw l2 l3 l4 l5) mi vnw (upd vfr r_18.toNatClampNeg ((vfr (vrw l4.toNatClampNeg).toNatClampNeg) + (1 : Int32))) (upd vrw l3.toNatClampNeg r_18) l2 (l3 + (1 : Int32)) l4 l5) else none) else none) else (mX9_fewest_J202 k94 (fun mi vnw vfr vrw l2 l3 l4 l5 => mX9_fewest_L129 k94 n mi vnw vfr vrw l2 l3 l4 l5) mi vnw vfr vrw l2 l3 l4 l5)) else none)))) else none))
def mX9_fewest_L94  : Nat → (Nat → Int32) → (Nat → Int32) → (Nat → Int32) → (Nat → Int32) → Int32 → Int32 → Int32 → Option (Int32 × (Nat → Int32) × (Nat → Int32) × (Nat → Int32))
  | 0, _, _, _, _, _, _, _ => none
  | n + 1, mi, vnw, vfr, vrw, l2, l3, l4 => (if l3 ≤ l4 then (some ((-1 : Int32), mi, vfr, vrw)) else (if ¬ (l4 < 0 ∨ 144 ≤ l4.toNatClampNeg) then (if ((vrw l4.toNatClampNeg) / (4 : Int32)) = l2 then (if ¬ ((vrw l4.toNatClampNeg) < 0 ∨ 144 ≤ (vrw l4.toNatClampNeg).toNatClampNeg) then (some ((vfr (vrw l4.toNatClampNeg).toNatClampNeg), mi, vfr, vrw)) else none) else (mX9_fewest_L129 (fun mi vnw vfr vrw l2 l3 l4 => mX9_fewest_L94 n mi vnw vfr vrw l2 l3 l4) 4096 mi vnw vfr vrw l2 l3 l4 (0 : Int32))) else none))
def mX9_fewest_L30  : Nat → (Nat → Int32) → (Nat → Int32) → (Nat → Int32) → (Nat → Int32) → Int32 → Int32 → Int32 → Option (Int32 × (Nat → Int32) × (Nat → Int32) × (Nat → Int32))
  | 0, _, _, _, _, _, _, _ => none
  | n + 1, mi, vnw, vfr, vrw, l1, l2, l3 => (if (144 : Int32) ≤ l3 then (bo1 (mX9_of vnw l1 (0 : Int32)) (fun r_7 => (bo1 (mX9_of vnw l1 (1 : Int32)) (fun r_9 => (if ¬ (((upd vrw (0 : Int32).toNatClampNeg (((4 : Int32) * r_7) + r_9)) (0 : Int32).toNatClampNeg) < 0 ∨ 144 ≤ ((upd vrw (0 : Int32).toNatClampNeg (((4 : Int32) * r_7) + r_9)) (0 : Int32).toNatClampNeg).toNatClampNeg) then (mX9_fewest_L94 4096 mi vnw (upd vfr ((upd vrw (0 : Int32).toNatClampNeg (((4 : Int32) * r_7) + r_9)) (0 : Int32).toNatClampNeg).toNatClampNeg (0 : Int32)) (upd vrw (0 : Int32).toNatClampNeg (((4 : Int32) * r_7) + r_9)) l2 (1 : Int32) (0 : Int32)) else none))))) else (if ¬ (l3 < 0 ∨ 144 ≤ l3.toNatClampNeg) then (mX9_fewest_L30 n mi vnw (upd vfr l3.toNatClampNeg (-1 : Int32)) vrw l1 l2 (l3 + (1 : Int32))) else none))
def mX9_fewest_J20  (mi : Nat → Int32) (vnw : Nat → Int32) (vfr : Nat → Int32) (vrw : Nat → Int32) (l1 : Int32) (l2 : Int32) (s1 : Int32) : Option (Int32 × (Nat → Int32) × (Nat → Int32) × (Nat → Int32)) := (bt2 (mX9_refused mi s1) (fun r_2 mi_3 => (if r_2 = 0 then (mX9_fewest_L30 4096 mi_3 vnw vfr vrw l1 l2 (0 : Int32)) else (some ((0 : Int32), mi_3, vfr, vrw)))))
def mX9_fewest_J19  (mi : Nat → Int32) (vnw : Nat → Int32) (vfr : Nat → Int32) (vrw : Nat → Int32) (l1 : Int32) (l2 : Int32) : Option (Int32 × (Nat → Int32) × (Nat → Int32) × (Nat → Int32)) := (mX9_fewest_J20 mi vnw vfr vrw l1 l2 (1 : Int32))
def mX9_fewest (mi : Nat → Int32) (vnw : Nat → Int32) (vfr : Nat → Int32) (vrw : Nat → Int32) (x0 : Int32) (x1 : Int32) : Option (Int32 × (Nat → Int32) × (Nat → Int32) × (Nat → Int32)) := (if (mX9_isRobot x0) = 0 then (mX9_fewest_J19 mi vnw vfr vrw x0 x1) else (if (mX9_isCell x1) = 0 then (mX9_fewest_J19 mi vnw vfr vrw x0 x1) else (mX9_fewest_J20 mi vnw vfr vrw x0 x1 (0 : Int32))))
set_option maxHeartbeats 4000000 in
set_option maxRecDepth 100000 in
theorem kX9_fewest (l : Launch) (Γ : my_G) (q_mo q_tt q_nw q_tr q_ot q_di q_kp q_ik q_wy q_ah q_tg q_ws q_fr q_rw : Nat) (mi : Nat → Int32) (vtt : Nat → Int32) (vnw : Nat → Int32) (vtr : Nat → Int32) (vot : Nat → Int32) (vdi : Nat → Int32) (vkp : Nat → Int32) (vik : Nat → Int32) (vwy : Nat → Int32) (vah : Nat → Int32) (vtg : Nat → Int32) (vws : Nat → Int32) (vfr : Nat → Int32) (vrw : Nat → Int32) (x0 : Int32) (x1 : Int32) (rr : Int32) (mi_z : Nat → Int32) (vfr_z : Nat → Int32) (vrw_z : Nat → Int32) (hm : mX9_fewest mi vnw vfr vrw x0 x1 = (some (rr, mi_z, vfr_z, vrw_z))) : Mn l yX9_fewest wsX9_fewest ({ frames := 3, cells := 0, slots := 0, locals := 72 } : Room) Γ [.ref q_mo, .int x0, .int x1] (wModel Γ q_mo q_tt q_nw q_tr q_ot q_di q_kp q_ik q_wy q_ah q_tg q_ws q_fr q_rw mi vtt vnw vtr vot vdi vkp vik vwy vah vtg vws vfr vrw) (some (.int rr)) (wModel Γ q_mo q_tt q_nw q_tr q_ot q_di q_kp q_ik q_wy q_ah q_tg q_ws q_fr q_rw mi_z vtt vnw vtr vot vdi vkp vik vwy vah vtg vws vfr_z vrw_z) := by
  intro sz
  refine Met.ofW (cc := cX9_fewest) (maxL := 7) (ret := (some .int)) (by decide) rfl ?_
  intro p e s m args below meth c s₁ B hml hv
  obtain ⟨rfl, hsz, hP, hK, hD0⟩ := hv
  have hx := B.exec
  have hb := B.bytes
  have hr := B.returns
  have hts := atoms_spec (ws := wsX9_fewest) B.pre
  have hown : s.vm.findClass RX9 = some m.cls := findClass_of_methodNamed B.named
  have hlocks := B.notSynchronized
  have hinX9 : ∀ w ∈ u_ws RX9 TX9 19, w ∈ wsX9_fewest := fun w h => List.mem_cons_of_mem _ (List.mem_append_right _ h)
  subst hsz
  have hD := hD0.self (sz := s.heap.size)
  have hA : ∀ q : Nat, s.heap.size ≤ q → va_A (wModel Γ q_mo q_tt q_nw q_tr q_ot q_di q_kp q_ik q_wy q_ah q_tg q_ws q_fr q_rw mi vtt vnw vtr vot vdi vkp vik vwy vah vtg vws vfr vrw) s.heap.size q := fun q h => Or.inr h
  generalize va_A (wModel Γ q_mo q_tt q_nw q_tr q_ot q_di q_kp q_ik q_wy q_ah q_tg q_ws q_fr q_rw mi vtt vnw vtr vot vdi vkp vik vwy vah vtg vws vfr vrw) s.heap.size = A at hD hA ⊢
  have hS : va_S A s.heap s.heap [] := va_S.rf
  have hl := lv_entry ([.ref q_mo, .int x0, .int x1]) (n := 7) (Nat.le_of_ble_eq_true rfl)
  rw [lg_entry_eq]
  generalize (lg_sl ([.ref q_mo, .int x0, .int x1]) ++ List.replicate (7 - (lg_sl ([.ref q_mo, .int x0, .int x1])).length) Slot.unset).toArray = ls at hl ⊢
  replace hl : lv_has ls 7 [(0, .ref q_mo), (1, .int x0), (2, .int x1)] := hl
  have J_202 : ∀ (k94 : (Nat → Int32) → (Nat → Int32) → (Nat → Int32) → (Nat → Int32) → Int32 → Int32 → Int32 → Option (Int32 × (Nat → Int32) × (Nat → Int32) × (Nat → Int32))), (∀ (mi : Nat → Int32) (vnw : Nat → Int32) (vfr : Nat → Int32) (vrw : Nat → Int32) (l2 : Int32) (l3 : Int32) (l4 : Int32) (H : Heap) (locs : List Loc) (ls : Array Slot), va_P (my_D Γ) vwCl (wModel Γ q_mo q_tt q_nw q_tr q_ot q_di q_kp q_ik q_wy q_ah q_tg q_ws q_fr q_rw mi vtt vnw vtr vot vdi vkp vik vwy vah vtg vws vfr vrw) H → va_D A (wModel Γ q_mo q_tt q_nw q_tr q_ot q_di q_kp q_ik q_wy q_ah q_tg q_ws q_fr q_rw mi vtt vnw vtr vot vdi vkp vik vwy vah vtg vws vfr vrw) → va_S A s.heap H locs → lv_has ls 7 [(0, .ref q_mo), (2, .int l2), (3, .int l3), (4, .int l4)] → k94 mi vnw vfr vrw l2 l3 l4 = (some (rr, mi_z, vfr_z, vrw_z)) → W p l e (headSpec wsX9_fewest ({ frames := 3, cells := 0, slots := 0, locals := 72 } : Room)).room s m ([.ref q_mo, .int x0, .int x1] : List Value).toArray below meth c H locs 0 0 (MQ below (my_Q Γ A (some (.int rr)) (wModel Γ q_mo q_tt q_nw q_tr q_ot q_di q_kp q_ik q_wy q_ah q_tg q_ws q_fr q_rw mi_z vtt vnw vtr vot vdi vkp vik vwy vah vtg vws vfr_z vrw_z)) ([.ref q_mo, .int x0, .int x1] : List Value).toArray s 0 0 A) (F0 m 94 ls [])) → ∀ (k129 : (Nat → Int32) → (Nat → Int32) → (Nat → Int32) → (Nat → Int32) → Int32 → Int32 → Int32 → Int32 → Option (Int32 × (Nat → Int32) × (Nat → Int32) × (Nat → Int32))), (∀ (mi : Nat → Int32) (vnw : Nat → Int32) (vfr : Nat → Int32) (vrw : Nat → Int32) (l2 : Int32) (l3 : Int32) (l4 : Int32) (l5 : Int32) (H : Heap) (locs : List Loc) (ls : Array Slot), va_P (my_D Γ) vwCl (wModel Γ q_mo q_tt q_nw q_tr q_ot q_di q_kp q_ik q_wy q_ah q_tg q_ws q_fr q_rw mi vtt vnw vtr vot vdi vkp vik vwy vah vtg vws vfr vrw) H → va_D A (wModel Γ q_mo q_tt q_nw q_tr q_ot q_di q_kp q_ik q_wy q_ah q_tg q_ws q_fr q_rw mi vtt vnw vtr vot vdi vkp vik vwy vah vtg vws vfr vrw) → va_S A s.heap H locs → lv_has ls 7 [(0, .ref q_mo), (2, .int l2), (3, .int l3), (4, .int l4), (5, .int l5)] → k129 mi vnw vfr vrw l2 l3 l4 l5 = (some (rr, mi_z, vfr_z, vrw_z)) → W p l e (headSpec wsX9_fewest ({ frames := 3, cells := 0, slots := 0, locals := 72 } : Room)).room s m ([.ref q_mo, .int x0, .int x1] : List Value).toArray below meth c H locs 0 0 (MQ below (my_Q Γ A (some (.int rr)) (wModel Γ q_mo q_tt q_nw q_tr q_ot q_di q_kp q_ik q_wy q_ah q_tg q_ws q_fr q_rw mi_z vtt vnw vtr vot vdi vkp vik vwy vah vtg vws vfr_z vrw_z)) ([.ref q_mo, .int x0, .int x1] : List Value).toArray s 0 0 A) (F0 m 129 ls [])) → ∀ (mi : Nat → Int32) (vnw : Nat → Int32) (vfr : Nat → Int32) (vrw : Nat → Int32) (l2 : Int32) (l3 : Int32) (l4 : Int32) (l5 : Int32) (H : Heap) (locs : List Loc) (ls : Array Slot), va_P (my_D Γ) vwCl (wModel Γ q_mo q_tt q_nw q_tr q_ot q_di q_kp q_ik q_wy q_ah q_tg q_ws q_fr q_rw mi vtt vnw vtr vot vdi vkp vik vwy vah vtg vws vfr vrw) H → va_D A (wModel Γ q_mo q_tt q_nw q_tr q_ot q_di q_kp q_ik q_wy q_ah q_tg q_ws q_fr q_rw mi vtt vnw vtr vot vdi vkp vik vwy vah vtg vws vfr vrw) → va_S A s.heap H locs → lv_has ls 7 [(0, .ref q_mo), (2, .int l2), (3, .int l3), (4, .int l4), (5, .int l5)] → mX9_fewest_J202 k94 k129 mi vnw vfr vrw l2 l3 l4 l5 = (some (rr, mi_z, vfr_z, vrw_z)) → W p l e (headSpec wsX9_fewest ({ frames := 3, cells := 0, slots := 0, locals := 72 } : Room)).room s m ([.ref q_mo, .int x0, .int x1] : List Value).toArray below meth c H locs 0 0 (MQ below (my_Q Γ A (some (.int rr)) (wModel Γ q_mo q_tt q_nw q_tr q_ot q_di q_kp q_ik q_wy q_ah q_tg q_ws q_fr q_rw mi_z vtt vnw vtr vot vdi vkp vik vwy vah vtg vws vfr_z vrw_z)) ([.ref q_mo, .int x0, .int x1] : List Value).toArray s 0 0 A) (F0 m 202 ls []) := by
    intro k94 hk94 k129 hk129 mi vnw vfr vrw l2 l3 l4 l5 H locs ls hP hD hS hl hm
    unfold mX9_fewest_J202 at hm
    refine lv_iinc (v := (l5 + (1 : Int32))) (lv' := [(5, .int (l5 + (1 : Int32))), (0, .ref q_mo), (2, .int l2), (3, .int l3), (4, .int l4)]) hx hb dX9_fewest_202 hl (k := 4) rfl rfl (by decide) rfl (fun ls hl => ?_)
    refine lv_goto (tgt := 129) hx hb dX9_fewest_205 (by decide) ?_
    exact hk129 mi vnw vfr vrw l2 l3 l4 (l5 + (1 : Int32)) _ _ _ hP hD hS (lv_sub hl [1, 2, 3, 4, 0] rfl) hm
  have J_129 : ∀ (k94 : (Nat → Int32) → (Nat → Int32) → (Nat → Int32) → (Nat → Int32) → Int32 → Int32 → Int32 → Option (Int32 × (Nat → Int32) × (Nat → Int32) × (Nat → Int32))), (∀ (mi : Nat → Int32) (vnw : Nat → Int32) (vfr : Nat → Int32) (vrw : Nat → Int32) (l2 : Int32) (l3 : Int32) (l4 : Int32) (H : Heap) (locs : List Loc) (ls : Array Slot), va_P (my_D Γ) vwCl (wModel Γ q_mo q_tt q_nw q_tr q_ot q_di q_kp q_ik q_wy q_ah q_tg q_ws q_fr q_rw mi vtt vnw vtr vot vdi vkp vik vwy vah vtg vws vfr vrw) H → va_D A (wModel Γ q_mo q_tt q_nw q_tr q_ot q_di q_kp q_ik q_wy q_ah q_tg q_ws q_fr q_rw mi vtt vnw vtr vot vdi vkp vik vwy vah vtg vws vfr vrw) → va_S A s.heap H locs → lv_has ls 7 [(0, .ref q_mo), (2, .int l2), (3, .int l3), (4, .int l4)] → k94 mi vnw vfr vrw l2 l3 l4 = (some (rr, mi_z, vfr_z, vrw_z)) → W p l e (headSpec wsX9_fewest ({ frames := 3, cells := 0, slots := 0, locals := 72 } : Room)).room s m ([.ref q_mo, .int x0, .int x1] : List Value).toArray below meth c H locs 0 0 (MQ below (my_Q Γ A (some (.int rr)) (wModel Γ q_mo q_tt q_nw q_tr q_ot q_di q_kp q_ik q_wy q_ah q_tg q_ws q_fr q_rw mi_z vtt vnw vtr vot vdi vkp vik vwy vah vtg vws vfr_z vrw_z)) ([.ref q_mo, .int x0, .int x1] : List Value).toArray s 0 0 A) (F0 m 94 ls [])) → ∀ n : Nat, ∀ (mi : Nat → Int32) (vnw : Nat → Int32) (vfr : Nat → Int32) (vrw : Nat → Int32) (l2 : Int32) (l3 : Int32) (l4 : Int32) (l5 : Int32) (H : Heap) (locs : List Loc) (ls : Array Slot), va_P (my_D Γ) vwCl (wModel Γ q_mo q_tt q_nw q_tr q_ot q_di q_kp q_ik q_wy q_ah q_tg q_ws q_fr q_rw mi vtt vnw vtr vot vdi vkp vik vwy vah vtg vws vfr vrw) H → va_D A (wModel Γ q_mo q_tt q_nw q_tr q_ot q_di q_kp q_ik q_wy q_ah q_tg q_ws q_fr q_rw mi vtt vnw vtr vot vdi vkp vik vwy vah vtg vws vfr vrw) → va_S A s.heap H locs → lv_has ls 7 [(0, .ref q_mo), (2, .int l2), (3, .int l3), (4, .int l4), (5, .int l5)] → mX9_fewest_L129 k94 n mi vnw vfr vrw l2 l3 l4 l5 = (some (rr, mi_z, vfr_z, vrw_z)) → W p l e (headSpec wsX9_fewest ({ frames := 3, cells := 0, slots := 0, locals := 72 } : Room)).room s m ([.ref q_mo, .int x0, .int x1] : List Value).toArray below meth c H locs 0 0 (MQ below (my_Q Γ A (some (.int rr)) (wModel Γ q_mo q_tt q_nw q_tr q_ot q_di q_kp q_ik q_wy q_ah q_tg q_ws q_fr q_rw mi_z vtt vnw vtr vot vdi vkp vik vwy vah vtg vws vfr_z vrw_z)) ([.ref q_mo, .int x0, .int x1] : List Value).toArray s 0 0 A) (F0 m 129 ls []) := by
    intro k94 hk94 n
    induction n with
    | zero => intro mi vnw vfr vrw l2 l3 l4 l5 H locs ls hP hD hS hl hm; cases hm
    | succ n ih =>
      intro mi vnw vfr vrw l2 l3 l4 l5 H locs ls hP hD hS hl hm
      unfold mX9_fewest_L129 at hm
      refine lv_iload hx hb dX9_fewest_129 (lv_at hl 4 rfl) ?_
      refine lv_iconst (v := (5 : Int32)) hx hb dX9_fewest_131 (by decide) ?_
      refine lv_icmp_ge (tgt := 208) hx hb dX9_fewest_132 (by decide) (fun c_16 => ?_) (fun c_16 => ?_)
      · replace hm := if_s hm c_16
        refine lv_iinc (v := (l4 + (1 : Int32))) (lv' := [(4, .int (l4 + (1 : Int32))), (0, .ref q_mo), (2, .int l2), (3, .int l3), (5, .int l5)]) hx hb dX9_fewest_208 hl (k := 3) rfl rfl (by decide) rfl (fun ls hl => ?_)
        refine lv_goto (tgt := 94) hx hb dX9_fewest_211 (by decide) ?_
        exact hk94 mi vnw vfr vrw l2 l3 (l4 + (1 : Int32)) _ _ _ hP hD hS (lv_sub hl [1, 2, 3, 0] rfl) hm
      · replace hm := if_f hm c_16
        refine lv_aload_n hx hb dX9_fewest_135 rfl (lv_at hl 0 rfl) ?_
        refine va_get (D := my_D Γ) (ci := 7) (v := .ref q_nw) (C := RX9) (T := TX9) (N := 19) hx hb hts hinX9 hown hK hP 0 rfl rfl 3 (by decide) (hts (.fieldLink RX9 13 "BeltFloorModel" "now" "[I") (List.mem_of_getElem? (i := 3) rfl)) (fun _ h9 => h9) rfl dX9_fewest_136 ?_
        refine lv_aload_n hx hb dX9_fewest_139 rfl (lv_at hl 0 rfl) ?_
        refine va_get (D := my_D Γ) (ci := 7) (v := .ref q_rw) (C := RX9) (T := TX9) (N := 19) hx hb hts hinX9 hown hK hP 0 rfl rfl 15 (by decide) (hts (.fieldLink RX9 47 "BeltFloorModel" "row" "[I") (List.mem_of_getElem? (i := 2) rfl)) (fun _ h9 => h9) rfl dX9_fewest_140 ?_
        refine lv_iload hx hb dX9_fewest_143 (lv_at hl 3 rfl) ?_
        obtain ⟨hi_17, hm⟩ := if_in hm
        refine va_iald hx hb hK hP 13 0 rfl rfl hi_17 dX9_fewest_145 ?_
        refine lv_iload hx hb dX9_fewest_146 (lv_at hl 4 rfl) ?_
        obtain ⟨r_18, hc_19, hm⟩ := bo1_s hm
        refine my_callP1 (wc := (wArr117 Γ q_nw vnw)) (w1 := (wArr117 Γ q_nw vnw)) (ws1 := (wModel Γ q_mo q_tt q_nw q_tr q_ot q_di q_kp q_ik q_wy q_ah q_tg q_ws q_fr q_rw mi vtt vnw vtr vot vdi vkp vik vwy vah vtg vws vfr vrw)) hP hD hS hA [2] rfl rfl rfl (va_runS (As := [.ref q_nw, .int (vrw l4.toNatClampNeg), .int l5]) (rest := []) ⟨hx, hb, hml, hown, hts⟩ (kX9_brings l Γ q_nw vnw (vrw l4.toNatClampNeg) l5 r_18 hc_19 _) (va_cwS 3 hts gX9_fewest_X9_brings rfl rfl rfl (by decide +kernel) ⟨Nat.le_of_ble_eq_true rfl, Nat.le_of_ble_eq_true rfl⟩) (my_preS (wc := (wArr117 Γ q_nw vnw)) [2] hK hP hD rfl rfl) rfl rfl hl.1 rfl (lv_room (Nat.le_of_ble_eq_true rfl)) dX9_fewest_148 ⟨Nat.le_of_ble_eq_true rfl, Nat.le_of_ble_eq_true rfl⟩) (fun H locs hP hD hS => ?_)
        refine lv_istore (lv' := [(6, .int r_18), (0, .ref q_mo), (2, .int l2), (3, .int l3), (4, .int l4), (5, .int l5)]) hx hb dX9_fewest_151 hl (by decide) rfl (fun ls hl => ?_)
        refine lv_iload hx hb dX9_fewest_153 (lv_at hl 0 rfl) ?_
        refine lv_iconst (v := (-1 : Int32)) hx hb dX9_fewest_155 (by decide) ?_
        refine lv_icmp_eq (tgt := 202) hx hb dX9_fewest_156 (by decide) (fun c_20 => ?_) (fun c_20 => ?_)
        · replace hm := if_s hm c_20
          exact J_202 k94 hk94 (fun mi vnw vfr vrw l2 l3 l4 l5 => mX9_fewest_L129 k94 n mi vnw vfr vrw l2 l3 l4 l5) ih mi vnw vfr vrw l2 l3 l4 l5 _ _ _ hP hD hS (lv_sub hl [1, 2, 3, 4, 5] rfl) hm
        · replace hm := if_f hm c_20
          refine lv_aload_n hx hb dX9_fewest_159 rfl (lv_at hl 1 rfl) ?_
          refine va_get (D := my_D Γ) (ci := 7) (v := .ref q_fr) (C := RX9) (T := TX9) (N := 19) hx hb hts hinX9 hown hK hP 0 rfl rfl 14 (by decide) (hts (.fieldLink RX9 44 "BeltFloorModel" "far" "[I") (List.mem_of_getElem? (i := 1) rfl)) (fun _ h9 => h9) rfl dX9_fewest_160 ?_
          refine lv_iload hx hb dX9_fewest_163 (lv_at hl 0 rfl) ?_
          obtain ⟨hi_21, hm⟩ := if_in hm
          refine va_iald hx hb hK hP 12 0 rfl rfl hi_21 dX9_fewest_165 ?_
          refine lv_iconst (v := (-1 : Int32)) hx hb dX9_fewest_166 (by decide) ?_
          refine lv_icmp_ne (tgt := 202) hx hb dX9_fewest_167 (by decide) (fun c_22 => ?_) (fun c_22 => ?_)
          · replace hm := if_f hm c_22
            exact J_202 k94 hk94 (fun mi vnw vfr vrw l2 l3 l4 l5 => mX9_fewest_L129 k94 n mi vnw vfr vrw l2 l3 l4 l5) ih mi vnw vfr vrw l2 l3 l4 l5 _ _ _ hP hD hS (lv_sub hl [1, 2, 3, 4, 5] rfl) hm
          · replace hm := if_s hm c_22
            refine lv_aload_n hx hb dX9_fewest_170 rfl (lv_at hl 1 rfl) ?_
            refine va_get (D := my_D Γ) (ci := 7) (v := .ref q_fr) (C := RX9) (T := TX9) (N := 19) hx hb hts hinX9 hown hK hP 0 rfl rfl 14 (by decide) (hts (.fieldLink RX9 44 "BeltFloorModel" "far" "[I") (List.mem_of_getElem? (i := 1) rfl)) (fun _ h9 => h9) rfl dX9_fewest_171 ?_
            refine lv_iload hx hb dX9_fewest_174 (lv_at hl 0 rfl) ?_
            refine lv_aload_n hx hb dX9_fewest_176 rfl (lv_at hl 1 rfl) ?_
            refine va_get (D := my_D Γ) (ci := 7) (v := .ref q_fr) (C := RX9) (T := TX9) (N := 19) hx hb hts hinX9 hown hK hP 0 rfl rfl 14 (by decide) (hts (.fieldLink RX9 44 "BeltFloorModel" "far" "[I") (List.mem_of_getElem? (i := 1) rfl)) (fun _ h9 => h9) rfl dX9_fewest_177 ?_
            refine lv_aload_n hx hb dX9_fewest_180 rfl (lv_at hl 1 rfl) ?_
            refine va_get (D := my_D Γ) (ci := 7) (v := .ref q_rw) (C := RX9) (T := TX9) (N := 19) hx hb hts hinX9 hown hK hP 0 rfl rfl 15 (by decide) (hts (.fieldLink RX9 47 "BeltFloorModel" "row" "[I") (List.mem_of_getElem? (i := 2) rfl)) (fun _ h9 => h9) rfl dX9_fewest_181 ?_
            refine lv_iload hx hb dX9_fewest_184 (lv_at hl 4 rfl) ?_
            refine va_iald hx hb hK hP 13 0 rfl rfl hi_17 dX9_fewest_186 ?_
            obtain ⟨hi_23, hm⟩ := if_in hm
            refine va_iald hx hb hK hP 12 0 rfl rfl hi_23 dX9_fewest_187 ?_
            refine lv_iconst (v := (1 : Int32)) hx hb dX9_fewest_188 (by decide) ?_
            refine lv_iadd hx hb dX9_fewest_189 ?_
            refine lv_topi (fun y_24 ey_24 => ?_)
            refine va_iast hx hb hK hP hD hS 12 0 rfl rfl hi_21 dX9_fewest_190 (fun H locs hP hD hS => ?_)
            replace hP : va_P (my_D Γ) vwCl (wModel Γ q_mo q_tt q_nw q_tr q_ot q_di q_kp q_ik q_wy q_ah q_tg q_ws q_fr q_rw mi vtt vnw vtr vot vdi vkp vik vwy vah vtg vws (upd vfr r_18.toNatClampNeg y_24) vrw) H := hP
            replace hD : va_D A (wModel Γ q_mo q_tt q_nw q_tr q_ot q_di q_kp q_ik q_wy q_ah q_tg q_ws q_fr q_rw mi vtt vnw vtr vot vdi vkp vik vwy vah vtg vws (upd vfr r_18.toNatClampNeg y_24) vrw) := hD
            subst ey_24
            refine lv_aload_n hx hb dX9_fewest_191 rfl (lv_at hl 1 rfl) ?_
            refine va_get (D := my_D Γ) (ci := 7) (v := .ref q_rw) (C := RX9) (T := TX9) (N := 19) hx hb hts hinX9 hown hK hP 0 rfl rfl 15 (by decide) (hts (.fieldLink RX9 47 "BeltFloorModel" "row" "[I") (List.mem_of_getElem? (i := 2) rfl)) (fun _ h9 => h9) rfl dX9_fewest_192 ?_
            refine lv_iload_n hx hb dX9_fewest_195 rfl (lv_at hl 3 rfl) ?_
            refine lv_iload hx hb dX9_fewest_196 (lv_at hl 0 rfl) ?_
            obtain ⟨hi_25, hm⟩ := if_in hm
            refine va_iast hx hb hK hP hD hS 13 0 rfl rfl hi_25 dX9_fewest_198 (fun H locs hP hD hS => ?_)
            replace hP : va_P (my_D Γ) vwCl (wModel Γ q_mo q_tt q_nw q_tr q_ot q_di q_kp q_ik q_wy q_ah q_tg q_ws q_fr q_rw mi vtt vnw vtr vot vdi vkp vik vwy vah vtg vws (upd vfr r_18.toNatClampNeg ((vfr (vrw l4.toNatClampNeg).toNatClampNeg) + (1 : Int32))) (upd vrw l3.toNatClampNeg r_18)) H := hP
            replace hD : va_D A (wModel Γ q_mo q_tt q_nw q_tr q_ot q_di q_kp q_ik q_wy q_ah q_tg q_ws q_fr q_rw mi vtt vnw vtr vot vdi vkp vik vwy vah vtg vws (upd vfr r_18.toNatClampNeg ((vfr (vrw l4.toNatClampNeg).toNatClampNeg) + (1 : Int32))) (upd vrw l3.toNatClampNeg r_18)) := hD
            refine lv_iinc (v := (l3 + (1 : Int32))) (lv' := [(3, .int (l3 + (1 : Int32))), (6, .int r_18), (0, .ref q_mo), (2, .int l2), (4, .int l4), (5, .int l5)]) hx hb dX9_fewest_199 hl (k := 3) rfl rfl (by decide) rfl (fun ls hl => ?_)
            exact J_202 k94 hk94 (fun mi vnw vfr vrw l2 l3 l4 l5 => mX9_fewest_L129 k94 n mi vnw vfr vrw l2 l3 l4 l5) ih mi vnw (upd vfr r_18.toNatClampNeg ((vfr (vrw l4.toNatClampNeg).toNatClampNeg) + (1 : Int32))) (upd vrw l3.toNatClampNeg r_18) l2 (l3 + (1 : Int32)) l4 l5 _ _ _ hP hD hS (lv_sub hl [2, 3, 0, 4, 5] rfl) hm
  have J_94 : ∀ n : Nat, ∀ (mi : Nat → Int32) (vnw : Nat → Int32) (vfr : Nat → Int32) (vrw : Nat → Int32) (l2 : Int32) (l3 : Int32) (l4 : Int32) (H : Heap) (locs : List Loc) (ls : Array Slot), va_P (my_D Γ) vwCl (wModel Γ q_mo q_tt q_nw q_tr q_ot q_di q_kp q_ik q_wy q_ah q_tg q_ws q_fr q_rw mi vtt vnw vtr vot vdi vkp vik vwy vah vtg vws vfr vrw) H → va_D A (wModel Γ q_mo q_tt q_nw q_tr q_ot q_di q_kp q_ik q_wy q_ah q_tg q_ws q_fr q_rw mi vtt vnw vtr vot vdi vkp vik vwy vah vtg vws vfr vrw) → va_S A s.heap H locs → lv_has ls 7 [(0, .ref q_mo), (2, .int l2), (3, .int l3), (4, .int l4)] → mX9_fewest_L94 n mi vnw vfr vrw l2 l3 l4 = (some (rr, mi_z, vfr_z, vrw_z)) → W p l e (headSpec wsX9_fewest ({ frames := 3, cells := 0, slots := 0, locals := 72 } : Room)).room s m ([.ref q_mo, .int x0, .int x1] : List Value).toArray below meth c H locs 0 0 (MQ below (my_Q Γ A (some (.int rr)) (wModel Γ q_mo q_tt q_nw q_tr q_ot q_di q_kp q_ik q_wy q_ah q_tg q_ws q_fr q_rw mi_z vtt vnw vtr vot vdi vkp vik vwy vah vtg vws vfr_z vrw_z)) ([.ref q_mo, .int x0, .int x1] : List Value).toArray s 0 0 A) (F0 m 94 ls []) := by
    intro  n
    induction n with
    | zero => intro mi vnw vfr vrw l2 l3 l4 H locs ls hP hD hS hl hm; cases hm
    | succ n ih =>
      intro mi vnw vfr vrw l2 l3 l4 H locs ls hP hD hS hl hm
      unfold mX9_fewest_L94 at hm
      refine lv_iload hx hb dX9_fewest_94 (lv_at hl 3 rfl) ?_
      refine lv_iload_n hx hb dX9_fewest_96 rfl (lv_at hl 2 rfl) ?_
      refine lv_icmp_ge (tgt := 214) hx hb dX9_fewest_97 (by decide) (fun c_13 => ?_) (fun c_13 => ?_)
      · replace hm := if_s hm c_13
        refine lv_iconst (v := (-1 : Int32)) hx hb dX9_fewest_214 (by decide) ?_
        obtain ⟨hf0, hf1, hf2, hf3⟩ := si4 hm
        subst hf0
        subst hf1
        subst hf2
        subst hf3
        exact W.iret (v := (-1 : Int32)) hx hb hr (fun t ht hW => ⟨⟨rfl, by rw [ht]; exact hP⟩, hS.F ht⟩) hS.2.2 dX9_fewest_215
      · replace hm := if_f hm c_13
        refine lv_aload_n hx hb dX9_fewest_100 rfl (lv_at hl 0 rfl) ?_
        refine va_get (D := my_D Γ) (ci := 7) (v := .ref q_rw) (C := RX9) (T := TX9) (N := 19) hx hb hts hinX9 hown hK hP 0 rfl rfl 15 (by decide) (hts (.fieldLink RX9 47 "BeltFloorModel" "row" "[I") (List.mem_of_getElem? (i := 2) rfl)) (fun _ h9 => h9) rfl dX9_fewest_101 ?_
        refine lv_iload hx hb dX9_fewest_104 (lv_at hl 3 rfl) ?_
        obtain ⟨hi_14, hm⟩ := if_in hm
        refine va_iald hx hb hK hP 13 0 rfl rfl hi_14 dX9_fewest_106 ?_
        refine lv_iconst (v := (4 : Int32)) hx hb dX9_fewest_107 (by decide) ?_
        refine lv_idiv hx hb dX9_fewest_108 (by decide) ?_
        refine lv_iload_n hx hb dX9_fewest_109 rfl (lv_at hl 1 rfl) ?_
        refine lv_icmp_ne (tgt := 126) hx hb dX9_fewest_110 (by decide) (fun c_15 => ?_) (fun c_15 => ?_)
        · replace hm := if_f hm c_15
          refine lv_iconst (v := (0 : Int32)) hx hb dX9_fewest_126 (by decide) ?_
          refine lv_istore (lv' := [(5, .int (0 : Int32)), (0, .ref q_mo), (2, .int l2), (3, .int l3), (4, .int l4)]) hx hb dX9_fewest_127 hl (by decide) rfl (fun ls hl => ?_)
          exact J_129 (fun mi vnw vfr vrw l2 l3 l4 => mX9_fewest_L94 n mi vnw vfr vrw l2 l3 l4) ih 4096 mi vnw vfr vrw l2 l3 l4 (0 : Int32) _ _ _ hP hD hS (lv_sub hl [1, 2, 3, 4, 0] rfl) hm
        · replace hm := if_s hm c_15
          refine lv_aload_n hx hb dX9_fewest_113 rfl (lv_at hl 0 rfl) ?_
          refine va_get (D := my_D Γ) (ci := 7) (v := .ref q_fr) (C := RX9) (T := TX9) (N := 19) hx hb hts hinX9 hown hK hP 0 rfl rfl 14 (by decide) (hts (.fieldLink RX9 44 "BeltFloorModel" "far" "[I") (List.mem_of_getElem? (i := 1) rfl)) (fun _ h9 => h9) rfl dX9_fewest_114 ?_
          refine lv_aload_n hx hb dX9_fewest_117 rfl (lv_at hl 0 rfl) ?_
          refine va_get (D := my_D Γ) (ci := 7) (v := .ref q_rw) (C := RX9) (T := TX9) (N := 19) hx hb hts hinX9 hown hK hP 0 rfl rfl 15 (by decide) (hts (.fieldLink RX9 47 "BeltFloorModel" "row" "[I") (List.mem_of_getElem? (i := 2) rfl)) (fun _ h9 => h9) rfl dX9_fewest_118 ?_
          refine lv_iload hx hb dX9_fewest_121 (lv_at hl 3 rfl) ?_
          refine va_iald hx hb hK hP 13 0 rfl rfl hi_14 dX9_fewest_123 ?_
          obtain ⟨hi_26, hm⟩ := if_in hm
          refine va_iald hx hb hK hP 12 0 rfl rfl hi_26 dX9_fewest_124 ?_
          obtain ⟨hf0, hf1, hf2, hf3⟩ := si4 hm
          subst hf0
          subst hf1
          subst hf2
          subst hf3
          exact W.iret (v := (vfr (vrw l4.toNatClampNeg).toNatClampNeg)) hx hb hr (fun t ht hW => ⟨⟨rfl, by rw [ht]; exact hP⟩, hS.F ht⟩) hS.2.2 dX9_fewest_125
  have J_30 : ∀ n : Nat, ∀ (mi : Nat → Int32) (vnw : Nat → Int32) (vfr : Nat → Int32) (vrw : Nat → Int32) (l1 : Int32) (l2 : Int32) (l3 : Int32) (H : Heap) (locs : List Loc) (ls : Array Slot), va_P (my_D Γ) vwCl (wModel Γ q_mo q_tt q_nw q_tr q_ot q_di q_kp q_ik q_wy q_ah q_tg q_ws q_fr q_rw mi vtt vnw vtr vot vdi vkp vik vwy vah vtg vws vfr vrw) H → va_D A (wModel Γ q_mo q_tt q_nw q_tr q_ot q_di q_kp q_ik q_wy q_ah q_tg q_ws q_fr q_rw mi vtt vnw vtr vot vdi vkp vik vwy vah vtg vws vfr vrw) → va_S A s.heap H locs → lv_has ls 7 [(0, .ref q_mo), (1, .int l1), (2, .int l2), (3, .int l3)] → mX9_fewest_L30 n mi vnw vfr vrw l1 l2 l3 = (some (rr, mi_z, vfr_z, vrw_z)) → W p l e (headSpec wsX9_fewest ({ frames := 3, cells := 0, slots := 0, locals := 72 } : Room)).room s m ([.ref q_mo, .int x0, .int x1] : List Value).toArray below meth c H locs 0 0 (MQ below (my_Q Γ A (some (.int rr)) (wModel Γ q_mo q_tt q_nw q_tr q_ot q_di q_kp q_ik q_wy q_ah q_tg q_ws q_fr q_rw mi_z vtt vnw vtr vot vdi vkp vik vwy vah vtg vws vfr_z vrw_z)) ([.ref q_mo, .int x0, .int x1] : List Value).toArray s 0 0 A) (F0 m 30 ls []) := by
    intro  n
    induction n with
    | zero => intro mi vnw vfr vrw l1 l2 l3 H locs ls hP hD hS hl hm; cases hm
    | succ n ih =>
      intro mi vnw vfr vrw l1 l2 l3 H locs ls hP hD hS hl hm
      unfold mX9_fewest_L30 at hm
      refine lv_iload_n hx hb dX9_fewest_30 rfl (lv_at hl 3 rfl) ?_
      refine lv_sipush (v := (144 : Int32)) hx hb dX9_fewest_31 (by decide) ?_
      refine lv_icmp_ge (tgt := 50) hx hb dX9_fewest_34 (by decide) (fun c_6 => ?_) (fun c_6 => ?_)
      · replace hm := if_s hm c_6
        refine lv_iconst (v := (1 : Int32)) hx hb dX9_fewest_50 (by decide) ?_
        refine lv_istore_n (lv' := [(3, .int (1 : Int32)), (0, .ref q_mo), (1, .int l1), (2, .int l2)]) hx hb dX9_fewest_51 rfl hl (by decide) rfl (fun ls hl => ?_)
        refine lv_aload_n hx hb dX9_fewest_52 rfl (lv_at hl 1 rfl) ?_
        refine va_get (D := my_D Γ) (ci := 7) (v := .ref q_rw) (C := RX9) (T := TX9) (N := 19) hx hb hts hinX9 hown hK hP 0 rfl rfl 15 (by decide) (hts (.fieldLink RX9 47 "BeltFloorModel" "row" "[I") (List.mem_of_getElem? (i := 2) rfl)) (fun _ h9 => h9) rfl dX9_fewest_53 ?_
        refine lv_iconst (v := (0 : Int32)) hx hb dX9_fewest_56 (by decide) ?_
        refine lv_iconst (v := (4 : Int32)) hx hb dX9_fewest_57 (by decide) ?_
        refine lv_aload_n hx hb dX9_fewest_58 rfl (lv_at hl 1 rfl) ?_
        refine va_get (D := my_D Γ) (ci := 7) (v := .ref q_nw) (C := RX9) (T := TX9) (N := 19) hx hb hts hinX9 hown hK hP 0 rfl rfl 3 (by decide) (hts (.fieldLink RX9 13 "BeltFloorModel" "now" "[I") (List.mem_of_getElem? (i := 3) rfl)) (fun _ h9 => h9) rfl dX9_fewest_59 ?_
        refine lv_iload_n hx hb dX9_fewest_62 rfl (lv_at hl 2 rfl) ?_
        refine lv_iconst (v := (0 : Int32)) hx hb dX9_fewest_63 (by decide) ?_
        obtain ⟨r_7, hc_8, hm⟩ := bo1_s hm
        refine my_callP1 (wc := (wArr117 Γ q_nw vnw)) (w1 := (wArr117 Γ q_nw vnw)) (ws1 := (wModel Γ q_mo q_tt q_nw q_tr q_ot q_di q_kp q_ik q_wy q_ah q_tg q_ws q_fr q_rw mi vtt vnw vtr vot vdi vkp vik vwy vah vtg vws vfr vrw)) hP hD hS hA [2] rfl rfl rfl (va_runS (As := [.ref q_nw, .int l1, .int (0 : Int32)]) (rest := [.int (4 : Int32), .int (0 : Int32), .ref q_rw]) ⟨hx, hb, hml, hown, hts⟩ (kX9_of l Γ q_nw vnw l1 (0 : Int32) r_7 hc_8 _) (va_cwS 3 hts gX9_fewest_X9_of rfl rfl rfl (by decide +kernel) ⟨Nat.le_of_ble_eq_true rfl, Nat.le_of_ble_eq_true rfl⟩) (my_preS (wc := (wArr117 Γ q_nw vnw)) [2] hK hP hD rfl rfl) rfl rfl hl.1 rfl (lv_room (Nat.le_of_ble_eq_true rfl)) dX9_fewest_64 ⟨Nat.le_of_ble_eq_true rfl, Nat.le_of_ble_eq_true rfl⟩) (fun H locs hP hD hS => ?_)
        refine lv_imul hx hb dX9_fewest_67 ?_
        refine lv_aload_n hx hb dX9_fewest_68 rfl (lv_at hl 1 rfl) ?_
        refine va_get (D := my_D Γ) (ci := 7) (v := .ref q_nw) (C := RX9) (T := TX9) (N := 19) hx hb hts hinX9 hown hK hP 0 rfl rfl 3 (by decide) (hts (.fieldLink RX9 13 "BeltFloorModel" "now" "[I") (List.mem_of_getElem? (i := 3) rfl)) (fun _ h9 => h9) rfl dX9_fewest_69 ?_
        refine lv_iload_n hx hb dX9_fewest_72 rfl (lv_at hl 2 rfl) ?_
        refine lv_iconst (v := (1 : Int32)) hx hb dX9_fewest_73 (by decide) ?_
        obtain ⟨r_9, hc_10, hm⟩ := bo1_s hm
        refine my_callP1 (wc := (wArr117 Γ q_nw vnw)) (w1 := (wArr117 Γ q_nw vnw)) (ws1 := (wModel Γ q_mo q_tt q_nw q_tr q_ot q_di q_kp q_ik q_wy q_ah q_tg q_ws q_fr q_rw mi vtt vnw vtr vot vdi vkp vik vwy vah vtg vws vfr vrw)) hP hD hS hA [2] rfl rfl rfl (va_runS (As := [.ref q_nw, .int l1, .int (1 : Int32)]) (rest := [.int ((4 : Int32) * r_7), .int (0 : Int32), .ref q_rw]) ⟨hx, hb, hml, hown, hts⟩ (kX9_of l Γ q_nw vnw l1 (1 : Int32) r_9 hc_10 _) (va_cwS 3 hts gX9_fewest_X9_of rfl rfl rfl (by decide +kernel) ⟨Nat.le_of_ble_eq_true rfl, Nat.le_of_ble_eq_true rfl⟩) (my_preS (wc := (wArr117 Γ q_nw vnw)) [2] hK hP hD rfl rfl) rfl rfl hl.1 rfl (lv_room (Nat.le_of_ble_eq_true rfl)) dX9_fewest_74 ⟨Nat.le_of_ble_eq_true rfl, Nat.le_of_ble_eq_true rfl⟩) (fun H locs hP hD hS => ?_)
        refine lv_iadd hx hb dX9_fewest_77 ?_
        refine lv_topi (fun y_11 ey_11 => ?_)
        refine va_iast hx hb hK hP hD hS 13 0 rfl rfl (show vp_in (0 : Int32) 144 from (by decide : ¬ ((0 : Int32) < 0 ∨ 144 ≤ (0 : Int32).toNatClampNeg))) dX9_fewest_78 (fun H locs hP hD hS => ?_)
        replace hP : va_P (my_D Γ) vwCl (wModel Γ q_mo q_tt q_nw q_tr q_ot q_di q_kp q_ik q_wy q_ah q_tg q_ws q_fr q_rw mi vtt vnw vtr vot vdi vkp vik vwy vah vtg vws vfr (upd vrw (0 : Int32).toNatClampNeg y_11)) H := hP
        replace hD : va_D A (wModel Γ q_mo q_tt q_nw q_tr q_ot q_di q_kp q_ik q_wy q_ah q_tg q_ws q_fr q_rw mi vtt vnw vtr vot vdi vkp vik vwy vah vtg vws vfr (upd vrw (0 : Int32).toNatClampNeg y_11)) := hD
        subst ey_11
        refine lv_aload_n hx hb dX9_fewest_79 rfl (lv_at hl 1 rfl) ?_
        refine va_get (D := my_D Γ) (ci := 7) (v := .ref q_fr) (C := RX9) (T := TX9) (N := 19) hx hb hts hinX9 hown hK hP 0 rfl rfl 14 (by decide) (hts (.fieldLink RX9 44 "BeltFloorModel" "far" "[I") (List.mem_of_getElem? (i := 1) rfl)) (fun _ h9 => h9) rfl dX9_fewest_80 ?_
        refine lv_aload_n hx hb dX9_fewest_83 rfl (lv_at hl 1 rfl) ?_
        refine va_get (D := my_D Γ) (ci := 7) (v := .ref q_rw) (C := RX9) (T := TX9) (N := 19) hx hb hts hinX9 hown hK hP 0 rfl rfl 15 (by decide) (hts (.fieldLink RX9 47 "BeltFloorModel" "row" "[I") (List.mem_of_getElem? (i := 2) rfl)) (fun _ h9 => h9) rfl dX9_fewest_84 ?_
        refine lv_iconst (v := (0 : Int32)) hx hb dX9_fewest_87 (by decide) ?_
        refine va_iald hx hb hK hP 13 0 rfl rfl (show vp_in (0 : Int32) 144 from (by decide : ¬ ((0 : Int32) < 0 ∨ 144 ≤ (0 : Int32).toNatClampNeg))) dX9_fewest_88 ?_
        refine lv_iconst (v := (0 : Int32)) hx hb dX9_fewest_89 (by decide) ?_
        obtain ⟨hi_12, hm⟩ := if_in hm
        refine va_iast hx hb hK hP hD hS 12 0 rfl rfl hi_12 dX9_fewest_90 (fun H locs hP hD hS => ?_)
        replace hP : va_P (my_D Γ) vwCl (wModel Γ q_mo q_tt q_nw q_tr q_ot q_di q_kp q_ik q_wy q_ah q_tg q_ws q_fr q_rw mi vtt vnw vtr vot vdi vkp vik vwy vah vtg vws (upd vfr ((upd vrw (0 : Int32).toNatClampNeg (((4 : Int32) * r_7) + r_9)) (0 : Int32).toNatClampNeg).toNatClampNeg (0 : Int32)) (upd vrw (0 : Int32).toNatClampNeg (((4 : Int32) * r_7) + r_9))) H := hP
        replace hD : va_D A (wModel Γ q_mo q_tt q_nw q_tr q_ot q_di q_kp q_ik q_wy q_ah q_tg q_ws q_fr q_rw mi vtt vnw vtr vot vdi vkp vik vwy vah vtg vws (upd vfr ((upd vrw (0 : Int32).toNatClampNeg (((4 : Int32) * r_7) + r_9)) (0 : Int32).toNatClampNeg).toNatClampNeg (0 : Int32)) (upd vrw (0 : Int32).toNatClampNeg (((4 : Int32) * r_7) + r_9))) := hD
        refine lv_iconst (v := (0 : Int32)) hx hb dX9_fewest_91 (by decide) ?_
        refine lv_istore (lv' := [(4, .int (0 : Int32)), (3, .int (1 : Int32)), (0, .ref q_mo), (1, .int l1), (2, .int l2)]) hx hb dX9_fewest_92 hl (by decide) rfl (fun ls hl => ?_)
        exact J_94 4096 mi vnw (upd vfr ((upd vrw (0 : Int32).toNatClampNeg (((4 : Int32) * r_7) + r_9)) (0 : Int32).toNatClampNeg).toNatClampNeg (0 : Int32)) (upd vrw (0 : Int32).toNatClampNeg (((4 : Int32) * r_7) + r_9)) l2 (1 : Int32) (0 : Int32) _ _ _ hP hD hS (lv_sub hl [2, 4, 1, 0] rfl) hm
      · replace hm := if_f hm c_6
        refine lv_aload_n hx hb dX9_fewest_37 rfl (lv_at hl 0 rfl) ?_
        refine va_get (D := my_D Γ) (ci := 7) (v := .ref q_fr) (C := RX9) (T := TX9) (N := 19) hx hb hts hinX9 hown hK hP 0 rfl rfl 14 (by decide) (hts (.fieldLink RX9 44 "BeltFloorModel" "far" "[I") (List.mem_of_getElem? (i := 1) rfl)) (fun _ h9 => h9) rfl dX9_fewest_38 ?_
        refine lv_iload_n hx hb dX9_fewest_41 rfl (lv_at hl 3 rfl) ?_
        refine lv_iconst (v := (-1 : Int32)) hx hb dX9_fewest_42 (by decide) ?_
        obtain ⟨hi_27, hm⟩ := if_in hm
        refine va_iast hx hb hK hP hD hS 12 0 rfl rfl hi_27 dX9_fewest_43 (fun H locs hP hD hS => ?_)
        replace hP : va_P (my_D Γ) vwCl (wModel Γ q_mo q_tt q_nw q_tr q_ot q_di q_kp q_ik q_wy q_ah q_tg q_ws q_fr q_rw mi vtt vnw vtr vot vdi vkp vik vwy vah vtg vws (upd vfr l3.toNatClampNeg (-1 : Int32)) vrw) H := hP
        replace hD : va_D A (wModel Γ q_mo q_tt q_nw q_tr q_ot q_di q_kp q_ik q_wy q_ah q_tg q_ws q_fr q_rw mi vtt vnw vtr vot vdi vkp vik vwy vah vtg vws (upd vfr l3.toNatClampNeg (-1 : Int32)) vrw) := hD
        refine lv_iinc (v := (l3 + (1 : Int32))) (lv' := [(3, .int (l3 + (1 : Int32))), (0, .ref q_mo), (1, .int l1), (2, .int l2)]) hx hb dX9_fewest_44 hl (k := 3) rfl rfl (by decide) rfl (fun ls hl => ?_)
        refine lv_goto (tgt := 30) hx hb dX9_fewest_47 (by decide) ?_
        exact ih mi vnw (upd vfr l3.toNatClampNeg (-1 : Int32)) vrw l1 l2 (l3 + (1 : Int32)) _ _ _ hP hD hS (lv_sub hl [1, 2, 3, 0] rfl) hm
  have J_20 : ∀ (mi : Nat → Int32) (vnw : Nat → Int32) (vfr : Nat → Int32) (vrw : Nat → Int32) (l1 : Int32) (l2 : Int32) (s1 : Int32) (H : Heap) (locs : List Loc) (ls : Array Slot), va_P (my_D Γ) vwCl (wModel Γ q_mo q_tt q_nw q_tr q_ot q_di q_kp q_ik q_wy q_ah q_tg q_ws q_fr q_rw mi vtt vnw vtr vot vdi vkp vik vwy vah vtg vws vfr vrw) H → va_D A (wModel Γ q_mo q_tt q_nw q_tr q_ot q_di q_kp q_ik q_wy q_ah q_tg q_ws q_fr q_rw mi vtt vnw vtr vot vdi vkp vik vwy vah vtg vws vfr vrw) → va_S A s.heap H locs → lv_has ls 7 [(0, .ref q_mo), (1, .int l1), (2, .int l2)] → mX9_fewest_J20 mi vnw vfr vrw l1 l2 s1 = (some (rr, mi_z, vfr_z, vrw_z)) → W p l e (headSpec wsX9_fewest ({ frames := 3, cells := 0, slots := 0, locals := 72 } : Room)).room s m ([.ref q_mo, .int x0, .int x1] : List Value).toArray below meth c H locs 0 0 (MQ below (my_Q Γ A (some (.int rr)) (wModel Γ q_mo q_tt q_nw q_tr q_ot q_di q_kp q_ik q_wy q_ah q_tg q_ws q_fr q_rw mi_z vtt vnw vtr vot vdi vkp vik vwy vah vtg vws vfr_z vrw_z)) ([.ref q_mo, .int x0, .int x1] : List Value).toArray s 0 0 A) (F0 m 20 ls [.int s1, .ref q_mo]) := by
    intro  mi vnw vfr vrw l1 l2 s1 H locs ls hP hD hS hl hm
    unfold mX9_fewest_J20 at hm
    obtain ⟨r_2, mi_3, hc_4, hm⟩ := bt2_s hm
    refine my_callP1 (wc := (wMo Γ q_mo q_tt q_nw q_tr q_ot q_di q_kp q_ik q_wy q_ah q_tg q_ws q_fr q_rw mi)) (w1 := (wMo Γ q_mo q_tt q_nw q_tr q_ot q_di q_kp q_ik q_wy q_ah q_tg q_ws q_fr q_rw mi_3)) (ws1 := (wModel Γ q_mo q_tt q_nw q_tr q_ot q_di q_kp q_ik q_wy q_ah q_tg q_ws q_fr q_rw mi_3 vtt vnw vtr vot vdi vkp vik vwy vah vtg vws vfr vrw)) hP hD hS hA [0] rfl rfl rfl (va_runV (As := [.int s1]) (rest := []) ⟨hx, hb, hml, hown, hts⟩ (kX9_refused l Γ q_mo q_tt q_nw q_tr q_ot q_di q_kp q_ik q_wy q_ah q_tg q_ws q_fr q_rw mi s1 r_2 mi_3 hc_4 _) (cwV 1 hts gX9_fewest_X9_refused rfl rfl rfl (by decide +kernel) ⟨Nat.le_of_ble_eq_true rfl, Nat.le_of_ble_eq_true rfl⟩) (my_preV (wc := (wMo Γ q_mo q_tt q_nw q_tr q_ot q_di q_kp q_ik q_wy q_ah q_tg q_ws q_fr q_rw mi)) (ci := 7) (q0 := 0) [0] hK hP hD rfl rfl rfl rfl) rfl rfl hl.1 rfl (lv_room (Nat.le_of_ble_eq_true rfl)) dX9_fewest_20 ⟨Nat.le_of_ble_eq_true rfl, Nat.le_of_ble_eq_true rfl⟩) (fun H locs hP hD hS => ?_)
    refine lv_if_eq (tgt := 28) hx hb dX9_fewest_23 (by decide) (fun c_5 => ?_) (fun c_5 => ?_)
    · replace hm := if_s hm c_5
      refine lv_iconst (v := (0 : Int32)) hx hb dX9_fewest_28 (by decide) ?_
      refine lv_istore_n (lv' := [(3, .int (0 : Int32)), (0, .ref q_mo), (1, .int l1), (2, .int l2)]) hx hb dX9_fewest_29 rfl hl (by decide) rfl (fun ls hl => ?_)
      exact J_30 4096 mi_3 vnw vfr vrw l1 l2 (0 : Int32) _ _ _ hP hD hS (lv_sub hl [1, 2, 3, 0] rfl) hm
    · replace hm := if_f hm c_5
      refine lv_iconst (v := (0 : Int32)) hx hb dX9_fewest_26 (by decide) ?_
      obtain ⟨hf0, hf1, hf2, hf3⟩ := si4 hm
      subst hf0
      subst hf1
      subst hf2
      subst hf3
      exact W.iret (v := (0 : Int32)) hx hb hr (fun t ht hW => ⟨⟨rfl, by rw [ht]; exact hP⟩, hS.F ht⟩) hS.2.2 dX9_fewest_27
  have J_19 : ∀ (mi : Nat → Int32) (vnw : Nat → Int32) (vfr : Nat → Int32) (vrw : Nat → Int32) (l1 : Int32) (l2 : Int32) (H : Heap) (locs : List Loc) (ls : Array Slot), va_P (my_D Γ) vwCl (wModel Γ q_mo q_tt q_nw q_tr q_ot q_di q_kp q_ik q_wy q_ah q_tg q_ws q_fr q_rw mi vtt vnw vtr vot vdi vkp vik vwy vah vtg vws vfr vrw) H → va_D A (wModel Γ q_mo q_tt q_nw q_tr q_ot q_di q_kp q_ik q_wy q_ah q_tg q_ws q_fr q_rw mi vtt vnw vtr vot vdi vkp vik vwy vah vtg vws vfr vrw) → va_S A s.heap H locs → lv_has ls 7 [(0, .ref q_mo), (1, .int l1), (2, .int l2)] → mX9_fewest_J19 mi vnw vfr vrw l1 l2 = (some (rr, mi_z, vfr_z, vrw_z)) → W p l e (headSpec wsX9_fewest ({ frames := 3, cells := 0, slots := 0, locals := 72 } : Room)).room s m ([.ref q_mo, .int x0, .int x1] : List Value).toArray below meth c H locs 0 0 (MQ below (my_Q Γ A (some (.int rr)) (wModel Γ q_mo q_tt q_nw q_tr q_ot q_di q_kp q_ik q_wy q_ah q_tg q_ws q_fr q_rw mi_z vtt vnw vtr vot vdi vkp vik vwy vah vtg vws vfr_z vrw_z)) ([.ref q_mo, .int x0, .int x1] : List Value).toArray s 0 0 A) (F0 m 19 ls [.ref q_mo]) := by
    intro  mi vnw vfr vrw l1 l2 H locs ls hP hD hS hl hm
    unfold mX9_fewest_J19 at hm
    refine lv_iconst (v := (1 : Int32)) hx hb dX9_fewest_19 (by decide) ?_
    exact J_20 mi vnw vfr vrw l1 l2 (1 : Int32) _ _ _ hP hD hS (lv_sub hl [0, 1, 2] rfl) hm
  unfold mX9_fewest at hm
  refine lv_aload_n hx hb dX9_fewest_0 rfl (lv_at hl 0 rfl) ?_
  refine lv_iload_n hx hb dX9_fewest_1 rfl (lv_at hl 1 rfl) ?_
  refine my_callP1 (wc := ([] : va_W)) (w1 := ([] : va_W)) (ws1 := (wModel Γ q_mo q_tt q_nw q_tr q_ot q_di q_kp q_ik q_wy q_ah q_tg q_ws q_fr q_rw mi vtt vnw vtr vot vdi vkp vik vwy vah vtg vws vfr vrw)) hP hD hS hA [] rfl rfl rfl (va_runS (As := [.int x0]) (rest := [.ref q_mo]) ⟨hx, hb, hml, hown, hts⟩ (kX9_isRobot l Γ x0 (mX9_isRobot x0) rfl _) (va_cwS 1 hts gX9_fewest_X9_isRobot rfl rfl rfl (by decide +kernel) ⟨Nat.le_of_ble_eq_true rfl, Nat.le_of_ble_eq_true rfl⟩) (my_preS (wc := ([] : va_W)) [] hK hP hD rfl rfl) rfl rfl hl.1 rfl (lv_room (Nat.le_of_ble_eq_true rfl)) dX9_fewest_2 ⟨Nat.le_of_ble_eq_true rfl, Nat.le_of_ble_eq_true rfl⟩) (fun H locs hP hD hS => ?_)
  refine lv_if_eq (tgt := 19) hx hb dX9_fewest_5 (by decide) (fun c_1 => ?_) (fun c_1 => ?_)
  · replace hm := if_s hm c_1
    exact J_19 mi vnw vfr vrw x0 x1 _ _ _ hP hD hS (lv_sub hl [0, 1, 2] rfl) hm
  · replace hm := if_f hm c_1
    refine lv_iload_n hx hb dX9_fewest_8 rfl (lv_at hl 2 rfl) ?_
    refine my_callP1 (wc := ([] : va_W)) (w1 := ([] : va_W)) (ws1 := (wModel Γ q_mo q_tt q_nw q_tr q_ot q_di q_kp q_ik q_wy q_ah q_tg q_ws q_fr q_rw mi vtt vnw vtr vot vdi vkp vik vwy vah vtg vws vfr vrw)) hP hD hS hA [] rfl rfl rfl (va_runS (As := [.int x1]) (rest := [.ref q_mo]) ⟨hx, hb, hml, hown, hts⟩ (kX9_isCell l Γ x1 (mX9_isCell x1) rfl _) (va_cwS 1 hts gX9_fewest_X9_isCell rfl rfl rfl (by decide +kernel) ⟨Nat.le_of_ble_eq_true rfl, Nat.le_of_ble_eq_true rfl⟩) (my_preS (wc := ([] : va_W)) [] hK hP hD rfl rfl) rfl rfl hl.1 rfl (lv_room (Nat.le_of_ble_eq_true rfl)) dX9_fewest_9 ⟨Nat.le_of_ble_eq_true rfl, Nat.le_of_ble_eq_true rfl⟩) (fun H locs hP hD hS => ?_)
    refine lv_if_eq (tgt := 19) hx hb dX9_fewest_12 (by decide) (fun c_28 => ?_) (fun c_28 => ?_)
    · replace hm := if_s hm c_28
      exact J_19 mi vnw vfr vrw x0 x1 _ _ _ hP hD hS (lv_sub hl [0, 1, 2] rfl) hm
    · replace hm := if_f hm c_28
      refine lv_iconst (v := (0 : Int32)) hx hb dX9_fewest_15 (by decide) ?_
      refine lv_goto (tgt := 20) hx hb dX9_fewest_16 (by decide) ?_
      exact J_20 mi vnw vfr vrw x0 x1 (0 : Int32) _ _ _ hP hD hS (lv_sub hl [0, 1, 2] rfl) hm
def mX9_append_J31  (mi : Nat → Int32) (vtt : Nat → Int32) (l1 : Int32) (s1 : Int32) : Option (Int32 × (Nat → Int32) × (Nat → Int32)) := (bt2 (mX9_refused mi s1) (fun r_3 mi_4 => (if r_3 = 0 then (if ¬ ((mi_4 2) < 0 ∨ 120 ≤ (mi_4 2).toNatClampNeg) then (some (((mi_4 2) + (1 : Int32)), (upd mi_4 2 ((mi_4 2) + (1 : Int32))), (upd vtt (mi_4 2).toNatClampNeg l1))) else none) else (some ((0 : Int32), mi_4, vtt)))))
def mX9_append (mi : Nat → Int32) (vtt : Nat → Int32) (x0 : Int32) : Option (Int32 × (Nat → Int32) × (Nat → Int32)) := (if (mX9_in (x0.toInt64) (0 : Int64) (255 : Int64)) = 0 then (mX9_append_J31 mi vtt x0 (1 : Int32)) else (if (mi 2) = (120 : Int32) then (mX9_append_J31 mi vtt x0 (2 : Int32)) else (mX9_append_J31 mi vtt x0 (0 : Int32))))
set_option maxHeartbeats 4000000 in
set_option maxRecDepth 100000 in
theorem kX9_append (l : Launch) (Γ : my_G) (q_mo q_tt q_nw q_tr q_ot q_di q_kp q_ik q_wy q_ah q_tg q_ws q_fr q_rw : Nat) (mi : Nat → Int32) (vtt : Nat → Int32) (vnw : Nat → Int32) (vtr : Nat → Int32) (vot : Nat → Int32) (vdi : Nat → Int32) (vkp : Nat → Int32) (vik : Nat → Int32) (vwy : Nat → Int32) (vah : Nat → Int32) (vtg : Nat → Int32) (vws : Nat → Int32) (vfr : Nat → Int32) (vrw : Nat → Int32) (x0 : Int32) (rr : Int32) (mi_z : Nat → Int32) (vtt_z : Nat → Int32) (hm : mX9_append mi vtt x0 = (some (rr, mi_z, vtt_z))) : Mn l yX9_append wsX9_append ({ frames := 1, cells := 0, slots := 0, locals := 25 } : Room) Γ [.ref q_mo, .int x0] (wModel Γ q_mo q_tt q_nw q_tr q_ot q_di q_kp q_ik q_wy q_ah q_tg q_ws q_fr q_rw mi vtt vnw vtr vot vdi vkp vik vwy vah vtg vws vfr vrw) (some (.int rr)) (wModel Γ q_mo q_tt q_nw q_tr q_ot q_di q_kp q_ik q_wy q_ah q_tg q_ws q_fr q_rw mi_z vtt_z vnw vtr vot vdi vkp vik vwy vah vtg vws vfr vrw) := by
  intro sz
  refine Met.ofW (cc := cX9_append) (maxL := 2) (ret := (some .int)) (by decide) rfl ?_
  intro p e s m args below meth c s₁ B hml hv
  obtain ⟨rfl, hsz, hP, hK, hD0⟩ := hv
  have hx := B.exec
  have hb := B.bytes
  have hr := B.returns
  have hts := atoms_spec (ws := wsX9_append) B.pre
  have hown : s.vm.findClass RX9 = some m.cls := findClass_of_methodNamed B.named
  have hlocks := B.notSynchronized
  have hinX9 : ∀ w ∈ u_ws RX9 TX9 19, w ∈ wsX9_append := fun w h => List.mem_cons_of_mem _ (List.mem_append_right _ h)
  subst hsz
  have hD := hD0.self (sz := s.heap.size)
  have hA : ∀ q : Nat, s.heap.size ≤ q → va_A (wModel Γ q_mo q_tt q_nw q_tr q_ot q_di q_kp q_ik q_wy q_ah q_tg q_ws q_fr q_rw mi vtt vnw vtr vot vdi vkp vik vwy vah vtg vws vfr vrw) s.heap.size q := fun q h => Or.inr h
  generalize va_A (wModel Γ q_mo q_tt q_nw q_tr q_ot q_di q_kp q_ik q_wy q_ah q_tg q_ws q_fr q_rw mi vtt vnw vtr vot vdi vkp vik vwy vah vtg vws vfr vrw) s.heap.size = A at hD hA ⊢
  have hS : va_S A s.heap s.heap [] := va_S.rf
  have hl := lv_entry ([.ref q_mo, .int x0]) (n := 2) (Nat.le_of_ble_eq_true rfl)
  rw [lg_entry_eq]
  generalize (lg_sl ([.ref q_mo, .int x0]) ++ List.replicate (2 - (lg_sl ([.ref q_mo, .int x0])).length) Slot.unset).toArray = ls at hl ⊢
  replace hl : lv_has ls 2 [(0, .ref q_mo), (1, .int x0)] := hl
  have J_31 : ∀ (mi : Nat → Int32) (vtt : Nat → Int32) (l1 : Int32) (s1 : Int32) (H : Heap) (locs : List Loc) (ls : Array Slot), va_P (my_D Γ) vwCl (wModel Γ q_mo q_tt q_nw q_tr q_ot q_di q_kp q_ik q_wy q_ah q_tg q_ws q_fr q_rw mi vtt vnw vtr vot vdi vkp vik vwy vah vtg vws vfr vrw) H → va_D A (wModel Γ q_mo q_tt q_nw q_tr q_ot q_di q_kp q_ik q_wy q_ah q_tg q_ws q_fr q_rw mi vtt vnw vtr vot vdi vkp vik vwy vah vtg vws vfr vrw) → va_S A s.heap H locs → lv_has ls 2 [(0, .ref q_mo), (1, .int l1)] → mX9_append_J31 mi vtt l1 s1 = (some (rr, mi_z, vtt_z)) → W p l e (headSpec wsX9_append ({ frames := 1, cells := 0, slots := 0, locals := 25 } : Room)).room s m ([.ref q_mo, .int x0] : List Value).toArray below meth c H locs 0 0 (MQ below (my_Q Γ A (some (.int rr)) (wModel Γ q_mo q_tt q_nw q_tr q_ot q_di q_kp q_ik q_wy q_ah q_tg q_ws q_fr q_rw mi_z vtt_z vnw vtr vot vdi vkp vik vwy vah vtg vws vfr vrw)) ([.ref q_mo, .int x0] : List Value).toArray s 0 0 A) (F0 m 31 ls [.int s1, .ref q_mo]) := by
    intro  mi vtt l1 s1 H locs ls hP hD hS hl hm
    unfold mX9_append_J31 at hm
    obtain ⟨r_3, mi_4, hc_5, hm⟩ := bt2_s hm
    refine my_callP1 (wc := (wMo Γ q_mo q_tt q_nw q_tr q_ot q_di q_kp q_ik q_wy q_ah q_tg q_ws q_fr q_rw mi)) (w1 := (wMo Γ q_mo q_tt q_nw q_tr q_ot q_di q_kp q_ik q_wy q_ah q_tg q_ws q_fr q_rw mi_4)) (ws1 := (wModel Γ q_mo q_tt q_nw q_tr q_ot q_di q_kp q_ik q_wy q_ah q_tg q_ws q_fr q_rw mi_4 vtt vnw vtr vot vdi vkp vik vwy vah vtg vws vfr vrw)) hP hD hS hA [0] rfl rfl rfl (va_runV (As := [.int s1]) (rest := []) ⟨hx, hb, hml, hown, hts⟩ (kX9_refused l Γ q_mo q_tt q_nw q_tr q_ot q_di q_kp q_ik q_wy q_ah q_tg q_ws q_fr q_rw mi s1 r_3 mi_4 hc_5 _) (cwV 1 hts gX9_append_X9_refused rfl rfl rfl (by decide +kernel) ⟨Nat.le_of_ble_eq_true rfl, Nat.le_of_ble_eq_true rfl⟩) (my_preV (wc := (wMo Γ q_mo q_tt q_nw q_tr q_ot q_di q_kp q_ik q_wy q_ah q_tg q_ws q_fr q_rw mi)) (ci := 7) (q0 := 0) [0] hK hP hD rfl rfl rfl rfl) rfl rfl hl.1 rfl (lv_room (Nat.le_of_ble_eq_true rfl)) dX9_append_31 ⟨Nat.le_of_ble_eq_true rfl, Nat.le_of_ble_eq_true rfl⟩) (fun H locs hP hD hS => ?_)
    refine lv_if_eq (tgt := 39) hx hb dX9_append_34 (by decide) (fun c_6 => ?_) (fun c_6 => ?_)
    · replace hm := if_s hm c_6
      refine lv_aload_n hx hb dX9_append_39 rfl (lv_at hl 0 rfl) ?_
      refine va_get (D := my_D Γ) (ci := 7) (v := .ref q_tt) (C := RX9) (T := TX9) (N := 19) hx hb hts hinX9 hown hK hP 0 rfl rfl 1 (by decide) (hts (.fieldLink RX9 7 "BeltFloorModel" "text" "[I") (List.mem_of_getElem? (i := 3) rfl)) (fun _ h9 => h9) rfl dX9_append_40 ?_
      refine lv_aload_n hx hb dX9_append_43 rfl (lv_at hl 0 rfl) ?_
      refine va_get (D := my_D Γ) (ci := 7) (v := .int (mi_4 2)) (C := RX9) (T := TX9) (N := 19) hx hb hts hinX9 hown hK hP 0 rfl rfl 2 (by decide) (hts (.fieldLink RX9 153 "BeltFloorModel" "size" "I") (List.mem_of_getElem? (i := 2) rfl)) (fun _ h9 => h9) rfl dX9_append_44 ?_
      refine lv_iload_n hx hb dX9_append_47 rfl (lv_at hl 1 rfl) ?_
      obtain ⟨hi_7, hm⟩ := if_in hm
      refine va_iast hx hb hK hP hD hS 1 0 rfl rfl hi_7 dX9_append_48 (fun H locs hP hD hS => ?_)
      replace hP : va_P (my_D Γ) vwCl (wModel Γ q_mo q_tt q_nw q_tr q_ot q_di q_kp q_ik q_wy q_ah q_tg q_ws q_fr q_rw mi_4 (upd vtt (mi_4 2).toNatClampNeg l1) vnw vtr vot vdi vkp vik vwy vah vtg vws vfr vrw) H := hP
      replace hD : va_D A (wModel Γ q_mo q_tt q_nw q_tr q_ot q_di q_kp q_ik q_wy q_ah q_tg q_ws q_fr q_rw mi_4 (upd vtt (mi_4 2).toNatClampNeg l1) vnw vtr vot vdi vkp vik vwy vah vtg vws vfr vrw) := hD
      refine lv_aload_n hx hb dX9_append_49 rfl (lv_at hl 0 rfl) ?_
      refine lv_dup hx hb dX9_append_50 rfl ?_
      refine va_get (D := my_D Γ) (ci := 7) (v := .int (mi_4 2)) (C := RX9) (T := TX9) (N := 19) hx hb hts hinX9 hown hK hP 0 rfl rfl 2 (by decide) (hts (.fieldLink RX9 153 "BeltFloorModel" "size" "I") (List.mem_of_getElem? (i := 2) rfl)) (fun _ h9 => h9) rfl dX9_append_51 ?_
      refine lv_iconst (v := (1 : Int32)) hx hb dX9_append_54 (by decide) ?_
      refine lv_iadd hx hb dX9_append_55 ?_
      refine lv_topi (fun y_8 ey_8 => ?_)
      refine va_put (D := my_D Γ) (ci := 7) (v := .int y_8) (ty := .int) (C := RX9) (T := TX9) (N := 19) hx hb hts hinX9 tyX9 tyX9_ok nmX9 hown hK hP hD hS 0 rfl rfl 2 (by decide) (hts (.fieldLink RX9 153 "BeltFloorModel" "size" "I") (List.mem_of_getElem? (i := 2) rfl)) (fun _ h9 => h9) rfl (by decide +kernel) rfl rfl (Nat.le_of_ble_eq_true rfl) dX9_append_56 (fun H locs hP hD hS => ?_)
      replace hP : va_P (my_D Γ) vwCl (wModel Γ q_mo q_tt q_nw q_tr q_ot q_di q_kp q_ik q_wy q_ah q_tg q_ws q_fr q_rw (upd mi_4 2 y_8) (upd vtt (mi_4 2).toNatClampNeg l1) vnw vtr vot vdi vkp vik vwy vah vtg vws vfr vrw) H := hP
      replace hD : va_D A (wModel Γ q_mo q_tt q_nw q_tr q_ot q_di q_kp q_ik q_wy q_ah q_tg q_ws q_fr q_rw (upd mi_4 2 y_8) (upd vtt (mi_4 2).toNatClampNeg l1) vnw vtr vot vdi vkp vik vwy vah vtg vws vfr vrw) := hD
      subst ey_8
      refine lv_aload_n hx hb dX9_append_59 rfl (lv_at hl 0 rfl) ?_
      refine va_get (D := my_D Γ) (ci := 7) (v := .int ((mi_4 2) + (1 : Int32))) (C := RX9) (T := TX9) (N := 19) hx hb hts hinX9 hown hK hP 0 rfl rfl 2 (by decide) (hts (.fieldLink RX9 153 "BeltFloorModel" "size" "I") (List.mem_of_getElem? (i := 2) rfl)) (fun _ h9 => h9) rfl dX9_append_60 ?_
      obtain ⟨hf0, hf1, hf2⟩ := si3 hm
      subst hf0
      subst hf1
      subst hf2
      exact W.iret (v := ((mi_4 2) + (1 : Int32))) hx hb hr (fun t ht hW => ⟨⟨rfl, by rw [ht]; exact hP⟩, hS.F ht⟩) hS.2.2 dX9_append_63
    · replace hm := if_f hm c_6
      refine lv_iconst (v := (0 : Int32)) hx hb dX9_append_37 (by decide) ?_
      obtain ⟨hf0, hf1, hf2⟩ := si3 hm
      subst hf0
      subst hf1
      subst hf2
      exact W.iret (v := (0 : Int32)) hx hb hr (fun t ht hW => ⟨⟨rfl, by rw [ht]; exact hP⟩, hS.F ht⟩) hS.2.2 dX9_append_38
  unfold mX9_append at hm
  refine lv_aload_n hx hb dX9_append_0 rfl (lv_at hl 0 rfl) ?_
  refine lv_iload_n hx hb dX9_append_1 rfl (lv_at hl 1 rfl) ?_
  refine lv_i2l (v := x0.toInt64) hx hb dX9_append_2 rfl ?_
  refine lv_lconst (v := (0 : Int64)) hx hb dX9_append_3 (by decide) ?_
  refine lv_ldc2 (v := (255 : Int64)) hx hb hown (hts (.constantLong RX9 151 (255)) (List.mem_of_getElem? (i := 1) rfl)) dX9_append_4 ?_
  refine my_callP1 (wc := ([] : va_W)) (w1 := ([] : va_W)) (ws1 := (wModel Γ q_mo q_tt q_nw q_tr q_ot q_di q_kp q_ik q_wy q_ah q_tg q_ws q_fr q_rw mi vtt vnw vtr vot vdi vkp vik vwy vah vtg vws vfr vrw)) hP hD hS hA [] rfl rfl rfl (va_runS (As := [.long (x0.toInt64), .long (0 : Int64), .long (255 : Int64)]) (rest := [.ref q_mo]) ⟨hx, hb, hml, hown, hts⟩ (kX9_in l Γ (x0.toInt64) (0 : Int64) (255 : Int64) (mX9_in (x0.toInt64) (0 : Int64) (255 : Int64)) rfl _) (va_cwS 3 hts gX9_append_X9_in rfl rfl rfl (by decide +kernel) ⟨Nat.le_of_ble_eq_true rfl, Nat.le_of_ble_eq_true rfl⟩) (my_preS (wc := ([] : va_W)) [] hK hP hD rfl rfl) rfl rfl hl.1 rfl (lv_room (Nat.le_of_ble_eq_true rfl)) dX9_append_7 ⟨Nat.le_of_ble_eq_true rfl, Nat.le_of_ble_eq_true rfl⟩) (fun H locs hP hD hS => ?_)
  refine lv_if_ne (tgt := 17) hx hb dX9_append_10 (by decide) (fun c_1 => ?_) (fun c_1 => ?_)
  · replace hm := if_f hm c_1
    refine lv_aload_n hx hb dX9_append_17 rfl (lv_at hl 0 rfl) ?_
    refine va_get (D := my_D Γ) (ci := 7) (v := .int (mi 2)) (C := RX9) (T := TX9) (N := 19) hx hb hts hinX9 hown hK hP 0 rfl rfl 2 (by decide) (hts (.fieldLink RX9 153 "BeltFloorModel" "size" "I") (List.mem_of_getElem? (i := 2) rfl)) (fun _ h9 => h9) rfl dX9_append_18 ?_
    refine lv_bipush (v := (120 : Int32)) hx hb dX9_append_21 (by decide) ?_
    refine lv_icmp_ne (tgt := 30) hx hb dX9_append_23 (by decide) (fun c_2 => ?_) (fun c_2 => ?_)
    · replace hm := if_f hm c_2
      refine lv_iconst (v := (0 : Int32)) hx hb dX9_append_30 (by decide) ?_
      exact J_31 mi vtt x0 (0 : Int32) _ _ _ hP hD hS (lv_sub hl [0, 1] rfl) hm
    · replace hm := if_s hm c_2
      refine lv_iconst (v := (2 : Int32)) hx hb dX9_append_26 (by decide) ?_
      refine lv_goto (tgt := 31) hx hb dX9_append_27 (by decide) ?_
      exact J_31 mi vtt x0 (2 : Int32) _ _ _ hP hD hS (lv_sub hl [0, 1] rfl) hm
  · replace hm := if_s hm c_1
    refine lv_iconst (v := (1 : Int32)) hx hb dX9_append_13 (by decide) ?_
    refine lv_goto (tgt := 31) hx hb dX9_append_14 (by decide) ?_
    exact J_31 mi vtt x0 (1 : Int32) _ _ _ hP hD hS (lv_sub hl [0, 1] rfl) hm
def mX9_errorPosition (mi : Nat → Int32) (vtt : Nat → Int32) (vtr : Nat → Int32) : Option (Int32 × (Nat → Int32) × (Nat → Int32)) := (bo3 (mX9_readText (upd mi 0 (0 : Int32)) vtt vtr) (fun r_1 mi_2 vtr_3 => (some (r_1, mi_2, vtr_3))))
set_option maxHeartbeats 4000000 in
set_option maxRecDepth 100000 in
theorem kX9_errorPosition (l : Launch) (Γ : my_G) (q_mo q_tt q_nw q_tr q_ot q_di q_kp q_ik q_wy q_ah q_tg q_ws q_fr q_rw : Nat) (mi : Nat → Int32) (vtt : Nat → Int32) (vnw : Nat → Int32) (vtr : Nat → Int32) (vot : Nat → Int32) (vdi : Nat → Int32) (vkp : Nat → Int32) (vik : Nat → Int32) (vwy : Nat → Int32) (vah : Nat → Int32) (vtg : Nat → Int32) (vws : Nat → Int32) (vfr : Nat → Int32) (vrw : Nat → Int32)  (rr : Int32) (mi_z : Nat → Int32) (vtr_z : Nat → Int32) (hm : mX9_errorPosition mi vtt vtr = (some (rr, mi_z, vtr_z))) : Mn l yX9_errorPosition wsX9_errorPosition ({ frames := 7, cells := 0, slots := 0, locals := 152 } : Room) Γ [.ref q_mo] (wModel Γ q_mo q_tt q_nw q_tr q_ot q_di q_kp q_ik q_wy q_ah q_tg q_ws q_fr q_rw mi vtt vnw vtr vot vdi vkp vik vwy vah vtg vws vfr vrw) (some (.int rr)) (wModel Γ q_mo q_tt q_nw q_tr q_ot q_di q_kp q_ik q_wy q_ah q_tg q_ws q_fr q_rw mi_z vtt vnw vtr_z vot vdi vkp vik vwy vah vtg vws vfr vrw) := by
  intro sz
  refine Met.ofW (cc := cX9_errorPosition) (maxL := 1) (ret := (some .int)) (by decide) rfl ?_
  intro p e s m args below meth c s₁ B hml hv
  obtain ⟨rfl, hsz, hP, hK, hD0⟩ := hv
  have hx := B.exec
  have hb := B.bytes
  have hr := B.returns
  have hts := atoms_spec (ws := wsX9_errorPosition) B.pre
  have hown : s.vm.findClass RX9 = some m.cls := findClass_of_methodNamed B.named
  have hlocks := B.notSynchronized
  have hinX9 : ∀ w ∈ u_ws RX9 TX9 19, w ∈ wsX9_errorPosition := fun w h => List.mem_cons_of_mem _ (List.mem_append_right _ h)
  subst hsz
  have hD := hD0.self (sz := s.heap.size)
  have hA : ∀ q : Nat, s.heap.size ≤ q → va_A (wModel Γ q_mo q_tt q_nw q_tr q_ot q_di q_kp q_ik q_wy q_ah q_tg q_ws q_fr q_rw mi vtt vnw vtr vot vdi vkp vik vwy vah vtg vws vfr vrw) s.heap.size q := fun q h => Or.inr h
  generalize va_A (wModel Γ q_mo q_tt q_nw q_tr q_ot q_di q_kp q_ik q_wy q_ah q_tg q_ws q_fr q_rw mi vtt vnw vtr vot vdi vkp vik vwy vah vtg vws vfr vrw) s.heap.size = A at hD hA ⊢
  have hS : va_S A s.heap s.heap [] := va_S.rf
  have hl := lv_entry ([.ref q_mo]) (n := 1) (Nat.le_of_ble_eq_true rfl)
  rw [lg_entry_eq]
  generalize (lg_sl ([.ref q_mo]) ++ List.replicate (1 - (lg_sl ([.ref q_mo])).length) Slot.unset).toArray = ls at hl ⊢
  replace hl : lv_has ls 1 [(0, .ref q_mo)] := hl
  unfold mX9_errorPosition at hm
  refine lv_aload_n hx hb dX9_errorPosition_0 rfl (lv_at hl 0 rfl) ?_
  refine lv_iconst (v := (0 : Int32)) hx hb dX9_errorPosition_1 (by decide) ?_
  refine va_put (D := my_D Γ) (ci := 7) (v := .int (0 : Int32)) (ty := .int) (C := RX9) (T := TX9) (N := 19) hx hb hts hinX9 tyX9 tyX9_ok nmX9 hown hK hP hD hS 0 rfl rfl 0 (by decide) (hts (.fieldLink RX9 54 "BeltFloorModel" "refusal" "I") (List.mem_of_getElem? (i := 1) rfl)) (fun _ h9 => h9) rfl (by decide +kernel) rfl rfl (Nat.le_of_ble_eq_true rfl) dX9_errorPosition_2 (fun H locs hP hD hS => ?_)
  replace hP : va_P (my_D Γ) vwCl (wModel Γ q_mo q_tt q_nw q_tr q_ot q_di q_kp q_ik q_wy q_ah q_tg q_ws q_fr q_rw (upd mi 0 (0 : Int32)) vtt vnw vtr vot vdi vkp vik vwy vah vtg vws vfr vrw) H := hP
  replace hD : va_D A (wModel Γ q_mo q_tt q_nw q_tr q_ot q_di q_kp q_ik q_wy q_ah q_tg q_ws q_fr q_rw (upd mi 0 (0 : Int32)) vtt vnw vtr vot vdi vkp vik vwy vah vtg vws vfr vrw) := hD
  refine lv_aload_n hx hb dX9_errorPosition_5 rfl (lv_at hl 0 rfl) ?_
  refine lv_aload_n hx hb dX9_errorPosition_6 rfl (lv_at hl 0 rfl) ?_
  refine va_get (D := my_D Γ) (ci := 7) (v := .ref q_tr) (C := RX9) (T := TX9) (N := 19) hx hb hts hinX9 hown hK hP 0 rfl rfl 4 (by decide) (hts (.fieldLink RX9 16 "BeltFloorModel" "trial" "[I") (List.mem_of_getElem? (i := 2) rfl)) (fun _ h9 => h9) rfl dX9_errorPosition_7 ?_
  obtain ⟨r_1, mi_2, vtr_3, hc_4, hm⟩ := bo3_s hm
  refine my_callP1 (wc := (wRead Γ q_mo q_tt q_tr q_nw q_tr q_ot q_di q_kp q_ik q_wy q_ah q_tg q_ws q_fr q_rw (upd mi 0 (0 : Int32)) vtt vtr)) (w1 := (wRead Γ q_mo q_tt q_tr q_nw q_tr q_ot q_di q_kp q_ik q_wy q_ah q_tg q_ws q_fr q_rw mi_2 vtt vtr_3)) (ws1 := (wModel Γ q_mo q_tt q_nw q_tr q_ot q_di q_kp q_ik q_wy q_ah q_tg q_ws q_fr q_rw mi_2 vtt vnw vtr_3 vot vdi vkp vik vwy vah vtg vws vfr vrw)) hP hD hS hA [0, 1, 3] rfl rfl rfl (va_runV (As := [.ref q_tr]) (rest := []) ⟨hx, hb, hml, hown, hts⟩ (kX9_readText l Γ q_mo q_tt q_tr q_nw q_tr q_ot q_di q_kp q_ik q_wy q_ah q_tg q_ws q_fr q_rw (upd mi 0 (0 : Int32)) vtt vtr r_1 mi_2 vtr_3 hc_4 _) (cwV 1 hts gX9_errorPosition_X9_readText rfl rfl rfl (by decide +kernel) ⟨Nat.le_of_ble_eq_true rfl, Nat.le_of_ble_eq_true rfl⟩) (my_preV (wc := (wRead Γ q_mo q_tt q_tr q_nw q_tr q_ot q_di q_kp q_ik q_wy q_ah q_tg q_ws q_fr q_rw (upd mi 0 (0 : Int32)) vtt vtr)) (ci := 7) (q0 := 0) [0, 1, 3] hK hP hD rfl rfl rfl rfl) rfl rfl hl.1 rfl (lv_room (Nat.le_of_ble_eq_true rfl)) dX9_errorPosition_10 ⟨Nat.le_of_ble_eq_true rfl, Nat.le_of_ble_eq_true rfl⟩) (fun H locs hP hD hS => ?_)
  obtain ⟨hf0, hf1, hf2⟩ := si3 hm
  subst hf0
  subst hf1
  subst hf2
  exact W.iret (v := r_1) hx hb hr (fun t ht hW => ⟨⟨rfl, by rw [ht]; exact hP⟩, hS.F ht⟩) hS.2.2 dX9_errorPosition_13
def mX9_load_J18  (mi : Nat → Int32) (vtt : Nat → Int32) (vnw : Nat → Int32) (vtr : Nat → Int32) (vik : Nat → Int32) (s1 : Int32) : Option (Int32 × (Nat → Int32) × (Nat → Int32) × (Nat → Int32) × (Nat → Int32)) := (bt2 (mX9_refused mi s1) (fun r_6 mi_7 => (if r_6 = 0 then (bo1 (mX9_copyState_117_117 vtr vnw (0 : Int32) (0 : Int32)) (fun vnw_10 => (some ((mi_7 17), (upd mi_7 7 (0 : Int32)), vnw_10, vtr, (upd (upd vik (0 : Int32).toNatClampNeg (0 : Int32)) (1 : Int32).toNatClampNeg (0 : Int32)))))) else (some ((0 : Int32), mi_7, vnw, vtr, vik)))))
def mX9_load (mi : Nat → Int32) (vtt : Nat → Int32) (vnw : Nat → Int32) (vtr : Nat → Int32) (vik : Nat → Int32) : Option (Int32 × (Nat → Int32) × (Nat → Int32) × (Nat → Int32) × (Nat → Int32)) := (bo3 (mX9_readText mi vtt vtr) (fun r_1 mi_2 vtr_3 => (if r_1 = (-1 : Int32) then (mX9_load_J18 mi_2 vtt vnw vtr_3 vik (0 : Int32)) else (mX9_load_J18 mi_2 vtt vnw vtr_3 vik (1 : Int32)))))
set_option maxHeartbeats 4000000 in
set_option maxRecDepth 100000 in
theorem kX9_load (l : Launch) (Γ : my_G) (q_mo q_tt q_nw q_tr q_ot q_di q_kp q_ik q_wy q_ah q_tg q_ws q_fr q_rw : Nat) (mi : Nat → Int32) (vtt : Nat → Int32) (vnw : Nat → Int32) (vtr : Nat → Int32) (vot : Nat → Int32) (vdi : Nat → Int32) (vkp : Nat → Int32) (vik : Nat → Int32) (vwy : Nat → Int32) (vah : Nat → Int32) (vtg : Nat → Int32) (vws : Nat → Int32) (vfr : Nat → Int32) (vrw : Nat → Int32)  (rr : Int32) (mi_z : Nat → Int32) (vnw_z : Nat → Int32) (vtr_z : Nat → Int32) (vik_z : Nat → Int32) (hm : mX9_load mi vtt vnw vtr vik = (some (rr, mi_z, vnw_z, vtr_z, vik_z))) : Mn l yX9_load wsX9_load ({ frames := 7, cells := 0, slots := 0, locals := 152 } : Room) Γ [.ref q_mo] (wModel Γ q_mo q_tt q_nw q_tr q_ot q_di q_kp q_ik q_wy q_ah q_tg q_ws q_fr q_rw mi vtt vnw vtr vot vdi vkp vik vwy vah vtg vws vfr vrw) (some (.int rr)) (wModel Γ q_mo q_tt q_nw q_tr q_ot q_di q_kp q_ik q_wy q_ah q_tg q_ws q_fr q_rw mi_z vtt vnw_z vtr_z vot vdi vkp vik_z vwy vah vtg vws vfr vrw) := by
  intro sz
  refine Met.ofW (cc := cX9_load) (maxL := 1) (ret := (some .int)) (by decide) rfl ?_
  intro p e s m args below meth c s₁ B hml hv
  obtain ⟨rfl, hsz, hP, hK, hD0⟩ := hv
  have hx := B.exec
  have hb := B.bytes
  have hr := B.returns
  have hts := atoms_spec (ws := wsX9_load) B.pre
  have hown : s.vm.findClass RX9 = some m.cls := findClass_of_methodNamed B.named
  have hlocks := B.notSynchronized
  have hinX9 : ∀ w ∈ u_ws RX9 TX9 19, w ∈ wsX9_load := fun w h => List.mem_cons_of_mem _ (List.mem_append_right _ h)
  subst hsz
  have hD := hD0.self (sz := s.heap.size)
  have hA : ∀ q : Nat, s.heap.size ≤ q → va_A (wModel Γ q_mo q_tt q_nw q_tr q_ot q_di q_kp q_ik q_wy q_ah q_tg q_ws q_fr q_rw mi vtt vnw vtr vot vdi vkp vik vwy vah vtg vws vfr vrw) s.heap.size q := fun q h => Or.inr h
  generalize va_A (wModel Γ q_mo q_tt q_nw q_tr q_ot q_di q_kp q_ik q_wy q_ah q_tg q_ws q_fr q_rw mi vtt vnw vtr vot vdi vkp vik vwy vah vtg vws vfr vrw) s.heap.size = A at hD hA ⊢
  have hS : va_S A s.heap s.heap [] := va_S.rf
  have hl := lv_entry ([.ref q_mo]) (n := 1) (Nat.le_of_ble_eq_true rfl)
  rw [lg_entry_eq]
  generalize (lg_sl ([.ref q_mo]) ++ List.replicate (1 - (lg_sl ([.ref q_mo])).length) Slot.unset).toArray = ls at hl ⊢
  replace hl : lv_has ls 1 [(0, .ref q_mo)] := hl
  have J_18 : ∀ (mi : Nat → Int32) (vtt : Nat → Int32) (vnw : Nat → Int32) (vtr : Nat → Int32) (vik : Nat → Int32) (s1 : Int32) (H : Heap) (locs : List Loc) (ls : Array Slot), va_P (my_D Γ) vwCl (wModel Γ q_mo q_tt q_nw q_tr q_ot q_di q_kp q_ik q_wy q_ah q_tg q_ws q_fr q_rw mi vtt vnw vtr vot vdi vkp vik vwy vah vtg vws vfr vrw) H → va_D A (wModel Γ q_mo q_tt q_nw q_tr q_ot q_di q_kp q_ik q_wy q_ah q_tg q_ws q_fr q_rw mi vtt vnw vtr vot vdi vkp vik vwy vah vtg vws vfr vrw) → va_S A s.heap H locs → lv_has ls 1 [(0, .ref q_mo)] → mX9_load_J18 mi vtt vnw vtr vik s1 = (some (rr, mi_z, vnw_z, vtr_z, vik_z)) → W p l e (headSpec wsX9_load ({ frames := 7, cells := 0, slots := 0, locals := 152 } : Room)).room s m ([.ref q_mo] : List Value).toArray below meth c H locs 0 0 (MQ below (my_Q Γ A (some (.int rr)) (wModel Γ q_mo q_tt q_nw q_tr q_ot q_di q_kp q_ik q_wy q_ah q_tg q_ws q_fr q_rw mi_z vtt vnw_z vtr_z vot vdi vkp vik_z vwy vah vtg vws vfr vrw)) ([.ref q_mo] : List Value).toArray s 0 0 A) (F0 m 18 ls [.int s1, .ref q_mo]) := by
    intro  mi vtt vnw vtr vik s1 H locs ls hP hD hS hl hm
    unfold mX9_load_J18 at hm
    obtain ⟨r_6, mi_7, hc_8, hm⟩ := bt2_s hm
    refine my_callP1 (wc := (wMo Γ q_mo q_tt q_nw q_tr q_ot q_di q_kp q_ik q_wy q_ah q_tg q_ws q_fr q_rw mi)) (w1 := (wMo Γ q_mo q_tt q_nw q_tr q_ot q_di q_kp q_ik q_wy q_ah q_tg q_ws q_fr q_rw mi_7)) (ws1 := (wModel Γ q_mo q_tt q_nw q_tr q_ot q_di q_kp q_ik q_wy q_ah q_tg q_ws q_fr q_rw mi_7 vtt vnw vtr vot vdi vkp vik vwy vah vtg vws vfr vrw)) hP hD hS hA [0] rfl rfl rfl (va_runV (As := [.int s1]) (rest := []) ⟨hx, hb, hml, hown, hts⟩ (kX9_refused l Γ q_mo q_tt q_nw q_tr q_ot q_di q_kp q_ik q_wy q_ah q_tg q_ws q_fr q_rw mi s1 r_6 mi_7 hc_8 _) (cwV 1 hts gX9_load_X9_refused rfl rfl rfl (by decide +kernel) ⟨Nat.le_of_ble_eq_true rfl, Nat.le_of_ble_eq_true rfl⟩) (my_preV (wc := (wMo Γ q_mo q_tt q_nw q_tr q_ot q_di q_kp q_ik q_wy q_ah q_tg q_ws q_fr q_rw mi)) (ci := 7) (q0 := 0) [0] hK hP hD rfl rfl rfl rfl) rfl rfl hl.1 rfl (lv_room (Nat.le_of_ble_eq_true rfl)) dX9_load_18 ⟨Nat.le_of_ble_eq_true rfl, Nat.le_of_ble_eq_true rfl⟩) (fun H locs hP hD hS => ?_)
    refine lv_if_eq (tgt := 26) hx hb dX9_load_21 (by decide) (fun c_9 => ?_) (fun c_9 => ?_)
    · replace hm := if_s hm c_9
      refine lv_aload_n hx hb dX9_load_26 rfl (lv_at hl 0 rfl) ?_
      refine va_get (D := my_D Γ) (ci := 7) (v := .ref q_tr) (C := RX9) (T := TX9) (N := 19) hx hb hts hinX9 hown hK hP 0 rfl rfl 4 (by decide) (hts (.fieldLink RX9 16 "BeltFloorModel" "trial" "[I") (List.mem_of_getElem? (i := 1) rfl)) (fun _ h9 => h9) rfl dX9_load_27 ?_
      refine lv_iconst (v := (0 : Int32)) hx hb dX9_load_30 (by decide) ?_
      refine lv_aload_n hx hb dX9_load_31 rfl (lv_at hl 0 rfl) ?_
      refine va_get (D := my_D Γ) (ci := 7) (v := .ref q_nw) (C := RX9) (T := TX9) (N := 19) hx hb hts hinX9 hown hK hP 0 rfl rfl 3 (by decide) (hts (.fieldLink RX9 13 "BeltFloorModel" "now" "[I") (List.mem_of_getElem? (i := 2) rfl)) (fun _ h9 => h9) rfl dX9_load_32 ?_
      refine lv_iconst (v := (0 : Int32)) hx hb dX9_load_35 (by decide) ?_
      obtain ⟨vnw_10, hc_11, hm⟩ := bo1_s hm
      refine my_callP0 (wc := (wArr117 Γ q_tr vtr ++ wArr117 Γ q_nw vnw)) (w1 := (wArr117 Γ q_tr vtr ++ wArr117 Γ q_nw vnw_10)) (ws1 := (wModel Γ q_mo q_tt q_nw q_tr q_ot q_di q_kp q_ik q_wy q_ah q_tg q_ws q_fr q_rw mi_7 vtt vnw_10 vtr vot vdi vkp vik vwy vah vtg vws vfr vrw)) hP hD hS hA [3, 2] rfl rfl rfl (va_runS (As := [.ref q_tr, .int (0 : Int32), .ref q_nw, .int (0 : Int32)]) (rest := []) ⟨hx, hb, hml, hown, hts⟩ (kX9_copyState_117_117 l Γ q_tr q_nw vtr vnw (0 : Int32) (0 : Int32) vnw_10 hc_11 _) (va_cwS 4 hts gX9_load_X9_copyState rfl rfl rfl (by decide +kernel) ⟨Nat.le_of_ble_eq_true rfl, Nat.le_of_ble_eq_true rfl⟩) (my_preS (wc := (wArr117 Γ q_tr vtr ++ wArr117 Γ q_nw vnw)) [3, 2] hK hP hD rfl rfl) rfl rfl hl.1 rfl (lv_room (Nat.le_of_ble_eq_true rfl)) dX9_load_36 ⟨Nat.le_of_ble_eq_true rfl, Nat.le_of_ble_eq_true rfl⟩) (fun H locs hP hD hS => ?_)
      refine lv_aload_n hx hb dX9_load_39 rfl (lv_at hl 0 rfl) ?_
      refine lv_iconst (v := (0 : Int32)) hx hb dX9_load_40 (by decide) ?_
      refine va_put (D := my_D Γ) (ci := 7) (v := .int (0 : Int32)) (ty := .int) (C := RX9) (T := TX9) (N := 19) hx hb hts hinX9 tyX9 tyX9_ok nmX9 hown hK hP hD hS 0 rfl rfl 7 (by decide) (hts (.fieldLink RX9 224 "BeltFloorModel" "acts" "I") (List.mem_of_getElem? (i := 3) rfl)) (fun _ h9 => h9) rfl (by decide +kernel) rfl rfl (Nat.le_of_ble_eq_true rfl) dX9_load_41 (fun H locs hP hD hS => ?_)
      replace hP : va_P (my_D Γ) vwCl (wModel Γ q_mo q_tt q_nw q_tr q_ot q_di q_kp q_ik q_wy q_ah q_tg q_ws q_fr q_rw (upd mi_7 7 (0 : Int32)) vtt vnw_10 vtr vot vdi vkp vik vwy vah vtg vws vfr vrw) H := hP
      replace hD : va_D A (wModel Γ q_mo q_tt q_nw q_tr q_ot q_di q_kp q_ik q_wy q_ah q_tg q_ws q_fr q_rw (upd mi_7 7 (0 : Int32)) vtt vnw_10 vtr vot vdi vkp vik vwy vah vtg vws vfr vrw) := hD
      refine lv_aload_n hx hb dX9_load_44 rfl (lv_at hl 0 rfl) ?_
      refine va_get (D := my_D Γ) (ci := 7) (v := .ref q_ik) (C := RX9) (T := TX9) (N := 19) hx hb hts hinX9 hown hK hP 0 rfl rfl 9 (by decide) (hts (.fieldLink RX9 28 "BeltFloorModel" "isKept" "[Z") (List.mem_of_getElem? (i := 4) rfl)) (fun _ h9 => h9) rfl dX9_load_45 ?_
      refine lv_iconst (v := (0 : Int32)) hx hb dX9_load_48 (by decide) ?_
      refine lv_iconst (v := (0 : Int32)) hx hb dX9_load_49 (by decide) ?_
      refine va_zast hx hb hK hP hD hS 7 2 rfl rfl (show vp_in (0 : Int32) 2 from (by decide : ¬ ((0 : Int32) < 0 ∨ 2 ≤ (0 : Int32).toNatClampNeg))) dX9_load_50 (fun H locs hP hD hS => ?_)
      replace hP : va_P (my_D Γ) vwCl (wModel Γ q_mo q_tt q_nw q_tr q_ot q_di q_kp q_ik q_wy q_ah q_tg q_ws q_fr q_rw (upd mi_7 7 (0 : Int32)) vtt vnw_10 vtr vot vdi vkp (upd vik (0 : Int32).toNatClampNeg (0 : Int32)) vwy vah vtg vws vfr vrw) H := hP
      replace hD : va_D A (wModel Γ q_mo q_tt q_nw q_tr q_ot q_di q_kp q_ik q_wy q_ah q_tg q_ws q_fr q_rw (upd mi_7 7 (0 : Int32)) vtt vnw_10 vtr vot vdi vkp (upd vik (0 : Int32).toNatClampNeg (0 : Int32)) vwy vah vtg vws vfr vrw) := hD
      refine lv_aload_n hx hb dX9_load_51 rfl (lv_at hl 0 rfl) ?_
      refine va_get (D := my_D Γ) (ci := 7) (v := .ref q_ik) (C := RX9) (T := TX9) (N := 19) hx hb hts hinX9 hown hK hP 0 rfl rfl 9 (by decide) (hts (.fieldLink RX9 28 "BeltFloorModel" "isKept" "[Z") (List.mem_of_getElem? (i := 4) rfl)) (fun _ h9 => h9) rfl dX9_load_52 ?_
      refine lv_iconst (v := (1 : Int32)) hx hb dX9_load_55 (by decide) ?_
      refine lv_iconst (v := (0 : Int32)) hx hb dX9_load_56 (by decide) ?_
      refine va_zast hx hb hK hP hD hS 7 2 rfl rfl (show vp_in (1 : Int32) 2 from (by decide : ¬ ((1 : Int32) < 0 ∨ 2 ≤ (1 : Int32).toNatClampNeg))) dX9_load_57 (fun H locs hP hD hS => ?_)
      replace hP : va_P (my_D Γ) vwCl (wModel Γ q_mo q_tt q_nw q_tr q_ot q_di q_kp q_ik q_wy q_ah q_tg q_ws q_fr q_rw (upd mi_7 7 (0 : Int32)) vtt vnw_10 vtr vot vdi vkp (upd (upd vik (0 : Int32).toNatClampNeg (0 : Int32)) (1 : Int32).toNatClampNeg (0 : Int32)) vwy vah vtg vws vfr vrw) H := hP
      replace hD : va_D A (wModel Γ q_mo q_tt q_nw q_tr q_ot q_di q_kp q_ik q_wy q_ah q_tg q_ws q_fr q_rw (upd mi_7 7 (0 : Int32)) vtt vnw_10 vtr vot vdi vkp (upd (upd vik (0 : Int32).toNatClampNeg (0 : Int32)) (1 : Int32).toNatClampNeg (0 : Int32)) vwy vah vtg vws vfr vrw) := hD
      refine lv_aload_n hx hb dX9_load_58 rfl (lv_at hl 0 rfl) ?_
      refine va_get (D := my_D Γ) (ci := 7) (v := .int (mi_7 17)) (C := RX9) (T := TX9) (N := 19) hx hb hts hinX9 hown hK hP 0 rfl rfl 17 (by decide) (hts (.fieldLink RX9 176 "BeltFloorModel" "skipped" "I") (List.mem_of_getElem? (i := 5) rfl)) (fun _ h9 => h9) rfl dX9_load_59 ?_
      obtain ⟨hf0, hf1, hf2, hf3, hf4⟩ := si5 hm
      subst hf0
      subst hf1
      subst hf2
      subst hf3
      subst hf4
      exact W.iret (v := (mi_7 17)) hx hb hr (fun t ht hW => ⟨⟨rfl, by rw [ht]; exact hP⟩, hS.F ht⟩) hS.2.2 dX9_load_62
    · replace hm := if_f hm c_9
      refine lv_iconst (v := (0 : Int32)) hx hb dX9_load_24 (by decide) ?_
      obtain ⟨hf0, hf1, hf2, hf3, hf4⟩ := si5 hm
      subst hf0
      subst hf1
      subst hf2
      subst hf3
      subst hf4
      exact W.iret (v := (0 : Int32)) hx hb hr (fun t ht hW => ⟨⟨rfl, by rw [ht]; exact hP⟩, hS.F ht⟩) hS.2.2 dX9_load_25
  unfold mX9_load at hm
  refine lv_aload_n hx hb dX9_load_0 rfl (lv_at hl 0 rfl) ?_
  refine lv_aload_n hx hb dX9_load_1 rfl (lv_at hl 0 rfl) ?_
  refine lv_aload_n hx hb dX9_load_2 rfl (lv_at hl 0 rfl) ?_
  refine va_get (D := my_D Γ) (ci := 7) (v := .ref q_tr) (C := RX9) (T := TX9) (N := 19) hx hb hts hinX9 hown hK hP 0 rfl rfl 4 (by decide) (hts (.fieldLink RX9 16 "BeltFloorModel" "trial" "[I") (List.mem_of_getElem? (i := 1) rfl)) (fun _ h9 => h9) rfl dX9_load_3 ?_
  obtain ⟨r_1, mi_2, vtr_3, hc_4, hm⟩ := bo3_s hm
  refine my_callP1 (wc := (wRead Γ q_mo q_tt q_tr q_nw q_tr q_ot q_di q_kp q_ik q_wy q_ah q_tg q_ws q_fr q_rw mi vtt vtr)) (w1 := (wRead Γ q_mo q_tt q_tr q_nw q_tr q_ot q_di q_kp q_ik q_wy q_ah q_tg q_ws q_fr q_rw mi_2 vtt vtr_3)) (ws1 := (wModel Γ q_mo q_tt q_nw q_tr q_ot q_di q_kp q_ik q_wy q_ah q_tg q_ws q_fr q_rw mi_2 vtt vnw vtr_3 vot vdi vkp vik vwy vah vtg vws vfr vrw)) hP hD hS hA [0, 1, 3] rfl rfl rfl (va_runV (As := [.ref q_tr]) (rest := [.ref q_mo]) ⟨hx, hb, hml, hown, hts⟩ (kX9_readText l Γ q_mo q_tt q_tr q_nw q_tr q_ot q_di q_kp q_ik q_wy q_ah q_tg q_ws q_fr q_rw mi vtt vtr r_1 mi_2 vtr_3 hc_4 _) (cwV 1 hts gX9_load_X9_readText rfl rfl rfl (by decide +kernel) ⟨Nat.le_of_ble_eq_true rfl, Nat.le_of_ble_eq_true rfl⟩) (my_preV (wc := (wRead Γ q_mo q_tt q_tr q_nw q_tr q_ot q_di q_kp q_ik q_wy q_ah q_tg q_ws q_fr q_rw mi vtt vtr)) (ci := 7) (q0 := 0) [0, 1, 3] hK hP hD rfl rfl rfl rfl) rfl rfl hl.1 rfl (lv_room (Nat.le_of_ble_eq_true rfl)) dX9_load_6 ⟨Nat.le_of_ble_eq_true rfl, Nat.le_of_ble_eq_true rfl⟩) (fun H locs hP hD hS => ?_)
  refine lv_iconst (v := (-1 : Int32)) hx hb dX9_load_9 (by decide) ?_
  refine lv_icmp_ne (tgt := 17) hx hb dX9_load_10 (by decide) (fun c_5 => ?_) (fun c_5 => ?_)
  · replace hm := if_f hm c_5
    refine lv_iconst (v := (1 : Int32)) hx hb dX9_load_17 (by decide) ?_
    exact J_18 mi_2 vtt vnw vtr_3 vik (1 : Int32) _ _ _ hP hD hS (lv_sub hl [0] rfl) hm
  · replace hm := if_s hm c_5
    refine lv_iconst (v := (0 : Int32)) hx hb dX9_load_13 (by decide) ?_
    refine lv_goto (tgt := 18) hx hb dX9_load_14 (by decide) ?_
    exact J_18 mi_2 vtt vnw vtr_3 vik (0 : Int32) _ _ _ hP hD hS (lv_sub hl [0] rfl) hm
