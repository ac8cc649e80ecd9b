def mJ13_bitCount_95d88 (x0 : Int64) : Int32 := ((((((((((x0 - ((jushrl x0 (1 : Int32)) &&& (6148914691236517205 : Int64))) &&& (3689348814741910323 : Int64)) + ((jushrl (x0 - ((jushrl x0 (1 : Int32)) &&& (6148914691236517205 : Int64))) (2 : Int32)) &&& (3689348814741910323 : Int64))) + (jushrl (((x0 - ((jushrl x0 (1 : Int32)) &&& (6148914691236517205 : Int64))) &&& (3689348814741910323 : Int64)) + ((jushrl (x0 - ((jushrl x0 (1 : Int32)) &&& (6148914691236517205 : Int64))) (2 : Int32)) &&& (3689348814741910323 : Int64))) (4 : Int32))) &&& (1085102592571150095 : Int64)) + (jushrl (((((x0 - ((jushrl x0 (1 : Int32)) &&& (6148914691236517205 : Int64))) &&& (3689348814741910323 : Int64)) + ((jushrl (x0 - ((jushrl x0 (1 : Int32)) &&& (6148914691236517205 : Int64))) (2 : Int32)) &&& (3689348814741910323 : Int64))) + (jushrl (((x0 - ((jushrl x0 (1 : Int32)) &&& (6148914691236517205 : Int64))) &&& (3689348814741910323 : Int64)) + ((jushrl (x0 - ((jushrl x0 (1 : Int32)) &&& (6148914691236517205 : Int64))) (2 : Int32)) &&& (3689348814741910323 : Int64))) (4 : Int32))) &&& (1085102592571150095 : Int64)) (8 : Int32))) + (jushrl ((((((x0 - ((jushrl x0 (1 : Int32)) &&& (6148914691236517205 : Int64))) &&& (3689348814741910323 : Int64)) + ((jushrl (x0 - ((jushrl x0 (1 : Int32)) &&& (6148914691236517205 : Int64))) (2 : Int32)) &&& (3689348814741910323 : Int64))) + (jushrl (((x0 - ((jushrl x0 (1 : Int32)) &&& (6148914691236517205 : Int64))) &&& (3689348814741910323 : Int64)) + ((jushrl (x0 - ((jushrl x0 (1 : Int32)) &&& (6148914691236517205 : Int64))) (2 : Int32)) &&& (3689348814741910323 : Int64))) (4 : Int32))) &&& (1085102592571150095 : Int64)) + (jushrl (((((x0 - ((jushrl x0 (1 : Int32)) &&& (6148914691236517205 : Int64))) &&& (3689348814741910323 : Int64)) + ((jushrl (x0 - ((jushrl x0 (1 : Int32)) &&& (6148914691236517205 : Int64))) (2 : Int32)) &&& (3689348814741910323 : Int64))) + (jushrl (((x0 - ((jushrl x0 (1 : Int32)) &&& (6148914691236517205 : Int64))) &&& (3689348814741910323 : Int64)) + ((jushrl (x0 - ((jushrl x0 (1 : Int32)) &&& (6148914691236517205 : Int64))) (2 : Int32)) &&& (3689348814741910323 : Int64))) (4 : Int32))) &&& (1085102592571150095 : Int64)) (8 : Int32))) (16 : Int32))) + (jushrl (((((((x0 - ((jushrl x0 (1 : Int32)) &&& (6148914691236517205 : Int64))) &&& (3689348814741910323 : Int64)) + ((jushrl (x0 - ((jushrl x0 (1 : Int32)) &&& (6148914691236517205 : Int64))) (2 : Int32)) &&& (3689348814741910323 : Int64))) + (jushrl (((x0 - ((jushrl x0 (1 : Int32)) &&& (6148914691236517205 : Int64))) &&& (3689348814741910323 : Int64)) + ((jushrl (x0 - ((jushrl x0 (1 : Int32)) &&& (6148914691236517205 : Int64))) (2 : Int32)) &&& (3689348814741910323 : Int64))) (4 : Int32))) &&& (1085102592571150095 : Int64)) + (jushrl (((((x0 - ((jushrl x0 (1 : Int32)) &&& (6148914691236517205 : Int64))) &&& (3689348814741910323 : Int64)) + ((jushrl (x0 - ((jushrl x0 (1 : Int32)) &&& (6148914691236517205 : Int64))) (2 : Int32)) &&& (3689348814741910323 : Int64))) + (jushrl (((x0 - ((jushrl x0 (1 : Int32)) &&& (6148914691236517205 : Int64))) &&& (3689348814741910323 : Int64)) + ((jushrl (x0 - ((jushrl x0 (1 : Int32)) &&& (6148914691236517205 : Int64))) (2 : Int32)) &&& (3689348814741910323 : Int64))) (4 : Int32))) &&& (1085102592571150095 : Int64)) (8 : Int32))) + (jushrl ((((((x0 - ((jushrl x0 (1 : Int32)) &&& (6148914691236517205 : Int64))) &&& (3689348814741910323 : Int64)) + ((jushrl (x0 - ((jushrl x0 (1 : Int32)) &&& (6148914691236517205 : Int64))) (2 : Int32)) &&& (3689348814741910323 : Int64))) + (jushrl (((x0 - ((jushrl x0 (1 : Int32)) &&& (6148914691236517205 : Int64))) &&& (3689348814741910323 : Int64)) + ((jushrl (x0 - ((jushrl x0 (1 : Int32)) &&& (6148914691236517205 : Int64))) (2 : Int32)) &&& (3689348814741910323 : Int64))) (4 : Int32))) &&& (1085102592571150095 : Int64)) + (jushrl (((((x0 - ((jushrl x0 (1 : Int32)) &&& (6148914691236517205 : Int64))) &&& (3689348814741910323 : Int64)) + ((jushrl (x0 - ((jushrl x0 (1 : Int32)) &&& (6148914691236517205 : Int64))) (2 : Int32)) &&& (3689348814741910323 : Int64))) + (jushrl (((x0 - ((jushrl x0 (1 : Int32)) &&& (6148914691236517205 : Int64))) &&& (3689348814741910323 : Int64)) + ((jushrl (x0 - ((jushrl x0 (1 : Int32)) &&& (6148914691236517205 : Int64))) (2 : Int32)) &&& (3689348814741910323 : Int64))) (4 : Int32))) &&& (1085102592571150095 : Int64)) (8 : Int32))) (16 : Int32))) (32 : Int32))).toInt32) &&& (127 : Int32))
set_option maxHeartbeats 4000000 in
set_option maxRecDepth 100000 in
theorem kJ13_bitCount_95d88 (l : Launch) (Γ : my_G)   (x0 : Int64) (rr : Int32) (hm : mJ13_bitCount_95d88 x0 = rr) : Mn l yJ13_bitCount_95d88 wsJ13_bitCount_95d88 ({ frames := 0, cells := 0, slots := 0, locals := 0 } : Room) Γ [.long x0] ([] : va_W) (some (.int rr)) ([] : va_W) := by
  intro sz
  refine Met.ofW (cc := cJ13_bitCount_95d88) (maxL := 2) (ret := (some .int)) (by decide) rfl ?_
  intro p e s m args below meth c s₁ B hml hv
  obtain ⟨rfl, hsz, hP, hK, hD0⟩ := hv
  have hx := B.exec
  have hb := B.bytes
  have hr := B.returns
  have hts := atoms_spec (ws := wsJ13_bitCount_95d88) B.pre
  have hown : s.vm.findClass RJ13 = some m.cls := findClass_of_methodNamed B.named
  have hlocks := B.notSynchronized
  subst hsz
  have hD := hD0.self (sz := s.heap.size)
  have hA : ∀ q : Nat, s.heap.size ≤ q → va_A ([] : va_W) s.heap.size q := fun q h => Or.inr h
  generalize va_A ([] : va_W) s.heap.size = A at hD hA ⊢
  have hS : va_S A s.heap s.heap [] := va_S.rf
  have hl := lv_entry ([.long x0]) (n := 2) (Nat.le_of_ble_eq_true rfl)
  rw [lg_entry_eq]
  generalize (lg_sl ([.long x0]) ++ List.replicate (2 - (lg_sl ([.long x0])).length) Slot.unset).toArray = ls at hl ⊢
  replace hl : lv_has ls 2 [(0, .long x0)] := hl
  unfold mJ13_bitCount_95d88 at hm
  refine lv_lload_n hx hb dJ13_bitCount_95d88_0 rfl (lv_at hl 0 rfl) ?_
  refine lv_lload_n hx hb dJ13_bitCount_95d88_1 rfl (lv_at hl 0 rfl) ?_
  refine lv_iconst (v := (1 : Int32)) hx hb dJ13_bitCount_95d88_2 (by decide) ?_
  refine my_lushr hx hb dJ13_bitCount_95d88_3 ?_
  refine lv_ldc2 (v := (6148914691236517205 : Int64)) hx hb hown (hts (.constantLong RJ13 314 (6148914691236517205)) (List.mem_of_getElem? (i := 1) rfl)) dJ13_bitCount_95d88_4 ?_
  refine lv_land hx hb dJ13_bitCount_95d88_7 ?_
  refine lv_lsub hx hb dJ13_bitCount_95d88_8 ?_
  refine lv_lstore_n (lv' := [(0, .long (x0 - ((jushrl x0 (1 : Int32)) &&& (6148914691236517205 : Int64))))]) hx hb dJ13_bitCount_95d88_9 rfl hl (by decide) rfl (fun ls hl => ?_)
  refine lv_lload_n hx hb dJ13_bitCount_95d88_10 rfl (lv_at hl 0 rfl) ?_
  refine lv_ldc2 (v := (3689348814741910323 : Int64)) hx hb hown (hts (.constantLong RJ13 316 (3689348814741910323)) (List.mem_of_getElem? (i := 2) rfl)) dJ13_bitCount_95d88_11 ?_
  refine lv_land hx hb dJ13_bitCount_95d88_14 ?_
  refine lv_lload_n hx hb dJ13_bitCount_95d88_15 rfl (lv_at hl 0 rfl) ?_
  refine lv_iconst (v := (2 : Int32)) hx hb dJ13_bitCount_95d88_16 (by decide) ?_
  refine my_lushr hx hb dJ13_bitCount_95d88_17 ?_
  refine lv_ldc2 (v := (3689348814741910323 : Int64)) hx hb hown (hts (.constantLong RJ13 316 (3689348814741910323)) (List.mem_of_getElem? (i := 2) rfl)) dJ13_bitCount_95d88_18 ?_
  refine lv_land hx hb dJ13_bitCount_95d88_21 ?_
  refine lv_ladd hx hb dJ13_bitCount_95d88_22 ?_
  refine lv_lstore_n (lv' := [(0, .long (((x0 - ((jushrl x0 (1 : Int32)) &&& (6148914691236517205 : Int64))) &&& (3689348814741910323 : Int64)) + ((jushrl (x0 - ((jushrl x0 (1 : Int32)) &&& (6148914691236517205 : Int64))) (2 : Int32)) &&& (3689348814741910323 : Int64))))]) hx hb dJ13_bitCount_95d88_23 rfl hl (by decide) rfl (fun ls hl => ?_)
  refine lv_lload_n hx hb dJ13_bitCount_95d88_24 rfl (lv_at hl 0 rfl) ?_
  refine lv_lload_n hx hb dJ13_bitCount_95d88_25 rfl (lv_at hl 0 rfl) ?_
  refine lv_iconst (v := (4 : Int32)) hx hb dJ13_bitCount_95d88_26 (by decide) ?_
  refine my_lushr hx hb dJ13_bitCount_95d88_27 ?_
  refine lv_ladd hx hb dJ13_bitCount_95d88_28 ?_
  refine lv_ldc2 (v := (1085102592571150095 : Int64)) hx hb hown (hts (.constantLong RJ13 318 (1085102592571150095)) (List.mem_of_getElem? (i := 3) rfl)) dJ13_bitCount_95d88_29 ?_
  refine lv_land hx hb dJ13_bitCount_95d88_32 ?_
  refine lv_lstore_n (lv' := [(0, .long (((((x0 - ((jushrl x0 (1 : Int32)) &&& (6148914691236517205 : Int64))) &&& (3689348814741910323 : Int64)) + ((jushrl (x0 - ((jushrl x0 (1 : Int32)) &&& (6148914691236517205 : Int64))) (2 : Int32)) &&& (3689348814741910323 : Int64))) + (jushrl (((x0 - ((jushrl x0 (1 : Int32)) &&& (6148914691236517205 : Int64))) &&& (3689348814741910323 : Int64)) + ((jushrl (x0 - ((jushrl x0 (1 : Int32)) &&& (6148914691236517205 : Int64))) (2 : Int32)) &&& (3689348814741910323 : Int64))) (4 : Int32))) &&& (1085102592571150095 : Int64)))]) hx hb dJ13_bitCount_95d88_33 rfl hl (by decide) rfl (fun ls hl => ?_)
  refine lv_lload_n hx hb dJ13_bitCount_95d88_34 rfl (lv_at hl 0 rfl) ?_
  refine lv_lload_n hx hb dJ13_bitCount_95d88_35 rfl (lv_at hl 0 rfl) ?_
  refine lv_bipush (v := (8 : Int32)) hx hb dJ13_bitCount_95d88_36 (by decide) ?_
  refine my_lushr hx hb dJ13_bitCount_95d88_38 ?_
  refine lv_ladd hx hb dJ13_bitCount_95d88_39 ?_
  refine lv_lstore_n (lv' := [(0, .long ((((((x0 - ((jushrl x0 (1 : Int32)) &&& (6148914691236517205 : Int64))) &&& (3689348814741910323 : Int64)) + ((jushrl (x0 - ((jushrl x0 (1 : Int32)) &&& (6148914691236517205 : Int64))) (2 : Int32)) &&& (3689348814741910323 : Int64))) + (jushrl (((x0 - ((jushrl x0 (1 : Int32)) &&& (6148914691236517205 : Int64))) &&& (3689348814741910323 : Int64)) + ((jushrl (x0 - ((jushrl x0 (1 : Int32)) &&& (6148914691236517205 : Int64))) (2 : Int32)) &&& (3689348814741910323 : Int64))) (4 : Int32))) &&& (1085102592571150095 : Int64)) + (jushrl (((((x0 - ((jushrl x0 (1 : Int32)) &&& (6148914691236517205 : Int64))) &&& (3689348814741910323 : Int64)) + ((jushrl (x0 - ((jushrl x0 (1 : Int32)) &&& (6148914691236517205 : Int64))) (2 : Int32)) &&& (3689348814741910323 : Int64))) + (jushrl (((x0 - ((jushrl x0 (1 : Int32)) &&& (6148914691236517205 : Int64))) &&& (3689348814741910323 : Int64)) + ((jushrl (x0 - ((jushrl x0 (1 : Int32)) &&& (6148914691236517205 : Int64))) (2 : Int32)) &&& (3689348814741910323 : Int64))) (4 : Int32))) &&& (1085102592571150095 : Int64)) (8 : Int32))))]) hx hb dJ13_bitCount_95d88_40 rfl hl (by decide) rfl (fun ls hl => ?_)
  refine lv_lload_n hx hb dJ13_bitCount_95d88_41 rfl (lv_at hl 0 rfl) ?_
  refine lv_lload_n hx hb dJ13_bitCount_95d88_42 rfl (lv_at hl 0 rfl) ?_
  refine lv_bipush (v := (16 : Int32)) hx hb dJ13_bitCount_95d88_43 (by decide) ?_
  refine my_lushr hx hb dJ13_bitCount_95d88_45 ?_
  refine lv_ladd hx hb dJ13_bitCount_95d88_46 ?_
  refine lv_lstore_n (lv' := [(0, .long (((((((x0 - ((jushrl x0 (1 : Int32)) &&& (6148914691236517205 : Int64))) &&& (3689348814741910323 : Int64)) + ((jushrl (x0 - ((jushrl x0 (1 : Int32)) &&& (6148914691236517205 : Int64))) (2 : Int32)) &&& (3689348814741910323 : Int64))) + (jushrl (((x0 - ((jushrl x0 (1 : Int32)) &&& (6148914691236517205 : Int64))) &&& (3689348814741910323 : Int64)) + ((jushrl (x0 - ((jushrl x0 (1 : Int32)) &&& (6148914691236517205 : Int64))) (2 : Int32)) &&& (3689348814741910323 : Int64))) (4 : Int32))) &&& (1085102592571150095 : Int64)) + (jushrl (((((x0 - ((jushrl x0 (1 : Int32)) &&& (6148914691236517205 : Int64))) &&& (3689348814741910323 : Int64)) + ((jushrl (x0 - ((jushrl x0 (1 : Int32)) &&& (6148914691236517205 : Int64))) (2 : Int32)) &&& (3689348814741910323 : Int64))) + (jushrl (((x0 - ((jushrl x0 (1 : Int32)) &&& (6148914691236517205 : Int64))) &&& (3689348814741910323 : Int64)) + ((jushrl (x0 - ((jushrl x0 (1 : Int32)) &&& (6148914691236517205 : Int64))) (2 : Int32)) &&& (3689348814741910323 : Int64))) (4 : Int32))) &&& (1085102592571150095 : Int64)) (8 : Int32))) + (jushrl ((((((x0 - ((jushrl x0 (1 : Int32)) &&& (6148914691236517205 : Int64))) &&& (3689348814741910323 : Int64)) + ((jushrl (x0 - ((jushrl x0 (1 : Int32)) &&& (6148914691236517205 : Int64))) (2 : Int32)) &&& (3689348814741910323 : Int64))) + (jushrl (((x0 - ((jushrl x0 (1 : Int32)) &&& (6148914691236517205 : Int64))) &&& (3689348814741910323 : Int64)) + ((jushrl (x0 - ((jushrl x0 (1 : Int32)) &&& (6148914691236517205 : Int64))) (2 : Int32)) &&& (3689348814741910323 : Int64))) (4 : Int32))) &&& (1085102592571150095 : Int64)) + (jushrl (((((x0 - ((jushrl x0 (1 : Int32)) &&& (6148914691236517205 : Int64))) &&& (3689348814741910323 : Int64)) + ((jushrl (x0 - ((jushrl x0 (1 : Int32)) &&& (6148914691236517205 : Int64))) (2 : Int32)) &&& (3689348814741910323 : Int64))) + (jushrl (((x0 - ((jushrl x0 (1 : Int32)) &&& (6148914691236517205 : Int64))) &&& (3689348814741910323 : Int64)) + ((jushrl (x0 - ((jushrl x0 (1 : Int32)) &&& (6148914691236517205 : Int64))) (2 : Int32)) &&& (3689348814741910323 : Int64))) (4 : Int32))) &&& (1085102592571150095 : Int64)) (8 : Int32))) (16 : Int32))))]) hx hb dJ13_bitCount_95d88_47 rfl hl (by decide) rfl (fun ls hl => ?_)
  refine lv_lload_n hx hb dJ13_bitCount_95d88_48 rfl (lv_at hl 0 rfl) ?_
  refine lv_lload_n hx hb dJ13_bitCount_95d88_49 rfl (lv_at hl 0 rfl) ?_
  refine lv_bipush (v := (32 : Int32)) hx hb dJ13_bitCount_95d88_50 (by decide) ?_
  refine my_lushr hx hb dJ13_bitCount_95d88_52 ?_
  refine lv_ladd hx hb dJ13_bitCount_95d88_53 ?_
  refine lv_lstore_n (lv' := [(0, .long ((((((((x0 - ((jushrl x0 (1 : Int32)) &&& (6148914691236517205 : Int64))) &&& (3689348814741910323 : Int64)) + ((jushrl (x0 - ((jushrl x0 (1 : Int32)) &&& (6148914691236517205 : Int64))) (2 : Int32)) &&& (3689348814741910323 : Int64))) + (jushrl (((x0 - ((jushrl x0 (1 : Int32)) &&& (6148914691236517205 : Int64))) &&& (3689348814741910323 : Int64)) + ((jushrl (x0 - ((jushrl x0 (1 : Int32)) &&& (6148914691236517205 : Int64))) (2 : Int32)) &&& (3689348814741910323 : Int64))) (4 : Int32))) &&& (1085102592571150095 : Int64)) + (jushrl (((((x0 - ((jushrl x0 (1 : Int32)) &&& (6148914691236517205 : Int64))) &&& (3689348814741910323 : Int64)) + ((jushrl (x0 - ((jushrl x0 (1 : Int32)) &&& (6148914691236517205 : Int64))) (2 : Int32)) &&& (3689348814741910323 : Int64))) + (jushrl (((x0 - ((jushrl x0 (1 : Int32)) &&& (6148914691236517205 : Int64))) &&& (3689348814741910323 : Int64)) + ((jushrl (x0 - ((jushrl x0 (1 : Int32)) &&& (6148914691236517205 : Int64))) (2 : Int32)) &&& (3689348814741910323 : Int64))) (4 : Int32))) &&& (1085102592571150095 : Int64)) (8 : Int32))) + (jushrl ((((((x0 - ((jushrl x0 (1 : Int32)) &&& (6148914691236517205 : Int64))) &&& (3689348814741910323 : Int64)) + ((jushrl (x0 - ((jushrl x0 (1 : Int32)) &&& (6148914691236517205 : Int64))) (2 : Int32)) &&& (3689348814741910323 : Int64))) + (jushrl (((x0 - ((jushrl x0 (1 : Int32)) &&& (6148914691236517205 : Int64))) &&& (3689348814741910323 : Int64)) + ((jushrl (x0 - ((jushrl x0 (1 : Int32)) &&& (6148914691236517205 : Int64))) (2 : Int32)) &&& (3689348814741910323 : Int64))) (4 : Int32))) &&& (1085102592571150095 : Int64)) + (jushrl (((((x0 - ((jushrl x0 (1 : Int32)) &&& (6148914691236517205 : Int64))) &&& (3689348814741910323 : Int64)) + ((jushrl (x0 - ((jushrl x0 (1 : Int32)) &&& (6148914691236517205 : Int64))) (2 : Int32)) &&& (3689348814741910323 : Int64))) + (jushrl (((x0 - ((jushrl x0 (1 : Int32)) &&& (6148914691236517205 : Int64))) &&& (3689348814741910323 : Int64)) + ((jushrl (x0 - ((jushrl x0 (1 : Int32)) &&& (6148914691236517205 : Int64))) (2 : Int32)) &&& (3689348814741910323 : Int64))) (4 : Int32))) &&& (1085102592571150095 : Int64)) (8 : Int32))) (16 : Int32))) + (jushrl (((((((x0 - ((jushrl x0 (1 : Int32)) &&& (6148914691236517205 : Int64))) &&& (3689348814741910323 : Int64)) + ((jushrl (x0 - ((jushrl x0 (1 : Int32)) &&& (6148914691236517205 : Int64))) (2 : Int32)) &&& (3689348814741910323 : Int64))) + (jushrl (((x0 - ((jushrl x0 (1 : Int32)) &&& (6148914691236517205 : Int64))) &&& (3689348814741910323 : Int64)) + ((jushrl (x0 - ((jushrl x0 (1 : Int32)) &&& (6148914691236517205 : Int64))) (2 : Int32)) &&& (3689348814741910323 : Int64))) (4 : Int32))) &&& (1085102592571150095 : Int64)) + (jushrl (((((x0 - ((jushrl x0 (1 : Int32)) &&& (6148914691236517205 : Int64))) &&& (3689348814741910323 : Int64)) + ((jushrl (x0 - ((jushrl x0 (1 : Int32)) &&& (6148914691236517205 : Int64))) (2 : Int32)) &&& (3689348814741910323 : Int64))) + (jushrl (((x0 - ((jushrl x0 (1 : Int32)) &&& (6148914691236517205 : Int64))) &&& (3689348814741910323 : Int64)) + ((jushrl (x0 - ((jushrl x0 (1 : Int32)) &&& (6148914691236517205 : Int64))) (2 : Int32)) &&& (3689348814741910323 : Int64))) (4 : Int32))) &&& (1085102592571150095 : Int64)) (8 : Int32))) + (jushrl ((((((x0 - ((jushrl x0 (1 : Int32)) &&& (6148914691236517205 : Int64))) &&& (3689348814741910323 : Int64)) + ((jushrl (x0 - ((jushrl x0 (1 : Int32)) &&& (6148914691236517205 : Int64))) (2 : Int32)) &&& (3689348814741910323 : Int64))) + (jushrl (((x0 - ((jushrl x0 (1 : Int32)) &&& (6148914691236517205 : Int64))) &&& (3689348814741910323 : Int64)) + ((jushrl (x0 - ((jushrl x0 (1 : Int32)) &&& (6148914691236517205 : Int64))) (2 : Int32)) &&& (3689348814741910323 : Int64))) (4 : Int32))) &&& (1085102592571150095 : Int64)) + (jushrl (((((x0 - ((jushrl x0 (1 : Int32)) &&& (6148914691236517205 : Int64))) &&& (3689348814741910323 : Int64)) + ((jushrl (x0 - ((jushrl x0 (1 : Int32)) &&& (6148914691236517205 : Int64))) (2 : Int32)) &&& (3689348814741910323 : Int64))) + (jushrl (((x0 - ((jushrl x0 (1 : Int32)) &&& (6148914691236517205 : Int64))) &&& (3689348814741910323 : Int64)) + ((jushrl (x0 - ((jushrl x0 (1 : Int32)) &&& (6148914691236517205 : Int64))) (2 : Int32)) &&& (3689348814741910323 : Int64))) (4 : Int32))) &&& (1085102592571150095 : Int64)) (8 : Int32))) (16 : Int32))) (32 : Int32))))]) hx hb dJ13_bitCount_95d88_54 rfl hl (by decide) rfl (fun ls hl => ?_)
  refine lv_lload_n hx hb dJ13_bitCount_95d88_55 rfl (lv_at hl 0 rfl) ?_
  refine lv_l2i (v := ((((((((x0 - ((jushrl x0 (1 : Int32)) &&& (6148914691236517205 : Int64))) &&& (3689348814741910323 : Int64)) + ((jushrl (x0 - ((jushrl x0 (1 : Int32)) &&& (6148914691236517205 : Int64))) (2 : Int32)) &&& (3689348814741910323 : Int64))) + (jushrl (((x0 - ((jushrl x0 (1 : Int32)) &&& (6148914691236517205 : Int64))) &&& (3689348814741910323 : Int64)) + ((jushrl (x0 - ((jushrl x0 (1 : Int32)) &&& (6148914691236517205 : Int64))) (2 : Int32)) &&& (3689348814741910323 : Int64))) (4 : Int32))) &&& (1085102592571150095 : Int64)) + (jushrl (((((x0 - ((jushrl x0 (1 : Int32)) &&& (6148914691236517205 : Int64))) &&& (3689348814741910323 : Int64)) + ((jushrl (x0 - ((jushrl x0 (1 : Int32)) &&& (6148914691236517205 : Int64))) (2 : Int32)) &&& (3689348814741910323 : Int64))) + (jushrl (((x0 - ((jushrl x0 (1 : Int32)) &&& (6148914691236517205 : Int64))) &&& (3689348814741910323 : Int64)) + ((jushrl (x0 - ((jushrl x0 (1 : Int32)) &&& (6148914691236517205 : Int64))) (2 : Int32)) &&& (3689348814741910323 : Int64))) (4 : Int32))) &&& (1085102592571150095 : Int64)) (8 : Int32))) + (jushrl ((((((x0 - ((jushrl x0 (1 : Int32)) &&& (6148914691236517205 : Int64))) &&& (3689348814741910323 : Int64)) + ((jushrl (x0 - ((jushrl x0 (1 : Int32)) &&& (6148914691236517205 : Int64))) (2 : Int32)) &&& (3689348814741910323 : Int64))) + (jushrl (((x0 - ((jushrl x0 (1 : Int32)) &&& (6148914691236517205 : Int64))) &&& (3689348814741910323 : Int64)) + ((jushrl (x0 - ((jushrl x0 (1 : Int32)) &&& (6148914691236517205 : Int64))) (2 : Int32)) &&& (3689348814741910323 : Int64))) (4 : Int32))) &&& (1085102592571150095 : Int64)) + (jushrl (((((x0 - ((jushrl x0 (1 : Int32)) &&& (6148914691236517205 : Int64))) &&& (3689348814741910323 : Int64)) + ((jushrl (x0 - ((jushrl x0 (1 : Int32)) &&& (6148914691236517205 : Int64))) (2 : Int32)) &&& (3689348814741910323 : Int64))) + (jushrl (((x0 - ((jushrl x0 (1 : Int32)) &&& (6148914691236517205 : Int64))) &&& (3689348814741910323 : Int64)) + ((jushrl (x0 - ((jushrl x0 (1 : Int32)) &&& (6148914691236517205 : Int64))) (2 : Int32)) &&& (3689348814741910323 : Int64))) (4 : Int32))) &&& (1085102592571150095 : Int64)) (8 : Int32))) (16 : Int32))) + (jushrl (((((((x0 - ((jushrl x0 (1 : Int32)) &&& (6148914691236517205 : Int64))) &&& (3689348814741910323 : Int64)) + ((jushrl (x0 - ((jushrl x0 (1 : Int32)) &&& (6148914691236517205 : Int64))) (2 : Int32)) &&& (3689348814741910323 : Int64))) + (jushrl (((x0 - ((jushrl x0 (1 : Int32)) &&& (6148914691236517205 : Int64))) &&& (3689348814741910323 : Int64)) + ((jushrl (x0 - ((jushrl x0 (1 : Int32)) &&& (6148914691236517205 : Int64))) (2 : Int32)) &&& (3689348814741910323 : Int64))) (4 : Int32))) &&& (1085102592571150095 : Int64)) + (jushrl (((((x0 - ((jushrl x0 (1 : Int32)) &&& (6148914691236517205 : Int64))) &&& (3689348814741910323 : Int64)) + ((jushrl (x0 - ((jushrl x0 (1 : Int32)) &&& (6148914691236517205 : Int64))) (2 : Int32)) &&& (3689348814741910323 : Int64))) + (jushrl (((x0 - ((jushrl x0 (1 : Int32)) &&& (6148914691236517205 : Int64))) &&& (3689348814741910323 : Int64)) + ((jushrl (x0 - ((jushrl x0 (1 : Int32)) &&& (6148914691236517205 : Int64))) (2 : Int32)) &&& (3689348814741910323 : Int64))) (4 : Int32))) &&& (1085102592571150095 : Int64)) (8 : Int32))) + (jushrl ((((((x0 - ((jushrl x0 (1 : Int32)) &&& (6148914691236517205 : Int64))) &&& (3689348814741910323 : Int64)) + ((jushrl (x0 - ((jushrl x0 (1 : Int32)) &&& (6148914691236517205 : Int64))) (2 : Int32)) &&& (3689348814741910323 : Int64))) + (jushrl (((x0 - ((jushrl x0 (1 : Int32)) &&& (6148914691236517205 : Int64))) &&& (3689348814741910323 : Int64)) + ((jushrl (x0 - ((jushrl x0 (1 : Int32)) &&& (6148914691236517205 : Int64))) (2 : Int32)) &&& (3689348814741910323 : Int64))) (4 : Int32))) &&& (1085102592571150095 : Int64)) + (jushrl (((((x0 - ((jushrl x0 (1 : Int32)) &&& (6148914691236517205 : Int64))) &&& (3689348814741910323 : Int64)) + ((jushrl (x0 - ((jushrl x0 (1 : Int32)) &&& (6148914691236517205 : Int64))) (2 : Int32)) &&& (3689348814741910323 : Int64))) + (jushrl (((x0 - ((jushrl x0 (1 : Int32)) &&& (6148914691236517205 : Int64))) &&& (3689348814741910323 : Int64)) + ((jushrl (x0 - ((jushrl x0 (1 : Int32)) &&& (6148914691236517205 : Int64))) (2 : Int32)) &&& (3689348814741910323 : Int64))) (4 : Int32))) &&& (1085102592571150095 : Int64)) (8 : Int32))) (16 : Int32))) (32 : Int32))).toInt32) hx hb dJ13_bitCount_95d88_56 rfl ?_
  refine lv_bipush (v := (127 : Int32)) hx hb dJ13_bitCount_95d88_57 (by decide) ?_
  refine lv_iand hx hb dJ13_bitCount_95d88_59 ?_
  have hf0 := hm
  subst hf0
  exact W.iret (v := ((((((((((x0 - ((jushrl x0 (1 : Int32)) &&& (6148914691236517205 : Int64))) &&& (3689348814741910323 : Int64)) + ((jushrl (x0 - ((jushrl x0 (1 : Int32)) &&& (6148914691236517205 : Int64))) (2 : Int32)) &&& (3689348814741910323 : Int64))) + (jushrl (((x0 - ((jushrl x0 (1 : Int32)) &&& (6148914691236517205 : Int64))) &&& (3689348814741910323 : Int64)) + ((jushrl (x0 - ((jushrl x0 (1 : Int32)) &&& (6148914691236517205 : Int64))) (2 : Int32)) &&& (3689348814741910323 : Int64))) (4 : Int32))) &&& (1085102592571150095 : Int64)) + (jushrl (((((x0 - ((jushrl x0 (1 : Int32)) &&& (6148914691236517205 : Int64))) &&& (3689348814741910323 : Int64)) + ((jushrl (x0 - ((jushrl x0 (1 : Int32)) &&& (6148914691236517205 : Int64))) (2 : Int32)) &&& (3689348814741910323 : Int64))) + (jushrl (((x0 - ((jushrl x0 (1 : Int32)) &&& (6148914691236517205 : Int64))) &&& (3689348814741910323 : Int64)) + ((jushrl (x0 - ((jushrl x0 (1 : Int32)) &&& (6148914691236517205 : Int64))) (2 : Int32)) &&& (3689348814741910323 : Int64))) (4 : Int32))) &&& (1085102592571150095 : Int64)) (8 : Int32))) + (jushrl ((((((x0 - ((jushrl x0 (1 : Int32)) &&& (6148914691236517205 : Int64))) &&& (3689348814741910323 : Int64)) + ((jushrl (x0 - ((jushrl x0 (1 : Int32)) &&& (6148914691236517205 : Int64))) (2 : Int32)) &&& (3689348814741910323 : Int64))) + (jushrl (((x0 - ((jushrl x0 (1 : Int32)) &&& (6148914691236517205 : Int64))) &&& (3689348814741910323 : Int64)) + ((jushrl (x0 - ((jushrl x0 (1 : Int32)) &&& (6148914691236517205 : Int64))) (2 : Int32)) &&& (3689348814741910323 : Int64))) (4 : Int32))) &&& (1085102592571150095 : Int64)) + (jushrl (((((x0 - ((jushrl x0 (1 : Int32)) &&& (6148914691236517205 : Int64))) &&& (3689348814741910323 : Int64)) + ((jushrl (x0 - ((jushrl x0 (1 : Int32)) &&& (6148914691236517205 : Int64))) (2 : Int32)) &&& (3689348814741910323 : Int64))) + (jushrl (((x0 - ((jushrl x0 (1 : Int32)) &&& (6148914691236517205 : Int64))) &&& (3689348814741910323 : Int64)) + ((jushrl (x0 - ((jushrl x0 (1 : Int32)) &&& (6148914691236517205 : Int64))) (2 : Int32)) &&& (3689348814741910323 : Int64))) (4 : Int32))) &&& (1085102592571150095 : Int64)) (8 : Int32))) (16 : Int32))) + (jushrl (((((((x0 - ((jushrl x0 (1 : Int32)) &&& (6148914691236517205 : Int64))) &&& (3689348814741910323 : Int64)) + ((jushrl (x0 - ((jushrl x0 (1 : Int32)) &&& (6148914691236517205 : Int64))) (2 : Int32)) &&& (3689348814741910323 : Int64))) + (jushrl (((x0 - ((jushrl x0 (1 : Int32)) &&& (6148914691236517205 : Int64))) &&& (3689348814741910323 : Int64)) + ((jushrl (x0 - ((jushrl x0 (1 : Int32)) &&& (6148914691236517205 : Int64))) (2 : Int32)) &&& (3689348814741910323 : Int64))) (4 : Int32))) &&& (1085102592571150095 : Int64)) + (jushrl (((((x0 - ((jushrl x0 (1 : Int32)) &&& (6148914691236517205 : Int64))) &&& (3689348814741910323 : Int64)) + ((jushrl (x0 - ((jushrl x0 (1 : Int32)) &&& (6148914691236517205 : Int64))) (2 : Int32)) &&& (3689348814741910323 : Int64))) + (jushrl (((x0 - ((jushrl x0 (1 : Int32)) &&& (6148914691236517205 : Int64))) &&& (3689348814741910323 : Int64)) + ((jushrl (x0 - ((jushrl x0 (1 : Int32)) &&& (6148914691236517205 : Int64))) (2 : Int32)) &&& (3689348814741910323 : Int64))) (4 : Int32))) &&& (1085102592571150095 : Int64)) (8 : Int32))) + (jushrl ((((((x0 - ((jushrl x0 (1 : Int32)) &&& (6148914691236517205 : Int64))) &&& (3689348814741910323 : Int64)) + ((jushrl (x0 - ((jushrl x0 (1 : Int32)) &&& (6148914691236517205 : Int64))) (2 : Int32)) &&& (3689348814741910323 : Int64))) + (jushrl (((x0 - ((jushrl x0 (1 : Int32)) &&& (6148914691236517205 : Int64))) &&& (3689348814741910323 : Int64)) + ((jushrl (x0 - ((jushrl x0 (1 : Int32)) &&& (6148914691236517205 : Int64))) (2 : Int32)) &&& (3689348814741910323 : Int64))) (4 : Int32))) &&& (1085102592571150095 : Int64)) + (jushrl (((((x0 - ((jushrl x0 (1 : Int32)) &&& (6148914691236517205 : Int64))) &&& (3689348814741910323 : Int64)) + ((jushrl (x0 - ((jushrl x0 (1 : Int32)) &&& (6148914691236517205 : Int64))) (2 : Int32)) &&& (3689348814741910323 : Int64))) + (jushrl (((x0 - ((jushrl x0 (1 : Int32)) &&& (6148914691236517205 : Int64))) &&& (3689348814741910323 : Int64)) + ((jushrl (x0 - ((jushrl x0 (1 : Int32)) &&& (6148914691236517205 : Int64))) (2 : Int32)) &&& (3689348814741910323 : Int64))) (4 : Int32))) &&& (1085102592571150095 : Int64)) (8 : Int32))) (16 : Int32))) (32 : Int32))).toInt32) &&& (127 : Int32))) hx hb hr (fun t ht hW => ⟨⟨rfl, by rw [ht]; exact hP⟩, hS.F ht⟩) hS.2.2 dJ13_bitCount_95d88_60
def mX2_setOf (x0 : Int32) : Int64 := (if x0 < 0 then (0 : Int64) else (if (36 : Int32) ≤ x0 then (0 : Int64) else (jshll (1 : Int64) x0)))
set_option maxHeartbeats 4000000 in
set_option maxRecDepth 100000 in
theorem kX2_setOf (l : Launch) (Γ : my_G)   (x0 : Int32) (rr : Int64) (hm : mX2_setOf x0 = rr) : Mn l yX2_setOf wsX2_setOf ({ frames := 0, cells := 0, slots := 0, locals := 0 } : Room) Γ [.int x0] ([] : va_W) (some (.long rr)) ([] : va_W) := by
  intro sz
  refine Met.ofW (cc := cX2_setOf) (maxL := 1) (ret := (some .long)) (by decide) rfl ?_
  intro p e s m args below meth c s₁ B hml hv
  obtain ⟨rfl, hsz, hP, hK, hD0⟩ := hv
  have hx := B.exec
  have hb := B.bytes
  have hr := B.returns
  have hts := atoms_spec (ws := wsX2_setOf) B.pre
  have hown : s.vm.findClass RX2 = some m.cls := findClass_of_methodNamed B.named
  have hlocks := B.notSynchronized
  subst hsz
  have hD := hD0.self (sz := s.heap.size)
  have hA : ∀ q : Nat, s.heap.size ≤ q → va_A ([] : va_W) s.heap.size q := fun q h => Or.inr h
  generalize va_A ([] : va_W) s.heap.size = A at hD hA ⊢
  have hS : va_S A s.heap s.heap [] := va_S.rf
  have hl := lv_entry ([.int x0]) (n := 1) (Nat.le_of_ble_eq_true rfl)
  rw [lg_entry_eq]
  generalize (lg_sl ([.int x0]) ++ List.replicate (1 - (lg_sl ([.int x0])).length) Slot.unset).toArray = ls at hl ⊢
  replace hl : lv_has ls 1 [(0, .int x0)] := hl
  unfold mX2_setOf at hm
  refine lv_iload_n hx hb dX2_setOf_0 rfl (lv_at hl 0 rfl) ?_
  refine lv_if_lt (tgt := 16) hx hb dX2_setOf_1 (by decide) (fun c_1 => ?_) (fun c_1 => ?_)
  · replace hm := if_s hm c_1
    refine lv_lconst (v := (0 : Int64)) hx hb dX2_setOf_16 (by decide) ?_
    have hf0 := hm
    subst hf0
    exact W.lret (v := (0 : Int64)) hx hb hr (fun t ht hW => ⟨⟨rfl, by rw [ht]; exact hP⟩, hS.F ht⟩) hS.2.2 dX2_setOf_17
  · replace hm := if_f hm c_1
    refine lv_iload_n hx hb dX2_setOf_4 rfl (lv_at hl 0 rfl) ?_
    refine lv_bipush (v := (36 : Int32)) hx hb dX2_setOf_5 (by decide) ?_
    refine lv_icmp_ge (tgt := 16) hx hb dX2_setOf_7 (by decide) (fun c_2 => ?_) (fun c_2 => ?_)
    · replace hm := if_s hm c_2
      refine lv_lconst (v := (0 : Int64)) hx hb dX2_setOf_16 (by decide) ?_
      have hf0 := hm
      subst hf0
      exact W.lret (v := (0 : Int64)) hx hb hr (fun t ht hW => ⟨⟨rfl, by rw [ht]; exact hP⟩, hS.F ht⟩) hS.2.2 dX2_setOf_17
    · replace hm := if_f hm c_2
      refine lv_lconst (v := (1 : Int64)) hx hb dX2_setOf_10 (by decide) ?_
      refine lv_iload_n hx hb dX2_setOf_11 rfl (lv_at hl 0 rfl) ?_
      refine my_lshl hx hb dX2_setOf_12 ?_
      refine lv_goto (tgt := 17) hx hb dX2_setOf_13 (by decide) ?_
      have hf0 := hm
      subst hf0
      exact W.lret (v := (jshll (1 : Int64) x0)) hx hb hr (fun t ht hW => ⟨⟨rfl, by rw [ht]; exact hP⟩, hS.F ht⟩) hS.2.2 dX2_setOf_17
def mX2_holds (x0 : Int64) (x1 : Int32) : Int32 := (if x1 < 0 then (0 : Int32) else (if (36 : Int32) ≤ x1 then (0 : Int32) else (if (lg_cmp ((jushrl x0 x1) &&& (1 : Int64)) (0 : Int64)) = 0 then (0 : Int32) else (1 : Int32))))
theorem nbX2_holds (x0 : Int64) (x1 : Int32) : narrow .boolean (.int (mX2_holds x0 x1)) = .int (mX2_holds x0 x1) := by
  unfold mX2_holds
  repeat' split
  all_goals rfl
set_option maxHeartbeats 4000000 in
set_option maxRecDepth 100000 in
theorem kX2_holds (l : Launch) (Γ : my_G)   (x0 : Int64) (x1 : Int32) (rr : Int32) (hm : mX2_holds x0 x1 = rr) : Mn l yX2_holds wsX2_holds ({ frames := 0, cells := 0, slots := 0, locals := 0 } : Room) Γ [.long x0, .int x1] ([] : va_W) (some (.int rr)) ([] : va_W) := by
  intro sz
  refine Met.ofW (cc := cX2_holds) (maxL := 3) (ret := (some .boolean)) (by decide) rfl ?_
  intro p e s m args below meth c s₁ B hml hv
  obtain ⟨rfl, hsz, hP, hK, hD0⟩ := hv
  have hx := B.exec
  have hb := B.bytes
  have hr := B.returns
  have hts := atoms_spec (ws := wsX2_holds) B.pre
  have hown : s.vm.findClass RX2 = some m.cls := findClass_of_methodNamed B.named
  have hlocks := B.notSynchronized
  subst hsz
  have hD := hD0.self (sz := s.heap.size)
  have hA : ∀ q : Nat, s.heap.size ≤ q → va_A ([] : va_W) s.heap.size q := fun q h => Or.inr h
  generalize va_A ([] : va_W) s.heap.size = A at hD hA ⊢
  have hS : va_S A s.heap s.heap [] := va_S.rf
  have hl := lv_entry ([.long x0, .int x1]) (n := 3) (Nat.le_of_ble_eq_true rfl)
  rw [lg_entry_eq]
  generalize (lg_sl ([.long x0, .int x1]) ++ List.replicate (3 - (lg_sl ([.long x0, .int x1])).length) Slot.unset).toArray = ls at hl ⊢
  replace hl : lv_has ls 3 [(0, .long x0), (2, .int x1)] := hl
  unfold mX2_holds at hm
  refine lv_iload_n hx hb dX2_holds_0 rfl (lv_at hl 1 rfl) ?_
  refine lv_if_lt (tgt := 24) hx hb dX2_holds_1 (by decide) (fun c_1 => ?_) (fun c_1 => ?_)
  · replace hm := if_s hm c_1
    refine lv_iconst (v := (0 : Int32)) hx hb dX2_holds_24 (by decide) ?_
    have hf0 := hm
    subst hf0
    exact W.zret (v := (0 : Int32)) hx hb hr rfl (fun t ht hW => ⟨⟨rfl, by rw [ht]; exact hP⟩, hS.F ht⟩) hS.2.2 dX2_holds_25
  · replace hm := if_f hm c_1
    refine lv_iload_n hx hb dX2_holds_4 rfl (lv_at hl 1 rfl) ?_
    refine lv_bipush (v := (36 : Int32)) hx hb dX2_holds_5 (by decide) ?_
    refine lv_icmp_ge (tgt := 24) hx hb dX2_holds_7 (by decide) (fun c_2 => ?_) (fun c_2 => ?_)
    · replace hm := if_s hm c_2
      refine lv_iconst (v := (0 : Int32)) hx hb dX2_holds_24 (by decide) ?_
      have hf0 := hm
      subst hf0
      exact W.zret (v := (0 : Int32)) hx hb hr rfl (fun t ht hW => ⟨⟨rfl, by rw [ht]; exact hP⟩, hS.F ht⟩) hS.2.2 dX2_holds_25
    · replace hm := if_f hm c_2
      refine lv_lload_n hx hb dX2_holds_10 rfl (lv_at hl 0 rfl) ?_
      refine lv_iload_n hx hb dX2_holds_11 rfl (lv_at hl 1 rfl) ?_
      refine my_lushr hx hb dX2_holds_12 ?_
      refine lv_lconst (v := (1 : Int64)) hx hb dX2_holds_13 (by decide) ?_
      refine lv_land hx hb dX2_holds_14 ?_
      refine lv_lconst (v := (0 : Int64)) hx hb dX2_holds_15 (by decide) ?_
      refine W.lcmp hx hb dX2_holds_16 ?_
      refine lv_if_eq (tgt := 24) hx hb dX2_holds_17 (by decide) (fun c_3 => ?_) (fun c_3 => ?_)
      · replace hm := if_s hm c_3
        refine lv_iconst (v := (0 : Int32)) hx hb dX2_holds_24 (by decide) ?_
        have hf0 := hm
        subst hf0
        exact W.zret (v := (0 : Int32)) hx hb hr rfl (fun t ht hW => ⟨⟨rfl, by rw [ht]; exact hP⟩, hS.F ht⟩) hS.2.2 dX2_holds_25
      · replace hm := if_f hm c_3
        refine lv_iconst (v := (1 : Int32)) hx hb dX2_holds_20 (by decide) ?_
        refine lv_goto (tgt := 25) hx hb dX2_holds_21 (by decide) ?_
        have hf0 := hm
        subst hf0
        exact W.zret (v := (1 : Int32)) hx hb hr rfl (fun t ht hW => ⟨⟨rfl, by rw [ht]; exact hP⟩, hS.F ht⟩) hS.2.2 dX2_holds_25
def mX2_turned (x0 : Int32) (x1 : Int32) : Int32 := ((x0 + x1) &&& (3 : Int32))
set_option maxHeartbeats 4000000 in
set_option maxRecDepth 100000 in
theorem kX2_turned (l : Launch) (Γ : my_G)   (x0 : Int32) (x1 : Int32) (rr : Int32) (hm : mX2_turned x0 x1 = rr) : Mn l yX2_turned wsX2_turned ({ frames := 0, cells := 0, slots := 0, locals := 0 } : Room) Γ [.int x0, .int x1] ([] : va_W) (some (.int rr)) ([] : va_W) := by
  intro sz
  refine Met.ofW (cc := cX2_turned) (maxL := 2) (ret := (some .int)) (by decide) rfl ?_
  intro p e s m args below meth c s₁ B hml hv
  obtain ⟨rfl, hsz, hP, hK, hD0⟩ := hv
  have hx := B.exec
  have hb := B.bytes
  have hr := B.returns
  have hts := atoms_spec (ws := wsX2_turned) B.pre
  have hown : s.vm.findClass RX2 = some m.cls := findClass_of_methodNamed B.named
  have hlocks := B.notSynchronized
  subst hsz
  have hD := hD0.self (sz := s.heap.size)
  have hA : ∀ q : Nat, s.heap.size ≤ q → va_A ([] : va_W) s.heap.size q := fun q h => Or.inr h
  generalize va_A ([] : va_W) s.heap.size = A at hD hA ⊢
  have hS : va_S A s.heap s.heap [] := va_S.rf
  have hl := lv_entry ([.int x0, .int x1]) (n := 2) (Nat.le_of_ble_eq_true rfl)
  rw [lg_entry_eq]
  generalize (lg_sl ([.int x0, .int x1]) ++ List.replicate (2 - (lg_sl ([.int x0, .int x1])).length) Slot.unset).toArray = ls at hl ⊢
  replace hl : lv_has ls 2 [(0, .int x0), (1, .int x1)] := hl
  unfold mX2_turned at hm
  refine lv_iload_n hx hb dX2_turned_0 rfl (lv_at hl 0 rfl) ?_
  refine lv_iload_n hx hb dX2_turned_1 rfl (lv_at hl 1 rfl) ?_
  refine lv_iadd hx hb dX2_turned_2 ?_
  refine lv_iconst (v := (3 : Int32)) hx hb dX2_turned_3 (by decide) ?_
  refine lv_iand hx hb dX2_turned_4 ?_
  have hf0 := hm
  subst hf0
  exact W.iret (v := ((x0 + x1) &&& (3 : Int32))) hx hb hr (fun t ht hW => ⟨⟨rfl, by rw [ht]; exact hP⟩, hS.F ht⟩) hS.2.2 dX2_turned_5
def mX2_beside (x0 : Int32) (x1 : Int32) : Int32 := (if x0 < 0 then (-1 : Int32) else (if x0 < (36 : Int32) then (if x1 = (0 : Int32) then (if x0 < (6 : Int32) then (-1 : Int32) else (x0 - (6 : Int32))) else (if x1 = (1 : Int32) then (if (5 : Int32) ≤ (jrem x0 (6 : Int32)) then (-1 : Int32) else (x0 + (1 : Int32))) else (if x1 = (2 : Int32) then (if (30 : Int32) ≤ x0 then (-1 : Int32) else (x0 + (6 : Int32))) else (if (jrem x0 (6 : Int32)) ≤ 0 then (-1 : Int32) else (x0 - (1 : Int32)))))) else (-1 : Int32)))
set_option maxHeartbeats 4000000 in
set_option maxRecDepth 100000 in
theorem kX2_beside (l : Launch) (Γ : my_G)   (x0 : Int32) (x1 : Int32) (rr : Int32) (hm : mX2_beside x0 x1 = rr) : Mn l yX2_beside wsX2_beside ({ frames := 0, cells := 0, slots := 0, locals := 0 } : Room) Γ [.int x0, .int x1] ([] : va_W) (some (.int rr)) ([] : va_W) := by
  intro sz
  refine Met.ofW (cc := cX2_beside) (maxL := 3) (ret := (some .int)) (by decide) rfl ?_
  intro p e s m args below meth c s₁ B hml hv
  obtain ⟨rfl, hsz, hP, hK, hD0⟩ := hv
  have hx := B.exec
  have hb := B.bytes
  have hr := B.returns
  have hts := atoms_spec (ws := wsX2_beside) B.pre
  have hown : s.vm.findClass RX2 = some m.cls := findClass_of_methodNamed B.named
  have hlocks := B.notSynchronized
  subst hsz
  have hD := hD0.self (sz := s.heap.size)
  have hA : ∀ q : Nat, s.heap.size ≤ q → va_A ([] : va_W) s.heap.size q := fun q h => Or.inr h
  generalize va_A ([] : va_W) s.heap.size = A at hD hA ⊢
  have hS : va_S A s.heap s.heap [] := va_S.rf
  have hl := lv_entry ([.int x0, .int x1]) (n := 3) (Nat.le_of_ble_eq_true rfl)
  rw [lg_entry_eq]
  generalize (lg_sl ([.int x0, .int x1]) ++ List.replicate (3 - (lg_sl ([.int x0, .int x1])).length) Slot.unset).toArray = ls at hl ⊢
  replace hl : lv_has ls 3 [(0, .int x0), (1, .int x1)] := hl
  unfold mX2_beside at hm
  refine lv_iload_n hx hb dX2_beside_0 rfl (lv_at hl 0 rfl) ?_
  refine lv_if_lt (tgt := 10) hx hb dX2_beside_1 (by decide) (fun c_1 => ?_) (fun c_1 => ?_)
  · replace hm := if_s hm c_1
    refine lv_iconst (v := (-1 : Int32)) hx hb dX2_beside_10 (by decide) ?_
    have hf0 := hm
    subst hf0
    exact W.iret (v := (-1 : Int32)) hx hb hr (fun t ht hW => ⟨⟨rfl, by rw [ht]; exact hP⟩, hS.F ht⟩) hS.2.2 dX2_beside_11
  · replace hm := if_f hm c_1
    refine lv_iload_n hx hb dX2_beside_4 rfl (lv_at hl 0 rfl) ?_
    refine lv_bipush (v := (36 : Int32)) hx hb dX2_beside_5 (by decide) ?_
    refine lv_icmp_lt (tgt := 12) hx hb dX2_beside_7 (by decide) (fun c_2 => ?_) (fun c_2 => ?_)
    · replace hm := if_s hm c_2
      refine lv_iload_n hx hb dX2_beside_12 rfl (lv_at hl 0 rfl) ?_
      refine lv_bipush (v := (6 : Int32)) hx hb dX2_beside_13 (by decide) ?_
      refine my_irem hx hb dX2_beside_15 (by decide) ?_
      refine lv_istore_n (lv' := [(2, .int (jrem x0 (6 : Int32))), (0, .int x0), (1, .int x1)]) hx hb dX2_beside_16 rfl hl (by decide) rfl (fun ls hl => ?_)
      refine lv_iload_n hx hb dX2_beside_17 rfl (lv_at hl 2 rfl) ?_
      by_cases c_3 : x1 = (0 : Int32)
      · replace hm := if_s hm c_3
        refine lv_tableIn (off := 26) (tgt := 44) hx hb dX2_beside_18 (by rw [c_3]; decide) (by rw [c_3]; decide) (by rw [c_3]; rfl) (by decide) ?_
        refine lv_iload_n hx hb dX2_beside_44 rfl (lv_at hl 1 rfl) ?_
        refine lv_bipush (v := (6 : Int32)) hx hb dX2_beside_45 (by decide) ?_
        refine lv_icmp_lt (tgt := 57) hx hb dX2_beside_47 (by decide) (fun c_4 => ?_) (fun c_4 => ?_)
        · replace hm := if_s hm c_4
          refine lv_iconst (v := (-1 : Int32)) hx hb dX2_beside_57 (by decide) ?_
          have hf0 := hm
          subst hf0
          exact W.iret (v := (-1 : Int32)) hx hb hr (fun t ht hW => ⟨⟨rfl, by rw [ht]; exact hP⟩, hS.F ht⟩) hS.2.2 dX2_beside_58
        · replace hm := if_f hm c_4
          refine lv_iload_n hx hb dX2_beside_50 rfl (lv_at hl 1 rfl) ?_
          refine lv_bipush (v := (6 : Int32)) hx hb dX2_beside_51 (by decide) ?_
          refine lv_isub hx hb dX2_beside_53 ?_
          refine lv_goto (tgt := 58) hx hb dX2_beside_54 (by decide) ?_
          have hf0 := hm
          subst hf0
          exact W.iret (v := (x0 - (6 : Int32))) hx hb hr (fun t ht hW => ⟨⟨rfl, by rw [ht]; exact hP⟩, hS.F ht⟩) hS.2.2 dX2_beside_58
      · replace hm := if_f hm c_3
        by_cases c_5 : x1 = (1 : Int32)
        · replace hm := if_s hm c_5
          refine lv_tableIn (off := 41) (tgt := 59) hx hb dX2_beside_18 (by rw [c_5]; decide) (by rw [c_5]; decide) (by rw [c_5]; rfl) (by decide) ?_
          refine lv_iload_n hx hb dX2_beside_59 rfl (lv_at hl 0 rfl) ?_
          refine lv_iconst (v := (5 : Int32)) hx hb dX2_beside_60 (by decide) ?_
          refine lv_icmp_ge (tgt := 70) hx hb dX2_beside_61 (by decide) (fun c_6 => ?_) (fun c_6 => ?_)
          · replace hm := if_s hm c_6
            refine lv_iconst (v := (-1 : Int32)) hx hb dX2_beside_70 (by decide) ?_
            have hf0 := hm
            subst hf0
            exact W.iret (v := (-1 : Int32)) hx hb hr (fun t ht hW => ⟨⟨rfl, by rw [ht]; exact hP⟩, hS.F ht⟩) hS.2.2 dX2_beside_71
          · replace hm := if_f hm c_6
            refine lv_iload_n hx hb dX2_beside_64 rfl (lv_at hl 1 rfl) ?_
            refine lv_iconst (v := (1 : Int32)) hx hb dX2_beside_65 (by decide) ?_
            refine lv_iadd hx hb dX2_beside_66 ?_
            refine lv_goto (tgt := 71) hx hb dX2_beside_67 (by decide) ?_
            have hf0 := hm
            subst hf0
            exact W.iret (v := (x0 + (1 : Int32))) hx hb hr (fun t ht hW => ⟨⟨rfl, by rw [ht]; exact hP⟩, hS.F ht⟩) hS.2.2 dX2_beside_71
        · replace hm := if_f hm c_5
          by_cases c_7 : x1 = (2 : Int32)
          · replace hm := if_s hm c_7
            refine lv_tableIn (off := 54) (tgt := 72) hx hb dX2_beside_18 (by rw [c_7]; decide) (by rw [c_7]; decide) (by rw [c_7]; rfl) (by decide) ?_
            refine lv_iload_n hx hb dX2_beside_72 rfl (lv_at hl 1 rfl) ?_
            refine lv_bipush (v := (30 : Int32)) hx hb dX2_beside_73 (by decide) ?_
            refine lv_icmp_ge (tgt := 85) hx hb dX2_beside_75 (by decide) (fun c_8 => ?_) (fun c_8 => ?_)
            · replace hm := if_s hm c_8
              refine lv_iconst (v := (-1 : Int32)) hx hb dX2_beside_85 (by decide) ?_
              have hf0 := hm
              subst hf0
              exact W.iret (v := (-1 : Int32)) hx hb hr (fun t ht hW => ⟨⟨rfl, by rw [ht]; exact hP⟩, hS.F ht⟩) hS.2.2 dX2_beside_86
            · replace hm := if_f hm c_8
              refine lv_iload_n hx hb dX2_beside_78 rfl (lv_at hl 1 rfl) ?_
              refine lv_bipush (v := (6 : Int32)) hx hb dX2_beside_79 (by decide) ?_
              refine lv_iadd hx hb dX2_beside_81 ?_
              refine lv_goto (tgt := 86) hx hb dX2_beside_82 (by decide) ?_
              have hf0 := hm
              subst hf0
              exact W.iret (v := (x0 + (6 : Int32))) hx hb hr (fun t ht hW => ⟨⟨rfl, by rw [ht]; exact hP⟩, hS.F ht⟩) hS.2.2 dX2_beside_86
          · replace hm := if_f hm c_7
            have c_3_t := lv_neT (a := 0) c_3 rfl
            have c_5_t := lv_neT (a := 1) c_5 rfl
            have c_7_t := lv_neT (a := 2) c_7 rfl
            refine lv_tableOut (tgt := 87) hx hb dX2_beside_18 (by omega) (by decide) ?_
            refine lv_iload_n hx hb dX2_beside_87 rfl (lv_at hl 0 rfl) ?_
            refine lv_if_le (tgt := 97) hx hb dX2_beside_88 (by decide) (fun c_9 => ?_) (fun c_9 => ?_)
            · replace hm := if_s hm c_9
              refine lv_iconst (v := (-1 : Int32)) hx hb dX2_beside_97 (by decide) ?_
              have hf0 := hm
              subst hf0
              exact W.iret (v := (-1 : Int32)) hx hb hr (fun t ht hW => ⟨⟨rfl, by rw [ht]; exact hP⟩, hS.F ht⟩) hS.2.2 dX2_beside_98
            · replace hm := if_f hm c_9
              refine lv_iload_n hx hb dX2_beside_91 rfl (lv_at hl 1 rfl) ?_
              refine lv_iconst (v := (1 : Int32)) hx hb dX2_beside_92 (by decide) ?_
              refine lv_isub hx hb dX2_beside_93 ?_
              refine lv_goto (tgt := 98) hx hb dX2_beside_94 (by decide) ?_
              have hf0 := hm
              subst hf0
              exact W.iret (v := (x0 - (1 : Int32))) hx hb hr (fun t ht hW => ⟨⟨rfl, by rw [ht]; exact hP⟩, hS.F ht⟩) hS.2.2 dX2_beside_98
    · replace hm := if_f hm c_2
      refine lv_iconst (v := (-1 : Int32)) hx hb dX2_beside_10 (by decide) ?_
      have hf0 := hm
      subst hf0
      exact W.iret (v := (-1 : Int32)) hx hb hr (fun t ht hW => ⟨⟨rfl, by rw [ht]; exact hP⟩, hS.F ht⟩) hS.2.2 dX2_beside_11
def mX2_allBeside (x0 : Int64) (x1 : Int32) : Int64 := (if x1 = (0 : Int32) then (jushrl x0 (6 : Int32)) else (if x1 = (1 : Int32) then (jshll x0 (1 : Int32)) else (if x1 = (2 : Int32) then (jshll x0 (6 : Int32)) else (jushrl x0 (1 : Int32)))))
set_option maxHeartbeats 4000000 in
set_option maxRecDepth 100000 in
theorem kX2_allBeside (l : Launch) (Γ : my_G)   (x0 : Int64) (x1 : Int32) (rr : Int64) (hm : mX2_allBeside x0 x1 = rr) : Mn l yX2_allBeside wsX2_allBeside ({ frames := 0, cells := 0, slots := 0, locals := 0 } : Room) Γ [.long x0, .int x1] ([] : va_W) (some (.long rr)) ([] : va_W) := by
  intro sz
  refine Met.ofW (cc := cX2_allBeside) (maxL := 3) (ret := (some .long)) (by decide) rfl ?_
  intro p e s m args below meth c s₁ B hml hv
  obtain ⟨rfl, hsz, hP, hK, hD0⟩ := hv
  have hx := B.exec
  have hb := B.bytes
  have hr := B.returns
  have hts := atoms_spec (ws := wsX2_allBeside) B.pre
  have hown : s.vm.findClass RX2 = some m.cls := findClass_of_methodNamed B.named
  have hlocks := B.notSynchronized
  subst hsz
  have hD := hD0.self (sz := s.heap.size)
  have hA : ∀ q : Nat, s.heap.size ≤ q → va_A ([] : va_W) s.heap.size q := fun q h => Or.inr h
  generalize va_A ([] : va_W) s.heap.size = A at hD hA ⊢
  have hS : va_S A s.heap s.heap [] := va_S.rf
  have hl := lv_entry ([.long x0, .int x1]) (n := 3) (Nat.le_of_ble_eq_true rfl)
  rw [lg_entry_eq]
  generalize (lg_sl ([.long x0, .int x1]) ++ List.replicate (3 - (lg_sl ([.long x0, .int x1])).length) Slot.unset).toArray = ls at hl ⊢
  replace hl : lv_has ls 3 [(0, .long x0), (2, .int x1)] := hl
  unfold mX2_allBeside at hm
  refine lv_iload_n hx hb dX2_allBeside_0 rfl (lv_at hl 1 rfl) ?_
  by_cases c_1 : x1 = (0 : Int32)
  · replace hm := if_s hm c_1
    refine lv_tableIn (off := 27) (tgt := 28) hx hb dX2_allBeside_1 (by rw [c_1]; decide) (by rw [c_1]; decide) (by rw [c_1]; rfl) (by decide) ?_
    refine lv_lload_n hx hb dX2_allBeside_28 rfl (lv_at hl 0 rfl) ?_
    refine lv_bipush (v := (6 : Int32)) hx hb dX2_allBeside_29 (by decide) ?_
    refine my_lushr hx hb dX2_allBeside_31 ?_
    have hf0 := hm
    subst hf0
    exact W.lret (v := (jushrl x0 (6 : Int32))) hx hb hr (fun t ht hW => ⟨⟨rfl, by rw [ht]; exact hP⟩, hS.F ht⟩) hS.2.2 dX2_allBeside_32
  · replace hm := if_f hm c_1
    by_cases c_2 : x1 = (1 : Int32)
    · replace hm := if_s hm c_2
      refine lv_tableIn (off := 32) (tgt := 33) hx hb dX2_allBeside_1 (by rw [c_2]; decide) (by rw [c_2]; decide) (by rw [c_2]; rfl) (by decide) ?_
      refine lv_lload_n hx hb dX2_allBeside_33 rfl (lv_at hl 0 rfl) ?_
      refine lv_iconst (v := (1 : Int32)) hx hb dX2_allBeside_34 (by decide) ?_
      refine my_lshl hx hb dX2_allBeside_35 ?_
      have hf0 := hm
      subst hf0
      exact W.lret (v := (jshll x0 (1 : Int32))) hx hb hr (fun t ht hW => ⟨⟨rfl, by rw [ht]; exact hP⟩, hS.F ht⟩) hS.2.2 dX2_allBeside_36
    · replace hm := if_f hm c_2
      by_cases c_3 : x1 = (2 : Int32)
      · replace hm := if_s hm c_3
        refine lv_tableIn (off := 36) (tgt := 37) hx hb dX2_allBeside_1 (by rw [c_3]; decide) (by rw [c_3]; decide) (by rw [c_3]; rfl) (by decide) ?_
        refine lv_lload_n hx hb dX2_allBeside_37 rfl (lv_at hl 0 rfl) ?_
        refine lv_bipush (v := (6 : Int32)) hx hb dX2_allBeside_38 (by decide) ?_
        refine my_lshl hx hb dX2_allBeside_40 ?_
        have hf0 := hm
        subst hf0
        exact W.lret (v := (jshll x0 (6 : Int32))) hx hb hr (fun t ht hW => ⟨⟨rfl, by rw [ht]; exact hP⟩, hS.F ht⟩) hS.2.2 dX2_allBeside_41
      · replace hm := if_f hm c_3
        have c_1_t := lv_neT (a := 0) c_1 rfl
        have c_2_t := lv_neT (a := 1) c_2 rfl
        have c_3_t := lv_neT (a := 2) c_3 rfl
        refine lv_tableOut (tgt := 42) hx hb dX2_allBeside_1 (by omega) (by decide) ?_
        refine lv_lload_n hx hb dX2_allBeside_42 rfl (lv_at hl 0 rfl) ?_
        refine lv_iconst (v := (1 : Int32)) hx hb dX2_allBeside_43 (by decide) ?_
        refine my_lushr hx hb dX2_allBeside_44 ?_
        have hf0 := hm
        subst hf0
        exact W.lret (v := (jushrl x0 (1 : Int32))) hx hb hr (fun t ht hW => ⟨⟨rfl, by rw [ht]; exact hP⟩, hS.F ht⟩) hS.2.2 dX2_allBeside_45
