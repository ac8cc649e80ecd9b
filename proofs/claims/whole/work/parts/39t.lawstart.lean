/-! What the start gives: the classes, the strings, the words on throws -/
theorem ls_arr {args : Array Value} {s : State} {ty : FieldType} (h : (Cond.arrayClass ty).before args s = true) (hn : ∀ C, ty ≠ .object C) : ∃ cA : ClassId, ArrOfT s cA ty ∧ va_RA s cA ty := by
  obtain ⟨cA, kA, comp, h1, h2, h3⟩ := Cond.arrayClass_spec h
  refine ⟨cA, fun n z => ⟨fun k h => (by cases h), kA, h2, comp, h3⟩, ?_⟩
  cases ty with
  | object C => exact absurd rfl (hn C)
  | _ => exact h1
theorem ls_over {args : Array Value} {s : State} {C : String} (h : (Cond.arrayOver (.object C)).before args s = true) : ∃ cA : ClassId, ArrOfT s cA (.object C) ∧ va_RA s cA (.object C) := by
  obtain ⟨comp, cA, kA, h1, h2, h3, h4, h5⟩ := Cond.arrayOver_spec h
  exact ⟨cA, fun n z => ⟨fun k h => (by cases h), kA, h3, comp, h4⟩, kA, comp, h3, h4, h1, h5⟩
theorem ls_w1 : ∀ w ∈ [Cond.instantiable RX0 2, Cond.instantiable RX1 12, Cond.instantiable RX3 3, Cond.instantiable RX4 10, Cond.instantiable RX5 2, Cond.instantiable RX7 2, Cond.instantiable RX8 9, Cond.instantiable RX9 19, Cond.arrayClass .int, Cond.arrayClass .long, Cond.arrayClass .boolean, Cond.arrayClass .char, Cond.arrayOver (.object "BeltFloor$Floor")], w ∈ lw_tbl := by decide +kernel
theorem ls_gam {args : Array Value} {s : State} (hts : ∀ w ∈ lw_tbl, w.before args s = true) : ∃ Γ : my_G, my_K Γ s := by
  have hw := fun w (h : w ∈ _) => hts w (ls_w1 w h)
  obtain ⟨c0, j0, g0⟩ := u_known (C := RX0) (T := TX0) (N := 2) hts inX0 (hw (.instantiable RX0 2) (List.mem_of_getElem? (i := 0) rfl))
  obtain ⟨c1, j1, g1⟩ := u_known (C := RX1) (T := TX1) (N := 12) hts inX1 (hw (.instantiable RX1 12) (List.mem_of_getElem? (i := 1) rfl))
  obtain ⟨c2, j2, g2⟩ := u_known (C := RX3) (T := TX3) (N := 3) hts inX3 (hw (.instantiable RX3 3) (List.mem_of_getElem? (i := 2) rfl))
  obtain ⟨c3, j3, g3⟩ := u_known (C := RX4) (T := TX4) (N := 10) hts inX4 (hw (.instantiable RX4 10) (List.mem_of_getElem? (i := 3) rfl))
  obtain ⟨c4, j4, g4⟩ := u_known (C := RX5) (T := TX5) (N := 2) hts inX5 (hw (.instantiable RX5 2) (List.mem_of_getElem? (i := 4) rfl))
  obtain ⟨c5, j5, g5⟩ := u_known (C := RX7) (T := TX7) (N := 2) hts inX7 (hw (.instantiable RX7 2) (List.mem_of_getElem? (i := 5) rfl))
  obtain ⟨c6, j6, g6⟩ := u_known (C := RX8) (T := TX8) (N := 9) hts inX8 (hw (.instantiable RX8 9) (List.mem_of_getElem? (i := 6) rfl))
  obtain ⟨c7, j7, g7⟩ := u_known (C := RX9) (T := TX9) (N := 19) hts inX9 (hw (.instantiable RX9 19) (List.mem_of_getElem? (i := 7) rfl))
  obtain ⟨a0, r0⟩ := ls_arr (ty := .int) (hw _ (List.mem_of_getElem? (i := 8) rfl)) (fun C h => by cases h)
  obtain ⟨a1, r1⟩ := ls_arr (ty := .long) (hw _ (List.mem_of_getElem? (i := 9) rfl)) (fun C h => by cases h)
  obtain ⟨a2, r2⟩ := ls_arr (ty := .boolean) (hw _ (List.mem_of_getElem? (i := 10) rfl)) (fun C h => by cases h)
  obtain ⟨a3, r3⟩ := ls_arr (ty := .char) (hw _ (List.mem_of_getElem? (i := 11) rfl)) (fun C h => by cases h)
  obtain ⟨a4, r4⟩ := ls_over (C := "BeltFloor$Floor") (hw _ (List.mem_of_getElem? (i := 12) rfl))
  refine ⟨(fun k => match k with | 0 => c0 | 1 => c1 | 2 => c2 | 3 => c3 | 4 => c4 | 5 => c5 | 6 => c6 | _ => c7, fun k => match k with | 0 => j0 | 1 => j1 | 2 => j2 | 3 => j3 | 4 => j4 | 5 => j5 | 6 => j6 | _ => j7, fun k => match k with | 0 => a0 | 1 => a1 | 2 => a2 | 3 => a3 | _ => a4), ?_, ?_⟩
  · intro k q hq
    match k, hq with
    | 0, hq => cases hq; exact g0
    | 1, hq => cases hq; exact g1
    | 2, hq => cases hq; exact g2
    | 3, hq => cases hq; exact g3
    | 4, hq => cases hq; exact g4
    | 5, hq => cases hq; exact g5
    | 6, hq => cases hq; exact g6
    | 7, hq => cases hq; exact g7
    | k + 8, hq => simp [vwCl] at hq
  · intro k q hq
    match k, hq with
    | 0, hq => cases hq; exact r0
    | 1, hq => cases hq; exact r1
    | 2, hq => cases hq; exact r2
    | 3, hq => cases hq; exact r3
    | 4, hq => cases hq; exact r4
    | k + 5, hq => simp [my_tys] at hq
theorem ls_w2 : ∀ q ∈ my_strs, Cond.stringRef RX8 q.1 q.2 ∈ lw_tbl := by decide +kernel
theorem ls_w3 : ∀ w ∈ [Cond.castable "java/lang/IndexOutOfBoundsException" "java/lang/IndexOutOfBoundsException", Cond.castable "java/lang/IllegalArgumentException" "java/lang/IllegalArgumentException", Cond.castable "java/lang/IllegalStateException" "java/lang/IllegalStateException", Cond.declares (Bundle.initS "java/lang/RuntimeException"), Cond.declares (Bundle.initS "java/lang/Exception"), Cond.declares (Bundle.initS Bundle.tN), Cond.laysStatic Bundle.tN "UNASSIGNED_STACK" Bundle.steD, Cond.laysStatic Bundle.tN "SUPPRESSED_SENTINEL" Bundle.listD, Cond.initialized Bundle.tN, Cond.methodLinkNest RX1 20 yX4_init "BeltFloor", Cond.methodLinkNest RX8 11 yX7_init "BeltFloor", Cond.methodLinkNest RX8 35 yX5_init "BeltFloor", Cond.methodLinkNest RX8 45 yX0_init "BeltFloor"], w ∈ lw_tbl := by decide +kernel
theorem ls_str {args : Array Value} {s : State} (hts : ∀ w ∈ lw_tbl, w.before args s = true) : my_str s := by
  have hw := fun w (h : w ∈ _) => hts w (ls_w3 w h)
  obtain ⟨cur, kC, hcur, -⟩ := Cond.instantiable_spec (hts (.instantiable RX8 9) (ls_w1 _ (List.mem_of_getElem? (i := 6) rfl)))
  refine ⟨fun q hq => ?_, va_Nw.of rfl (hw _ (List.mem_of_getElem? (i := 0) rfl)), va_Nw.of rfl (hw _ (List.mem_of_getElem? (i := 1) rfl)), va_Nw.of rfl (hw _ (List.mem_of_getElem? (i := 2) rfl)), va_Nw.of rfl (hw _ (List.mem_of_getElem? (i := 3) rfl)), va_Nw.of rfl (hw _ (List.mem_of_getElem? (i := 4) rfl)), va_Nw.of rfl (hw _ (List.mem_of_getElem? (i := 5) rfl))⟩
  have h1 : (Cond.stringRef RX8 q.1 q.2).before #[] s = true := hts _ (ls_w2 q hq)
  obtain ⟨k, cf, i, a, -, -, -, -, -, hev⟩ := Cond.stringRef_spec hcur h1
  exact ⟨a, vk_R.of h1 hev⟩
theorem ls_env {args : Array Value} {s : State} (hts : ∀ w ∈ lw_tbl, w.before args s = true) : my_env s := by
  have hw := fun w (h : w ∈ _) => hts w (ls_w3 w h)
  have ho : va_AO "BeltFloor$Floor" s := by
    have h1 := hts _ (ls_w1 (.arrayOver (.object "BeltFloor$Floor")) (List.mem_of_getElem? (i := 12) rfl))
    exact va_AO.of h1
  exact ⟨ho, va_Nw.of rfl (hw _ (List.mem_of_getElem? (i := 9) rfl)), va_Nw.of rfl (hw _ (List.mem_of_getElem? (i := 10) rfl)), va_Nw.of rfl (hw _ (List.mem_of_getElem? (i := 11) rfl)), va_Nw.of rfl (hw _ (List.mem_of_getElem? (i := 12) rfl))⟩
theorem ls_g1 : ∀ w ∈ [Cond.isRef (.static Bundle.tN "UNASSIGNED_STACK" Bundle.steD), Cond.isRef (.static Bundle.tN "SUPPRESSED_SENTINEL" Bundle.listD), Cond.not (.castable "java/lang/IllegalArgumentException" "java/lang/IllegalStateException"), Cond.not (.castable "java/lang/IllegalArgumentException" "java/lang/IndexOutOfBoundsException"), Cond.not (.castable "java/lang/IllegalStateException" "java/lang/IllegalArgumentException"), Cond.not (.castable "java/lang/IllegalStateException" "java/lang/IndexOutOfBoundsException"), Cond.not (.castable "java/lang/IndexOutOfBoundsException" "java/lang/IllegalArgumentException"), Cond.not (.castable "java/lang/IndexOutOfBoundsException" "java/lang/IllegalStateException")], w ∈ flatC (Jvm.Cond.and given_1 narrow_1) := by decide +kernel
theorem ls_nc {args : Array Value} {s : State} (hgv : (Jvm.Cond.and given_1 narrow_1).before args s = true) : my_nc s := by
  have hs := flat_of_before _ hgv
  have hw := fun w (h : w ∈ _) => hs w (ls_g1 w h)
  exact List.forall_mem_cons.mpr ⟨va_Nc.of (hw _ (List.mem_of_getElem? (i := 2) rfl)), List.forall_mem_cons.mpr ⟨va_Nc.of (hw _ (List.mem_of_getElem? (i := 3) rfl)), List.forall_mem_cons.mpr ⟨va_Nc.of (hw _ (List.mem_of_getElem? (i := 4) rfl)), List.forall_mem_cons.mpr ⟨va_Nc.of (hw _ (List.mem_of_getElem? (i := 5) rfl)), List.forall_mem_cons.mpr ⟨va_Nc.of (hw _ (List.mem_of_getElem? (i := 6) rfl)), List.forall_mem_cons.mpr ⟨va_Nc.of (hw _ (List.mem_of_getElem? (i := 7) rfl)), fun _ h => absurd h List.not_mem_nil⟩⟩⟩⟩⟩⟩
theorem ls_zz {args : Array Value} {s : State} (hts : ∀ w ∈ lw_tbl, w.before args s = true) (hgv : (Jvm.Cond.and given_1 narrow_1).before args s = true) : my_ZZ (fun q : Nat => s.heap.size ≤ q) s s.heap := by
  have hs := flat_of_before _ hgv
  have hw := fun w (h : w ∈ _) => hs w (ls_g1 w h)
  have hv := fun w (h : w ∈ _) => hts w (ls_w3 w h)
  exact ⟨vx_Zqof (hv _ (List.mem_of_getElem? (i := 6) rfl)) (hv _ (List.mem_of_getElem? (i := 8) rfl)) (hw _ (List.mem_of_getElem? (i := 0) rfl)) (fun a ha h => absurd h (Nat.not_le.mpr ha)), vx_Zqof (hv _ (List.mem_of_getElem? (i := 7) rfl)) (hv _ (List.mem_of_getElem? (i := 8) rfl)) (hw _ (List.mem_of_getElem? (i := 1) rfl)) (fun a ha h => absurd h (Nat.not_le.mpr ha))⟩
