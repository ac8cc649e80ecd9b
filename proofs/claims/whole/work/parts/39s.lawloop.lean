def pl_all (PR : LSt → Prop) : Prop := pl_append PR ∧ pl_clearText PR ∧ pl_errorPosition PR ∧ pl_load PR ∧ pl_kindOf PR ∧ pl_hasCrate PR ∧ pl_cratesByCells PR ∧ pl_cratesByAccounts PR ∧ pl_lost PR ∧ pl_checkpoints PR ∧ pl_cellOfCheckpoint PR ∧ pl_cellOf PR ∧ pl_facingOf PR ∧ pl_nextOf PR ∧ pl_isHome PR ∧ pl_movesOf PR ∧ pl_bumpsOf PR ∧ pl_pushesOf PR ∧ pl_fallsOf PR ∧ pl_steps PR ∧ pl_lengthOf PR ∧ pl_instructionAt PR ∧ pl_placeOf PR ∧ pl_setKind PR ∧ pl_addCrate PR ∧ pl_takeCrate PR ∧ pl_addCheckpoint PR ∧ pl_putRobot PR ∧ pl_write PR ∧ pl_wipe PR ∧ pl_step PR ∧ pl_undo PR ∧ pl_rowAhead PR ∧ pl_wouldClash PR ∧ pl_passesIn PR ∧ pl_loopByWaiting PR ∧ pl_loopByKeeping PR ∧ pl_fewestBySpreading PR ∧ pl_fewestBySweeping PR ∧ pl_simulate PR ∧ pl_save PR ∧ pl_restore PR
theorem lw_more {L k : Nat} (hL : L ≤ 2048) (hk : k ≤ 4096) (h : ¬ nI L - (4 : Int32) < nI k) : k + 4 ≤ L := by
  rcases Nat.lt_or_ge L (k + 4) with q | q
  · exfalso
    apply h
    rw [Int32.lt_iff_toInt_lt, nI_toInt (n := k) (by omega)]
    rcases Nat.lt_or_ge L 4 with z | z
    · have : ∀ L, L < 4 → (nI L - (4 : Int32)).toInt < 0 := by decide +kernel
      have := this L z
      omega
    · obtain ⟨a, rfl⟩ : ∃ a, L = a + 4 := ⟨L - 4, by omega⟩
      have e : nI (a + 4) - (4 : Int32) = nI a := by
        have e4 : (4 : Int32) = nI 4 := by decide +kernel
        rw [e4, ← nI_add]
        exact Int32.add_sub_cancel _ _
      rw [e, nI_toInt (n := a) (by omega)]
      omega
  · exact q
set_option maxHeartbeats 4000000 in
set_option maxRecDepth 100000 in
theorem law_loop (l : Launch) (Γ : my_G) {p : Program} {e : Env} {s : State} {m : MethodId} {below : List Frame} {meth : Method} {c : Code} {b L : Nat} {xs : Nat → Int32} {Q9 : State → Prop} (Q : Nat → Nat) (hL : L ≤ 2048) (C : lw_Cx l Γ p s m c b L xs) {PR : LSt → Prop} (hp : pl_all PR) (hend : ∀ (nc ns : Nat) (H : Heap) (locs : List Loc) (ls : Array Slot), nc ≤ room_1.cells → ns ≤ room_1.slots → va_S (fun q : Nat => s.heap.size ≤ q) s.heap H locs → W p l e room_1 s m #[Value.ref b] below meth c H locs nc ns Q9 (F0 m 2266 ls [])) : ∀ (n k nc ns : Nat), k ≤ L + 3 → L + 1 ≤ k + n → nc + 3 * n ≤ room_1.cells → ns + 18 * n ≤ room_1.slots → ∀ (i : Int32), i = nI k → ∀ (σ : LSt) (H : Heap) (locs : List Loc) (ls : Array Slot), PR σ → va_P (my_D Γ) vwCl (lw_B Γ Q σ).flatten H → va_D (fun q : Nat => s.heap.size ≤ q) (lw_B Γ Q σ).flatten → va_S (fun q : Nat => s.heap.size ≤ q) s.heap H locs → lv_has ls 7 [(0, .ref b), (1, .ref (Q 0)), (2, .ref (Q 41)), (3, .ref (Q 40)), (4, .int i)] → W p l e room_1 s m #[Value.ref b] below meth c H locs nc ns Q9 (F0 m 23 ls []) := by
  have C' := C
  obtain ⟨hfl, hx, hb, hml, hown, hts, hX, hbl, hK, hZ, hstr, hnc⟩ := C'
  have hA : ∀ q : Nat, s.heap.size ≤ q → (fun q : Nat => s.heap.size ≤ q) q := fun _ h => h
  have hbA : ¬ (fun q : Nat => s.heap.size ≤ q) b := Nat.not_le.mpr hbl
  intro n
  induction n with
  | zero =>
    intro k nc ns h1 h2 h3 h4 i ei σ H locs ls hPR hP hD hS hl
    refine lv_iload hx hb dL_law_23 (lv_at hl 4 rfl) ?_
    refine lv_aload_n hx hb dL_law_25 rfl (lv_at hl 0 rfl) ?_
    refine va_slen hx hb hX hbl hbA hS dL_law_26 ?_
    refine lv_iconst (v := (4 : Int32)) hx hb dL_law_27 (by decide) ?_
    refine lv_isub hx hb dL_law_28 ?_
    refine lv_icmp_gt (tgt := 2266) hx hb dL_law_29 (by decide) (fun cc => ?_) (fun cc => ?_)
    · exact hend nc ns H locs ls (by omega) (by omega) hS
    · rw [ei] at cc
      have := lw_more hL (by omega) cc
      omega
  | succ n ih =>
    intro k nc ns h1 h2 h3 h4 i ei σ H locs ls hPR hP hD hS hl
    refine lv_iload hx hb dL_law_23 (lv_at hl 4 rfl) ?_
    refine lv_aload_n hx hb dL_law_25 rfl (lv_at hl 0 rfl) ?_
    refine va_slen hx hb hX hbl hbA hS dL_law_26 ?_
    refine lv_iconst (v := (4 : Int32)) hx hb dL_law_27 (by decide) ?_
    refine lv_isub hx hb dL_law_28 ?_
    refine lv_icmp_gt (tgt := 2266) hx hb dL_law_29 (by decide) (fun cc => ?_) (fun cc => ?_)
    · exact hend nc ns H locs ls (by omega) (by omega) hS
    have hk4 : k + 4 ≤ L := by
      rw [ei] at cc
      exact lw_more hL (by omega) cc
    have hi0 : vp_in i L := by rw [ei]; exact vp_in_nI (by omega) (by omega)
    have hi1 : vp_in (i + (1 : Int32)) L := by
      rw [ei, show (1 : Int32) = nI 1 from by decide +kernel, nI_add]; exact vp_in_nI (by omega) (by omega)
    have hi2 : vp_in (i + (2 : Int32)) L := by
      rw [ei, show (2 : Int32) = nI 2 from by decide +kernel, nI_add]; exact vp_in_nI (by omega) (by omega)
    have hi3 : vp_in (i + (3 : Int32)) L := by
      rw [ei, show (3 : Int32) = nI 3 from by decide +kernel, nI_add]; exact vp_in_nI (by omega) (by omega)
    have kk : ∀ (σ : LSt) (H : Heap) (locs : List Loc) (ls : Array Slot), PR σ → va_P (my_D Γ) vwCl (lw_B Γ Q σ).flatten H → va_D (fun q : Nat => s.heap.size ≤ q) (lw_B Γ Q σ).flatten → va_S (fun q : Nat => s.heap.size ≤ q) s.heap H locs → lv_has ls 7 [(0, .ref b), (1, .ref (Q 0)), (2, .ref (Q 41)), (3, .ref (Q 40)), (4, .int i)] → W p l e room_1 s m #[Value.ref b] below meth c H locs (nc + 3) (ns + 18) Q9 (F0 m 2260 ls []) := by
      intro σ H locs ls hPR hP hD hS hl
      refine lv_iinc (v := i + (4 : Int32)) (lv' := [(4, .int (i + (4 : Int32))), (0, .ref b), (1, .ref (Q 0)), (2, .ref (Q 41)), (3, .ref (Q 40))]) hx hb dL_law_2260 hl (k := 4) rfl rfl (by decide) rfl (fun ls hl => ?_)
      refine lv_goto (tgt := 23) hx hb dL_law_2263 (by decide) ?_
      exact ih (k + 4) (nc + 3) (ns + 18) (by omega) (by omega) (by omega) (by omega) (i + (4 : Int32)) (by rw [ei, show (4 : Int32) = nI 4 from by decide +kernel, nI_add]) σ H locs ls hPR hP hD hS (lv_sub hl [1, 2, 3, 4, 0] rfl)
    refine lv_aload_n hx hb dL_law_32 rfl (lv_at hl 0 rfl) ?_
    refine lv_iload hx hb dL_law_33 (lv_at hl 4 rfl) ?_
    refine va_sld hx hb hX hbl hbA hS hi0 dL_law_35 ?_
    refine lv_bipush (v := (63 : Int32)) hx hb dL_law_36 (by decide) ?_
    refine lv_iand hx hb dL_law_38 ?_
    refine lv_topi (fun v ev => ?_)
    by_cases c0 : v = (0 : Int32)
    · refine lv_tableIn (off := 181) (tgt := 220) hx hb dL_law_39 (by rw [c0]; decide) (by rw [c0]; decide) (by rw [c0]; rfl) (by decide) ?_
      exact lb_append l Γ Q C hp.1 σ hPR i hi1 hi2 hi3 nc ns (by omega) (by omega) H locs ls hP hD hS hl kk
    by_cases c1 : v = (1 : Int32)
    · refine lv_tableIn (off := 237) (tgt := 276) hx hb dL_law_39 (by rw [c1]; decide) (by rw [c1]; decide) (by rw [c1]; rfl) (by decide) ?_
      exact lb_clearText l Γ Q C hp.2.1 σ hPR i hi1 hi2 hi3 nc ns (by omega) (by omega) H locs ls hP hD hS hl kk
    by_cases c2 : v = (2 : Int32)
    · refine lv_tableIn (off := 250) (tgt := 289) hx hb dL_law_39 (by rw [c2]; decide) (by rw [c2]; decide) (by rw [c2]; rfl) (by decide) ?_
      exact lb_errorPosition l Γ Q C hp.2.2.1 σ hPR i hi1 hi2 hi3 nc ns (by omega) (by omega) H locs ls hP hD hS hl kk
    by_cases c3 : v = (3 : Int32)
    · refine lv_tableIn (off := 263) (tgt := 302) hx hb dL_law_39 (by rw [c3]; decide) (by rw [c3]; decide) (by rw [c3]; rfl) (by decide) ?_
      exact lb_load l Γ Q C hp.2.2.2.1 σ hPR i hi1 hi2 hi3 nc ns (by omega) (by omega) H locs ls hP hD hS hl kk
    by_cases c4 : v = (4 : Int32)
    · refine lv_tableIn (off := 307) (tgt := 346) hx hb dL_law_39 (by rw [c4]; decide) (by rw [c4]; decide) (by rw [c4]; rfl) (by decide) ?_
      exact lb_kindOf l Γ Q C hp.2.2.2.2.1 σ hPR i hi1 hi2 hi3 nc ns (by omega) (by omega) H locs ls hP hD hS hl kk
    by_cases c5 : v = (5 : Int32)
    · refine lv_tableIn (off := 363) (tgt := 402) hx hb dL_law_39 (by rw [c5]; decide) (by rw [c5]; decide) (by rw [c5]; rfl) (by decide) ?_
      exact lb_hasCrate l Γ Q C hp.2.2.2.2.2.1 σ hPR i hi1 hi2 hi3 nc ns (by omega) (by omega) H locs ls hP hD hS hl kk
    by_cases c6 : v = (6 : Int32)
    · refine lv_tableIn (off := 426) (tgt := 465) hx hb dL_law_39 (by rw [c6]; decide) (by rw [c6]; decide) (by rw [c6]; rfl) (by decide) ?_
      exact lb_cratesByCells l Γ Q C hp.2.2.2.2.2.2.1 σ hPR i hi1 hi2 hi3 nc ns (by omega) (by omega) H locs ls hP hD hS hl kk
    by_cases c7 : v = (7 : Int32)
    · refine lv_tableIn (off := 439) (tgt := 478) hx hb dL_law_39 (by rw [c7]; decide) (by rw [c7]; decide) (by rw [c7]; rfl) (by decide) ?_
      exact lb_cratesByAccounts l Γ Q C hp.2.2.2.2.2.2.2.1 σ hPR i hi1 hi2 hi3 nc ns (by omega) (by omega) H locs ls hP hD hS hl kk
    by_cases c8 : v = (8 : Int32)
    · refine lv_tableIn (off := 452) (tgt := 491) hx hb dL_law_39 (by rw [c8]; decide) (by rw [c8]; decide) (by rw [c8]; rfl) (by decide) ?_
      exact lb_lost l Γ Q C hp.2.2.2.2.2.2.2.2.1 σ hPR i hi1 hi2 hi3 nc ns (by omega) (by omega) H locs ls hP hD hS hl kk
    by_cases c9 : v = (9 : Int32)
    · refine lv_tableIn (off := 465) (tgt := 504) hx hb dL_law_39 (by rw [c9]; decide) (by rw [c9]; decide) (by rw [c9]; rfl) (by decide) ?_
      exact lb_checkpoints l Γ Q C hp.2.2.2.2.2.2.2.2.2.1 σ hPR i hi1 hi2 hi3 nc ns (by omega) (by omega) H locs ls hP hD hS hl kk
    by_cases c10 : v = (10 : Int32)
    · refine lv_tableIn (off := 478) (tgt := 517) hx hb dL_law_39 (by rw [c10]; decide) (by rw [c10]; decide) (by rw [c10]; rfl) (by decide) ?_
      exact lb_cellOfCheckpoint l Γ Q C hp.2.2.2.2.2.2.2.2.2.2.1 σ hPR i hi1 hi2 hi3 nc ns (by omega) (by omega) H locs ls hP hD hS hl kk
    by_cases c11 : v = (11 : Int32)
    · refine lv_tableIn (off := 534) (tgt := 573) hx hb dL_law_39 (by rw [c11]; decide) (by rw [c11]; decide) (by rw [c11]; rfl) (by decide) ?_
      exact lb_cellOf l Γ Q C hp.2.2.2.2.2.2.2.2.2.2.2.1 σ hPR i hi1 hi2 hi3 nc ns (by omega) (by omega) H locs ls hP hD hS hl kk
    by_cases c12 : v = (12 : Int32)
    · refine lv_tableIn (off := 590) (tgt := 629) hx hb dL_law_39 (by rw [c12]; decide) (by rw [c12]; decide) (by rw [c12]; rfl) (by decide) ?_
      exact lb_facingOf l Γ Q C hp.2.2.2.2.2.2.2.2.2.2.2.2.1 σ hPR i hi1 hi2 hi3 nc ns (by omega) (by omega) H locs ls hP hD hS hl kk
    by_cases c13 : v = (13 : Int32)
    · refine lv_tableIn (off := 646) (tgt := 685) hx hb dL_law_39 (by rw [c13]; decide) (by rw [c13]; decide) (by rw [c13]; rfl) (by decide) ?_
      exact lb_nextOf l Γ Q C hp.2.2.2.2.2.2.2.2.2.2.2.2.2.1 σ hPR i hi1 hi2 hi3 nc ns (by omega) (by omega) H locs ls hP hD hS hl kk
    by_cases c14 : v = (14 : Int32)
    · refine lv_tableIn (off := 702) (tgt := 741) hx hb dL_law_39 (by rw [c14]; decide) (by rw [c14]; decide) (by rw [c14]; rfl) (by decide) ?_
      exact lb_isHome l Γ Q C hp.2.2.2.2.2.2.2.2.2.2.2.2.2.2.1 σ hPR i hi1 hi2 hi3 nc ns (by omega) (by omega) H locs ls hP hD hS hl kk
    by_cases c15 : v = (15 : Int32)
    · refine lv_tableIn (off := 765) (tgt := 804) hx hb dL_law_39 (by rw [c15]; decide) (by rw [c15]; decide) (by rw [c15]; rfl) (by decide) ?_
      exact lb_movesOf l Γ Q C hp.2.2.2.2.2.2.2.2.2.2.2.2.2.2.2.1 σ hPR i hi1 hi2 hi3 nc ns (by omega) (by omega) H locs ls hP hD hS hl kk
    by_cases c16 : v = (16 : Int32)
    · refine lv_tableIn (off := 821) (tgt := 860) hx hb dL_law_39 (by rw [c16]; decide) (by rw [c16]; decide) (by rw [c16]; rfl) (by decide) ?_
      exact lb_bumpsOf l Γ Q C hp.2.2.2.2.2.2.2.2.2.2.2.2.2.2.2.2.1 σ hPR i hi1 hi2 hi3 nc ns (by omega) (by omega) H locs ls hP hD hS hl kk
    by_cases c17 : v = (17 : Int32)
    · refine lv_tableIn (off := 877) (tgt := 916) hx hb dL_law_39 (by rw [c17]; decide) (by rw [c17]; decide) (by rw [c17]; rfl) (by decide) ?_
      exact lb_pushesOf l Γ Q C hp.2.2.2.2.2.2.2.2.2.2.2.2.2.2.2.2.2.1 σ hPR i hi1 hi2 hi3 nc ns (by omega) (by omega) H locs ls hP hD hS hl kk
    by_cases c18 : v = (18 : Int32)
    · refine lv_tableIn (off := 933) (tgt := 972) hx hb dL_law_39 (by rw [c18]; decide) (by rw [c18]; decide) (by rw [c18]; rfl) (by decide) ?_
      exact lb_fallsOf l Γ Q C hp.2.2.2.2.2.2.2.2.2.2.2.2.2.2.2.2.2.2.1 σ hPR i hi1 hi2 hi3 nc ns (by omega) (by omega) H locs ls hP hD hS hl kk
    by_cases c19 : v = (19 : Int32)
    · refine lv_tableIn (off := 989) (tgt := 1028) hx hb dL_law_39 (by rw [c19]; decide) (by rw [c19]; decide) (by rw [c19]; rfl) (by decide) ?_
      exact lb_steps l Γ Q C hp.2.2.2.2.2.2.2.2.2.2.2.2.2.2.2.2.2.2.2.1 σ hPR i hi1 hi2 hi3 nc ns (by omega) (by omega) H locs ls hP hD hS hl kk
    by_cases c20 : v = (20 : Int32)
    · refine lv_tableIn (off := 1002) (tgt := 1041) hx hb dL_law_39 (by rw [c20]; decide) (by rw [c20]; decide) (by rw [c20]; rfl) (by decide) ?_
      exact lb_lengthOf l Γ Q C hp.2.2.2.2.2.2.2.2.2.2.2.2.2.2.2.2.2.2.2.2.1 σ hPR i hi1 hi2 hi3 nc ns (by omega) (by omega) H locs ls hP hD hS hl kk
    by_cases c21 : v = (21 : Int32)
    · refine lv_tableIn (off := 1058) (tgt := 1097) hx hb dL_law_39 (by rw [c21]; decide) (by rw [c21]; decide) (by rw [c21]; rfl) (by decide) ?_
      exact lb_instructionAt l Γ Q C hp.2.2.2.2.2.2.2.2.2.2.2.2.2.2.2.2.2.2.2.2.2.1 σ hPR i hi1 hi2 hi3 nc ns (by omega) (by omega) H locs ls hP hD hS hl kk
    by_cases c22 : v = (22 : Int32)
    · refine lv_tableIn (off := 1126) (tgt := 1165) hx hb dL_law_39 (by rw [c22]; decide) (by rw [c22]; decide) (by rw [c22]; rfl) (by decide) ?_
      exact lb_placeOf l Γ Q C hp.2.2.2.2.2.2.2.2.2.2.2.2.2.2.2.2.2.2.2.2.2.2.1 σ hPR i hi1 hi2 hi3 nc ns (by omega) (by omega) H locs ls hP hD hS hl kk
    by_cases c23 : v = (23 : Int32)
    · refine lv_tableIn (off := 1182) (tgt := 1221) hx hb dL_law_39 (by rw [c23]; decide) (by rw [c23]; decide) (by rw [c23]; rfl) (by decide) ?_
      exact lb_setKind l Γ Q C hp.2.2.2.2.2.2.2.2.2.2.2.2.2.2.2.2.2.2.2.2.2.2.2.1 σ hPR i hi1 hi2 hi3 nc ns (by omega) (by omega) H locs ls hP hD hS hl kk
    by_cases c24 : v = (24 : Int32)
    · refine lv_tableIn (off := 1250) (tgt := 1289) hx hb dL_law_39 (by rw [c24]; decide) (by rw [c24]; decide) (by rw [c24]; rfl) (by decide) ?_
      exact lb_addCrate l Γ Q C hp.2.2.2.2.2.2.2.2.2.2.2.2.2.2.2.2.2.2.2.2.2.2.2.2.1 σ hPR i hi1 hi2 hi3 nc ns (by omega) (by omega) H locs ls hP hD hS hl kk
    by_cases c25 : v = (25 : Int32)
    · refine lv_tableIn (off := 1306) (tgt := 1345) hx hb dL_law_39 (by rw [c25]; decide) (by rw [c25]; decide) (by rw [c25]; rfl) (by decide) ?_
      exact lb_takeCrate l Γ Q C hp.2.2.2.2.2.2.2.2.2.2.2.2.2.2.2.2.2.2.2.2.2.2.2.2.2.1 σ hPR i hi1 hi2 hi3 nc ns (by omega) (by omega) H locs ls hP hD hS hl kk
    by_cases c26 : v = (26 : Int32)
    · refine lv_tableIn (off := 1362) (tgt := 1401) hx hb dL_law_39 (by rw [c26]; decide) (by rw [c26]; decide) (by rw [c26]; rfl) (by decide) ?_
      exact lb_addCheckpoint l Γ Q C hp.2.2.2.2.2.2.2.2.2.2.2.2.2.2.2.2.2.2.2.2.2.2.2.2.2.2.1 σ hPR i hi1 hi2 hi3 nc ns (by omega) (by omega) H locs ls hP hD hS hl kk
    by_cases c27 : v = (27 : Int32)
    · refine lv_tableIn (off := 1418) (tgt := 1457) hx hb dL_law_39 (by rw [c27]; decide) (by rw [c27]; decide) (by rw [c27]; rfl) (by decide) ?_
      exact lb_putRobot l Γ Q C hp.2.2.2.2.2.2.2.2.2.2.2.2.2.2.2.2.2.2.2.2.2.2.2.2.2.2.2.1 σ hPR i hi1 hi2 hi3 nc ns (by omega) (by omega) H locs ls hP hD hS hl kk
    by_cases c28 : v = (28 : Int32)
    · refine lv_tableIn (off := 1498) (tgt := 1537) hx hb dL_law_39 (by rw [c28]; decide) (by rw [c28]; decide) (by rw [c28]; rfl) (by decide) ?_
      exact lb_write l Γ Q C hp.2.2.2.2.2.2.2.2.2.2.2.2.2.2.2.2.2.2.2.2.2.2.2.2.2.2.2.2.1 σ hPR i hi1 hi2 hi3 nc ns (by omega) (by omega) H locs ls hP hD hS hl kk
    by_cases c29 : v = (29 : Int32)
    · refine lv_tableIn (off := 1566) (tgt := 1605) hx hb dL_law_39 (by rw [c29]; decide) (by rw [c29]; decide) (by rw [c29]; rfl) (by decide) ?_
      exact lb_wipe l Γ Q C hp.2.2.2.2.2.2.2.2.2.2.2.2.2.2.2.2.2.2.2.2.2.2.2.2.2.2.2.2.2.1 σ hPR i hi1 hi2 hi3 nc ns (by omega) (by omega) H locs ls hP hD hS hl kk
    by_cases c30 : v = (30 : Int32)
    · refine lv_tableIn (off := 1622) (tgt := 1661) hx hb dL_law_39 (by rw [c30]; decide) (by rw [c30]; decide) (by rw [c30]; rfl) (by decide) ?_
      exact lb_step l Γ Q C hp.2.2.2.2.2.2.2.2.2.2.2.2.2.2.2.2.2.2.2.2.2.2.2.2.2.2.2.2.2.2.1 σ hPR i hi1 hi2 hi3 nc ns (by omega) (by omega) H locs ls hP hD hS hl kk
    by_cases c31 : v = (31 : Int32)
    · refine lv_tableIn (off := 1678) (tgt := 1717) hx hb dL_law_39 (by rw [c31]; decide) (by rw [c31]; decide) (by rw [c31]; rfl) (by decide) ?_
      exact lb_undo l Γ Q C hp.2.2.2.2.2.2.2.2.2.2.2.2.2.2.2.2.2.2.2.2.2.2.2.2.2.2.2.2.2.2.2.1 σ hPR i hi1 hi2 hi3 nc ns (by omega) (by omega) H locs ls hP hD hS hl kk
    by_cases c32 : v = (32 : Int32)
    · refine lv_tableIn (off := 1722) (tgt := 1761) hx hb dL_law_39 (by rw [c32]; decide) (by rw [c32]; decide) (by rw [c32]; rfl) (by decide) ?_
      exact lb_rowAhead l Γ Q C hp.2.2.2.2.2.2.2.2.2.2.2.2.2.2.2.2.2.2.2.2.2.2.2.2.2.2.2.2.2.2.2.2.1 σ hPR i hi1 hi2 hi3 nc ns (by omega) (by omega) H locs ls hP hD hS hl kk
    by_cases c33 : v = (33 : Int32)
    · refine lv_tableIn (off := 1778) (tgt := 1817) hx hb dL_law_39 (by rw [c33]; decide) (by rw [c33]; decide) (by rw [c33]; rfl) (by decide) ?_
      exact lb_wouldClash l Γ Q C hp.2.2.2.2.2.2.2.2.2.2.2.2.2.2.2.2.2.2.2.2.2.2.2.2.2.2.2.2.2.2.2.2.2.1 σ hPR i hi1 hi2 hi3 nc ns (by omega) (by omega) H locs ls hP hD hS hl kk
    by_cases c34 : v = (34 : Int32)
    · refine lv_tableIn (off := 1791) (tgt := 1830) hx hb dL_law_39 (by rw [c34]; decide) (by rw [c34]; decide) (by rw [c34]; rfl) (by decide) ?_
      exact lb_passesIn l Γ Q C hp.2.2.2.2.2.2.2.2.2.2.2.2.2.2.2.2.2.2.2.2.2.2.2.2.2.2.2.2.2.2.2.2.2.2.1 σ hPR i hi1 hi2 hi3 nc ns (by omega) (by omega) H locs ls hP hD hS hl kk
    by_cases c35 : v = (35 : Int32)
    · refine lv_tableIn (off := 1847) (tgt := 1886) hx hb dL_law_39 (by rw [c35]; decide) (by rw [c35]; decide) (by rw [c35]; rfl) (by decide) ?_
      exact lb_loopByWaiting l Γ Q C hp.2.2.2.2.2.2.2.2.2.2.2.2.2.2.2.2.2.2.2.2.2.2.2.2.2.2.2.2.2.2.2.2.2.2.2.1 σ hPR i hi1 hi2 hi3 nc ns (by omega) (by omega) H locs ls hP hD hS hl kk
    by_cases c36 : v = (36 : Int32)
    · refine lv_tableIn (off := 1860) (tgt := 1899) hx hb dL_law_39 (by rw [c36]; decide) (by rw [c36]; decide) (by rw [c36]; rfl) (by decide) ?_
      exact lb_loopByKeeping l Γ Q C hp.2.2.2.2.2.2.2.2.2.2.2.2.2.2.2.2.2.2.2.2.2.2.2.2.2.2.2.2.2.2.2.2.2.2.2.2.1 σ hPR i hi1 hi2 hi3 nc ns (by omega) (by omega) H locs ls hP hD hS hl kk
    by_cases c37 : v = (37 : Int32)
    · refine lv_tableIn (off := 1873) (tgt := 1912) hx hb dL_law_39 (by rw [c37]; decide) (by rw [c37]; decide) (by rw [c37]; rfl) (by decide) ?_
      exact lb_fewestBySpreading l Γ Q C hp.2.2.2.2.2.2.2.2.2.2.2.2.2.2.2.2.2.2.2.2.2.2.2.2.2.2.2.2.2.2.2.2.2.2.2.2.2.1 σ hPR i hi1 hi2 hi3 nc ns (by omega) (by omega) H locs ls hP hD hS hl kk
    by_cases c38 : v = (38 : Int32)
    · refine lv_tableIn (off := 1941) (tgt := 1980) hx hb dL_law_39 (by rw [c38]; decide) (by rw [c38]; decide) (by rw [c38]; rfl) (by decide) ?_
      exact lb_fewestBySweeping l Γ Q C hp.2.2.2.2.2.2.2.2.2.2.2.2.2.2.2.2.2.2.2.2.2.2.2.2.2.2.2.2.2.2.2.2.2.2.2.2.2.2.1 σ hPR i hi1 hi2 hi3 nc ns (by omega) (by omega) H locs ls hP hD hS hl kk
    by_cases c39 : v = (39 : Int32)
    · refine lv_tableIn (off := 2009) (tgt := 2048) hx hb dL_law_39 (by rw [c39]; decide) (by rw [c39]; decide) (by rw [c39]; rfl) (by decide) ?_
      exact lb_simulate l Γ Q C hp.2.2.2.2.2.2.2.2.2.2.2.2.2.2.2.2.2.2.2.2.2.2.2.2.2.2.2.2.2.2.2.2.2.2.2.2.2.2.2.1 σ hPR i hi1 hi2 hi3 nc ns (by omega) (by omega) H locs ls hP hD hS hl kk
    by_cases c40 : v = (40 : Int32)
    · refine lv_tableIn (off := 2109) (tgt := 2148) hx hb dL_law_39 (by rw [c40]; decide) (by rw [c40]; decide) (by rw [c40]; rfl) (by decide) ?_
      exact lb_save l Γ Q C hp.2.2.2.2.2.2.2.2.2.2.2.2.2.2.2.2.2.2.2.2.2.2.2.2.2.2.2.2.2.2.2.2.2.2.2.2.2.2.2.2.1 σ hPR i hi1 hi2 hi3 nc ns (by omega) (by omega) H locs ls hP hD hS hl kk
    by_cases c41 : v = (41 : Int32)
    · refine lv_tableIn (off := 2165) (tgt := 2204) hx hb dL_law_39 (by rw [c41]; decide) (by rw [c41]; decide) (by rw [c41]; rfl) (by decide) ?_
      exact lb_restore l Γ Q C hp.2.2.2.2.2.2.2.2.2.2.2.2.2.2.2.2.2.2.2.2.2.2.2.2.2.2.2.2.2.2.2.2.2.2.2.2.2.2.2.2.2 σ hPR i hi1 hi2 hi3 nc ns (by omega) (by omega) H locs ls hP hD hS hl kk
    have t0 := lv_neT (a := 0) c0 rfl
    have t1 := lv_neT (a := 1) c1 rfl
    have t2 := lv_neT (a := 2) c2 rfl
    have t3 := lv_neT (a := 3) c3 rfl
    have t4 := lv_neT (a := 4) c4 rfl
    have t5 := lv_neT (a := 5) c5 rfl
    have t6 := lv_neT (a := 6) c6 rfl
    have t7 := lv_neT (a := 7) c7 rfl
    have t8 := lv_neT (a := 8) c8 rfl
    have t9 := lv_neT (a := 9) c9 rfl
    have t10 := lv_neT (a := 10) c10 rfl
    have t11 := lv_neT (a := 11) c11 rfl
    have t12 := lv_neT (a := 12) c12 rfl
    have t13 := lv_neT (a := 13) c13 rfl
    have t14 := lv_neT (a := 14) c14 rfl
    have t15 := lv_neT (a := 15) c15 rfl
    have t16 := lv_neT (a := 16) c16 rfl
    have t17 := lv_neT (a := 17) c17 rfl
    have t18 := lv_neT (a := 18) c18 rfl
    have t19 := lv_neT (a := 19) c19 rfl
    have t20 := lv_neT (a := 20) c20 rfl
    have t21 := lv_neT (a := 21) c21 rfl
    have t22 := lv_neT (a := 22) c22 rfl
    have t23 := lv_neT (a := 23) c23 rfl
    have t24 := lv_neT (a := 24) c24 rfl
    have t25 := lv_neT (a := 25) c25 rfl
    have t26 := lv_neT (a := 26) c26 rfl
    have t27 := lv_neT (a := 27) c27 rfl
    have t28 := lv_neT (a := 28) c28 rfl
    have t29 := lv_neT (a := 29) c29 rfl
    have t30 := lv_neT (a := 30) c30 rfl
    have t31 := lv_neT (a := 31) c31 rfl
    have t32 := lv_neT (a := 32) c32 rfl
    have t33 := lv_neT (a := 33) c33 rfl
    have t34 := lv_neT (a := 34) c34 rfl
    have t35 := lv_neT (a := 35) c35 rfl
    have t36 := lv_neT (a := 36) c36 rfl
    have t37 := lv_neT (a := 37) c37 rfl
    have t38 := lv_neT (a := 38) c38 rfl
    have t39 := lv_neT (a := 39) c39 rfl
    have t40 := lv_neT (a := 40) c40 rfl
    have t41 := lv_neT (a := 41) c41 rfl
    refine lv_tableOut (tgt := 2260) hx hb dL_law_39 (by omega) (by decide) ?_
    refine W.widen (k := nc + 3) (n := ns + 18) (Nat.le_add_right nc 3) (Nat.le_add_right ns 18) ?_
    exact kk σ H locs ls hPR hP hD hS hl
