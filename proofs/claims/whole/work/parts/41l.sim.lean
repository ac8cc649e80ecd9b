/-! A simulation -/
theorem nI_mul (a b : Nat) : nI a * nI b = nI (a * b) := (Int32.ofNat_mul a b).symm
theorem nI_div {a b : Nat} (ha : a < 2 ^ 31) (hb : b < 2 ^ 31) : nI a / nI b = nI (a / b) := by
  apply Int32.toInt_inj.mp
  have hd : a / b ≤ a := Nat.div_le_self a b
  rw [Int32.toInt_div, nI_toInt ha, nI_toInt hb, nI_toInt (by omega), ← Int.ofNat_tdiv]
  generalize a / b = q at *
  apply Int.bmod_eq_of_le
  · omega
  · omega
theorem nI_rem {a b : Nat} (ha : a < 2 ^ 31) (hb : b < 2 ^ 31) : jrem (nI a) (nI b) = nI (a % b) := by
  unfold jrem
  rw [nI_div ha hb, nI_mul]
  have h : a = a % b + a / b * b := by rw [Nat.mul_comm]; exact (Nat.mod_add_div a b).symm
  conv => lhs; lhs; rw [h]
  exact nI_sub
theorem makeSome_0 (vi : Nat → Int32) (vj : Nat → Int64) (vk vc va vpa vb vpb : Nat → Int32) : mX6_makeSome vi vj vk vc va vpa vb vpb 0 = some (0, vi, vj, va, vb) := by
  unfold mX6_makeSome
  show mX6_makeSome_L4 (4095 + 1) vi vj vk vc va vpa vb vpb 0 0 0 = _
  unfold mX6_makeSome_L4
  rw [if_pos (by decide)]
theorem tn_kind {vi : Nat → Int32} {vj : Nat → Int64} {vk vc va vpa vb vpb s : Nat → Int32} (hF : FL vi vj vk vc va vpa vb vpb s) (vwy vah vtg vws : Nat → Int32) {c k : Nat} (hc : c < 36) (hk : k < 7) :
    ∃ r vj' vk' s', mX1_giveKind vi vj vk vc va vb (nI c) (nI k) = some (r, vj', vk') ∧ (bo1 (mX9_canKind s (nI c) (nI k)) (fun r_42 => (if r_42 = 0 then (some ((0 : Int32), vwy, vah, vtg, vws, s)) else (bo2 (mX9_kindOn s (nI c) (nI k)) (fun r_45 vs_46 => (some ((0 : Int32), vwy, vah, vtg, vws, vs_46))))))) = some (0, vwy, vah, vtg, vws, s') ∧ FL vi vj' vk' vc va vpa vb vpb s' := by
  obtain ⟨rf, o1, o2, o3, o4⟩ := op_kind hF hc hk
  cases rf with
  | true => exact ⟨_, _, _, s, o3 rfl, by rw [o2, bo1_some, if_pos itf_t0], hF⟩
  | false =>
    obtain ⟨vj1, vk1, s1, q1, q2, q3⟩ := o4 rfl
    exact ⟨_, _, _, s1, q1, by rw [o2, bo1_some, if_neg itf_f0, q2, bo2_some], q3⟩
theorem tn_crate {vi : Nat → Int32} {vj : Nat → Int64} {vk vc va vpa vb vpb s : Nat → Int32} (hF : FL vi vj vk vc va vpa vb vpb s) (vwy vah vtg vws : Nat → Int32) {c : Nat} (hc : c < 36) :
    ∃ r vi' vj' s', mX1_layCrate vi vj vk va vb (nI c) = (r, vi', vj') ∧ (bo1 (mX9_canCrate s (nI c)) (fun r_42 => (if r_42 = 0 then (some ((0 : Int32), vwy, vah, vtg, vws, s)) else (bo2 (mX9_crateOn s (nI c)) (fun r_45 vs_46 => (some ((0 : Int32), vwy, vah, vtg, vws, vs_46))))))) = some (0, vwy, vah, vtg, vws, s') ∧ FL vi' vj' vk vc va vpa vb vpb s' := by
  obtain ⟨rf, o1, o2, o3, o4⟩ := op_crate hF hc
  cases rf with
  | true => exact ⟨_, _, _, s, o3 rfl, by rw [o2, bo1_some, if_pos itf_t0], hF⟩
  | false =>
    obtain ⟨vi1, vj1, s1, v, q1, q2, q3, q4, q5⟩ := o4 rfl
    exact ⟨_, _, _, s1, q1, by rw [o2, bo1_some, if_neg itf_f0, q2, bo2_some], q5⟩
theorem tn_point {vi : Nat → Int32} {vj : Nat → Int64} {vk vc va vpa vb vpb s : Nat → Int32} (hF : FL vi vj vk vc va vpa vb vpb s) (vwy vah vtg vws : Nat → Int32) {c : Nat} (hc : c < 36) :
    ∃ r vi' vc' s', mX1_markCheckpoint vi vk vc (nI c) = some (r, vi', vc') ∧ (bo1 (mX9_canPoint s (nI c)) (fun r_42 => (if r_42 = 0 then (some ((0 : Int32), vwy, vah, vtg, vws, s)) else (bo2 (mX9_pointOn s (nI c)) (fun r_45 vs_46 => (some ((0 : Int32), vwy, vah, vtg, vws, vs_46))))))) = some (0, vwy, vah, vtg, vws, s') ∧ FL vi' vj vk vc' va vpa vb vpb s' := by
  obtain ⟨rf, o1, o2, o3, o4⟩ := op_point hF hc
  cases rf with
  | true => exact ⟨_, _, _, s, o3 rfl, by rw [o2, bo1_some, if_pos itf_t0], hF⟩
  | false =>
    obtain ⟨vi1, vc1, s1, q1, q2, q3, q5⟩ := o4 rfl
    exact ⟨_, _, _, s1, q1, by rw [o2, bo1_some, if_neg itf_f0, q2, bo2_some], q5⟩
theorem tn_put {vi : Nat → Int32} {vj : Nat → Int64} {vk vc va vpa vb vpb s : Nat → Int32} (hF : FL vi vj vk vc va vpa vb vpb s) (vwy vah vtg vws : Nat → Int32) {r c f : Nat} (hr : r < 2) (hc : c < 36) (hf : f < 4) :
    ∃ w va' vb' s', mX1_placeRobot vj vk va vb (nI r) (nI c) (nI f) = (w, va', vb') ∧ (bo1 (mX9_canPut s (nI r) (nI c)) (fun r_42 => (if r_42 = 0 then (some ((0 : Int32), vwy, vah, vtg, vws, s)) else (bo2 (mX9_putOn s (nI r) (nI c) (nI f)) (fun r_45 vs_46 => (some ((0 : Int32), vwy, vah, vtg, vws, vs_46))))))) = some (0, vwy, vah, vtg, vws, s') ∧ FL vi vj vk vc va' vpa vb' vpb s' := by
  obtain ⟨rf, o1, o2, o3, o4⟩ := op_put hF hr hc hf
  cases rf with
  | true => exact ⟨_, _, _, s, o3 rfl, by rw [o2, bo1_some, if_pos itf_t0], hF⟩
  | false =>
    obtain ⟨va1, vb1, s1, o, q1, q2, q3, q4, q5⟩ := o4 rfl
    exact ⟨_, _, _, s1, q1, by rw [o2, bo1_some, if_neg itf_f0, q2, bo2_some], q5⟩
theorem tn_write0 {vi : Nat → Int32} {vj : Nat → Int64} {vk vc va vpa vb vpb s : Nat → Int32} (hF : FL vi vj vk vc va vpa vb vpb s) (vwy vah vtg vws : Nat → Int32) {w : Nat} (hw : w < 6) :
    ∃ r va' vpa' s', mX4_learn va vpa (nI w) = (r, va', vpa') ∧ (bo1 (mX9_of s (nI 0) (8 : Int32)) (fun r_18 => (if (10 : Int32) ≤ r_18 then (some ((0 : Int32), vwy, vah, vtg, vws, s)) else (bo2 (mX9_writeOn s (nI 0) (nI w)) (fun r_21 vs_22 => (some ((0 : Int32), vwy, vah, vtg, vws, vs_22))))))) = some (0, vwy, vah, vtg, vws, s') ∧ FL vi vj vk vc va' vpa' vb vpb s' := by
  obtain ⟨l, l1, l2, l3, l4, l5⟩ := op_write0 hF hw
  by_cases hl : l = 10
  · exact ⟨_, _, _, s, l4 hl, by rw [l3, bo1_some, if_pos (show (10 : Int32) ≤ nI l by rw [hl]; decide)], hF⟩
  · obtain ⟨va1, vpa1, s1, q1, q2, q3, q5⟩ := l5 (by omega)
    exact ⟨_, _, _, s1, q1, by rw [l3, bo1_some, if_neg (show ¬ (10 : Int32) ≤ nI l from nI_leF (b := 10) (by omega) (by decide) (by omega)), q3, bo2_some], q5⟩
theorem tn_write1 {vi : Nat → Int32} {vj : Nat → Int64} {vk vc va vpa vb vpb s : Nat → Int32} (hF : FL vi vj vk vc va vpa vb vpb s) (vwy vah vtg vws : Nat → Int32) {w : Nat} (hw : w < 6) :
    ∃ r va' vpa' s', mX4_learn vb vpb (nI w) = (r, va', vpa') ∧ (bo1 (mX9_of s (nI 1) (8 : Int32)) (fun r_18 => (if (10 : Int32) ≤ r_18 then (some ((0 : Int32), vwy, vah, vtg, vws, s)) else (bo2 (mX9_writeOn s (nI 1) (nI w)) (fun r_21 vs_22 => (some ((0 : Int32), vwy, vah, vtg, vws, vs_22))))))) = some (0, vwy, vah, vtg, vws, s') ∧ FL vi vj vk vc va vpa va' vpa' s' := by
  obtain ⟨l, l1, l2, l3, l4, l5⟩ := op_write1 hF hw
  by_cases hl : l = 10
  · exact ⟨_, _, _, s, l4 hl, by rw [l3, bo1_some, if_pos (show (10 : Int32) ≤ nI l by rw [hl]; decide)], hF⟩
  · obtain ⟨va1, vpa1, s1, q1, q2, q3, q5⟩ := l5 (by omega)
    exact ⟨_, _, _, s1, q1, by rw [l3, bo1_some, if_neg (show ¬ (10 : Int32) ≤ nI l from nI_leF (b := 10) (by omega) (by decide) (by omega)), q3, bo2_some], q5⟩
theorem turn_ok {vi : Nat → Int32} {vj : Nat → Int64} {vk vc va vpa vb vpb s : Nat → Int32} (hF : FL vi vj vk vc va vpa vb vpb s) (vwy vah vtg vws : Nat → Int32) {r : Nat} (hr : r < 2 ^ 31) :
    ∃ w vi' vj' vk' vc' va' vpa' vb' vpb', mX8_makeTurn vi vj vk vc va vpa vb vpb (nI r) = some (w, vi', vj', vk', vc', va', vpa', vb', vpb') ∧
      ∃ v vi2 vj2 va2 vb2 vwy' vah' vtg' vws' s', mX6_makeSome vi' vj' vk' vc' va' vpa' vb' vpb' w = some (v, vi2, vj2, va2, vb2) ∧ mX9_turn vwy vah vtg vws s (jrem (nI r) (16 : Int32)) (nI r / (16 : Int32)) = some (v, vwy', vah', vtg', vws', s') ∧ FL vi2 vj2 vk' vc' va2 vpa' vb2 vpb' s' := by
  have eh : jrem (nI r) (16 : Int32) = nI (r % 16) := nI_rem (b := 16) hr (by decide)
  have eq : nI r / (16 : Int32) = nI (r / 16) := nI_div (b := 16) hr (by decide)
  obtain ⟨q, hq⟩ : ∃ q, q = r / 16 := ⟨_, rfl⟩
  have hq31 : q < 2 ^ 31 := by omega
  rw [← hq] at eq
  have e36 : jrem (nI q) (36 : Int32) = nI (q % 36) := nI_rem (b := 36) hq31 (by decide)
  have e2 : jrem (nI q) (2 : Int32) = nI (q % 2) := nI_rem (b := 2) hq31 (by decide)
  have e4 : jrem (nI q) (4 : Int32) = nI (q % 4) := nI_rem (b := 4) hq31 (by decide)
  have d64 : nI q / (64 : Int32) = nI (q / 64) := nI_div (b := 64) hq31 (by decide)
  have d2 : nI q / (2 : Int32) = nI (q / 2) := nI_div (b := 2) hq31 (by decide)
  have d128 : nI q / (128 : Int32) = nI (q / 128) := nI_div (b := 128) hq31 (by decide)
  have e7 : jrem (nI (q / 64)) (7 : Int32) = nI (q / 64 % 7) := nI_rem (b := 7) (by omega) (by decide)
  have e236 : jrem (nI (q / 2)) (36 : Int32) = nI (q / 2 % 36) := nI_rem (b := 36) (by omega) (by decide)
  have e26 : jrem (nI (q / 2)) (6 : Int32) = nI (q / 2 % 6) := nI_rem (b := 6) (by omega) (by decide)
  have e24 : jrem (nI (q / 2)) (4 : Int32) = nI (q / 2 % 4) := nI_rem (b := 4) (by omega) (by decide)
  have e128 : jrem (nI (q / 128)) (4 : Int32) = nI (q / 128 % 4) := nI_rem (b := 4) (by omega) (by decide)
  unfold mX8_makeTurn mX9_turn
  rw [eh, eq, e36, e2, e4, d64, d2, d128, e7, e236, e26, e24, e128]
  have m36 : q % 36 < 36 := Nat.mod_lt _ (by decide)
  have m7 : q / 64 % 7 < 7 := Nat.mod_lt _ (by decide)
  have m236 : q / 2 % 36 < 36 := Nat.mod_lt _ (by decide)
  have m26 : q / 2 % 6 < 6 := Nat.mod_lt _ (by decide)
  have m128 : q / 128 % 4 < 4 := Nat.mod_lt _ (by decide)
  have m2 : q % 2 < 2 := Nat.mod_lt _ (by decide)
  have hh : r % 16 < 16 := Nat.mod_lt _ (by decide)
  generalize r % 16 = h at *
  rcases (show h = 0 ∨ h = 1 ∨ h = 2 ∨ h = 3 ∨ h = 4 ∨ h = 5 ∨ h = 6 ∨ h = 7 ∨ h = 8 ∨ h = 9 ∨ h = 10 ∨ h = 11 ∨ h = 12 ∨ h = 13 ∨ h = 14 ∨ h = 15 by omega) with rfl | rfl | rfl | rfl | rfl | rfl | rfl | rfl | rfl | rfl | rfl | rfl | rfl | rfl | rfl | rfl
  · obtain ⟨w, vj1, vk1, s1, a1, a2, a3⟩ := tn_kind hF vwy vah vtg vws m36 m7
    rw [if_pos (show nI 0 = (0 : Int32) from rfl), a1, bo3_some, if_neg (show ¬ (3 : Int32) ≤ nI 0 by decide), a2]
    exact ⟨_, _, _, _, _, _, _, _, _, rfl, _, _, _, _, _, _, _, _, _, _, makeSome_0 _ _ _ _ _ _ _ _, rfl, a3⟩
  · obtain ⟨w, vj1, vk1, s1, a1, a2, a3⟩ := tn_kind hF vwy vah vtg vws m36 m7
    rw [if_neg (show ¬ nI 1 = (0 : Int32) by decide), if_pos (show nI 1 = (1 : Int32) from rfl), a1, bo3_some, if_neg (show ¬ (3 : Int32) ≤ nI 1 by decide), a2]
    exact ⟨_, _, _, _, _, _, _, _, _, rfl, _, _, _, _, _, _, _, _, _, _, makeSome_0 _ _ _ _ _ _ _ _, rfl, a3⟩
  · obtain ⟨w, vj1, vk1, s1, a1, a2, a3⟩ := tn_kind hF vwy vah vtg vws m36 m7
    rw [if_neg (show ¬ nI 2 = (0 : Int32) by decide), if_neg (show ¬ nI 2 = (1 : Int32) by decide), if_pos (show nI 2 = (2 : Int32) from rfl), a1, bo3_some, if_neg (show ¬ (3 : Int32) ≤ nI 2 by decide), a2]
    exact ⟨_, _, _, _, _, _, _, _, _, rfl, _, _, _, _, _, _, _, _, _, _, makeSome_0 _ _ _ _ _ _ _ _, rfl, a3⟩
  · obtain ⟨w, vi1, vj1, s1, a1, a2, a3⟩ := tn_crate hF vwy vah vtg vws m36
    rw [if_neg (show ¬ nI 3 = (0 : Int32) by decide), if_neg (show ¬ nI 3 = (1 : Int32) by decide), if_neg (show ¬ nI 3 = (2 : Int32) by decide), if_pos (show nI 3 = (3 : Int32) from rfl), a1, bt3_mk, if_pos (show (3 : Int32) ≤ nI 3 by decide), if_neg (show ¬ (5 : Int32) ≤ nI 3 by decide), a2]
    exact ⟨_, _, _, _, _, _, _, _, _, rfl, _, _, _, _, _, _, _, _, _, _, makeSome_0 _ _ _ _ _ _ _ _, rfl, a3⟩
  · obtain ⟨w, vi1, vj1, s1, a1, a2, a3⟩ := tn_crate hF vwy vah vtg vws m36
    rw [if_neg (show ¬ nI 4 = (0 : Int32) by decide), if_neg (show ¬ nI 4 = (1 : Int32) by decide), if_neg (show ¬ nI 4 = (2 : Int32) by decide), if_neg (show ¬ nI 4 = (3 : Int32) by decide), if_pos (show nI 4 = (4 : Int32) from rfl), a1, bt3_mk, if_pos (show (3 : Int32) ≤ nI 4 by decide), if_neg (show ¬ (5 : Int32) ≤ nI 4 by decide), a2]
    exact ⟨_, _, _, _, _, _, _, _, _, rfl, _, _, _, _, _, _, _, _, _, _, makeSome_0 _ _ _ _ _ _ _ _, rfl, a3⟩
  · obtain ⟨w, vi1, vc1, s1, a1, a2, a3⟩ := tn_point hF vwy vah vtg vws m36
    rw [if_neg (show ¬ nI 5 = (0 : Int32) by decide), if_neg (show ¬ nI 5 = (1 : Int32) by decide), if_neg (show ¬ nI 5 = (2 : Int32) by decide), if_neg (show ¬ nI 5 = (3 : Int32) by decide), if_neg (show ¬ nI 5 = (4 : Int32) by decide), if_pos (show nI 5 = (5 : Int32) from rfl), a1, bo3_some, if_pos (show (3 : Int32) ≤ nI 5 by decide), if_pos (show (5 : Int32) ≤ nI 5 by decide), if_pos (show nI 5 = (5 : Int32) by decide), a2]
    exact ⟨_, _, _, _, _, _, _, _, _, rfl, _, _, _, _, _, _, _, _, _, _, makeSome_0 _ _ _ _ _ _ _ _, rfl, a3⟩
  · obtain ⟨w, va1, vb1, s1, a1, a2, a3⟩ := tn_put hF vwy vah vtg vws m2 m236 m128
    rw [if_neg (show ¬ nI 6 = (0 : Int32) by decide), if_neg (show ¬ nI 6 = (1 : Int32) by decide), if_neg (show ¬ nI 6 = (2 : Int32) by decide), if_neg (show ¬ nI 6 = (3 : Int32) by decide), if_neg (show ¬ nI 6 = (4 : Int32) by decide), if_neg (show ¬ nI 6 = (5 : Int32) by decide), if_pos (show nI 6 = (6 : Int32) from rfl), a1, bt3_mk, if_pos (show (3 : Int32) ≤ nI 6 by decide), if_pos (show (5 : Int32) ≤ nI 6 by decide), if_neg (show ¬ nI 6 = (5 : Int32) by decide), if_pos (show nI 6 = (6 : Int32) by decide), a2]
    exact ⟨_, _, _, _, _, _, _, _, _, rfl, _, _, _, _, _, _, _, _, _, _, makeSome_0 _ _ _ _ _ _ _ _, rfl, a3⟩
  · rcases (show q % 2 = 0 ∨ q % 2 = 1 by omega) with z | z
    · obtain ⟨w, va1, vpa1, s1, a1, a2, a3⟩ := tn_write0 hF vwy vah vtg vws m26
      rw [if_neg (show ¬ nI 7 = (0 : Int32) by decide), if_neg (show ¬ nI 7 = (1 : Int32) by decide), if_neg (show ¬ nI 7 = (2 : Int32) by decide), if_neg (show ¬ nI 7 = (3 : Int32) by decide), if_neg (show ¬ nI 7 = (4 : Int32) by decide), if_neg (show ¬ nI 7 = (5 : Int32) by decide), if_neg (show ¬ nI 7 = (6 : Int32) by decide), if_pos (show nI 7 = (7 : Int32) from rfl), z, if_pos (show nI 0 = 0 from rfl), a1, bt3_mk, if_pos (show (3 : Int32) ≤ nI 7 by decide), if_pos (show (5 : Int32) ≤ nI 7 by decide), if_neg (show ¬ nI 7 = (5 : Int32) by decide), if_neg (show ¬ nI 7 = (6 : Int32) by decide), if_neg (show ¬ (11 : Int32) ≤ nI 7 by decide), a2]
      exact ⟨_, _, _, _, _, _, _, _, _, rfl, _, _, _, _, _, _, _, _, _, _, makeSome_0 _ _ _ _ _ _ _ _, rfl, a3⟩
    · obtain ⟨w, va1, vpa1, s1, a1, a2, a3⟩ := tn_write1 hF vwy vah vtg vws m26
      rw [if_neg (show ¬ nI 7 = (0 : Int32) by decide), if_neg (show ¬ nI 7 = (1 : Int32) by decide), if_neg (show ¬ nI 7 = (2 : Int32) by decide), if_neg (show ¬ nI 7 = (3 : Int32) by decide), if_neg (show ¬ nI 7 = (4 : Int32) by decide), if_neg (show ¬ nI 7 = (5 : Int32) by decide), if_neg (show ¬ nI 7 = (6 : Int32) by decide), if_pos (show nI 7 = (7 : Int32) from rfl), z, if_neg (show ¬ nI 1 = 0 by decide), a1, bt3_mk, if_pos (show (3 : Int32) ≤ nI 7 by decide), if_pos (show (5 : Int32) ≤ nI 7 by decide), if_neg (show ¬ nI 7 = (5 : Int32) by decide), if_neg (show ¬ nI 7 = (6 : Int32) by decide), if_neg (show ¬ (11 : Int32) ≤ nI 7 by decide), a2]
      exact ⟨_, _, _, _, _, _, _, _, _, rfl, _, _, _, _, _, _, _, _, _, _, makeSome_0 _ _ _ _ _ _ _ _, rfl, a3⟩
  · rcases (show q % 2 = 0 ∨ q % 2 = 1 by omega) with z | z
    · obtain ⟨w, va1, vpa1, s1, a1, a2, a3⟩ := tn_write0 hF vwy vah vtg vws m26
      rw [if_neg (show ¬ nI 8 = (0 : Int32) by decide), if_neg (show ¬ nI 8 = (1 : Int32) by decide), if_neg (show ¬ nI 8 = (2 : Int32) by decide), if_neg (show ¬ nI 8 = (3 : Int32) by decide), if_neg (show ¬ nI 8 = (4 : Int32) by decide), if_neg (show ¬ nI 8 = (5 : Int32) by decide), if_neg (show ¬ nI 8 = (6 : Int32) by decide), if_neg (show ¬ nI 8 = (7 : Int32) by decide), if_pos (show nI 8 = (8 : Int32) from rfl), z, if_pos (show nI 0 = 0 from rfl), a1, bt3_mk, if_pos (show (3 : Int32) ≤ nI 8 by decide), if_pos (show (5 : Int32) ≤ nI 8 by decide), if_neg (show ¬ nI 8 = (5 : Int32) by decide), if_neg (show ¬ nI 8 = (6 : Int32) by decide), if_neg (show ¬ (11 : Int32) ≤ nI 8 by decide), a2]
      exact ⟨_, _, _, _, _, _, _, _, _, rfl, _, _, _, _, _, _, _, _, _, _, makeSome_0 _ _ _ _ _ _ _ _, rfl, a3⟩
    · obtain ⟨w, va1, vpa1, s1, a1, a2, a3⟩ := tn_write1 hF vwy vah vtg vws m26
      rw [if_neg (show ¬ nI 8 = (0 : Int32) by decide), if_neg (show ¬ nI 8 = (1 : Int32) by decide), if_neg (show ¬ nI 8 = (2 : Int32) by decide), if_neg (show ¬ nI 8 = (3 : Int32) by decide), if_neg (show ¬ nI 8 = (4 : Int32) by decide), if_neg (show ¬ nI 8 = (5 : Int32) by decide), if_neg (show ¬ nI 8 = (6 : Int32) by decide), if_neg (show ¬ nI 8 = (7 : Int32) by decide), if_pos (show nI 8 = (8 : Int32) from rfl), z, if_neg (show ¬ nI 1 = 0 by decide), a1, bt3_mk, if_pos (show (3 : Int32) ≤ nI 8 by decide), if_pos (show (5 : Int32) ≤ nI 8 by decide), if_neg (show ¬ nI 8 = (5 : Int32) by decide), if_neg (show ¬ nI 8 = (6 : Int32) by decide), if_neg (show ¬ (11 : Int32) ≤ nI 8 by decide), a2]
      exact ⟨_, _, _, _, _, _, _, _, _, rfl, _, _, _, _, _, _, _, _, _, _, makeSome_0 _ _ _ _ _ _ _ _, rfl, a3⟩
  · rcases (show q % 2 = 0 ∨ q % 2 = 1 by omega) with z | z
    · obtain ⟨w, va1, vpa1, s1, a1, a2, a3⟩ := tn_write0 hF vwy vah vtg vws m26
      rw [if_neg (show ¬ nI 9 = (0 : Int32) by decide), if_neg (show ¬ nI 9 = (1 : Int32) by decide), if_neg (show ¬ nI 9 = (2 : Int32) by decide), if_neg (show ¬ nI 9 = (3 : Int32) by decide), if_neg (show ¬ nI 9 = (4 : Int32) by decide), if_neg (show ¬ nI 9 = (5 : Int32) by decide), if_neg (show ¬ nI 9 = (6 : Int32) by decide), if_neg (show ¬ nI 9 = (7 : Int32) by decide), if_neg (show ¬ nI 9 = (8 : Int32) by decide), if_pos (show nI 9 = (9 : Int32) from rfl), z, if_pos (show nI 0 = 0 from rfl), a1, bt3_mk, if_pos (show (3 : Int32) ≤ nI 9 by decide), if_pos (show (5 : Int32) ≤ nI 9 by decide), if_neg (show ¬ nI 9 = (5 : Int32) by decide), if_neg (show ¬ nI 9 = (6 : Int32) by decide), if_neg (show ¬ (11 : Int32) ≤ nI 9 by decide), a2]
      exact ⟨_, _, _, _, _, _, _, _, _, rfl, _, _, _, _, _, _, _, _, _, _, makeSome_0 _ _ _ _ _ _ _ _, rfl, a3⟩
    · obtain ⟨w, va1, vpa1, s1, a1, a2, a3⟩ := tn_write1 hF vwy vah vtg vws m26
      rw [if_neg (show ¬ nI 9 = (0 : Int32) by decide), if_neg (show ¬ nI 9 = (1 : Int32) by decide), if_neg (show ¬ nI 9 = (2 : Int32) by decide), if_neg (show ¬ nI 9 = (3 : Int32) by decide), if_neg (show ¬ nI 9 = (4 : Int32) by decide), if_neg (show ¬ nI 9 = (5 : Int32) by decide), if_neg (show ¬ nI 9 = (6 : Int32) by decide), if_neg (show ¬ nI 9 = (7 : Int32) by decide), if_neg (show ¬ nI 9 = (8 : Int32) by decide), if_pos (show nI 9 = (9 : Int32) from rfl), z, if_neg (show ¬ nI 1 = 0 by decide), a1, bt3_mk, if_pos (show (3 : Int32) ≤ nI 9 by decide), if_pos (show (5 : Int32) ≤ nI 9 by decide), if_neg (show ¬ nI 9 = (5 : Int32) by decide), if_neg (show ¬ nI 9 = (6 : Int32) by decide), if_neg (show ¬ (11 : Int32) ≤ nI 9 by decide), a2]
      exact ⟨_, _, _, _, _, _, _, _, _, rfl, _, _, _, _, _, _, _, _, _, _, makeSome_0 _ _ _ _ _ _ _ _, rfl, a3⟩
  · rcases (show q % 2 = 0 ∨ q % 2 = 1 by omega) with z | z
    · obtain ⟨w, va1, vpa1, s1, a1, a2, a3⟩ := tn_write0 hF vwy vah vtg vws m26
      rw [if_neg (show ¬ nI 10 = (0 : Int32) by decide), if_neg (show ¬ nI 10 = (1 : Int32) by decide), if_neg (show ¬ nI 10 = (2 : Int32) by decide), if_neg (show ¬ nI 10 = (3 : Int32) by decide), if_neg (show ¬ nI 10 = (4 : Int32) by decide), if_neg (show ¬ nI 10 = (5 : Int32) by decide), if_neg (show ¬ nI 10 = (6 : Int32) by decide), if_neg (show ¬ nI 10 = (7 : Int32) by decide), if_neg (show ¬ nI 10 = (8 : Int32) by decide), if_neg (show ¬ nI 10 = (9 : Int32) by decide), if_pos (show nI 10 = (10 : Int32) from rfl), z, if_pos (show nI 0 = 0 from rfl), a1, bt3_mk, if_pos (show (3 : Int32) ≤ nI 10 by decide), if_pos (show (5 : Int32) ≤ nI 10 by decide), if_neg (show ¬ nI 10 = (5 : Int32) by decide), if_neg (show ¬ nI 10 = (6 : Int32) by decide), if_neg (show ¬ (11 : Int32) ≤ nI 10 by decide), a2]
      exact ⟨_, _, _, _, _, _, _, _, _, rfl, _, _, _, _, _, _, _, _, _, _, makeSome_0 _ _ _ _ _ _ _ _, rfl, a3⟩
    · obtain ⟨w, va1, vpa1, s1, a1, a2, a3⟩ := tn_write1 hF vwy vah vtg vws m26
      rw [if_neg (show ¬ nI 10 = (0 : Int32) by decide), if_neg (show ¬ nI 10 = (1 : Int32) by decide), if_neg (show ¬ nI 10 = (2 : Int32) by decide), if_neg (show ¬ nI 10 = (3 : Int32) by decide), if_neg (show ¬ nI 10 = (4 : Int32) by decide), if_neg (show ¬ nI 10 = (5 : Int32) by decide), if_neg (show ¬ nI 10 = (6 : Int32) by decide), if_neg (show ¬ nI 10 = (7 : Int32) by decide), if_neg (show ¬ nI 10 = (8 : Int32) by decide), if_neg (show ¬ nI 10 = (9 : Int32) by decide), if_pos (show nI 10 = (10 : Int32) from rfl), z, if_neg (show ¬ nI 1 = 0 by decide), a1, bt3_mk, if_pos (show (3 : Int32) ≤ nI 10 by decide), if_pos (show (5 : Int32) ≤ nI 10 by decide), if_neg (show ¬ nI 10 = (5 : Int32) by decide), if_neg (show ¬ nI 10 = (6 : Int32) by decide), if_neg (show ¬ (11 : Int32) ≤ nI 10 by decide), a2]
      exact ⟨_, _, _, _, _, _, _, _, _, rfl, _, _, _, _, _, _, _, _, _, _, makeSome_0 _ _ _ _ _ _ _ _, rfl, a3⟩
  · by_cases z4 : q / 2 % 4 = 0
    · have z4' : nI (q / 2 % 4) = 0 := by rw [z4]; rfl
      rcases (show q % 2 = 0 ∨ q % 2 = 1 by omega) with z | z
      · obtain ⟨s1, a1, a2⟩ := op_wipe0 hF
        rw [if_neg (show ¬ nI 11 = (0 : Int32) by decide), if_neg (show ¬ nI 11 = (1 : Int32) by decide), if_neg (show ¬ nI 11 = (2 : Int32) by decide), if_neg (show ¬ nI 11 = (3 : Int32) by decide), if_neg (show ¬ nI 11 = (4 : Int32) by decide), if_neg (show ¬ nI 11 = (5 : Int32) by decide), if_neg (show ¬ nI 11 = (6 : Int32) by decide), if_neg (show ¬ nI 11 = (7 : Int32) by decide), if_neg (show ¬ nI 11 = (8 : Int32) by decide), if_neg (show ¬ nI 11 = (9 : Int32) by decide), if_neg (show ¬ nI 11 = (10 : Int32) by decide), if_pos (show nI 11 = (11 : Int32) from rfl), if_pos z4', z, if_pos (show nI 0 = 0 from rfl), if_pos (show (3 : Int32) ≤ nI 11 by decide), if_pos (show (5 : Int32) ≤ nI 11 by decide), if_neg (show ¬ nI 11 = (5 : Int32) by decide), if_neg (show ¬ nI 11 = (6 : Int32) by decide), if_pos (show (11 : Int32) ≤ nI 11 by decide), if_pos (show nI 11 = (11 : Int32) by decide), if_pos z4', a1, bo2_some]
        exact ⟨_, _, _, _, _, _, _, _, _, rfl, _, _, _, _, _, _, _, _, _, _, makeSome_0 _ _ _ _ _ _ _ _, rfl, a2⟩
      · obtain ⟨s1, a1, a2⟩ := op_wipe1 hF
        rw [if_neg (show ¬ nI 11 = (0 : Int32) by decide), if_neg (show ¬ nI 11 = (1 : Int32) by decide), if_neg (show ¬ nI 11 = (2 : Int32) by decide), if_neg (show ¬ nI 11 = (3 : Int32) by decide), if_neg (show ¬ nI 11 = (4 : Int32) by decide), if_neg (show ¬ nI 11 = (5 : Int32) by decide), if_neg (show ¬ nI 11 = (6 : Int32) by decide), if_neg (show ¬ nI 11 = (7 : Int32) by decide), if_neg (show ¬ nI 11 = (8 : Int32) by decide), if_neg (show ¬ nI 11 = (9 : Int32) by decide), if_neg (show ¬ nI 11 = (10 : Int32) by decide), if_pos (show nI 11 = (11 : Int32) from rfl), if_pos z4', z, if_neg (show ¬ nI 1 = 0 by decide), if_pos (show (3 : Int32) ≤ nI 11 by decide), if_pos (show (5 : Int32) ≤ nI 11 by decide), if_neg (show ¬ nI 11 = (5 : Int32) by decide), if_neg (show ¬ nI 11 = (6 : Int32) by decide), if_pos (show (11 : Int32) ≤ nI 11 by decide), if_pos (show nI 11 = (11 : Int32) by decide), if_pos z4', a1, bo2_some]
        exact ⟨_, _, _, _, _, _, _, _, _, rfl, _, _, _, _, _, _, _, _, _, _, makeSome_0 _ _ _ _ _ _ _ _, rfl, a2⟩
    · have z4' : ¬ nI (q / 2 % 4) = 0 := nI_ne0 (by omega) (by omega)
      rw [if_neg (show ¬ nI 11 = (0 : Int32) by decide), if_neg (show ¬ nI 11 = (1 : Int32) by decide), if_neg (show ¬ nI 11 = (2 : Int32) by decide), if_neg (show ¬ nI 11 = (3 : Int32) by decide), if_neg (show ¬ nI 11 = (4 : Int32) by decide), if_neg (show ¬ nI 11 = (5 : Int32) by decide), if_neg (show ¬ nI 11 = (6 : Int32) by decide), if_neg (show ¬ nI 11 = (7 : Int32) by decide), if_neg (show ¬ nI 11 = (8 : Int32) by decide), if_neg (show ¬ nI 11 = (9 : Int32) by decide), if_neg (show ¬ nI 11 = (10 : Int32) by decide), if_pos (show nI 11 = (11 : Int32) from rfl), if_neg z4', if_pos (show (3 : Int32) ≤ nI 11 by decide), if_pos (show (5 : Int32) ≤ nI 11 by decide), if_neg (show ¬ nI 11 = (5 : Int32) by decide), if_neg (show ¬ nI 11 = (6 : Int32) by decide), if_pos (show (11 : Int32) ≤ nI 11 by decide), if_pos (show nI 11 = (11 : Int32) by decide), if_neg z4']
      exact ⟨_, _, _, _, _, _, _, _, _, rfl, _, _, _, _, _, _, _, _, _, _, makeSome_0 _ _ _ _ _ _ _ _, rfl, hF⟩
  · have e1 : ((1 : Int32) + nI (q % 4)) = nI (1 + q % 4) := nI_add 1 (q % 4)
    obtain ⟨v, vi1, vj1, va1, vb1, vwy1, vah1, vtg1, vws1, s1, a1, a2, a3⟩ := some_steps (N := 1 + q % 4) (by omega) hF vwy vah vtg vws
    rw [if_neg (show ¬ nI 12 = (0 : Int32) by decide), if_neg (show ¬ nI 12 = (1 : Int32) by decide), if_neg (show ¬ nI 12 = (2 : Int32) by decide), if_neg (show ¬ nI 12 = (3 : Int32) by decide), if_neg (show ¬ nI 12 = (4 : Int32) by decide), if_neg (show ¬ nI 12 = (5 : Int32) by decide), if_neg (show ¬ nI 12 = (6 : Int32) by decide), if_neg (show ¬ nI 12 = (7 : Int32) by decide), if_neg (show ¬ nI 12 = (8 : Int32) by decide), if_neg (show ¬ nI 12 = (9 : Int32) by decide), if_neg (show ¬ nI 12 = (10 : Int32) by decide), if_neg (show ¬ nI 12 = (11 : Int32) by decide), e1, if_pos (show (3 : Int32) ≤ nI 12 by decide), if_pos (show (5 : Int32) ≤ nI 12 by decide), if_neg (show ¬ nI 12 = (5 : Int32) by decide), if_neg (show ¬ nI 12 = (6 : Int32) by decide), if_pos (show (11 : Int32) ≤ nI 12 by decide), if_neg (show ¬ nI 12 = (11 : Int32) by decide), a2, bo6_some]
    exact ⟨_, _, _, _, _, _, _, _, _, rfl, _, _, _, _, _, _, _, _, _, _, a1, rfl, a3⟩
  · have e1 : ((1 : Int32) + nI (q % 4)) = nI (1 + q % 4) := nI_add 1 (q % 4)
    obtain ⟨v, vi1, vj1, va1, vb1, vwy1, vah1, vtg1, vws1, s1, a1, a2, a3⟩ := some_steps (N := 1 + q % 4) (by omega) hF vwy vah vtg vws
    rw [if_neg (show ¬ nI 13 = (0 : Int32) by decide), if_neg (show ¬ nI 13 = (1 : Int32) by decide), if_neg (show ¬ nI 13 = (2 : Int32) by decide), if_neg (show ¬ nI 13 = (3 : Int32) by decide), if_neg (show ¬ nI 13 = (4 : Int32) by decide), if_neg (show ¬ nI 13 = (5 : Int32) by decide), if_neg (show ¬ nI 13 = (6 : Int32) by decide), if_neg (show ¬ nI 13 = (7 : Int32) by decide), if_neg (show ¬ nI 13 = (8 : Int32) by decide), if_neg (show ¬ nI 13 = (9 : Int32) by decide), if_neg (show ¬ nI 13 = (10 : Int32) by decide), if_neg (show ¬ nI 13 = (11 : Int32) by decide), e1, if_pos (show (3 : Int32) ≤ nI 13 by decide), if_pos (show (5 : Int32) ≤ nI 13 by decide), if_neg (show ¬ nI 13 = (5 : Int32) by decide), if_neg (show ¬ nI 13 = (6 : Int32) by decide), if_pos (show (11 : Int32) ≤ nI 13 by decide), if_neg (show ¬ nI 13 = (11 : Int32) by decide), a2, bo6_some]
    exact ⟨_, _, _, _, _, _, _, _, _, rfl, _, _, _, _, _, _, _, _, _, _, a1, rfl, a3⟩
  · have e1 : ((1 : Int32) + nI (q % 4)) = nI (1 + q % 4) := nI_add 1 (q % 4)
    obtain ⟨v, vi1, vj1, va1, vb1, vwy1, vah1, vtg1, vws1, s1, a1, a2, a3⟩ := some_steps (N := 1 + q % 4) (by omega) hF vwy vah vtg vws
    rw [if_neg (show ¬ nI 14 = (0 : Int32) by decide), if_neg (show ¬ nI 14 = (1 : Int32) by decide), if_neg (show ¬ nI 14 = (2 : Int32) by decide), if_neg (show ¬ nI 14 = (3 : Int32) by decide), if_neg (show ¬ nI 14 = (4 : Int32) by decide), if_neg (show ¬ nI 14 = (5 : Int32) by decide), if_neg (show ¬ nI 14 = (6 : Int32) by decide), if_neg (show ¬ nI 14 = (7 : Int32) by decide), if_neg (show ¬ nI 14 = (8 : Int32) by decide), if_neg (show ¬ nI 14 = (9 : Int32) by decide), if_neg (show ¬ nI 14 = (10 : Int32) by decide), if_neg (show ¬ nI 14 = (11 : Int32) by decide), e1, if_pos (show (3 : Int32) ≤ nI 14 by decide), if_pos (show (5 : Int32) ≤ nI 14 by decide), if_neg (show ¬ nI 14 = (5 : Int32) by decide), if_neg (show ¬ nI 14 = (6 : Int32) by decide), if_pos (show (11 : Int32) ≤ nI 14 by decide), if_neg (show ¬ nI 14 = (11 : Int32) by decide), a2, bo6_some]
    exact ⟨_, _, _, _, _, _, _, _, _, rfl, _, _, _, _, _, _, _, _, _, _, a1, rfl, a3⟩
  · have e1 : ((1 : Int32) + nI (q % 4)) = nI (1 + q % 4) := nI_add 1 (q % 4)
    obtain ⟨v, vi1, vj1, va1, vb1, vwy1, vah1, vtg1, vws1, s1, a1, a2, a3⟩ := some_steps (N := 1 + q % 4) (by omega) hF vwy vah vtg vws
    rw [if_neg (show ¬ nI 15 = (0 : Int32) by decide), if_neg (show ¬ nI 15 = (1 : Int32) by decide), if_neg (show ¬ nI 15 = (2 : Int32) by decide), if_neg (show ¬ nI 15 = (3 : Int32) by decide), if_neg (show ¬ nI 15 = (4 : Int32) by decide), if_neg (show ¬ nI 15 = (5 : Int32) by decide), if_neg (show ¬ nI 15 = (6 : Int32) by decide), if_neg (show ¬ nI 15 = (7 : Int32) by decide), if_neg (show ¬ nI 15 = (8 : Int32) by decide), if_neg (show ¬ nI 15 = (9 : Int32) by decide), if_neg (show ¬ nI 15 = (10 : Int32) by decide), if_neg (show ¬ nI 15 = (11 : Int32) by decide), e1, if_pos (show (3 : Int32) ≤ nI 15 by decide), if_pos (show (5 : Int32) ≤ nI 15 by decide), if_neg (show ¬ nI 15 = (5 : Int32) by decide), if_neg (show ¬ nI 15 = (6 : Int32) by decide), if_pos (show (11 : Int32) ≤ nI 15 by decide), if_neg (show ¬ nI 15 = (11 : Int32) by decide), a2, bo6_some]
    exact ⟨_, _, _, _, _, _, _, _, _, rfl, _, _, _, _, _, _, _, _, _, _, a1, rfl, a3⟩
theorem sim_num (x : Int64) : ∃ r, r < 2 ^ 31 ∧ (jushrl x (33 : Int32)).toInt32 = nI r := by
  obtain ⟨n, hn, rfl⟩ := wb_of x
  have : jushrl (lN n) (33 : Int32) = lN (n / 2 ^ 33) := wb_shr (k := 33) hn (by decide)
  rw [this, lN_i]
  exact ⟨n / 2 ^ 33, by omega, rfl⟩
theorem sim_L {vi : Nat → Int32} {vj : Nat → Int64} {vk vc va vpa vb vpb mi vnw : Nat → Int32} {N : Nat} (hN : N < 100) : ∀ (j n i : Nat) (x : Int64) (l : Int32) (viT : Nat → Int32) (vjT : Nat → Int64) (vkT vcT vaT vpaT vbT vpbT vtr vwy vah vtg vws : Nat → Int32), j < n → i + j = N → FL viT vjT vkT vcT vaT vpaT vbT vpbT vtr →
      ∃ v viT' vjT' vkT' vcT' vaT' vpaT' vbT' vpbT' vtr' vwy' vah' vtg' vws', mX8_simulate_L42 n vi vj vk vc va vpa vb vpb viT vjT vkT vcT vaT vpaT vbT vpbT (nI N) x l (nI i) = some (Sum.inl (v, viT', vjT', vkT', vcT', vaT', vpaT', vbT', vpbT')) ∧ mX9_simulate_L48 n mi vnw vtr vwy vah vtg vws (nI N) x l (nI i) = some (v, mi, vtr', vwy', vah', vtg', vws') := by
  intro j
  induction j with
  | zero =>
    intro n i x l viT vjT vkT vcT vaT vpaT vbT vpbT vtr vwy vah vtg vws hn hi hF
    obtain ⟨n, rfl⟩ : ∃ m, n = m + 1 := ⟨n - 1, by omega⟩
    obtain rfl : i = N := by omega
    have hle : nI i ≤ nI i := (pu_le (by omega) (by omega)).mpr (Nat.le_refl i)
    obtain ⟨K, t, f0, f1, m, hV, hS, hk, -⟩ := hF
    have o0 : mX9_of vtr (0 : Int32) (0 : Int32) = some (vaT 0) := (g_of vtr (r := 0) (k := 0) (by decide) (by decide)).trans (congrArg some (hS.2.1.trans hV.2.2.1.symm))
    have o1 : mX9_of vtr (1 : Int32) (0 : Int32) = some (vbT 0) := (g_of vtr (r := 1) (k := 0) (by decide) (by decide)).trans (congrArg some (hS.2.2.trans hV.2.2.2.symm))
    unfold mX8_simulate_L42 mX9_simulate_L48
    rw [if_pos hle, if_pos hle, o0, bo1_some, o1, bo1_some]
    exact ⟨_, _, _, _, _, _, _, _, _, _, _, _, _, _, rfl, rfl⟩
  | succ j ih =>
    intro n i x l viT vjT vkT vcT vaT vpaT vbT vpbT vtr vwy vah vtg vws hn hi hF
    obtain ⟨n, rfl⟩ : ∃ m, n = m + 1 := ⟨n - 1, by omega⟩
    have hle : ¬ nI N ≤ nI i := nI_leF (by omega) (by omega) (by omega)
    obtain ⟨r, hr, er⟩ := sim_num (x * (6364136223846793005 : Int64) + (1442695040888963407 : Int64))
    obtain ⟨w, vi', vj', vk', vc', va', vpa', vb', vpb', a1, v, vi2, vj2, va2, vb2, vwy', vah', vtg', vws', s', a2, a3, a4⟩ := turn_ok hF vwy vah vtg vws hr
    unfold mX8_simulate_L42 mX9_simulate_L48
    rw [if_neg hle, if_neg hle, er, a1, bo9_some, a2, bo5_some, a3, bo6_some, nI_1]
    exact ih n (i + 1) _ _ vi2 vj2 vk' vc' va2 vpa' vb2 vpb' s' vwy' vah' vtg' vws' (by omega) (by omega) a4
theorem sim_or (x : Int32) : (∃ N, 1 ≤ N ∧ N ≤ 60 ∧ x = nI N) ∨ ¬ ((1 : Int32) ≤ x ∧ x ≤ (60 : Int32)) := by
  rcases rng_or 61 (by decide) (by decide) x with ⟨N, hN, rfl⟩ | hx
  · by_cases h : 1 ≤ N
    · exact Or.inl ⟨N, h, by omega, rfl⟩
    · right
      obtain rfl : N = 0 := by omega
      decide
  · exact Or.inr (fun q => hx ⟨Int32.le_trans (by decide) q.1, q.2⟩)
theorem pq_simulate : pl_simulate PRx := by
  intro σ xs i hP
  obtain ⟨p1, p2, p3, p4, p5⟩ := hP
  unfold mLaw_simulate
  generalize (jshll (xs (i + (1 : Int32)).toNatClampNeg).toInt64 (32 : Int32) ||| ((xs (i + (2 : Int32)).toNatClampNeg).toInt64 &&& (4294967295 : Int64))) = y
  generalize xs (i + (3 : Int32)).toNatClampNeg = x
  rcases sim_or x with ⟨N, hN1, hN2, rfl⟩ | hx
  · obtain ⟨viT, vjT, vkT, vcT, vaT, vpaT, vbT, vpbT, vtr, e1, e2, e3, e4, e5, -, -⟩ := trial_FL p1 (σ.1 9) (σ.2.1 1) (σ.1 10) (σ.1 11) (σ.1 12) (σ.1 13) (σ.1 14) (σ.1 15) (σ.1 38)
    have ein : mX9_in (nI N).toInt64 (1 : Int64) (60 : Int64) = 1 := by
      rw [show (1 : Int64) = (1 : Int32).toInt64 from by decide, show (60 : Int64) = (60 : Int32).toInt64 from by decide, g_in, if_pos ⟨(pu_le (a := 1) (by decide) (by omega)).mpr hN1, (pu_le (b := 60) (by omega) (by decide)).mpr hN2⟩]
    obtain ⟨v, viT', vjT', vkT', vcT', vaT', vpaT', vbT', vpbT', vtr', vwy', vah', vtg', vws', f1, f2⟩ := sim_L (vi := σ.1 2) (vj := σ.2.1 0) (vk := σ.1 3) (vc := σ.1 4) (va := σ.1 5) (vpa := σ.1 6) (vb := σ.1 7) (vpb := σ.1 8) (mi := upd (σ.1 35) 0 0) (vnw := σ.1 37) (N := N) (by omega) N 4096 0 y 0 viT vjT vkT vcT vaT vpaT vbT vpbT vtr (σ.1 43) (σ.1 44) (σ.1 45) (σ.1 46) (by omega) (by omega) e3
    refine ⟨viT', vjT', vkT', vcT', vaT', vpaT', vbT', vpbT', vp_updL (σ.2.1 6) 0 v.toInt64, upd (σ.1 35) 0 0, vtr', vwy', vah', vtg', vws', ?_, p1, p2, p3, p4, p5⟩
    unfold mL_simulate mX8_simulate mX9_simulate mX9_simulate_J18 mX9_refused
    rw [if_neg (show ¬ nI N < (1 : Int32) from fun q => by have := (pu_lt (b := 1) (by omega) (by decide)).mp q; omega), if_pos (show nI N ≤ (60 : Int32) from (pu_le (b := 60) (by omega) (by decide)).mpr hN2), e1, bo8_some, show mX8_simulate_L42 4096 (σ.1 2) (σ.2.1 0) (σ.1 3) (σ.1 4) (σ.1 5) (σ.1 6) (σ.1 7) (σ.1 8) viT vjT vkT vcT vaT vpaT vbT vpbT (nI N) y 0 (0 : Int32) = _ from f1, bo1_some, bh9_l, bo10_some, ein, if_neg ne10, if_pos le00, bt2_mk, if_pos rfl, e2, bo1_some, show mX9_simulate_L48 4096 (upd (σ.1 35) 0 0) (σ.1 37) vtr (σ.1 43) (σ.1 44) (σ.1 45) (σ.1 46) (nI N) y 0 (0 : Int32) = _ from f2, bo7_some]
    show (if (0 : Int32) = 0 then (if (0 : Int32) = 0 then (if lg_cmp v.toInt64 v.toInt64 = 0 then _ else _) else _) else _) = _
    rw [if_pos rfl, if_pos rfl, if_pos (lg_eq.mpr rfl)]
    rfl
  · have ein : mX9_in x.toInt64 (1 : Int64) (60 : Int64) = 0 := by
      rw [show (1 : Int64) = (1 : Int32).toInt64 from by decide, show (60 : Int64) = (60 : Int32).toInt64 from by decide, g_in, if_neg hx]
    refine ⟨σ.1 9, σ.2.1 1, σ.1 10, σ.1 11, σ.1 12, σ.1 13, σ.1 14, σ.1 15, σ.2.1 6, upd (σ.1 35) 0 1, σ.1 38, σ.1 43, σ.1 44, σ.1 45, σ.1 46, ?_, p1, p2, p3, p4, p5⟩
    have eV : mL_simulate (σ.1 2) (σ.2.1 0) (σ.1 3) (σ.1 4) (σ.1 5) (σ.1 6) (σ.1 7) (σ.1 8) (σ.1 9) (σ.2.1 1) (σ.1 10) (σ.1 11) (σ.1 12) (σ.1 13) (σ.1 14) (σ.1 15) (σ.2.1 6) y x = some (1, σ.1 9, σ.2.1 1, σ.1 10, σ.1 11, σ.1 12, σ.1 13, σ.1 14, σ.1 15, σ.2.1 6) := by
      unfold mL_simulate mX8_simulate
      by_cases q : x < (1 : Int32)
      · rw [if_pos q, bo1_some, bh9_r, if_pos rfl]
      · rw [if_neg q, if_neg (fun z => hx ⟨Int32.not_lt.mp q, z⟩), bo1_some, bh9_r, if_pos rfl]
    rw [eV, bo10_some]
    unfold mX9_simulate mX9_simulate_J18 mX9_refused
    rw [ein, if_pos rfl, if_neg nle1, bt2_mk, if_neg ne10, bo7_some]
    show (if (1 : Int32) = 1 then (if (1 : Int32) = 0 then _ else _) else _) = _
    rw [if_pos rfl, if_neg ne10]
