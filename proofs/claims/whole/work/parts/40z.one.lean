/-! One step: both sides -/
theorem bo2_some {α α2 β : Type} (a : α) (b : α2) (f : α → α2 → Option β) : bo2 (some (a, b)) f = f a b := rfl
theorem bo3_some {α α2 α3 β : Type} (a : α) (b : α2) (c : α3) (f : α → α2 → α3 → Option β) : bo3 (some (a, b, c)) f = f a b c := rfl
theorem bo4_some {α α2 α3 α4 β : Type} (a : α) (b : α2) (c : α3) (d : α4) (f : α → α2 → α3 → α4 → Option β) : bo4 (some (a, b, c, d)) f = f a b c d := rfl
theorem bt2_mk {α α2 β : Type} (a : α) (b : α2) (f : α → α2 → β) : bt2 (a, b) f = f a b := rfl
/-- robot r of the class and of the row -/
def RB (va vpa s : Nat → Int32) (r f : Nat) : Prop := va 1 = nI f ∧ RR s r f va vpa ∧ OKr f va vpa ∧ NX va
def FM (vi : Nat → Int32) (vj : Nat → Int64) (vc s : Nat → Int32) (K : Nat → Nat) (C : Nat → Bool) (m : Nat) : Prop :=
  vj 5 = sL (fun x => decide (3 ≤ K x)) ∧ vj 6 = sL (fun x => decide (K x = 2)) ∧ m ≤ 4 ∧ vi 7 = nI m ∧ s 110 = nI m ∧ (∀ k, k < m → s (111 + k) = vc k ∧ ∃ c, c < 36 ∧ vc k = nI c) ∧ s 115 = vi 10 ∧ s 116 = vi 11 ∧ vi 8 - vi 9 - vi 10 = nI (fb_ct C 36)
/-- the class's floor and a row are the same state -/
def FL (vi : Nat → Int32) (vj : Nat → Int64) (vk vc va vpa vb vpb s : Nat → Int32) : Prop :=
  ∃ (K : Nat → Nat) (t : Th) (f0 f1 m : Nat), RV vj vk va vb K t.1 t.2.1 t.2.2 ∧ RS s K t.1 t.2.1 t.2.2 ∧ RK K t.1 t.2.1 t.2.2 ∧ RB va vpa s 0 f0 ∧ RB vb vpb s 1 f1 ∧ FM vi vj vc s K t.1 m
theorem RA_self {va vpa : Nat → Int32} {f : Nat} (h : va 1 = nI f) : RA va vpa f va vpa := ⟨h, fun _ _ _ => rfl, fun _ _ _ => rfl⟩
theorem RR_cong {s h h' I : Nat → Int32} {r f : Nat} (e : ∀ j, 2 ≤ j → j < 9 → h' j = h j) (hR : RR s r f h I) : RR s r f h' I :=
  ⟨hR.1, fun j j2 j9 => (hR.2.1 j j2 j9).trans (e j j2 j9).symm, fun j q1 q2 => hR.2.2 j (by rw [← e 8 (by decide) (by decide)]; exact q1) q2⟩
theorem RR_tr {s s' : Nat → Int32} {r f : Nat} {h I : Nat → Int32} (hR : RR s r f h I) (e : ∀ k, (72 + 9 * r + 1 ≤ k ∧ k < 72 + 9 * r + 9) ∨ (90 + 10 * r ≤ k ∧ k < 90 + 10 * r + 10) → s' k = s k) : RR s' r f h I :=
  ⟨(e _ (by omega)).trans hR.1, fun j j2 j9 => (e _ (by omega)).trans (hR.2.1 j j2 j9), fun j q1 q2 => (e _ (by omega)).trans (hR.2.2 j q1 q2)⟩
theorem OKr_cong {f : Nat} {h h' I : Nat → Int32} (e7 : h' 7 = h 7) (e8 : h' 8 = h 8) (hO : OKr f h I) : OKr f h' I := by
  obtain ⟨hf, p, l, q7, q8, hl, hp, hi⟩ := hO
  exact ⟨hf, p, l, e7.trans q7, e8.trans q8, hl, hp, hi⟩
theorem tf_lt {f : Nat} {h I : Nat → Int32} (hf : f < 4) : tfA f h I < 4 := by
  unfold tfA
  split
  · exact hf
  · exact Nat.mod_lt _ (by decide)
theorem OKr_hf {f : Nat} {h I : Nat → Int32} (w go : Option Nat) (hO : OKr f h I) : OKr (tfA f h I) (hfA w go h) I := by
  obtain ⟨hf, p, l, e7, e8, hl, hp, hi⟩ := hO
  obtain ⟨m7, m8⟩ := hmA_7 w go h
  unfold hfA
  have t8 : tpA (hmA w go h) 8 = nI l := by rw [tpA_8, m8, e8]
  have t7 : tpA (hmA w go h) 7 = if nI l ≤ nI p + 1 then 0 else nI p + 1 := by
    unfold tpA
    rw [m7, m8, e7, e8]
    split <;> rfl
  rw [nI_1] at t7
  by_cases q : l ≤ p + 1
  · rw [if_pos (by rw [pu_le (by omega) (by omega)]; exact q)] at t7
    exact ⟨tf_lt hf, 0, l, t7, t8, hl, by omega, hi⟩
  · rw [if_neg (by rw [pu_le (by omega) (by omega)]; exact q)] at t7
    exact ⟨tf_lt hf, p + 1, l, t7, t8, hl, by omega, hi⟩
theorem OKr_fall {K : Nat → Nat} {c f : Nat} {h I : Nat → Int32} (hO : OKr f h I) : OKr (ff K c f) (fh K c h) I := by
  unfold ff fh
  split
  · obtain ⟨hf, hh⟩ := OKr_cong (h' := upd h 6 (h 6 + 1)) rfl rfl hO
    exact ⟨by decide, hh⟩
  · exact hO
theorem OKr_ph {m c f : Nat} {vc h I : Nat → Int32} (hO : OKr f h I) : OKr f (phA m vc c h) I := by
  unfold phA
  split
  · exact OKr_cong rfl rfl hO
  · exact hO
theorem hf_2 (w go : Option Nat) (h : Nat → Int32) : hfA w go h 2 = h 2 := by
  unfold hfA tpA
  have : hmA w go h 2 = h 2 := by
    unfold hmA
    cases go with
    | some r => rfl
    | none => cases w <;> rfl
  split
  · exact (if_neg (by decide)).trans this
  · exact (if_neg (by decide)).trans this
theorem fh_2 (K : Nat → Nat) (c : Nat) (h : Nat → Int32) : fh K c h 2 = h 2 := by
  unfold fh
  split
  · exact if_neg (by decide)
  · rfl
theorem NX_of {h h' : Nat → Int32} (e : h' 2 = h 2) (hN : NX h) : NX h' := by
  obtain ⟨x, a, b, c⟩ := hN
  exact ⟨x, a, b, e.trans c⟩
theorem RA_cells {va va' vpa : Nat → Int32} {f : Nat} {h I : Nat → Int32} (hA : RA va vpa f h I) (e : ∀ j, 1 ≤ j → va' j = va j) : RA va' vpa f h I :=
  ⟨(e 1 (by decide)).trans hA.1, fun j j2 j9 => (e j (by omega)).trans (hA.2.1 j j2 j9), hA.2.2⟩
theorem sub4 (a b c d : Int32) : a - b - (c + d) = (a - b - c) - d := by grind
theorem nI_sub {a b : Nat} : nI (a + b) - nI b = nI a := by rw [← nI_add, Int32.add_sub_cancel]
/-- next numbers don't fall -/
def NLe (va va' : Nat → Int32) : Prop := ∃ x x', x ≤ x' ∧ x' ≤ 5 ∧ va 2 = nI x ∧ va' 2 = nI x'
theorem one_step {vi : Nat → Int32} {vj : Nat → Int64} {vk vc va vpa vb vpb s : Nat → Int32} (hF : FL vi vj vk vc va vpa vb vpb s) (vwy vah vtg vws : Nat → Int32) :
    ∃ r vi' vj' va' vb' vwy' vah' vtg' vws' s', mX6_makeOne vi vj vk vc va vpa vb vpb = some (r, vi', vj', va', vb') ∧ mX9_one vwy vah vtg vws s = some (r, vwy', vah', vtg', vws', s') ∧
      FL vi' vj' vk vc va' vpa vb' vpb s' ∧ NLe va va' ∧ NLe vb vb' := by
  obtain ⟨K, t, f0, f1, m, hV, hS, hk, ⟨ha1, hR0, hO0, hN0⟩, ⟨hb1, hR1, hO1, hN1⟩, ⟨h5, h6, hm, h7, h110, hvc, h115, h116, hct⟩⟩ := hF
  have hw0 := wd_lt (f := f0) (h := va) (I := vpa) hO0.1
  have hw1 := wd_lt (f := f1) (h := vb) (I := vpb) hO1.1
  obtain ⟨vj1, va1, vb1, u1, t', a1, a2, a3, a4, a5, a6, a7⟩ := v_both (vi := vi) (vc := vc) hV hk (RA_self ha1) hO0 (RA_self hb1) hO1
  obtain ⟨vwy1, vah1, s1, u1', t'', b1, b2, b3, _, _, b4, b5, b6, b7⟩ := g_follow (vwy := vwy) (vah := vah) hS hk hR0 hO0 hR1 hO1
  obtain ⟨hk', hct'⟩ := both_RK hk hw0 hw1 a2 a3
  have hS1 : RS s1 K t'.1 t'.2.1 t'.2.2 := RS_Teq b4 (goR_one (goR_one (Teq_refl t) b2 a2) b3 a3)
  have oO0 := OKr_hf (wdA f0 va vpa) (goA K t (wdA f0 va vpa) (wdA f1 vb vpb) t.2.1 (wdA f0 va vpa)) hO0
  have oO1 := OKr_hf (wdA f1 vb vpb) (goA K t (wdA f0 va vpa) (wdA f1 vb vpb) t.2.2 (wdA f1 vb vpb)) hO1
  have n20 := hf_2 (wdA f0 va vpa) (goA K t (wdA f0 va vpa) (wdA f1 vb vpb) t.2.1 (wdA f0 va vpa)) va
  have n21 := hf_2 (wdA f1 vb vpb) (goA K t (wdA f0 va vpa) (wdA f1 vb vpb) t.2.2 (wdA f1 vb vpb)) vb
  generalize tfA f0 va vpa = g0 at *
  generalize tfA f1 vb vpb = g1 at *
  generalize hfA (wdA f0 va vpa) (goA K t (wdA f0 va vpa) (wdA f1 vb vpb) t.2.1 (wdA f0 va vpa)) va = e0 at *
  generalize hfA (wdA f1 vb vpb) (goA K t (wdA f0 va vpa) (wdA f1 vb vpb) t.2.2 (wdA f1 vb vpb)) vb = e1 at *
  -- belts
  have hth : mX1_things vj1 va1 vb1 = sL (tht t') := v_things a4 hk'.2.1 hk'.2.2.1
  have c1 := v_carried (vj := vj1) (va := va1) (vb := vb1) a4.1 (fun x hx => (hk'.1 x hx).1) hth ((a7 5 (by decide)).trans h5)
  obtain ⟨vj2, va2, vb2, c2, c3, c4, c5, c6⟩ := v_carryAll a4 hk'
  obtain ⟨vwy2, vtg2, vws2, s2, d1, d2, d3⟩ := g_belts hS1 hk' vwy1 vtg vws
  have hkb := bl_RK hk'
  have hctb : fb_ct (bl K t').1 36 = fb_ct t'.1 36 := fb_img (f := car K (carP K (tht t'))) (fun x hx _ => car_lt (fun x hx => (hk'.1 x hx).1) hx) (fun x y hx hy qx qy q => Classical.byContradiction fun e => bl_apart x y hx hy e (tht_iff.mpr (Or.inl qx)) (tht_iff.mpr (Or.inl qy)) q) bl_img
  have hR0b : RR s2 0 g0 e0 vpa := RR_tr b5 (fun k hk => d3 k (by omega) (by omega) (by omega))
  have hR1b : RR s2 1 g1 e1 vpb := RR_tr b6 (fun k hk => d3 k (by omega) (by omega) (by omega))
  have hA0b := RA_cells a5 c5
  have hA1b := RA_cells a6 c6
  generalize bl K t' = tb at *
  -- pits
  obtain ⟨vj3, l1, l2, l3⟩ := v_lose (vi := vi) (va := va2) (vb := vb2) c3 ((c4 6 (by decide)).trans ((a7 6 (by decide)).trans h6))
  have hkl := los_RK hkb
  have hctl := los_ct K tb
  obtain ⟨va3, m1, m2, m3⟩ := v_fall_a l2 hkl hA0b
  have hk0 := fl0_RK hkl
  obtain ⟨vb3, p1, p2, p3⟩ := v_fall_b m2 hk0 hA1b
  have hk1 := fl1_RK hk0
  obtain ⟨s3, q1, q2, q3, q4, q5, q6⟩ := g_pits d2 hkb hR0b hR1b
  -- checkpoints
  have o0 : OKr (ff K tb.2.1 g0) (fh K tb.2.1 e0) vpa := OKr_fall oO0
  have o1 : OKr (ff K tb.2.2 g1) (fh K tb.2.2 e1) vpb := OKr_fall oO1
  have N0 : NX (fh K tb.2.1 e0) := NX_of ((fh_2 K tb.2.1 e0).trans n20) hN0
  have N1 : NX (fh K tb.2.2 e1) := NX_of ((fh_2 K tb.2.2 e1).trans n21) hN1
  have s2m : ∀ k, 90 ≤ k → s2 k = s k := fun k hk => (d3 k (Or.inr (by omega)) (by omega) (by omega)).trans (b7 k hk)
  generalize hs3 : upd s3 116 (s3 116 + 1) = s3' at *
  have s3e : ∀ k, k ≠ 116 → s3' k = s3 k := fun k hk => by rw [← hs3]; exact if_neg hk
  have hS3 : RS s3' K (fl1 K (fl0 K (los K tb))).1 (fl1 K (fl0 K (los K tb))).2.1 (fl1 K (fl0 K (los K tb))).2.2 := ⟨fun x hx => by rw [s3e x (by omega), s3e (36 + x) (by omega)]; exact q2.1 x hx, (s3e 72 (by omega)).trans q2.2.1, (s3e 81 (by omega)).trans q2.2.2⟩
  have hR03 : RR s3' 0 _ _ vpa := RR_tr q3 (fun k hk => s3e k (by omega))
  have hR13 : RR s3' 1 _ _ vpb := RR_tr q4 (fun k hk => s3e k (by omega))
  have p110 : s3' 110 = nI m := by rw [s3e 110 (by decide), q6 110 (by decide) (by decide), s2m 110 (by decide), h110]
  have pvc : ∀ k, k < m → s3' (111 + k) = vc k := fun k hk => by rw [s3e (111 + k) (by omega), q6 (111 + k) (by omega) (by omega), s2m (111 + k) (by omega)]; exact (hvc k hk).1
  obtain ⟨s4, w1, w2, w3⟩ := g_pass_s (r := 0) (vc := vc) (by decide) hS3 hk1 hR03 hm p110 pvc N0 4095 0
  have hS4 : RS s4 K (fl1 K (fl0 K (los K tb))).1 (fl1 K (fl0 K (los K tb))).2.1 (fl1 K (fl0 K (los K tb))).2.2 := ⟨fun x hx => by rw [w3 x (by omega), w3 (36 + x) (by omega)]; exact hS3.1 x hx, (w3 72 (by omega)).trans hS3.2.1, (w3 81 (by omega)).trans hS3.2.2⟩
  obtain ⟨s5, x1, x2, x3⟩ := g_pass_s (r := 1) (vc := vc) (by decide) hS4 hk1 (RR_tr hR13 (fun k hk => w3 k (by omega))) hm ((w3 110 (by omega)).trans p110) (fun k hk => (w3 (111 + k) (by omega)).trans (pvc k hk)) N1 4094 (0 + if pz m vc (cl2 (fl1 K (fl0 K (los K tb))) 0) (fh K tb.2.1 e0) = true then 1 else 0)
  have hS5 : RS s5 K (fl1 K (fl0 K (los K tb))).1 (fl1 K (fl0 K (los K tb))).2.1 (fl1 K (fl0 K (los K tb))).2.2 := ⟨fun x hx => by rw [x3 x (by omega), x3 (36 + x) (by omega)]; exact hS4.1 x hx, (x3 72 (by omega)).trans hS4.2.1, (x3 81 (by omega)).trans hS4.2.2⟩
  have v7 : upd (upd vi 10 (vi 10 + nI (loc K tb 36))) 11 (upd vi 10 (vi 10 + nI (loc K tb 36)) 11 + 1) 7 = nI m := h7
  obtain ⟨va4, y1, y2, y3⟩ := v_pass_a (vi := upd (upd vi 10 (vi 10 + nI (loc K tb 36))) 11 (upd vi 10 (vi 10 + nI (loc K tb 36)) 11 + 1)) (vc := vc) (c := (fl1 K (fl0 K (los K tb))).2.1) hm v7 hk1.2.1 p2.2.2.1 m3 N0
  obtain ⟨vb4, z1, z2, z3⟩ := v_pass_a (vi := upd (upd vi 10 (vi 10 + nI (loc K tb 36))) 11 (upd vi 10 (vi 10 + nI (loc K tb 36)) 11 + 1)) (vc := vc) (c := (fl1 K (fl0 K (los K tb))).2.2) hm v7 hk1.2.2.1 p2.2.2.2 p3 N1
  have hNN0 := NX_ph (c := (fl1 K (fl0 K (los K tb))).2.1) (vc := vc) hm N0
  have hNN1 := NX_ph (c := (fl1 K (fl0 K (los K tb))).2.2) (vc := vc) hm N1
  have ya2 := y3.2.1 2 (by decide) (by decide)
  have za2 := z3.2.1 2 (by decide) (by decide)
  have eV : mX6_makeOne vi vj vk vc va vpa vb vpb = some ((if pz m vc (fl1 K (fl0 K (los K tb))).2.1 (fh K tb.2.1 e0) = true then (1 : Int32) else 0) + (if pz m vc (fl1 K (fl0 K (los K tb))).2.2 (fh K tb.2.2 e1) = true then 1 else 0), upd (upd vi 10 (vi 10 + nI (loc K tb 36))) 11 (upd vi 10 (vi 10 + nI (loc K tb 36)) 11 + 1), vj3, va4, vb4) := by
    rw [a1]
    unfold v_rest
    rw [c1, bo1_some, c2, bo3_some, l1, bt2_mk, m1, bo1_some, p1, bo1_some, y1, bo2_some, v_pass_swap, z1, bo2_some]
    rfl
  have eG : mX9_one vwy vah vtg vws s = some ((if pz m vc (fl1 K (fl0 K (los K tb))).2.1 (fh K tb.2.1 e0) = true then (1 : Int32) else 0) + (if pz m vc (fl1 K (fl0 K (los K tb))).2.2 (fh K tb.2.2 e1) = true then 1 else 0), vwy2, vah1, vtg2, vws2, s5) := by
    unfold mX9_one
    rw [b1, bo3_some, d1, bo4_some, q1, bo1_some]
    show bo2 (mX9_passes (upd s3 116 (s3 116 + 1))) _ = _
    rw [hs3]
    have ep : mX9_passes s3' = some ((if pz m vc (fl1 K (fl0 K (los K tb))).2.1 (fh K tb.2.1 e0) = true then 1 else 0) + (if pz m vc (fl1 K (fl0 K (los K tb))).2.2 (fh K tb.2.2 e1) = true then 1 else 0), s5) := by
      unfold mX9_passes
      refine w1.trans (x1.trans ?_)
      show mX9_passes_L4 (4093 + 1) s5 _ (nI 2) = _
      unfold mX9_passes_L4
      rw [if_pos (by decide), Int32.zero_add]
      rfl
    rw [ep, bo2_some]
  refine ⟨_, _, vj3, va4, vb4, vwy2, vah1, vtg2, vws2, s5, eV, eG, ⟨K, fl1 K (fl0 K (los K tb)), ff K tb.2.1 g0, ff K tb.2.2 g1, m, ⟨p2.1, p2.2.1, y2.trans p2.2.2.1, z2.trans p2.2.2.2⟩, hS5, hk1, ⟨y3.1, ?_, ?_, ?_⟩, ⟨z3.1, ?_, ?_, ?_⟩, ?_⟩, ?_, ?_⟩
  · exact RR_cong (h := phA m vc (fl1 K (fl0 K (los K tb))).2.1 (fh K tb.2.1 e0)) (fun j j2 j9 => y3.2.1 j j2 j9) (RR_tr w2 (fun k hk => x3 k (by omega)))
  · exact OKr_cong (y3.2.1 7 (by decide) (by decide)) (y3.2.1 8 (by decide) (by decide)) (OKr_ph o0)
  · exact NX_of ya2 hNN0.1
  · exact RR_cong (h := phA m vc (fl1 K (fl0 K (los K tb))).2.2 (fh K tb.2.2 e1)) (fun j j2 j9 => z3.2.1 j j2 j9) x2
  · exact OKr_cong (z3.2.1 7 (by decide) (by decide)) (z3.2.1 8 (by decide) (by decide)) (OKr_ph o1)
  · exact NX_of za2 hNN1.1
  · have s5e : ∀ k, 100 ≤ k → k ≠ 110 → s5 k = s3' k := fun k hk _ => (x3 k (by omega)).trans (w3 k (by omega))
    refine ⟨(l3 5 (by decide)).trans ((c4 5 (by decide)).trans ((a7 5 (by decide)).trans h5)), (l3 6 (by decide)).trans ((c4 6 (by decide)).trans ((a7 6 (by decide)).trans h6)), hm, v7, ?_, fun k hk => ⟨?_, (hvc k hk).2⟩, ?_, ?_, ?_⟩
    · rw [x3 110 (by omega), w3 110 (by omega)]; exact p110
    · rw [s5e (111 + k) (by omega) (by omega)]; exact pvc k hk
    · rw [s5e 115 (by omega) (by omega), s3e 115 (by decide), q5, s2m 115 (by decide), h115]; rfl
    · rw [s5e 116 (by omega) (by omega), ← hs3]
      show s3 116 + 1 = vi 11 + 1
      rw [q6 116 (by decide) (by decide), s2m 116 (by decide), h116]
    · show vi 8 - vi 9 - (vi 10 + nI (loc K tb 36)) = nI (fb_ct (los K tb).1 36)
      rw [sub4, hct, ← hct', ← hctb, ← hctl, nI_sub]
  · obtain ⟨x, x', g1, g2, g3, g4⟩ := hNN0.2
    exact ⟨x, x', g1, g2, (n20.symm.trans ((fh_2 K tb.2.1 e0).symm.trans g3)), ya2.trans g4⟩
  · obtain ⟨x, x', g1, g2, g3, g4⟩ := hNN1.2
    exact ⟨x, x', g1, g2, (n21.symm.trans ((fh_2 K tb.2.2 e1).symm.trans g3)), za2.trans g4⟩
