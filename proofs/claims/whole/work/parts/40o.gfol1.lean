/-! The reference: one robot's turn in the loop of follow -/
theorem OKr_hm {f : Nat} {h I : Nat → Int32} (w go : Option Nat) (hO : OKr f h I) : OKr f (hmA w go h) I := by
  obtain ⟨hf, p, l, e7, e8, r⟩ := hO
  exact ⟨hf, p, l, (hmA_7 w go h).1.trans e7, (hmA_7 w go h).2.trans e8, r⟩
theorem tfA_hm (f : Nat) (h I : Nat → Int32) (w go : Option Nat) : tfA f (hmA w go h) I = tfA f h I := by
  unfold tfA nowA
  rw [(hmA_7 w go h).1, (hmA_7 w go h).2]
/-- robot a's cell -/
def cl2 (t : Th) (a : Nat) : Nat := if a = 0 then t.2.1 else t.2.2
theorem RS_cell {s : Nat → Int32} {K : Nat → Nat} {t : Th} {a : Nat} (ha : a < 2) (h : RS s K t.1 t.2.1 t.2.2) : s (72 + 9 * a) = nI (cl2 t a) := by
  unfold cl2
  have : a = 0 ∨ a = 1 := by omega
  rcases this with rfl | rfl
  · exact h.2.1
  · exact h.2.2
theorem RS_keep {s s1 : Nat → Int32} {K : Nat → Nat} {t : Th} (h : RS s K t.1 t.2.1 t.2.2) (e : ∀ k, (k < 72 ∨ k = 72 ∨ k = 81) → s1 k = s k) : RS s1 K t.1 t.2.1 t.2.2 :=
  ⟨fun x hx => ⟨by rw [e x (by omega)]; exact (h.1 x hx).1, by rw [e (36 + x) (by omega)]; exact (h.1 x hx).2⟩, by rw [e 72 (by omega)]; exact h.2.1, by rw [e 81 (by omega)]; exact h.2.2⟩
def goG (t : Th) (a : Nat) (w go : Option Nat) (va l2 : Int32) : Prop := match go with
  | none => va = -1 ∨ ¬ l2 = 0
  | some r => l2 = 0 ∧ va = nI r ∧ r < 10 ∧ ∃ d, w = some d ∧ (pth d (r + 1) (bs (cl2 t a) d)).length = r + 1 ∧ (∀ i, 1 ≤ i → i ≤ r → tht t (pi d (cl2 t a) i) = true) ∧ tht t (pi d (cl2 t a) (r + 1)) = false
theorem cl2_tht {t : Th} {a : Nat} : tht t (cl2 t a) = true := by
  unfold cl2
  split
  · exact tht_iff.mpr (Or.inr (Or.inl rfl))
  · exact tht_iff.mpr (Or.inr (Or.inr rfl))
theorem g_J70 {k13 : (Nat → Int32) → (Nat → Int32) → (Nat → Int32) → Int32 → Int32 → Option ((Nat → Int32) × (Nat → Int32) × (Nat → Int32))} {vwy vah s : Nat → Int32} {a f : Nat} {h I : Nat → Int32} {l2 : Int32} (ha : a < 2) (hR : RR s a f h I) (hO : OKr f h I) :
    ∃ s1, mX9_follow_J70 k13 vwy vah s l2 (nI a) = k13 vwy vah s1 l2 (nI (a + 1)) ∧ RR s1 a (tfA f h I) (tpA h) I ∧ (∀ k, k ≠ 72 + 9 * a + 1 → k ≠ 72 + 9 * a + 7 → s1 k = s k) := by
  obtain ⟨s1, e1, e2, e3⟩ := g_turns ha hR hO
  exact ⟨s1, by unfold mX9_follow_J70; rw [e1, bo1_some, nI_1], e2, e3⟩
theorem fol_succ (n : Nat) (vwy vah vs : Nat → Int32) (l2 l3 : Int32) : mX9_follow_L13 (n + 1) vwy vah vs l2 l3 = (if (2 : Int32) ≤ l3 then (some (vwy, vah, vs)) else (if ¬ (l3 < 0 ∨ 2 ≤ l3.toNatClampNeg) then (if (vah l3.toNatClampNeg) = (-1 : Int32) then (mX9_follow_J36 (fun vwy vah vs l2 l3 => mX9_follow_L13 n vwy vah vs l2 l3) vwy vah vs l2 l3) else (if l2 = 0 then (mX9_follow_J37 (fun vwy vah vs l2 l3 => mX9_follow_L13 n vwy vah vs l2 l3) vwy vah vs l2 l3 (1 : Int32)) else (mX9_follow_J36 (fun vwy vah vs l2 l3 => mX9_follow_L13 n vwy vah vs l2 l3) vwy vah vs l2 l3))) else none)) := rfl
theorem g_fol_one {n : Nat} {vwy vah s : Nat → Int32} {K : Nat → Nat} {t : Th} {a f : Nat} {h I : Nat → Int32} {l2 : Int32} (ha : a < 2) (hS : RS s K t.1 t.2.1 t.2.2) (hT : TS t) (hR : RR s a f h I) (hO : OKr f h I) (go : Option Nat)
    (hwy : vwy a = opI (wdA f h I)) (hgo : goG t a (wdA f h I) go (vah a) l2) :
    ∃ (s1 : Nat → Int32) (t' : Th), mX9_follow_L13 (n + 1) vwy vah s l2 (nI a) = mX9_follow_L13 n vwy vah s1 l2 (nI (a + 1)) ∧ RS s1 K t'.1 t'.2.1 t'.2.2 ∧ TS t' ∧ goR (cl2 t a) (wdA f h I) go t t' ∧ RR s1 a (tfA f h I) (hfA (wdA f h I) go h) I ∧ (∀ k, 72 ≤ k → k ≠ 72 → k ≠ 81 → (k < 72 + 9 * a ∨ 72 + 9 * a + 9 ≤ k) → s1 k = s k) := by
  have hne : ∀ r, r < 10 → ¬ nI r = (-1 : Int32) := by decide +kernel
  rw [fol_succ, if_neg (by
    have : ∀ a, a < 2 → ¬ (2 : Int32) ≤ nI a := by decide +kernel
    exact this a ha), if_pos (g_idx (by omega) 2 (by omega)), nI_clamp (by omega)]
  cases go with
  | none =>
    have hb : ∃ (s1 : Nat → Int32), mX9_follow_J36 (fun vwy vah vs l2 l3 => mX9_follow_L13 n vwy vah vs l2 l3) vwy vah s l2 (nI a) = mX9_follow_L13 n vwy vah s1 l2 (nI (a + 1)) ∧ RS s1 K t.1 t.2.1 t.2.2 ∧ RR s1 a (tfA f h I) (hfA (wdA f h I) none h) I ∧ (∀ k, 72 ≤ k → k ≠ 72 → k ≠ 81 → (k < 72 + 9 * a ∨ 72 + 9 * a + 9 ≤ k) → s1 k = s k) := by
      unfold mX9_follow_J36 mX9_follow_J37
      rw [if_pos rfl, if_pos (g_idx (by omega) 2 (by omega)), nI_clamp (by omega), hwy]
      cases hw : wdA f h I with
      | none =>
        rw [if_pos (show opI none = (-1 : Int32) from rfl)]
        obtain ⟨s1, e1, e2, e3⟩ := g_J70 (k13 := fun vwy vah vs l2 l3 => mX9_follow_L13 n vwy vah vs l2 l3) (vwy := vwy) (vah := vah) (l2 := l2) ha hR hO
        exact ⟨s1, e1, RS_keep hS (fun k hk => e3 k (by omega) (by omega)), e2, fun k h1 h2 h3 h4 => e3 k (by omega) (by omega)⟩
      | some d =>
        have hd := wd_lt hO.1 d hw
        rw [if_neg (show ¬ opI (some d) = (-1 : Int32) from hne d (by omega))]
        have a4 := g_adds s (r := a) (k := 4) ha (by decide) 1
        rw [show mX9_adds s (nI a) (4 : Int32) (1 : Int32) = _ from a4, bo1_some]
        have hR2 : RR (upd s (72 + 9 * a + 4) (s (72 + 9 * a + 4) + 1)) a f (hmA (some d) none h) I := by
          refine ⟨?_, fun j h2 h9 => ?_, fun j h1 h2 => ?_⟩
          · rw [show ∀ v, upd s (72 + 9 * a + 4) v (72 + 9 * a + 1) = s (72 + 9 * a + 1) from fun v => if_neg (by omega)]; exact hR.1
          · show _ = upd h 4 (h 4 + 1) j
            by_cases e : j = 4
            · subst e
              rw [show ∀ v, upd s (72 + 9 * a + 4) v (72 + 9 * a + 4) = v from fun v => if_pos rfl, hR.2.1 4 (by decide) (by decide)]
              exact (if_pos rfl).symm
            · rw [show ∀ v, upd s (72 + 9 * a + 4) v (72 + 9 * a + j) = s (72 + 9 * a + j) from fun v => if_neg (by omega), hR.2.1 j h2 h9]
              exact (if_neg e).symm
          · rw [show ∀ v, upd s (72 + 9 * a + 4) v (90 + 10 * a + j) = s (90 + 10 * a + j) from fun v => if_neg (by omega)]
            exact hR.2.2 j h1 h2
        obtain ⟨s1, e1, e2, e3⟩ := g_J70 (k13 := fun vwy vah vs l2 l3 => mX9_follow_L13 n vwy vah vs l2 l3) (vwy := vwy) (vah := vah) (l2 := l2) ha hR2 (OKr_hm (some d) none hO)
        rw [tfA_hm] at e2
        refine ⟨s1, e1, RS_keep hS (fun k hk => ?_), e2, fun k h1 h2 h3 h4 => ?_⟩
        · rw [e3 k (by omega) (by omega)]; exact if_neg (by omega)
        · rw [e3 k (by omega) (by omega)]; exact if_neg (by omega)
    obtain ⟨s1, e1, e2, e3, e4⟩ := hb
    refine ⟨s1, t, ?_, e2, hT, rfl, e3, e4⟩
    rcases hgo with q | q
    · rw [if_pos q]; exact e1
    · by_cases q1 : vah a = -1
      · rw [if_pos q1]; exact e1
      · rw [if_neg q1, if_neg q]; exact e1
  | some r =>
    obtain ⟨hl2, hva, hr, d, hw, hl, hT1, hT2⟩ := hgo
    have hd := wd_lt hO.1 d hw
    have hc : cl2 t a < 36 := by
      unfold cl2
      split
      · exact hT.1
      · exact hT.2.1
    obtain ⟨hp, hq⟩ := pin_pth (r + 1) (cl2 t a) hl
    rw [hva, if_neg (hne r hr), if_pos hl2]
    unfold mX9_follow_J37
    rw [if_neg (by decide)]
    have hwd : vwy a = nI d := by rw [hwy, hw]; rfl
    have hm : ∃ s1, mX9_moves vwy vah s (nI a) = some (upd (upd s1 (72 + 9 * a + 3) (s1 (72 + 9 * a + 3) + 1)) (72 + 9 * a + 5) (upd s1 (72 + 9 * a + 3) (s1 (72 + 9 * a + 3) + 1) (72 + 9 * a + 5) + nI r)) ∧ RS s1 K (psh d (cl2 t a) r t).1 (psh d (cl2 t a) r t).2.1 (psh d (cl2 t a) r t).2.2 ∧ RSE s1 s := by
      unfold mX9_moves
      have eo : mX9_of s (nI a) (0 : Int32) = some (nI (cl2 t a)) := (g_of s (k := 0) ha (by decide)).trans (by rw [Nat.add_zero, RS_cell ha hS])
      rw [eo, bo1_some]
      have e13 := g_moves_L13 (s := s) hd hc ha hr hp hwd hva r 4096 0 (by omega) (by omega)
      rw [show pi d (cl2 t a) 0 = cl2 t a from rfl] at e13
      obtain ⟨s1, k1, k2, k3⟩ := g_moves_L58 hd hc ha hr hp hwd hva (r + 1) 4096 0 s t (by omega) (by omega) (Or.inr trivial) hS hT.1 hT.2.1 (nI (pi d (cl2 t a) r)) (fun j hj => by
        have : j = r := by omega
        rw [this])
      exact ⟨s1, e13.trans k1, k2, k3⟩
    obtain ⟨s1, m1, m2, m3⟩ := hm
    obtain ⟨c1, c2, c3, c4⟩ := psh_char hd hc hp r t (Nat.le_refl _) hT (fun j hj => by
      cases j with
      | zero => exact cl2_tht
      | succ j => exact hT1 (j + 1) (by omega) hj) hT2
    rw [m1, bo1_some]
    have hu : ∀ k, k ≠ 72 + 9 * a + 3 → k ≠ 72 + 9 * a + 5 → upd (upd s1 (72 + 9 * a + 3) (s1 (72 + 9 * a + 3) + 1)) (72 + 9 * a + 5) (upd s1 (72 + 9 * a + 3) (s1 (72 + 9 * a + 3) + 1) (72 + 9 * a + 5) + nI r) k = s1 k := fun k h3 h5 => by
      rw [show ∀ u v, upd u (72 + 9 * a + 5) v k = u k from fun u v => if_neg h5, show ∀ u v, upd u (72 + 9 * a + 3) v k = u k from fun u v => if_neg h3]
    have hR2 : RR (upd (upd s1 (72 + 9 * a + 3) (s1 (72 + 9 * a + 3) + 1)) (72 + 9 * a + 5) (upd s1 (72 + 9 * a + 3) (s1 (72 + 9 * a + 3) + 1) (72 + 9 * a + 5) + nI r)) a f (hmA (some d) (some r) h) I := by
      refine ⟨?_, fun j h2 h9 => ?_, fun j h1 h2 => ?_⟩
      · rw [hu _ (by omega) (by omega), m3 _ (by omega) (by omega) (by omega)]; exact hR.1
      · have ej : s1 (72 + 9 * a + j) = h j := by rw [m3 _ (by omega) (by omega) (by omega)]; exact hR.2.1 j h2 h9
        show _ = upd (upd h 3 (h 3 + 1)) 5 (h 5 + nI r) j
        by_cases e5 : j = 5
        · subst e5
          rw [show ∀ u v, upd u (72 + 9 * a + 5) v (72 + 9 * a + 5) = v from fun u v => if_pos rfl, show ∀ v, upd s1 (72 + 9 * a + 3) v (72 + 9 * a + 5) = s1 (72 + 9 * a + 5) from fun v => if_neg (by omega), ej]
          exact (if_pos rfl).symm
        · rw [show ∀ u v, upd u (72 + 9 * a + 5) v (72 + 9 * a + j) = u (72 + 9 * a + j) from fun u v => if_neg (by omega), show ∀ u v, upd u 5 v j = u j from fun u v => if_neg e5]
          by_cases e3 : j = 3
          · subst e3
            rw [show ∀ u v, upd u (72 + 9 * a + 3) v (72 + 9 * a + 3) = v from fun u v => if_pos rfl, ej]
            exact (if_pos rfl).symm
          · rw [show ∀ u v, upd u (72 + 9 * a + 3) v (72 + 9 * a + j) = u (72 + 9 * a + j) from fun u v => if_neg (by omega), ej]
            exact (if_neg e3).symm
      · rw [hu _ (by omega) (by omega), m3 _ (by omega) (by omega) (by omega)]
        exact hR.2.2 j (by rw [← (hmA_7 (some d) (some r) h).2]; exact h1) h2
    rw [hw]
    obtain ⟨s2, e1, e2, e3⟩ := g_J70 (k13 := fun vwy vah vs l2 l3 => mX9_follow_L13 n vwy vah vs l2 l3) (vwy := vwy) (vah := vah) (l2 := l2) ha hR2 (OKr_hm (some d) (some r) hO)
    rw [tfA_hm] at e2
    refine ⟨s2, psh d (cl2 t a) r t, e1, RS_keep m2 (fun k hk => ?_), c4, ⟨d, rfl, c1, c2, c3⟩, e2, fun k h1 h2 h3 h4 => ?_⟩
    · rw [e3 k (by omega) (by omega), hu k (by omega) (by omega)]
    · rw [e3 k (by omega) (by omega), hu k (by omega) (by omega), m3 k (Or.inr h1) h2 h3]
