/-! My own judgement for methods that return or throw -/
def my_strs : List (Nat × String) := [(134, "no such checkpoint"), (174, "no such place"), (179, "no such kind"), (185, "a thing or a checkpoint is on the cell"), (198, "the cell takes no crate, or there are enough"), (203, "no crate is there"), (211, "the cell takes no checkpoint, or there are enough"), (216, "no such direction"), (221, "the cell takes no robot"), (227, "no such instruction"), (229, "the program is full"), (237, "no such number of steps"), (245, "no state is remembered"), (303, "no such number of turns"), (320, "nothing has been saved there"), (322, "no such cell"), (324, "no such robot"), (326, "no such save slot"), (59, "no such character code"), (70, "the text is full"), (81, "the text is not a floor")]
def my_cst (X : String) (U : State) : Prop := va_Nw (.castable X X) U
def my_str (U : State) : Prop := (∀ q ∈ my_strs, ∃ a, vk_R RX8 q.1 q.2 a U) ∧ my_cst "java/lang/IndexOutOfBoundsException" U ∧ my_cst "java/lang/IllegalArgumentException" U ∧ my_cst "java/lang/IllegalStateException" U ∧ va_Nw (Cond.declares (Bundle.initS "java/lang/RuntimeException")) U ∧ va_Nw (Cond.declares (Bundle.initS "java/lang/Exception")) U ∧ va_Nw (Cond.declares (Bundle.initS Bundle.tN)) U
def my_ZZ (A : Nat → Prop) (U : State) (H : Heap) : Prop := vx_Zq Bundle.tN "UNASSIGNED_STACK" Bundle.steD A U H ∧ vx_Zq Bundle.tN "SUPPRESSED_SENTINEL" Bundle.listD A U H
def my_PcX (Γ : my_G) (w0 : va_W) (sz : Nat) (av : List Value) : Array Value → State → Prop := va_Pc av (fun U => (U.heap.size = sz ∧ va_P (my_D Γ) vwCl w0 U.heap ∧ my_K Γ U ∧ va_D (fun _ => True) w0) ∧ my_ZZ (va_A w0 sz) U U.heap ∧ my_str U)
abbrev my_RO : Type := (Option Value × va_W) ⊕ String
def my_QR (Γ : my_G) (A : Nat → Prop) (ro : my_RO) : Array Value → State → Outcome → State → Prop := fun _ st oc t => ∃ (res : Option Value) (w1 : va_W), ro = Sum.inl (res, w1) ∧ (oc = .returned res ∧ va_P (my_D Γ) vwCl w1 t.heap) ∧ va_F A st t
def my_XC (Γ : my_G) (A : Nat → Prop) (w0 : va_W) (ro : my_RO) : String → State → State → Prop := fun E st t => ro = Sum.inr E ∧ va_P (my_D Γ) vwCl w0 t.heap ∧ va_F A st t
def MnX (l : Launch) (y : MethodName) (ws : List Cond) (rm : Room) (Γ : my_G) (av : List Value) (w0 : va_W) (ro : my_RO) (mc ms : Nat) : Prop :=
  ∀ sz : Nat, vx_Met l y ws rm (my_PcX Γ w0 sz av) (my_QR Γ (va_A w0 sz) ro) (my_XC Γ (va_A w0 sz) w0 ro) mc ms (va_A w0 sz)
def my_map {α : Type} (f : α → Option Value × va_W) : α ⊕ String → my_RO
  | .inl a => .inl (f a)
  | .inr E => .inr E
theorem my_map_lr {α : Type} {f : α → Option Value × va_W} {a : α} {E : String} (h : my_map f (.inl a) = .inr E) : False := by
  have h1 : (Sum.inl (f a) : my_RO) = .inr E := h
  cases h1
theorem my_map_rl {α : Type} {f : α → Option Value × va_W} {E : String} {q : Option Value × va_W} (h : my_map f (.inr E) = .inl q) : False := by
  have h1 : (Sum.inr E : my_RO) = .inl q := h
  cases h1
theorem my_map_rr {α : Type} {f : α → Option Value × va_W} {E E2 : String} (h : my_map f (.inr E) = .inr E2) : E = E2 := by
  have h1 : (Sum.inr E : my_RO) = .inr E2 := h
  exact Sum.inr.inj h1
theorem my_map_ll {α : Type} {f : α → Option Value × va_W} {a : α} {res : Option Value} {w1 : va_W} (h : my_map f (.inl a) = .inl (res, w1)) : (f a).1 = res ∧ (f a).2 = w1 := by
  have h1 : (Sum.inl (f a) : my_RO) = .inl (res, w1) := h
  have h2 := Sum.inl.inj h1
  exact ⟨congrArg Prod.fst h2, congrArg Prod.snd h2⟩
def bx1 {α β : Type} (x : α ⊕ String) (f : α → Option (β ⊕ String)) : Option (β ⊕ String) := match x with
  | .inl a => f a
  | .inr E => some (.inr E)
def tx1 {α β : Type} (x : α ⊕ String) (f : α → β ⊕ String) : β ⊕ String := match x with
  | .inl a => f a
  | .inr E => .inr E
theorem bx1_s {α β : Type} {x : α ⊕ String} {f : α → Option (β ⊕ String)} {r : β ⊕ String} (h : bx1 x f = some r) : (∃ a, x = .inl a ∧ f a = some r) ∨ ∃ E, x = .inr E ∧ r = .inr E := by
  cases x with
  | inl a => exact Or.inl ⟨a, rfl, h⟩
  | inr E => exact Or.inr ⟨E, rfl, (Option.some.inj h).symm⟩
theorem tx1_s {α β : Type} {x : α ⊕ String} {f : α → β ⊕ String} {r : β ⊕ String} (h : tx1 x f = r) : (∃ a, x = .inl a ∧ f a = r) ∨ ∃ E, x = .inr E ∧ r = .inr E := by
  cases x with
  | inl a => exact Or.inl ⟨a, rfl, h⟩
  | inr E => exact Or.inr ⟨E, rfl, h.symm⟩
theorem if_yes {β : Type} {c : Prop} [Decidable c] {a : Option β} {r : β} (h : (if c then a else none) = some r) : c ∧ a = some r := by
  by_cases hc : c
  · rw [if_pos hc] at h
    exact ⟨hc, h⟩
  · rw [if_neg hc] at h
    cases h
theorem my_thr {Γ : my_G} {A : Nat → Prop} {w : va_W} {s t : State} {H : Heap} {locs : List Loc} (hP : va_P (my_D Γ) vwCl w H) (hS : va_S A s.heap H locs) (hz : H.size ≤ t.heap.size) (hk : ∀ q : Nat, q < H.size → t.heap[q]? = H[q]?) : va_P (my_D Γ) vwCl w t.heap ∧ va_F A s t :=
  ⟨fun k q hq => (hP k q hq).kept (hk q.1 ((hP k q hq).lt)), Nat.le_trans hS.1 hz, fun q h1 h2 => (hk q (Nat.lt_of_lt_of_le h1 hS.1)).trans (hS.2.1 q h1 h2)⟩
theorem my_ZZ.at {A : Nat → Prop} {s U : State} {H : Heap} {locs : List Loc} {B : Nat → Prop} (h : my_ZZ A s s.heap) (hS : va_S A s.heap H locs) (hW : s.vm.Alike U.vm) (hU : U.heap = H) (hAB : ∀ q, B q → A q) : my_ZZ B U U.heap := by
  rw [hU]
  exact ⟨((h.1.kept hS.2.1).moved hW).narrow hAB, ((h.2.kept hS.2.1).moved hW).narrow hAB⟩
theorem my_str.warm {s U : State} (hW : s.WarmedH U.vm) (h : my_str s) : my_str U := ⟨fun q hq => by
  obtain ⟨a, ha⟩ := h.1 q hq
  exact ⟨a, vk_R.warm hW ha⟩, va_Nw.warmC hW h.2.1, va_Nw.warmC hW h.2.2.1, va_Nw.warmC hW h.2.2.2.1, va_Nw.warmD hW h.2.2.2.2.1, va_Nw.warmD hW h.2.2.2.2.2.1, va_Nw.warmD hW h.2.2.2.2.2.2⟩
theorem my_put_same : ∀ (is : List Nat) (wc ws : va_W), is.map (fun i => ws[i]?) = wc.map some → my_put ws is wc = ws
  | [], wc, ws, _ => by cases wc <;> rfl
  | i :: is, [], ws, h => by simp at h
  | i :: is, c :: cs, ws, h => by
    simp only [List.map_cons, List.cons.injEq] at h
    have h1 : ws.set i c = ws := by
      obtain ⟨hlt, he⟩ := List.getElem?_eq_some_iff.mp h.1
      rw [← he]
      exact List.set_getElem_self hlt
    show my_put (ws.set i c) is cs = ws
    rw [h1]
    exact my_put_same is cs ws h.2
section MyX
variable {p : Program} {l : Launch} {e : Env} {R : Room} {s : State} {m : MethodId} {args : Array Value} {below : List Frame} {meth : Method} {c : Code} {H : Heap} {locs : List Loc} {cells slots : Nat} {Q : State → Prop} {Γ : my_G}
variable {pc : Nat} {ls : Array Slot} {rest st0 : List Value} {A0 : Nat → Prop} {H0 : Heap} {av : Array Value}
theorem my_blindX {w0 : va_W} {sz : Nat} {avs : List Value} : FrameBlind (my_PcX Γ w0 sz avs) := fun a U g mk q => by
  obtain ⟨q0, ⟨q1, qP, qK, qD⟩, qZ, qS⟩ := q
  exact ⟨q0, ⟨q1, qP, va_K.moved (u := U) (U := U.calling g mk a) (Vm.Alike.refl U.vm) qK, qD⟩, ⟨qZ.1.moved (u := U) (U := U.calling g mk a) (Vm.Alike.refl U.vm), qZ.2.moved (u := U) (U := U.calling g mk a) (Vm.Alike.refl U.vm)⟩, ⟨fun x hx => by
    obtain ⟨b, hb⟩ := qS.1 x hx
    exact ⟨b, vk_R.same (u := U) (U := U.calling g mk a) rfl hb⟩, va_Nw.same (u := U) (U := U.calling g mk a) rfl rfl qS.2.1, va_Nw.same (u := U) (U := U.calling g mk a) rfl rfl qS.2.2.1, va_Nw.same (u := U) (U := U.calling g mk a) rfl rfl qS.2.2.2.1, va_Nw.same (u := U) (U := U.calling g mk a) rfl rfl qS.2.2.2.2.1, va_Nw.same (u := U) (U := U.calling g mk a) rfl rfl qS.2.2.2.2.2.1, va_Nw.same (u := U) (U := U.calling g mk a) rfl rfl qS.2.2.2.2.2.2⟩⟩
theorem my_preSX {wc ws : va_W} {As : List Value} (isC : List Nat) (hK : my_K Γ s) (hP : va_P (my_D Γ) vwCl ws H) (hD : va_D A0 ws) (hS : va_S A0 s.heap H locs) (hA : ∀ q, s.heap.size ≤ q → A0 q) (hZ : my_ZZ A0 s s.heap) (hstr : my_str s) (hC : isC.map (fun i => ws[i]?) = wc.map some) (hn : va_nd isC = true) : PreS s H (my_PcX Γ wc H.size As) As :=
  ⟨my_blindX, fun U hU hW => ⟨rfl, ⟨by rw [hU], by rw [hU]; exact (my_sub hP hD hC hn).1, va_K.moved hW.alike hK, (my_sub hP hD hC hn).2⟩, hZ.at hS hW.alike hU (va_free hD hS hA isC hC), hstr.warm hW⟩⟩
theorem my_preVX {wc ws : va_W} {As : List Value} {b q0 ci : Nat} {q : vw_C} {fs : List Value} (isC : List Nat) (hK : my_K Γ s) (hP : va_P (my_D Γ) vwCl ws H) (hD : va_D A0 ws) (hS : va_S A0 s.heap H locs) (hA : ∀ q, s.heap.size ≤ q → A0 q) (hZ : my_ZZ A0 s s.heap) (hstr : my_str s) (hC : isC.map (fun i => ws[i]?) = wc.map some) (hn : va_nd isC = true) (hc : vwCl[ci]? = some q) (he : ws[q0]? = some (b, .inr (ci, fs))) : PreV s H q.1 b (my_PcX Γ wc H.size (.ref b :: As)) As :=
  ⟨my_blindX, va_recv hK hP hc he, fun U hU hW => ⟨rfl, ⟨by rw [hU], by rw [hU]; exact (my_sub hP hD hC hn).1, va_K.moved hW.alike hK, (my_sub hP hD hC hn).2⟩, hZ.at hS hW.alike hU (va_free hD hS hA isC hC), hstr.warm hW⟩⟩
/-- a call of a method that returns or throws -/
theorem my_callX {wc ws : va_W} {ro : my_RO} {mc ms : Nat} (hP : va_P (my_D Γ) vwCl ws H) (hD : va_D A0 ws) (hS : va_S A0 H0 H locs) (hA : ∀ q, H0.size ≤ q → A0 q) (isC : List Nat) (hC : isC.map (fun i => ws[i]?) = wc.map some) (hn : va_nd isC = true) (had : ∀ res w1, ro = Sum.inl (res, w1) → w1.map Prod.fst = wc.map Prod.fst)
    (hr : vx_Run p l e R s m args below meth c H locs cells slots mc ms (F0 m pc ls st0) rest (my_QR Γ (va_A wc H.size) ro av) (my_XC Γ (va_A wc H.size) wc ro) (va_A wc H.size))
    (kx : ∀ (E : String) (H1 : Heap) (locs1 : List Loc) (q9 : Addr) (ce : Cell), ro = Sum.inr E → va_P (my_D Γ) vwCl ws H1 → va_S A0 H0 H1 locs1 → H1[q9]? = some ce → ce.vm = .none → s.vm.findClass E = some ce.cls → vx_W p l e R s m args below meth c H1 locs1 (cells + mc) (slots + ms) Q (F0 m pc ls rest) q9)
    (kk : ∀ (res : Option Value) (w1 : va_W) (H1 : Heap) (locs1 : List Loc), ro = Sum.inl (res, w1) → va_P (my_D Γ) vwCl (my_put ws isC w1) H1 → va_D A0 (my_put ws isC w1) → va_S A0 H0 H1 locs1 → W p l e R s m args below meth c H1 locs1 (cells + mc) (slots + ms) Q (F0 m (pc + 3) ls (res.toList ++ rest))) : W p l e R s m args below meth c H locs cells slots Q (F0 m pc ls st0) := by
  intro T hT X
  have hFc := va_free (wc := wc) hD hS hA isC hC
  have hSS : ∀ {T' t st₀ : State} {L : List Loc}, st₀.heap = H → T'.heap = t.heap → va_F (va_A wc H.size) st₀ t → (∀ q ∈ L, va_A wc H.size q.base) → va_S A0 H0 T'.heap (locs ++ L) := by
    intro T' t st₀ L h0 e1 hF hL
    obtain ⟨hz, hk⟩ := hF
    rw [h0] at hz hk
    exact ⟨Nat.le_trans hS.1 (by rw [e1]; exact hz), fun q h1 h2 => by rw [e1, hk q (Nat.lt_of_lt_of_le h1 hS.1) (fun z => h2 (hFc q z))]; exact hS.2.1 q h1 h2, fun q hq => by
      rcases List.mem_append.mp hq with h | h
      · exact hS.2.2 q h
      · exact hFc _ (hL q h)⟩
  rcases hr T hT X with ⟨v, st₀, t, T', L, h0, X', hL, e1, e2, ⟨res, w1, hro, ⟨hv, hp⟩, hF⟩, st⟩ | ⟨q, st₀, t, T', L, E, ce, h0, X', hL, e1, e2, ⟨hro, hp, hF⟩, hce, hcv, hcl, st⟩
  · cases hv
    have hk1 : ∀ q : Nat, q < H.size → ¬ va_A wc H.size q → T'.heap[q]? = H[q]? := fun q h1 h2 => by
      have h9 := hF.2 q (by rw [h0]; exact h1) h2
      rw [h0] at h9
      rw [e1]; exact h9
    obtain ⟨g1, g2⟩ := my_join hP hD isC hC (had _ _ hro) rfl hk1 (by rw [e1]; exact hp)
    obtain ⟨t2, a1, b1⟩ := kk _ w1 T'.heap (locs ++ L) hro g1 g2 (hSS h0 e1 hF hL) T' rfl X'
    exact ⟨t2, st t2 a1, b1⟩
  · have hk1 : ∀ q : Nat, q < H.size → ¬ va_A wc H.size q → T'.heap[q]? = H[q]? := fun q h1 h2 => by
      have h9 := hF.2 q (by rw [h0]; exact h1) h2
      rw [h0] at h9
      rw [e1]; exact h9
    have hput : my_put ws isC wc = ws := my_put_same isC wc ws hC
    obtain ⟨g1, g2⟩ := my_join hP hD isC hC rfl hput hk1 (by rw [e1]; exact hp)
    obtain ⟨t2, a1, b1⟩ := kx E T'.heap (locs ++ L) q ce hro g1 (hSS h0 e1 hF hL) (by rw [e1]; exact hce) hcv hcl T' rfl X'
    exact ⟨t2, st.trans a1, b1⟩
end MyX
theorem my_fitN : ∀ n ∈ ["java/lang/RuntimeException", "java/lang/Exception"], Bundle.fit n = true := by decide +kernel
theorem my_had {w1 : va_W} {res : Option Value} {x : Unit ⊕ String} (h : my_map (fun _ : Unit => ((none : Option Value), ([] : va_W))) x = Sum.inl (res, w1)) : w1.map Prod.fst = (([] : va_W)).map Prod.fst := by
  cases x with
  | inl a => cases h; rfl
  | inr E => cases h
theorem my_fitB : Bundle.fit "java/lang/IndexOutOfBoundsException" = true := by decide +kernel
theorem my_ngB : ∀ w ∈ (vx_atS RX8 136 "java/lang/IndexOutOfBoundsException" ["java/lang/RuntimeException", "java/lang/Exception"]).filter (fun w => !goodWord w), w ∈ [Cond.castable "java/lang/IndexOutOfBoundsException" "java/lang/IndexOutOfBoundsException", Cond.declares (Bundle.initS "java/lang/RuntimeException"), Cond.declares (Bundle.initS "java/lang/Exception"), Cond.declares (Bundle.initS Bundle.tN)] := by decide +kernel
theorem my_gdB : ∀ w ∈ Cond.classLink RX8 132 "java/lang/IndexOutOfBoundsException" :: Cond.initialized "java/lang/IndexOutOfBoundsException" :: vx_atS RX8 136 "java/lang/IndexOutOfBoundsException" ["java/lang/RuntimeException", "java/lang/Exception"], vx_ot w = true := by decide +kernel
theorem my_fitA : Bundle.fit "java/lang/IllegalArgumentException" = true := by decide +kernel
theorem my_ngA : ∀ w ∈ (vx_atS RX8 61 "java/lang/IllegalArgumentException" ["java/lang/RuntimeException", "java/lang/Exception"]).filter (fun w => !goodWord w), w ∈ [Cond.castable "java/lang/IllegalArgumentException" "java/lang/IllegalArgumentException", Cond.declares (Bundle.initS "java/lang/RuntimeException"), Cond.declares (Bundle.initS "java/lang/Exception"), Cond.declares (Bundle.initS Bundle.tN)] := by decide +kernel
theorem my_gdA : ∀ w ∈ Cond.classLink RX8 57 "java/lang/IllegalArgumentException" :: Cond.initialized "java/lang/IllegalArgumentException" :: vx_atS RX8 61 "java/lang/IllegalArgumentException" ["java/lang/RuntimeException", "java/lang/Exception"], vx_ot w = true := by decide +kernel
theorem my_fitS : Bundle.fit "java/lang/IllegalStateException" = true := by decide +kernel
theorem my_ngS : ∀ w ∈ (vx_atS RX8 72 "java/lang/IllegalStateException" ["java/lang/RuntimeException", "java/lang/Exception"]).filter (fun w => !goodWord w), w ∈ [Cond.castable "java/lang/IllegalStateException" "java/lang/IllegalStateException", Cond.declares (Bundle.initS "java/lang/RuntimeException"), Cond.declares (Bundle.initS "java/lang/Exception"), Cond.declares (Bundle.initS Bundle.tN)] := by decide +kernel
theorem my_gdS : ∀ w ∈ Cond.classLink RX8 68 "java/lang/IllegalStateException" :: Cond.initialized "java/lang/IllegalStateException" :: vx_atS RX8 72 "java/lang/IllegalStateException" ["java/lang/RuntimeException", "java/lang/Exception"], vx_ot w = true := by decide +kernel
theorem my_rf (r : Option Nat) : va_rf r = .null ∨ ∃ a, va_rf r = .ref a := by
  cases r with
  | none => exact Or.inl rfl
  | some a => exact Or.inr ⟨a, rfl⟩
