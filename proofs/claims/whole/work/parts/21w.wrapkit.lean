/-! My own judgement for the methods of the law that catch -/
def my_nc (U : State) : Prop := ∀ q ∈ [("java/lang/IllegalArgumentException", "java/lang/IllegalStateException"), ("java/lang/IllegalArgumentException", "java/lang/IndexOutOfBoundsException"), ("java/lang/IllegalStateException", "java/lang/IllegalArgumentException"), ("java/lang/IllegalStateException", "java/lang/IndexOutOfBoundsException"), ("java/lang/IndexOutOfBoundsException", "java/lang/IllegalArgumentException"), ("java/lang/IndexOutOfBoundsException", "java/lang/IllegalStateException")], va_Nc q.1 q.2 U
theorem my_nc.moved {u U : State} (hvm : u.vm.Alike U.vm) (h : my_nc u) : my_nc U := fun q hq => (h q hq).moved hvm
def my_PcW (Γ : my_G) (w0 : va_W) (sz : Nat) (av : List Value) : Array Value → State → Prop := va_Pc av (fun U => (U.heap.size = sz ∧ va_P (my_D Γ) vwCl w0 U.heap ∧ my_K Γ U ∧ va_D (fun _ => True) w0) ∧ my_ZZ (va_A w0 sz) U U.heap ∧ my_str U ∧ my_nc U)
def MnW (l : Launch) (y : MethodName) (ws : List Cond) (rm : Room) (Γ : my_G) (av : List Value) (w0 : va_W) (res : Option Value) (w1 : va_W) (mc ms : Nat) : Prop :=
  ∀ sz : Nat, Met l y ws rm (my_PcW Γ w0 sz av) (my_Q Γ (va_A w0 sz) res w1) mc ms (va_A w0 sz)
theorem my_had2 {α : Type} {f : α → Option Value × va_W} {x : α ⊕ String} {res : Option Value} {w1 wc : va_W} (h : my_map f x = Sum.inl (res, w1)) (hf : ∀ a, ((f a).2).map Prod.fst = wc.map Prod.fst) : w1.map Prod.fst = wc.map Prod.fst := by
  cases x with
  | inl a => rw [← (my_map_ll h).2]; exact hf a
  | inr E => exact (my_map_rl h).elim
section MyWr
variable {p : Program} {l : Launch} {e : Env} {R : Room} {s : State} {m : MethodId} {args : Array Value} {below : List Frame} {meth : Method} {c : Code} {H : Heap} {locs : List Loc} {cells slots : Nat} {Q : State → Prop} {Γ : my_G}
variable {pc : Nat} {ls : Array Slot} {rest st0 : List Value} {A0 : Nat → Prop} {H0 : Heap} {av : Array Value}
theorem my_blindW {w0 : va_W} {sz : Nat} {avs : List Value} : FrameBlind (my_PcW Γ w0 sz avs) := fun a U g mk q => by
  obtain ⟨q0, q1, qZ, qS, qN⟩ := q
  obtain ⟨r0, r1, r2, r3⟩ := my_blindX (Γ := Γ) (w0 := w0) (sz := sz) (avs := avs) a U g mk ⟨q0, q1, qZ, qS⟩
  exact ⟨r0, r1, r2, r3, qN.moved (u := U) (U := U.calling g mk a) (Vm.Alike.refl U.vm)⟩
theorem my_preSW {wc ws : va_W} {As : List Value} (isC : List Nat) (hK : my_K Γ s) (hP : va_P (my_D Γ) vwCl ws H) (hD : va_D A0 ws) (hS : va_S A0 s.heap H locs) (hA : ∀ q, s.heap.size ≤ q → A0 q) (hZ : my_ZZ A0 s s.heap) (hstr : my_str s) (hnc : my_nc s) (hC : isC.map (fun i => ws[i]?) = wc.map some) (hn : va_nd isC = true) : PreS s H (my_PcW Γ wc H.size As) As :=
  ⟨my_blindW, fun U hU hW => ⟨rfl, ⟨by rw [hU], by rw [hU]; exact (my_sub hP hD hC hn).1, va_K.moved hW.alike hK, (my_sub hP hD hC hn).2⟩, hZ.at hS hW.alike hU (va_free hD hS hA isC hC), hstr.warm hW, hnc.moved hW.alike⟩⟩
end MyWr
def bh1 {α0 β : Type} (x : (α0) ⊕ String) (f : α0 → Option β) (h : String → Option β) : Option β := match x with
  | .inl q => f q
  | .inr E => h E
theorem bh1_s {α0 β : Type} {x : (α0) ⊕ String} {f : α0 → Option β} {h : String → Option β} {r : β} (hm : bh1 x f h = some r) : (∃ a0, x = .inl a0 ∧ f a0 = some r) ∨ ∃ E, x = .inr E ∧ h E = some r := by
  cases x with
  | inl q => exact Or.inl ⟨q, rfl, hm⟩
  | inr E => exact Or.inr ⟨E, rfl, hm⟩
def bh2 {α0 α1 β : Type} (x : (α0 × α1) ⊕ String) (f : α0 → α1 → Option β) (h : String → Option β) : Option β := match x with
  | .inl q => f q.1 q.2
  | .inr E => h E
theorem bh2_s {α0 α1 β : Type} {x : (α0 × α1) ⊕ String} {f : α0 → α1 → Option β} {h : String → Option β} {r : β} (hm : bh2 x f h = some r) : (∃ a0 a1, x = .inl (a0, a1) ∧ f a0 a1 = some r) ∨ ∃ E, x = .inr E ∧ h E = some r := by
  cases x with
  | inl q => exact Or.inl ⟨q.1, q.2, rfl, hm⟩
  | inr E => exact Or.inr ⟨E, rfl, hm⟩
def bh3 {α0 α1 α2 β : Type} (x : (α0 × α1 × α2) ⊕ String) (f : α0 → α1 → α2 → Option β) (h : String → Option β) : Option β := match x with
  | .inl q => f q.1 q.2.1 q.2.2
  | .inr E => h E
theorem bh3_s {α0 α1 α2 β : Type} {x : (α0 × α1 × α2) ⊕ String} {f : α0 → α1 → α2 → Option β} {h : String → Option β} {r : β} (hm : bh3 x f h = some r) : (∃ a0 a1 a2, x = .inl (a0, a1, a2) ∧ f a0 a1 a2 = some r) ∨ ∃ E, x = .inr E ∧ h E = some r := by
  cases x with
  | inl q => exact Or.inl ⟨q.1, q.2.1, q.2.2, rfl, hm⟩
  | inr E => exact Or.inr ⟨E, rfl, hm⟩
def bh4 {α0 α1 α2 α3 β : Type} (x : (α0 × α1 × α2 × α3) ⊕ String) (f : α0 → α1 → α2 → α3 → Option β) (h : String → Option β) : Option β := match x with
  | .inl q => f q.1 q.2.1 q.2.2.1 q.2.2.2
  | .inr E => h E
theorem bh4_s {α0 α1 α2 α3 β : Type} {x : (α0 × α1 × α2 × α3) ⊕ String} {f : α0 → α1 → α2 → α3 → Option β} {h : String → Option β} {r : β} (hm : bh4 x f h = some r) : (∃ a0 a1 a2 a3, x = .inl (a0, a1, a2, a3) ∧ f a0 a1 a2 a3 = some r) ∨ ∃ E, x = .inr E ∧ h E = some r := by
  cases x with
  | inl q => exact Or.inl ⟨q.1, q.2.1, q.2.2.1, q.2.2.2, rfl, hm⟩
  | inr E => exact Or.inr ⟨E, rfl, hm⟩
def bh5 {α0 α1 α2 α3 α4 β : Type} (x : (α0 × α1 × α2 × α3 × α4) ⊕ String) (f : α0 → α1 → α2 → α3 → α4 → Option β) (h : String → Option β) : Option β := match x with
  | .inl q => f q.1 q.2.1 q.2.2.1 q.2.2.2.1 q.2.2.2.2
  | .inr E => h E
theorem bh5_s {α0 α1 α2 α3 α4 β : Type} {x : (α0 × α1 × α2 × α3 × α4) ⊕ String} {f : α0 → α1 → α2 → α3 → α4 → Option β} {h : String → Option β} {r : β} (hm : bh5 x f h = some r) : (∃ a0 a1 a2 a3 a4, x = .inl (a0, a1, a2, a3, a4) ∧ f a0 a1 a2 a3 a4 = some r) ∨ ∃ E, x = .inr E ∧ h E = some r := by
  cases x with
  | inl q => exact Or.inl ⟨q.1, q.2.1, q.2.2.1, q.2.2.2.1, q.2.2.2.2, rfl, hm⟩
  | inr E => exact Or.inr ⟨E, rfl, hm⟩
def bh6 {α0 α1 α2 α3 α4 α5 β : Type} (x : (α0 × α1 × α2 × α3 × α4 × α5) ⊕ String) (f : α0 → α1 → α2 → α3 → α4 → α5 → Option β) (h : String → Option β) : Option β := match x with
  | .inl q => f q.1 q.2.1 q.2.2.1 q.2.2.2.1 q.2.2.2.2.1 q.2.2.2.2.2
  | .inr E => h E
theorem bh6_s {α0 α1 α2 α3 α4 α5 β : Type} {x : (α0 × α1 × α2 × α3 × α4 × α5) ⊕ String} {f : α0 → α1 → α2 → α3 → α4 → α5 → Option β} {h : String → Option β} {r : β} (hm : bh6 x f h = some r) : (∃ a0 a1 a2 a3 a4 a5, x = .inl (a0, a1, a2, a3, a4, a5) ∧ f a0 a1 a2 a3 a4 a5 = some r) ∨ ∃ E, x = .inr E ∧ h E = some r := by
  cases x with
  | inl q => exact Or.inl ⟨q.1, q.2.1, q.2.2.1, q.2.2.2.1, q.2.2.2.2.1, q.2.2.2.2.2, rfl, hm⟩
  | inr E => exact Or.inr ⟨E, rfl, hm⟩
def bh7 {α0 α1 α2 α3 α4 α5 α6 β : Type} (x : (α0 × α1 × α2 × α3 × α4 × α5 × α6) ⊕ String) (f : α0 → α1 → α2 → α3 → α4 → α5 → α6 → Option β) (h : String → Option β) : Option β := match x with
  | .inl q => f q.1 q.2.1 q.2.2.1 q.2.2.2.1 q.2.2.2.2.1 q.2.2.2.2.2.1 q.2.2.2.2.2.2
  | .inr E => h E
theorem bh7_s {α0 α1 α2 α3 α4 α5 α6 β : Type} {x : (α0 × α1 × α2 × α3 × α4 × α5 × α6) ⊕ String} {f : α0 → α1 → α2 → α3 → α4 → α5 → α6 → Option β} {h : String → Option β} {r : β} (hm : bh7 x f h = some r) : (∃ a0 a1 a2 a3 a4 a5 a6, x = .inl (a0, a1, a2, a3, a4, a5, a6) ∧ f a0 a1 a2 a3 a4 a5 a6 = some r) ∨ ∃ E, x = .inr E ∧ h E = some r := by
  cases x with
  | inl q => exact Or.inl ⟨q.1, q.2.1, q.2.2.1, q.2.2.2.1, q.2.2.2.2.1, q.2.2.2.2.2.1, q.2.2.2.2.2.2, rfl, hm⟩
  | inr E => exact Or.inr ⟨E, rfl, hm⟩
def bh8 {α0 α1 α2 α3 α4 α5 α6 α7 β : Type} (x : (α0 × α1 × α2 × α3 × α4 × α5 × α6 × α7) ⊕ String) (f : α0 → α1 → α2 → α3 → α4 → α5 → α6 → α7 → Option β) (h : String → Option β) : Option β := match x with
  | .inl q => f q.1 q.2.1 q.2.2.1 q.2.2.2.1 q.2.2.2.2.1 q.2.2.2.2.2.1 q.2.2.2.2.2.2.1 q.2.2.2.2.2.2.2
  | .inr E => h E
theorem bh8_s {α0 α1 α2 α3 α4 α5 α6 α7 β : Type} {x : (α0 × α1 × α2 × α3 × α4 × α5 × α6 × α7) ⊕ String} {f : α0 → α1 → α2 → α3 → α4 → α5 → α6 → α7 → Option β} {h : String → Option β} {r : β} (hm : bh8 x f h = some r) : (∃ a0 a1 a2 a3 a4 a5 a6 a7, x = .inl (a0, a1, a2, a3, a4, a5, a6, a7) ∧ f a0 a1 a2 a3 a4 a5 a6 a7 = some r) ∨ ∃ E, x = .inr E ∧ h E = some r := by
  cases x with
  | inl q => exact Or.inl ⟨q.1, q.2.1, q.2.2.1, q.2.2.2.1, q.2.2.2.2.1, q.2.2.2.2.2.1, q.2.2.2.2.2.2.1, q.2.2.2.2.2.2.2, rfl, hm⟩
  | inr E => exact Or.inr ⟨E, rfl, hm⟩
def bh9 {α0 α1 α2 α3 α4 α5 α6 α7 α8 β : Type} (x : (α0 × α1 × α2 × α3 × α4 × α5 × α6 × α7 × α8) ⊕ String) (f : α0 → α1 → α2 → α3 → α4 → α5 → α6 → α7 → α8 → Option β) (h : String → Option β) : Option β := match x with
  | .inl q => f q.1 q.2.1 q.2.2.1 q.2.2.2.1 q.2.2.2.2.1 q.2.2.2.2.2.1 q.2.2.2.2.2.2.1 q.2.2.2.2.2.2.2.1 q.2.2.2.2.2.2.2.2
  | .inr E => h E
theorem bh9_s {α0 α1 α2 α3 α4 α5 α6 α7 α8 β : Type} {x : (α0 × α1 × α2 × α3 × α4 × α5 × α6 × α7 × α8) ⊕ String} {f : α0 → α1 → α2 → α3 → α4 → α5 → α6 → α7 → α8 → Option β} {h : String → Option β} {r : β} (hm : bh9 x f h = some r) : (∃ a0 a1 a2 a3 a4 a5 a6 a7 a8, x = .inl (a0, a1, a2, a3, a4, a5, a6, a7, a8) ∧ f a0 a1 a2 a3 a4 a5 a6 a7 a8 = some r) ∨ ∃ E, x = .inr E ∧ h E = some r := by
  cases x with
  | inl q => exact Or.inl ⟨q.1, q.2.1, q.2.2.1, q.2.2.2.1, q.2.2.2.2.1, q.2.2.2.2.2.1, q.2.2.2.2.2.2.1, q.2.2.2.2.2.2.2.1, q.2.2.2.2.2.2.2.2, rfl, hm⟩
  | inr E => exact Or.inr ⟨E, rfl, hm⟩
def bh10 {α0 α1 α2 α3 α4 α5 α6 α7 α8 α9 β : Type} (x : (α0 × α1 × α2 × α3 × α4 × α5 × α6 × α7 × α8 × α9) ⊕ String) (f : α0 → α1 → α2 → α3 → α4 → α5 → α6 → α7 → α8 → α9 → Option β) (h : String → Option β) : Option β := match x with
  | .inl q => f q.1 q.2.1 q.2.2.1 q.2.2.2.1 q.2.2.2.2.1 q.2.2.2.2.2.1 q.2.2.2.2.2.2.1 q.2.2.2.2.2.2.2.1 q.2.2.2.2.2.2.2.2.1 q.2.2.2.2.2.2.2.2.2
  | .inr E => h E
theorem bh10_s {α0 α1 α2 α3 α4 α5 α6 α7 α8 α9 β : Type} {x : (α0 × α1 × α2 × α3 × α4 × α5 × α6 × α7 × α8 × α9) ⊕ String} {f : α0 → α1 → α2 → α3 → α4 → α5 → α6 → α7 → α8 → α9 → Option β} {h : String → Option β} {r : β} (hm : bh10 x f h = some r) : (∃ a0 a1 a2 a3 a4 a5 a6 a7 a8 a9, x = .inl (a0, a1, a2, a3, a4, a5, a6, a7, a8, a9) ∧ f a0 a1 a2 a3 a4 a5 a6 a7 a8 a9 = some r) ∨ ∃ E, x = .inr E ∧ h E = some r := by
  cases x with
  | inl q => exact Or.inl ⟨q.1, q.2.1, q.2.2.1, q.2.2.2.1, q.2.2.2.2.1, q.2.2.2.2.2.1, q.2.2.2.2.2.2.1, q.2.2.2.2.2.2.2.1, q.2.2.2.2.2.2.2.2.1, q.2.2.2.2.2.2.2.2.2, rfl, hm⟩
  | inr E => exact Or.inr ⟨E, rfl, hm⟩
def bh11 {α0 α1 α2 α3 α4 α5 α6 α7 α8 α9 α10 β : Type} (x : (α0 × α1 × α2 × α3 × α4 × α5 × α6 × α7 × α8 × α9 × α10) ⊕ String) (f : α0 → α1 → α2 → α3 → α4 → α5 → α6 → α7 → α8 → α9 → α10 → Option β) (h : String → Option β) : Option β := match x with
  | .inl q => f q.1 q.2.1 q.2.2.1 q.2.2.2.1 q.2.2.2.2.1 q.2.2.2.2.2.1 q.2.2.2.2.2.2.1 q.2.2.2.2.2.2.2.1 q.2.2.2.2.2.2.2.2.1 q.2.2.2.2.2.2.2.2.2.1 q.2.2.2.2.2.2.2.2.2.2
  | .inr E => h E
theorem bh11_s {α0 α1 α2 α3 α4 α5 α6 α7 α8 α9 α10 β : Type} {x : (α0 × α1 × α2 × α3 × α4 × α5 × α6 × α7 × α8 × α9 × α10) ⊕ String} {f : α0 → α1 → α2 → α3 → α4 → α5 → α6 → α7 → α8 → α9 → α10 → Option β} {h : String → Option β} {r : β} (hm : bh11 x f h = some r) : (∃ a0 a1 a2 a3 a4 a5 a6 a7 a8 a9 a10, x = .inl (a0, a1, a2, a3, a4, a5, a6, a7, a8, a9, a10) ∧ f a0 a1 a2 a3 a4 a5 a6 a7 a8 a9 a10 = some r) ∨ ∃ E, x = .inr E ∧ h E = some r := by
  cases x with
  | inl q => exact Or.inl ⟨q.1, q.2.1, q.2.2.1, q.2.2.2.1, q.2.2.2.2.1, q.2.2.2.2.2.1, q.2.2.2.2.2.2.1, q.2.2.2.2.2.2.2.1, q.2.2.2.2.2.2.2.2.1, q.2.2.2.2.2.2.2.2.2.1, q.2.2.2.2.2.2.2.2.2.2, rfl, hm⟩
  | inr E => exact Or.inr ⟨E, rfl, hm⟩
def bh12 {α0 α1 α2 α3 α4 α5 α6 α7 α8 α9 α10 α11 β : Type} (x : (α0 × α1 × α2 × α3 × α4 × α5 × α6 × α7 × α8 × α9 × α10 × α11) ⊕ String) (f : α0 → α1 → α2 → α3 → α4 → α5 → α6 → α7 → α8 → α9 → α10 → α11 → Option β) (h : String → Option β) : Option β := match x with
  | .inl q => f q.1 q.2.1 q.2.2.1 q.2.2.2.1 q.2.2.2.2.1 q.2.2.2.2.2.1 q.2.2.2.2.2.2.1 q.2.2.2.2.2.2.2.1 q.2.2.2.2.2.2.2.2.1 q.2.2.2.2.2.2.2.2.2.1 q.2.2.2.2.2.2.2.2.2.2.1 q.2.2.2.2.2.2.2.2.2.2.2
  | .inr E => h E
theorem bh12_s {α0 α1 α2 α3 α4 α5 α6 α7 α8 α9 α10 α11 β : Type} {x : (α0 × α1 × α2 × α3 × α4 × α5 × α6 × α7 × α8 × α9 × α10 × α11) ⊕ String} {f : α0 → α1 → α2 → α3 → α4 → α5 → α6 → α7 → α8 → α9 → α10 → α11 → Option β} {h : String → Option β} {r : β} (hm : bh12 x f h = some r) : (∃ a0 a1 a2 a3 a4 a5 a6 a7 a8 a9 a10 a11, x = .inl (a0, a1, a2, a3, a4, a5, a6, a7, a8, a9, a10, a11) ∧ f a0 a1 a2 a3 a4 a5 a6 a7 a8 a9 a10 a11 = some r) ∨ ∃ E, x = .inr E ∧ h E = some r := by
  cases x with
  | inl q => exact Or.inl ⟨q.1, q.2.1, q.2.2.1, q.2.2.2.1, q.2.2.2.2.1, q.2.2.2.2.2.1, q.2.2.2.2.2.2.1, q.2.2.2.2.2.2.2.1, q.2.2.2.2.2.2.2.2.1, q.2.2.2.2.2.2.2.2.2.1, q.2.2.2.2.2.2.2.2.2.2.1, q.2.2.2.2.2.2.2.2.2.2.2, rfl, hm⟩
  | inr E => exact Or.inr ⟨E, rfl, hm⟩
def bh13 {α0 α1 α2 α3 α4 α5 α6 α7 α8 α9 α10 α11 α12 β : Type} (x : (α0 × α1 × α2 × α3 × α4 × α5 × α6 × α7 × α8 × α9 × α10 × α11 × α12) ⊕ String) (f : α0 → α1 → α2 → α3 → α4 → α5 → α6 → α7 → α8 → α9 → α10 → α11 → α12 → Option β) (h : String → Option β) : Option β := match x with
  | .inl q => f q.1 q.2.1 q.2.2.1 q.2.2.2.1 q.2.2.2.2.1 q.2.2.2.2.2.1 q.2.2.2.2.2.2.1 q.2.2.2.2.2.2.2.1 q.2.2.2.2.2.2.2.2.1 q.2.2.2.2.2.2.2.2.2.1 q.2.2.2.2.2.2.2.2.2.2.1 q.2.2.2.2.2.2.2.2.2.2.2.1 q.2.2.2.2.2.2.2.2.2.2.2.2
  | .inr E => h E
theorem bh13_s {α0 α1 α2 α3 α4 α5 α6 α7 α8 α9 α10 α11 α12 β : Type} {x : (α0 × α1 × α2 × α3 × α4 × α5 × α6 × α7 × α8 × α9 × α10 × α11 × α12) ⊕ String} {f : α0 → α1 → α2 → α3 → α4 → α5 → α6 → α7 → α8 → α9 → α10 → α11 → α12 → Option β} {h : String → Option β} {r : β} (hm : bh13 x f h = some r) : (∃ a0 a1 a2 a3 a4 a5 a6 a7 a8 a9 a10 a11 a12, x = .inl (a0, a1, a2, a3, a4, a5, a6, a7, a8, a9, a10, a11, a12) ∧ f a0 a1 a2 a3 a4 a5 a6 a7 a8 a9 a10 a11 a12 = some r) ∨ ∃ E, x = .inr E ∧ h E = some r := by
  cases x with
  | inl q => exact Or.inl ⟨q.1, q.2.1, q.2.2.1, q.2.2.2.1, q.2.2.2.2.1, q.2.2.2.2.2.1, q.2.2.2.2.2.2.1, q.2.2.2.2.2.2.2.1, q.2.2.2.2.2.2.2.2.1, q.2.2.2.2.2.2.2.2.2.1, q.2.2.2.2.2.2.2.2.2.2.1, q.2.2.2.2.2.2.2.2.2.2.2.1, q.2.2.2.2.2.2.2.2.2.2.2.2, rfl, hm⟩
  | inr E => exact Or.inr ⟨E, rfl, hm⟩
def bh14 {α0 α1 α2 α3 α4 α5 α6 α7 α8 α9 α10 α11 α12 α13 β : Type} (x : (α0 × α1 × α2 × α3 × α4 × α5 × α6 × α7 × α8 × α9 × α10 × α11 × α12 × α13) ⊕ String) (f : α0 → α1 → α2 → α3 → α4 → α5 → α6 → α7 → α8 → α9 → α10 → α11 → α12 → α13 → Option β) (h : String → Option β) : Option β := match x with
  | .inl q => f q.1 q.2.1 q.2.2.1 q.2.2.2.1 q.2.2.2.2.1 q.2.2.2.2.2.1 q.2.2.2.2.2.2.1 q.2.2.2.2.2.2.2.1 q.2.2.2.2.2.2.2.2.1 q.2.2.2.2.2.2.2.2.2.1 q.2.2.2.2.2.2.2.2.2.2.1 q.2.2.2.2.2.2.2.2.2.2.2.1 q.2.2.2.2.2.2.2.2.2.2.2.2.1 q.2.2.2.2.2.2.2.2.2.2.2.2.2
  | .inr E => h E
theorem bh14_s {α0 α1 α2 α3 α4 α5 α6 α7 α8 α9 α10 α11 α12 α13 β : Type} {x : (α0 × α1 × α2 × α3 × α4 × α5 × α6 × α7 × α8 × α9 × α10 × α11 × α12 × α13) ⊕ String} {f : α0 → α1 → α2 → α3 → α4 → α5 → α6 → α7 → α8 → α9 → α10 → α11 → α12 → α13 → Option β} {h : String → Option β} {r : β} (hm : bh14 x f h = some r) : (∃ a0 a1 a2 a3 a4 a5 a6 a7 a8 a9 a10 a11 a12 a13, x = .inl (a0, a1, a2, a3, a4, a5, a6, a7, a8, a9, a10, a11, a12, a13) ∧ f a0 a1 a2 a3 a4 a5 a6 a7 a8 a9 a10 a11 a12 a13 = some r) ∨ ∃ E, x = .inr E ∧ h E = some r := by
  cases x with
  | inl q => exact Or.inl ⟨q.1, q.2.1, q.2.2.1, q.2.2.2.1, q.2.2.2.2.1, q.2.2.2.2.2.1, q.2.2.2.2.2.2.1, q.2.2.2.2.2.2.2.1, q.2.2.2.2.2.2.2.2.1, q.2.2.2.2.2.2.2.2.2.1, q.2.2.2.2.2.2.2.2.2.2.1, q.2.2.2.2.2.2.2.2.2.2.2.1, q.2.2.2.2.2.2.2.2.2.2.2.2.1, q.2.2.2.2.2.2.2.2.2.2.2.2.2, rfl, hm⟩
  | inr E => exact Or.inr ⟨E, rfl, hm⟩
def bh15 {α0 α1 α2 α3 α4 α5 α6 α7 α8 α9 α10 α11 α12 α13 α14 β : Type} (x : (α0 × α1 × α2 × α3 × α4 × α5 × α6 × α7 × α8 × α9 × α10 × α11 × α12 × α13 × α14) ⊕ String) (f : α0 → α1 → α2 → α3 → α4 → α5 → α6 → α7 → α8 → α9 → α10 → α11 → α12 → α13 → α14 → Option β) (h : String → Option β) : Option β := match x with
  | .inl q => f q.1 q.2.1 q.2.2.1 q.2.2.2.1 q.2.2.2.2.1 q.2.2.2.2.2.1 q.2.2.2.2.2.2.1 q.2.2.2.2.2.2.2.1 q.2.2.2.2.2.2.2.2.1 q.2.2.2.2.2.2.2.2.2.1 q.2.2.2.2.2.2.2.2.2.2.1 q.2.2.2.2.2.2.2.2.2.2.2.1 q.2.2.2.2.2.2.2.2.2.2.2.2.1 q.2.2.2.2.2.2.2.2.2.2.2.2.2.1 q.2.2.2.2.2.2.2.2.2.2.2.2.2.2
  | .inr E => h E
theorem bh15_s {α0 α1 α2 α3 α4 α5 α6 α7 α8 α9 α10 α11 α12 α13 α14 β : Type} {x : (α0 × α1 × α2 × α3 × α4 × α5 × α6 × α7 × α8 × α9 × α10 × α11 × α12 × α13 × α14) ⊕ String} {f : α0 → α1 → α2 → α3 → α4 → α5 → α6 → α7 → α8 → α9 → α10 → α11 → α12 → α13 → α14 → Option β} {h : String → Option β} {r : β} (hm : bh15 x f h = some r) : (∃ a0 a1 a2 a3 a4 a5 a6 a7 a8 a9 a10 a11 a12 a13 a14, x = .inl (a0, a1, a2, a3, a4, a5, a6, a7, a8, a9, a10, a11, a12, a13, a14) ∧ f a0 a1 a2 a3 a4 a5 a6 a7 a8 a9 a10 a11 a12 a13 a14 = some r) ∨ ∃ E, x = .inr E ∧ h E = some r := by
  cases x with
  | inl q => exact Or.inl ⟨q.1, q.2.1, q.2.2.1, q.2.2.2.1, q.2.2.2.2.1, q.2.2.2.2.2.1, q.2.2.2.2.2.2.1, q.2.2.2.2.2.2.2.1, q.2.2.2.2.2.2.2.2.1, q.2.2.2.2.2.2.2.2.2.1, q.2.2.2.2.2.2.2.2.2.2.1, q.2.2.2.2.2.2.2.2.2.2.2.1, q.2.2.2.2.2.2.2.2.2.2.2.2.1, q.2.2.2.2.2.2.2.2.2.2.2.2.2.1, q.2.2.2.2.2.2.2.2.2.2.2.2.2.2, rfl, hm⟩
  | inr E => exact Or.inr ⟨E, rfl, hm⟩
def bh16 {α0 α1 α2 α3 α4 α5 α6 α7 α8 α9 α10 α11 α12 α13 α14 α15 β : Type} (x : (α0 × α1 × α2 × α3 × α4 × α5 × α6 × α7 × α8 × α9 × α10 × α11 × α12 × α13 × α14 × α15) ⊕ String) (f : α0 → α1 → α2 → α3 → α4 → α5 → α6 → α7 → α8 → α9 → α10 → α11 → α12 → α13 → α14 → α15 → Option β) (h : String → Option β) : Option β := match x with
  | .inl q => f q.1 q.2.1 q.2.2.1 q.2.2.2.1 q.2.2.2.2.1 q.2.2.2.2.2.1 q.2.2.2.2.2.2.1 q.2.2.2.2.2.2.2.1 q.2.2.2.2.2.2.2.2.1 q.2.2.2.2.2.2.2.2.2.1 q.2.2.2.2.2.2.2.2.2.2.1 q.2.2.2.2.2.2.2.2.2.2.2.1 q.2.2.2.2.2.2.2.2.2.2.2.2.1 q.2.2.2.2.2.2.2.2.2.2.2.2.2.1 q.2.2.2.2.2.2.2.2.2.2.2.2.2.2.1 q.2.2.2.2.2.2.2.2.2.2.2.2.2.2.2
  | .inr E => h E
theorem bh16_s {α0 α1 α2 α3 α4 α5 α6 α7 α8 α9 α10 α11 α12 α13 α14 α15 β : Type} {x : (α0 × α1 × α2 × α3 × α4 × α5 × α6 × α7 × α8 × α9 × α10 × α11 × α12 × α13 × α14 × α15) ⊕ String} {f : α0 → α1 → α2 → α3 → α4 → α5 → α6 → α7 → α8 → α9 → α10 → α11 → α12 → α13 → α14 → α15 → Option β} {h : String → Option β} {r : β} (hm : bh16 x f h = some r) : (∃ a0 a1 a2 a3 a4 a5 a6 a7 a8 a9 a10 a11 a12 a13 a14 a15, x = .inl (a0, a1, a2, a3, a4, a5, a6, a7, a8, a9, a10, a11, a12, a13, a14, a15) ∧ f a0 a1 a2 a3 a4 a5 a6 a7 a8 a9 a10 a11 a12 a13 a14 a15 = some r) ∨ ∃ E, x = .inr E ∧ h E = some r := by
  cases x with
  | inl q => exact Or.inl ⟨q.1, q.2.1, q.2.2.1, q.2.2.2.1, q.2.2.2.2.1, q.2.2.2.2.2.1, q.2.2.2.2.2.2.1, q.2.2.2.2.2.2.2.1, q.2.2.2.2.2.2.2.2.1, q.2.2.2.2.2.2.2.2.2.1, q.2.2.2.2.2.2.2.2.2.2.1, q.2.2.2.2.2.2.2.2.2.2.2.1, q.2.2.2.2.2.2.2.2.2.2.2.2.1, q.2.2.2.2.2.2.2.2.2.2.2.2.2.1, q.2.2.2.2.2.2.2.2.2.2.2.2.2.2.1, q.2.2.2.2.2.2.2.2.2.2.2.2.2.2.2, rfl, hm⟩
  | inr E => exact Or.inr ⟨E, rfl, hm⟩
def bh17 {α0 α1 α2 α3 α4 α5 α6 α7 α8 α9 α10 α11 α12 α13 α14 α15 α16 β : Type} (x : (α0 × α1 × α2 × α3 × α4 × α5 × α6 × α7 × α8 × α9 × α10 × α11 × α12 × α13 × α14 × α15 × α16) ⊕ String) (f : α0 → α1 → α2 → α3 → α4 → α5 → α6 → α7 → α8 → α9 → α10 → α11 → α12 → α13 → α14 → α15 → α16 → Option β) (h : String → Option β) : Option β := match x with
  | .inl q => f q.1 q.2.1 q.2.2.1 q.2.2.2.1 q.2.2.2.2.1 q.2.2.2.2.2.1 q.2.2.2.2.2.2.1 q.2.2.2.2.2.2.2.1 q.2.2.2.2.2.2.2.2.1 q.2.2.2.2.2.2.2.2.2.1 q.2.2.2.2.2.2.2.2.2.2.1 q.2.2.2.2.2.2.2.2.2.2.2.1 q.2.2.2.2.2.2.2.2.2.2.2.2.1 q.2.2.2.2.2.2.2.2.2.2.2.2.2.1 q.2.2.2.2.2.2.2.2.2.2.2.2.2.2.1 q.2.2.2.2.2.2.2.2.2.2.2.2.2.2.2.1 q.2.2.2.2.2.2.2.2.2.2.2.2.2.2.2.2
  | .inr E => h E
theorem bh17_s {α0 α1 α2 α3 α4 α5 α6 α7 α8 α9 α10 α11 α12 α13 α14 α15 α16 β : Type} {x : (α0 × α1 × α2 × α3 × α4 × α5 × α6 × α7 × α8 × α9 × α10 × α11 × α12 × α13 × α14 × α15 × α16) ⊕ String} {f : α0 → α1 → α2 → α3 → α4 → α5 → α6 → α7 → α8 → α9 → α10 → α11 → α12 → α13 → α14 → α15 → α16 → Option β} {h : String → Option β} {r : β} (hm : bh17 x f h = some r) : (∃ a0 a1 a2 a3 a4 a5 a6 a7 a8 a9 a10 a11 a12 a13 a14 a15 a16, x = .inl (a0, a1, a2, a3, a4, a5, a6, a7, a8, a9, a10, a11, a12, a13, a14, a15, a16) ∧ f a0 a1 a2 a3 a4 a5 a6 a7 a8 a9 a10 a11 a12 a13 a14 a15 a16 = some r) ∨ ∃ E, x = .inr E ∧ h E = some r := by
  cases x with
  | inl q => exact Or.inl ⟨q.1, q.2.1, q.2.2.1, q.2.2.2.1, q.2.2.2.2.1, q.2.2.2.2.2.1, q.2.2.2.2.2.2.1, q.2.2.2.2.2.2.2.1, q.2.2.2.2.2.2.2.2.1, q.2.2.2.2.2.2.2.2.2.1, q.2.2.2.2.2.2.2.2.2.2.1, q.2.2.2.2.2.2.2.2.2.2.2.1, q.2.2.2.2.2.2.2.2.2.2.2.2.1, q.2.2.2.2.2.2.2.2.2.2.2.2.2.1, q.2.2.2.2.2.2.2.2.2.2.2.2.2.2.1, q.2.2.2.2.2.2.2.2.2.2.2.2.2.2.2.1, q.2.2.2.2.2.2.2.2.2.2.2.2.2.2.2.2, rfl, hm⟩
  | inr E => exact Or.inr ⟨E, rfl, hm⟩
def bh18 {α0 α1 α2 α3 α4 α5 α6 α7 α8 α9 α10 α11 α12 α13 α14 α15 α16 α17 β : Type} (x : (α0 × α1 × α2 × α3 × α4 × α5 × α6 × α7 × α8 × α9 × α10 × α11 × α12 × α13 × α14 × α15 × α16 × α17) ⊕ String) (f : α0 → α1 → α2 → α3 → α4 → α5 → α6 → α7 → α8 → α9 → α10 → α11 → α12 → α13 → α14 → α15 → α16 → α17 → Option β) (h : String → Option β) : Option β := match x with
  | .inl q => f q.1 q.2.1 q.2.2.1 q.2.2.2.1 q.2.2.2.2.1 q.2.2.2.2.2.1 q.2.2.2.2.2.2.1 q.2.2.2.2.2.2.2.1 q.2.2.2.2.2.2.2.2.1 q.2.2.2.2.2.2.2.2.2.1 q.2.2.2.2.2.2.2.2.2.2.1 q.2.2.2.2.2.2.2.2.2.2.2.1 q.2.2.2.2.2.2.2.2.2.2.2.2.1 q.2.2.2.2.2.2.2.2.2.2.2.2.2.1 q.2.2.2.2.2.2.2.2.2.2.2.2.2.2.1 q.2.2.2.2.2.2.2.2.2.2.2.2.2.2.2.1 q.2.2.2.2.2.2.2.2.2.2.2.2.2.2.2.2.1 q.2.2.2.2.2.2.2.2.2.2.2.2.2.2.2.2.2
  | .inr E => h E
theorem bh18_s {α0 α1 α2 α3 α4 α5 α6 α7 α8 α9 α10 α11 α12 α13 α14 α15 α16 α17 β : Type} {x : (α0 × α1 × α2 × α3 × α4 × α5 × α6 × α7 × α8 × α9 × α10 × α11 × α12 × α13 × α14 × α15 × α16 × α17) ⊕ String} {f : α0 → α1 → α2 → α3 → α4 → α5 → α6 → α7 → α8 → α9 → α10 → α11 → α12 → α13 → α14 → α15 → α16 → α17 → Option β} {h : String → Option β} {r : β} (hm : bh18 x f h = some r) : (∃ a0 a1 a2 a3 a4 a5 a6 a7 a8 a9 a10 a11 a12 a13 a14 a15 a16 a17, x = .inl (a0, a1, a2, a3, a4, a5, a6, a7, a8, a9, a10, a11, a12, a13, a14, a15, a16, a17) ∧ f a0 a1 a2 a3 a4 a5 a6 a7 a8 a9 a10 a11 a12 a13 a14 a15 a16 a17 = some r) ∨ ∃ E, x = .inr E ∧ h E = some r := by
  cases x with
  | inl q => exact Or.inl ⟨q.1, q.2.1, q.2.2.1, q.2.2.2.1, q.2.2.2.2.1, q.2.2.2.2.2.1, q.2.2.2.2.2.2.1, q.2.2.2.2.2.2.2.1, q.2.2.2.2.2.2.2.2.1, q.2.2.2.2.2.2.2.2.2.1, q.2.2.2.2.2.2.2.2.2.2.1, q.2.2.2.2.2.2.2.2.2.2.2.1, q.2.2.2.2.2.2.2.2.2.2.2.2.1, q.2.2.2.2.2.2.2.2.2.2.2.2.2.1, q.2.2.2.2.2.2.2.2.2.2.2.2.2.2.1, q.2.2.2.2.2.2.2.2.2.2.2.2.2.2.2.1, q.2.2.2.2.2.2.2.2.2.2.2.2.2.2.2.2.1, q.2.2.2.2.2.2.2.2.2.2.2.2.2.2.2.2.2, rfl, hm⟩
  | inr E => exact Or.inr ⟨E, rfl, hm⟩
def bh19 {α0 α1 α2 α3 α4 α5 α6 α7 α8 α9 α10 α11 α12 α13 α14 α15 α16 α17 α18 β : Type} (x : (α0 × α1 × α2 × α3 × α4 × α5 × α6 × α7 × α8 × α9 × α10 × α11 × α12 × α13 × α14 × α15 × α16 × α17 × α18) ⊕ String) (f : α0 → α1 → α2 → α3 → α4 → α5 → α6 → α7 → α8 → α9 → α10 → α11 → α12 → α13 → α14 → α15 → α16 → α17 → α18 → Option β) (h : String → Option β) : Option β := match x with
  | .inl q => f q.1 q.2.1 q.2.2.1 q.2.2.2.1 q.2.2.2.2.1 q.2.2.2.2.2.1 q.2.2.2.2.2.2.1 q.2.2.2.2.2.2.2.1 q.2.2.2.2.2.2.2.2.1 q.2.2.2.2.2.2.2.2.2.1 q.2.2.2.2.2.2.2.2.2.2.1 q.2.2.2.2.2.2.2.2.2.2.2.1 q.2.2.2.2.2.2.2.2.2.2.2.2.1 q.2.2.2.2.2.2.2.2.2.2.2.2.2.1 q.2.2.2.2.2.2.2.2.2.2.2.2.2.2.1 q.2.2.2.2.2.2.2.2.2.2.2.2.2.2.2.1 q.2.2.2.2.2.2.2.2.2.2.2.2.2.2.2.2.1 q.2.2.2.2.2.2.2.2.2.2.2.2.2.2.2.2.2.1 q.2.2.2.2.2.2.2.2.2.2.2.2.2.2.2.2.2.2
  | .inr E => h E
theorem bh19_s {α0 α1 α2 α3 α4 α5 α6 α7 α8 α9 α10 α11 α12 α13 α14 α15 α16 α17 α18 β : Type} {x : (α0 × α1 × α2 × α3 × α4 × α5 × α6 × α7 × α8 × α9 × α10 × α11 × α12 × α13 × α14 × α15 × α16 × α17 × α18) ⊕ String} {f : α0 → α1 → α2 → α3 → α4 → α5 → α6 → α7 → α8 → α9 → α10 → α11 → α12 → α13 → α14 → α15 → α16 → α17 → α18 → Option β} {h : String → Option β} {r : β} (hm : bh19 x f h = some r) : (∃ a0 a1 a2 a3 a4 a5 a6 a7 a8 a9 a10 a11 a12 a13 a14 a15 a16 a17 a18, x = .inl (a0, a1, a2, a3, a4, a5, a6, a7, a8, a9, a10, a11, a12, a13, a14, a15, a16, a17, a18) ∧ f a0 a1 a2 a3 a4 a5 a6 a7 a8 a9 a10 a11 a12 a13 a14 a15 a16 a17 a18 = some r) ∨ ∃ E, x = .inr E ∧ h E = some r := by
  cases x with
  | inl q => exact Or.inl ⟨q.1, q.2.1, q.2.2.1, q.2.2.2.1, q.2.2.2.2.1, q.2.2.2.2.2.1, q.2.2.2.2.2.2.1, q.2.2.2.2.2.2.2.1, q.2.2.2.2.2.2.2.2.1, q.2.2.2.2.2.2.2.2.2.1, q.2.2.2.2.2.2.2.2.2.2.1, q.2.2.2.2.2.2.2.2.2.2.2.1, q.2.2.2.2.2.2.2.2.2.2.2.2.1, q.2.2.2.2.2.2.2.2.2.2.2.2.2.1, q.2.2.2.2.2.2.2.2.2.2.2.2.2.2.1, q.2.2.2.2.2.2.2.2.2.2.2.2.2.2.2.1, q.2.2.2.2.2.2.2.2.2.2.2.2.2.2.2.2.1, q.2.2.2.2.2.2.2.2.2.2.2.2.2.2.2.2.2.1, q.2.2.2.2.2.2.2.2.2.2.2.2.2.2.2.2.2.2, rfl, hm⟩
  | inr E => exact Or.inr ⟨E, rfl, hm⟩
def bh20 {α0 α1 α2 α3 α4 α5 α6 α7 α8 α9 α10 α11 α12 α13 α14 α15 α16 α17 α18 α19 β : Type} (x : (α0 × α1 × α2 × α3 × α4 × α5 × α6 × α7 × α8 × α9 × α10 × α11 × α12 × α13 × α14 × α15 × α16 × α17 × α18 × α19) ⊕ String) (f : α0 → α1 → α2 → α3 → α4 → α5 → α6 → α7 → α8 → α9 → α10 → α11 → α12 → α13 → α14 → α15 → α16 → α17 → α18 → α19 → Option β) (h : String → Option β) : Option β := match x with
  | .inl q => f q.1 q.2.1 q.2.2.1 q.2.2.2.1 q.2.2.2.2.1 q.2.2.2.2.2.1 q.2.2.2.2.2.2.1 q.2.2.2.2.2.2.2.1 q.2.2.2.2.2.2.2.2.1 q.2.2.2.2.2.2.2.2.2.1 q.2.2.2.2.2.2.2.2.2.2.1 q.2.2.2.2.2.2.2.2.2.2.2.1 q.2.2.2.2.2.2.2.2.2.2.2.2.1 q.2.2.2.2.2.2.2.2.2.2.2.2.2.1 q.2.2.2.2.2.2.2.2.2.2.2.2.2.2.1 q.2.2.2.2.2.2.2.2.2.2.2.2.2.2.2.1 q.2.2.2.2.2.2.2.2.2.2.2.2.2.2.2.2.1 q.2.2.2.2.2.2.2.2.2.2.2.2.2.2.2.2.2.1 q.2.2.2.2.2.2.2.2.2.2.2.2.2.2.2.2.2.2.1 q.2.2.2.2.2.2.2.2.2.2.2.2.2.2.2.2.2.2.2
  | .inr E => h E
theorem bh20_s {α0 α1 α2 α3 α4 α5 α6 α7 α8 α9 α10 α11 α12 α13 α14 α15 α16 α17 α18 α19 β : Type} {x : (α0 × α1 × α2 × α3 × α4 × α5 × α6 × α7 × α8 × α9 × α10 × α11 × α12 × α13 × α14 × α15 × α16 × α17 × α18 × α19) ⊕ String} {f : α0 → α1 → α2 → α3 → α4 → α5 → α6 → α7 → α8 → α9 → α10 → α11 → α12 → α13 → α14 → α15 → α16 → α17 → α18 → α19 → Option β} {h : String → Option β} {r : β} (hm : bh20 x f h = some r) : (∃ a0 a1 a2 a3 a4 a5 a6 a7 a8 a9 a10 a11 a12 a13 a14 a15 a16 a17 a18 a19, x = .inl (a0, a1, a2, a3, a4, a5, a6, a7, a8, a9, a10, a11, a12, a13, a14, a15, a16, a17, a18, a19) ∧ f a0 a1 a2 a3 a4 a5 a6 a7 a8 a9 a10 a11 a12 a13 a14 a15 a16 a17 a18 a19 = some r) ∨ ∃ E, x = .inr E ∧ h E = some r := by
  cases x with
  | inl q => exact Or.inl ⟨q.1, q.2.1, q.2.2.1, q.2.2.2.1, q.2.2.2.2.1, q.2.2.2.2.2.1, q.2.2.2.2.2.2.1, q.2.2.2.2.2.2.2.1, q.2.2.2.2.2.2.2.2.1, q.2.2.2.2.2.2.2.2.2.1, q.2.2.2.2.2.2.2.2.2.2.1, q.2.2.2.2.2.2.2.2.2.2.2.1, q.2.2.2.2.2.2.2.2.2.2.2.2.1, q.2.2.2.2.2.2.2.2.2.2.2.2.2.1, q.2.2.2.2.2.2.2.2.2.2.2.2.2.2.1, q.2.2.2.2.2.2.2.2.2.2.2.2.2.2.2.1, q.2.2.2.2.2.2.2.2.2.2.2.2.2.2.2.2.1, q.2.2.2.2.2.2.2.2.2.2.2.2.2.2.2.2.2.1, q.2.2.2.2.2.2.2.2.2.2.2.2.2.2.2.2.2.2.1, q.2.2.2.2.2.2.2.2.2.2.2.2.2.2.2.2.2.2.2, rfl, hm⟩
  | inr E => exact Or.inr ⟨E, rfl, hm⟩
abbrev wOut (Γ : my_G) (q_ou : Nat) (vou : Nat → Int64) : va_W := [(q_ou, .inl (Γ.2.2 1, 1, .inr (.inl vou)))]
