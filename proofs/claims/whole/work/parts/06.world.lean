theorem if_tB {α β : Type} {c : Prop} [Decidable c] {a b : Option α} {f : α → Option β} {o : Option β} (h : (if c then a else b).bind f = o) (hc : c) : a.bind f = o := by rw [if_pos hc] at h; exact h
theorem if_fB {α β : Type} {c : Prop} [Decidable c] {a b : Option α} {f : α → Option β} {o : Option β} (h : (if c then a else b).bind f = o) (hc : ¬ c) : b.bind f = o := by rw [if_neg hc] at h; exact h
theorem gd_someB {α β : Type} {c : Prop} [Decidable c] {r : Option α} {f : α → Option β} {o : β} (h : (gd c r).bind f = some o) : c ∧ r.bind f = some o := by
  unfold gd at h
  by_cases hc : c
  · rw [if_pos hc] at h; exact ⟨hc, h⟩
  · rw [if_neg hc] at h; cases h
theorem bd_someB {α β γ : Type} {x : Option α} {g : α → Option β} {f : β → Option γ} {o : γ} (h : (x.bind g).bind f = some o) : ∃ y, x = some y ∧ (g y).bind f = some o := by
  cases x with
  | none => cases h
  | some y => exact ⟨y, rfl, h⟩
theorem bs_some {α β : Type} {v : α} {f : α → Option β} {o : Option β} (h : (some v).bind f = o) : f v = o := h
theorem jn {α β : Type} {E : Option α} {F : α → Option β} {o : β} {P : α → Prop} {G : Prop} (hs : E.bind F = some o) (h1 : ∀ q, F q = some o → P q) (h2 : (∀ q, F q = some o → P q) → E.bind F = some o → G) : G := h2 h1 hs
def dv (a b : Int32) : UInt64 := if b = 0 then FP.i2d a else FP.ddiv (FP.i2d a) (FP.i2d b)
def dq (a b c : Int32) : UInt64 := if c = 0 then 0 else dv a b

/-! the cells by their names -/
abbrev gTy (cA : Nat → ClassId) : List (ClassId × FieldType) := [(cA 0, .int), (cA 1, .char), (cA 2, .object RX4), (cA 3, .object RX5), (cA 4, .object RX0), (cA 5, .object RX2), (cA 6, .object RX1), (cA 7, .long), (cA 8, .double), (cA 9, .byte)]
/-- a reference that is still to be put -/
def rc (x : Int32) (a : Nat) : Value := if x = 0 then .null else .ref a
def ro (x : Int32) (a : Nat) : Option Nat := if x = 0 then none else some a
def ct (cA : Nat → ClassId) (ad : Ad) (k t i : Nat) (r : Nat → Int32) : va_E := match k with
  | 0 => .inr (0, [.int (r 0), .int (r 1), .int (r 2), .int (r 3), .int (r 4), .int (r 5), .int (r 6), .int (r 7), .int (r 8), .int (r 9), .int (r 10), .int (r 11), .int (r 12), .int (r 13), .int (r 14)])
  | 1 => .inr (1, [.int (r 0), .int (r 1), .int (r 2), .int (r 3), .int (r 4), .int (r 5), .int (r 6), .int (r 7), .int (r 8), .int (r 9), .int (r 10), .int (r 11)])
  | 2 => .inr (2, [.int (r 0), .int (r 1), .int (r 2), .int (r 3), .ref (ad 10 0 i), .ref (ad 11 0 i), .ref (ad 12 0 i), .ref (ad 13 0 i)])
  | 3 => .inr (3, [.ref (ad 2 0 i), .int (r 1), .ref (ad 23 0 0), .int (r 3)])
  | 4 => .inr (4, [.int (r 0), .int (r 1), .int (r 2), .int (r 3), .int (r 4), .int (r 5), .int (r 6), .int (r 7), .int (r 8), .ref (ad 15 t 0), .ref (ad 16 t 0), .ref (ad 17 t 0), .ref (ad 18 t 0), .ref (ad 19 t 0), .ref (ad 20 t 0), .ref (ad 21 t 0)])
  | 5 => .inr (5, [.int (r 0), .int (r 1), .int (r 2), .ref (ad 14 t i)])
  | 6 => .inr (6, [.ref (ad 4 0 0), .ref (ad 4 1 0), .ref (ad 4 2 0), .ref (ad 22 0 0), .int (r 4), .int (r 5), .int (r 6), .ref (ad 23 0 0), .int (r 8), .ref (ad 8 0 0)])
  | 7 => .inr (7, [.int (r 0), .ref (ad 24 0 0), .ref (ad 25 0 0), .ref (ad 26 0 0), .ref (ad 27 0 0), .ref (ad 28 0 0), .ref (ad 29 0 0), .int (r 7), .int (r 8), .int (r 9), .int (r 10), .int (r 11), .int (r 12), .int (r 13), .ref (ad 30 0 0), .ref (ad 31 0 0), .int (r 16), .int (r 17), .ref (ad 32 0 0), .ref (ad 33 0 0), .ref (ad 34 0 0), .int (r 21), .int (r 22), .int (r 23), .int (r 24), .ref (ad 35 0 0), .int (r 26)])
  | 8 => .inr (8, [.ref (ad 9 0 0), .int (r 1), .int (r 2), .int (r 0)])
  | 9 => .inl (cA 9, (r 200).toNatClampNeg, .inl r)
  | 10 => .inl (cA 0, 8, .inl r)
  | 11 => .inl (cA 0, 8, .inl r)
  | 12 => .inl (cA 0, 8, .inl r)
  | 13 => .inl (cA 0, 24, .inl r)
  | 14 => .inl (cA 0, 10, .inl r)
  | 15 => .inl (cA 3, 3, .inr (.inr (.inr (.inr (fun j => some (ad 5 t j))))))
  | 16 => .inl (cA 4, 8, .inr (.inr (.inr (.inr (fun j => some (ad 0 t j))))))
  | 17 => .inl (cA 5, 5, .inr (.inr (.inr (.inr (fun j => (pcd (r j)).map (ad 2 0))))))
  | 18 => .inl (cA 6, 60, .inr (.inr (.inr (.inr (fun j => some (ad 1 t j))))))
  | 19 => .inl (cA 0, 30, .inl r)
  | 20 => .inl (cA 0, 60, .inl r)
  | 21 => .inl (cA 0, 4, .inl r)
  | 22 => .inl (cA 2, 8, .inr (.inr (.inr (.inr (fun j => some (ad 4 (3 + j) 0))))))
  | 23 => .inl (cA 1, 80, .inl r)
  | 24 => .inl (cA 0, 30, .inl r)
  | 25 => .inl (cA 0, 39, .inl r)
  | 26 => .inl (cA 0, 120, .inl r)
  | 27 => .inl (cA 0, 260, .inl r)
  | 28 => .inl (cA 0, 720, .inl r)
  | 29 => .inl (cA 0, 60, .inl r)
  | 30 => .inl (cA 1, 80, .inl r)
  | 31 => .inl (cA 0, 52, .inl r)
  | 32 => .inl (cA 0, 1360, .inl r)
  | 33 => .inl (cA 0, 10880, .inl r)
  | 34 => .inl (cA 0, 1360, .inl r)
  | 35 => .inl (cA 0, 140, .inl r)
  | 36 => .inl (cA 7, 1, .inr (.inl (fun j => (r j).toInt64)))
  | 37 => .inl (cA 8, 1, .inr (.inr (.inr (.inl (fun j => dq (r (3 * j)) (r (3 * j + 1)) (r (3 * j + 2)))))))
  | 42 => .inr (2, [.int (r 0), .int (r 1), .int (r 2), .int (r 3), rc (r 4) (ad 10 0 i), rc (r 5) (ad 11 0 i), rc (r 6) (ad 12 0 i), rc (r 7) (ad 13 0 i)])
  | 43 => .inr (3, [rc (r 0) (ad 2 0 i), .int (r 1), rc (r 2) (ad 23 0 0), .int (r 3)])
  | 44 => .inr (4, [.int (r 0), .int (r 1), .int (r 2), .int (r 3), .int (r 4), .int (r 5), .int (r 6), .int (r 7), .int (r 8), rc (r 9) (ad 15 t 0), rc (r 10) (ad 16 t 0), rc (r 11) (ad 17 t 0), rc (r 12) (ad 18 t 0), rc (r 13) (ad 19 t 0), rc (r 14) (ad 20 t 0), rc (r 15) (ad 21 t 0)])
  | 45 => .inr (5, [.int (r 0), .int (r 1), .int (r 2), rc (r 3) (ad 14 t i)])
  | 46 => .inr (6, [rc (r 0) (ad 4 0 0), rc (r 1) (ad 4 1 0), rc (r 2) (ad 4 2 0), rc (r 3) (ad 22 0 0), .int (r 4), .int (r 5), .int (r 6), rc (r 7) (ad 23 0 0), .int (r 8), rc (r 9) (ad 8 0 0)])
  | 47 => .inr (7, [.int (r 0), rc (r 1) (ad 24 0 0), rc (r 2) (ad 25 0 0), rc (r 3) (ad 26 0 0), rc (r 4) (ad 27 0 0), rc (r 5) (ad 28 0 0), rc (r 6) (ad 29 0 0), .int (r 7), .int (r 8), .int (r 9), .int (r 10), .int (r 11), .int (r 12), .int (r 13), rc (r 14) (ad 30 0 0), rc (r 15) (ad 31 0 0), .int (r 16), .int (r 17), rc (r 18) (ad 32 0 0), rc (r 19) (ad 33 0 0), rc (r 20) (ad 34 0 0), .int (r 21), .int (r 22), .int (r 23), .int (r 24), rc (r 25) (ad 35 0 0), .int (r 26)])
  | 48 => .inr (8, [rc (r 3) (ad 9 0 0), .int (r 1), .int (r 2), .int (r 0)])
  | 55 => .inl (cA 3, 3, .inr (.inr (.inr (.inr (fun j => ro (r j) (ad 5 t j))))))
  | 56 => .inl (cA 4, 8, .inr (.inr (.inr (.inr (fun j => ro (r j) (ad 0 t j))))))
  | 58 => .inl (cA 6, 60, .inr (.inr (.inr (.inr (fun j => ro (r j) (ad 1 t j))))))
  | 62 => .inl (cA 2, 8, .inr (.inr (.inr (.inr (fun j => ro (r j) (ad 4 (3 + j) 0))))))
  | _ => .inr (0, [])
abbrev Dm : Type := Nat → Nat → Nat → Prop
def gP (D : va_G) (cA : Nat → ClassId) (dm : Dm) (ad : Ad) (S : S4) (H : Heap) : Prop := ∀ k t i, dm k t i → va_at D gCl (ad k t i, ct cA ad k t i (S k t i)) H
def gJ (dm : Dm) (ad : Ad) : Prop := ∀ k t i k' t' i', dm k t i → dm k' t' i' → ad k t i = ad k' t' i' → k' = k ∧ t' = t ∧ i' = i
def gK (D : va_G) (cA : Nat → ClassId) (U : State) : Prop := va_K D gCl (gTy cA) U
/-- words that may come anew: the links between nest mates, what a throw asks -/
def gNw : List Cond := [.methodLinkNest RX4 45 yX5_init "ParcelSorter", .methodLinkNest RX4 46 yX0_init "ParcelSorter", .methodLinkNest RX4 47 yX1_init "ParcelSorter", .methodLinkNest RX4 106 yX6_isIn "ParcelSorter", .methodLinkNest RX3 11 yX2_init "ParcelSorter", .methodLinkNest RX2 31 yX6_isIn "ParcelSorter"]
def gCw : List String := ["java/lang/IllegalArgumentException", "java/lang/IllegalStateException", "java/lang/UnsupportedOperationException", "java/util/NoSuchElementException", "java/lang/IndexOutOfBoundsException", "java/lang/ArithmeticException"]
def gDw : List String := ["java/lang/RuntimeException", "java/lang/Exception", "java/lang/Throwable"]
def gStr : List (Nat × String) := [(39, "places out of range"), (59, "no free place"), (66, "too many stations"), (80, "argument out of range"), (85, "too many chutes"), (114, "the input is full"), (139, "impossible plan"), (151, "too many plans"), (420, "no such number"), (423, "what is not valid"), (185, "no plan of this tick"), (192, "no rule"), (199, "no such chute in the rule"), (214, "no room for a parcel"), (237, "no such parcel"), (272, "the carrier is empty"), (425, "ticks out of range"), (294, "the chute is not jammed"), (359, "no parcel was dropped"), (369, "not dropped within these ticks"), (374, "not empty within these ticks"), (394, "no change to undo"), (402, "no snapshot was saved")]
def gNx : List Cond := gNw ++ (gCw.map (fun n => Cond.castable n n) ++ gDw.map (fun n => Cond.declares ⟨n, "<init>", "(Ljava/lang/String;)V"⟩))
def gNc : List (String × String) := [("java/lang/IllegalStateException", "java/lang/IllegalArgumentException"), ("java/lang/IllegalStateException", "java/lang/UnsupportedOperationException"), ("java/lang/IllegalArgumentException", "java/lang/IndexOutOfBoundsException"), ("java/lang/IllegalStateException", "java/lang/IndexOutOfBoundsException"), ("java/util/NoSuchElementException", "java/lang/IllegalArgumentException"), ("java/util/NoSuchElementException", "java/lang/IllegalStateException"), ("java/util/NoSuchElementException", "java/lang/IndexOutOfBoundsException")]
def gN (U : State) : Prop := (∀ w ∈ gNx, va_Nw w U) ∧ (∀ q ∈ gStr, ∃ sa, vk_R RX6 q.1 q.2 sa U) ∧ ∀ q ∈ gNc, va_Nc q.1 q.2 U
theorem gNx_cases {w : Cond} (h : w ∈ gNx) : (∃ a i x b, w = .methodLinkNest a i x b) ∨ (∃ n, w = .castable n n) ∨ ∃ x, w = .declares x := by
  rcases List.mem_append.mp h with h | h
  · simp only [gNw, List.mem_cons, List.not_mem_nil, or_false] at h
    rcases h with h | h | h | h | h | h <;> exact Or.inl ⟨_, _, _, _, h⟩
  · rcases List.mem_append.mp h with h | h
    · obtain ⟨n, -, h⟩ := List.mem_map.mp h
      exact Or.inr (Or.inl ⟨n, h.symm⟩)
    · obtain ⟨n, -, h⟩ := List.mem_map.mp h
      exact Or.inr (Or.inr ⟨_, h.symm⟩)
theorem gN_moved {s U : State} (hW : s.WarmedH U.vm) (h : gN s) : gN U := by
  refine ⟨fun w hw => ?_, fun q hq => ?_, fun q hq => va_Nc.moved hW.alike (h.2.2 q hq)⟩
  · have h1 := h.1 w hw
    rcases gNx_cases hw with ⟨a, i, x, b, rfl⟩ | ⟨n, rfl⟩ | ⟨x, rfl⟩
    · exact va_Nw.warmM hW h1
    · exact va_Nw.warmC hW h1
    · exact va_Nw.warmD hW h1
  · obtain ⟨sa, h1⟩ := h.2.1 q hq
    exact ⟨sa, vk_R.warm hW h1⟩
theorem gN_same {u U : State} (hv : u.vm = U.vm) (h : gN u) : gN U := by
  refine ⟨fun w hw => ?_, fun q hq => ?_, fun q hq => va_Nc.moved (by rw [hv]; exact Vm.Alike.refl U.vm) (h.2.2 q hq)⟩
  · have h1 := h.1 w hw
    rcases gNx_cases hw with ⟨a, i, x, b, rfl⟩ | ⟨n, rfl⟩ | ⟨x, rfl⟩ <;> exact va_Nw.same rfl hv h1
  · obtain ⟨sa, h1⟩ := h.2.1 q hq
    exact ⟨sa, vk_R.same hv.symm h1⟩
def gA (dm : Dm) (ad : Ad) (sz : Nat) : Nat → Prop := fun q => (∃ k t i, dm k t i ∧ q = ad k t i) ∨ sz ≤ q
def gB (D : va_G) (cA : Nat → ClassId) (dm : Dm) (ad : Ad) (S : S4) (sz : Nat) : State → Prop := fun U => U.heap.size = sz ∧ gP D cA dm ad S U.heap ∧ gK D cA U ∧ gJ dm ad ∧ gN U
def gQ (D : va_G) (cA : Nat → ClassId) (dm : Dm) (ad : Ad) (S : S4) (rv : Option Value) (A : Nat → Prop) : Array Value → State → Outcome → State → Prop := fun _ st oc t => (oc = .returned rv ∧ gP D cA dm ad S t.heap) ∧ va_F A st t
/-- a method's contract: from the numbers S it returns rv, and leaves the numbers S' -/
def Ct (D : va_G) (cA : Nat → ClassId) (dm : Dm) (ad : Ad) (l : Launch) (y : MethodName) (cy : ByteArray) (mL : Nat) (ret : Option FieldType) (rf rl : Nat) (S : S4) (av : List Value) (rv : Option Value) (S' : S4) : Prop :=
  ∀ sz : Nat, Met l y (Cond.code y cy mL ret :: gT) ({ frames := rf, cells := 0, slots := 0, locals := rl }) (va_Pc av (gB D cA dm ad S sz)) (gQ D cA dm ad S' rv (gA dm ad sz)) 0 0 (gA dm ad sz)
theorem gP_one {D : va_G} {cA : Nat → ClassId} {dm : Dm} {ad : Ad} {S : S4} {H : Heap} (h : gP D cA dm ad S H) {k t i : Nat} (hg : dm k t i) {e : va_E} (he : ct cA ad k t i (S k t i) = e) : va_P D gCl [(ad k t i, e)] H := by
  intro n q hn
  cases n with
  | zero => cases hn; rw [← he]; exact h k t i hg
  | succ n => simp at hn
theorem gP_upd {D : va_G} {cA : Nat → ClassId} {dm : Dm} {ad : Ad} {S : S4} {H H1 : Heap} (h : gP D cA dm ad S H) (hJ : gJ dm ad) {k t i : Nat} (hg : dm k t i) {r : Nat → Int32} {e : va_E} (he : ct cA ad k t i r = e) (hat : va_at D gCl (ad k t i, e) H1) (oq : ∀ q : Nat, q ≠ ad k t i → H1[q]? = H[q]?) : gP D cA dm ad (w4 S k t i r) H1 := by
  intro k' t' i' hg'
  by_cases hn : k' = k ∧ t' = t ∧ i' = i
  · obtain ⟨rfl, rfl, rfl⟩ := hn
    rw [w4_self, he]
    exact hat
  · rw [w4_ne hn]
    exact (h k' t' i' hg').kept (oq _ (fun z => hn (hJ _ _ _ _ _ _ hg hg' z.symm)))
theorem gP_moved {D : va_G} {cA : Nat → ClassId} {dm : Dm} {ad : Ad} {S : S4} {H H1 : Heap} (h : gP D cA dm ad S H) (e : H1 = H) : gP D cA dm ad S H1 := by rw [e]; exact h
theorem gK_moved {D : va_G} {cA : Nat → ClassId} {u U : State} (hvm : u.vm.Alike U.vm) (h : gK D cA u) : gK D cA U := va_K.moved hvm h
theorem gB_blind {D : va_G} {cA : Nat → ClassId} {dm : Dm} {ad : Ad} {S : S4} {sz : Nat} {av : List Value} : FrameBlind (va_Pc av (gB D cA dm ad S sz)) := fun a U g mk h => ⟨h.1, h.2.1, h.2.2.1, gK_moved (u := U) (U := U.calling g mk a) (Vm.Alike.refl U.vm) h.2.2.2.1, h.2.2.2.2.1, gN_same (u := U) (U := U.calling g mk a) rfl h.2.2.2.2.2⟩
def GX (D : va_G) (cA : Nat → ClassId) (dm : Dm) (ad : Ad) (A : Nat → Prop) (nL : Nat) (p : Program) (s : State) (m : MethodId) (args : Array Value) (meth : Method) (c : Code) (own : String) (cc : ByteArray) : Prop :=
  p.tables.exec = Jvm.exec ∧ c.code = cc ∧ c.maxLocals = nL ∧ s.vm.findClass own = some m.cls ∧ (∀ w ∈ gT, w.before args s = true) ∧ gK D cA s ∧ gJ dm ad ∧ (∀ k t i, dm k t i → A (ad k t i)) ∧ (∀ q : Nat, s.heap.size ≤ q → A q) ∧ meth.locks = false ∧ gN s
section VV
variable {D : va_G} {cA : Nat → ClassId} {dm : Dm} {ad : Ad} {A : Nat → Prop} {nL : Nat} {p : Program} {l : Launch} {e : Env} {R : Room} {s : State} {m : MethodId} {args : Array Value} {below : List Frame} {meth : Method} {c : Code} {cells slots : Nat} {Q : State → Prop} {own : String} {cc : ByteArray} {S S' : S4} {pc : Nat} {lv lv' : List (Nat × Value)} {st : List Value}
def V (D : va_G) (cA : Nat → ClassId) (dm : Dm) (ad : Ad) (A : Nat → Prop) (nL : Nat) (p : Program) (l : Launch) (e : Env) (R : Room) (s : State) (m : MethodId) (args : Array Value) (below : List Frame) (meth : Method) (c : Code) (cells slots : Nat) (Q : State → Prop) (S : S4) (pc : Nat) (lv : List (Nat × Value)) (st : List Value) : Prop :=
  ∀ (H : Heap) (locs : List Loc) (ls : Array Slot), gP D cA dm ad S H → va_S A s.heap H locs → lv_has ls nL lv → W p l e R s m args below meth c H locs cells slots Q (F0 m pc ls st)
theorem V_sub (ks : List Nat) (hk : lv_pick lv ks = lv') (kk : V D cA dm ad A nL p l e R s m args below meth c cells slots Q S pc lv' st) : V D cA dm ad A nL p l e R s m args below meth c cells slots Q S pc lv st :=
  fun H locs ls hP hS hl => kk H locs ls hP hS (lv_sub hl ks hk)
theorem V_iload_n (X : GX D cA dm ad A nL p s m args meth c own cc) {k : Fin 4} {i : Nat} {x : Int32} (hdg : decode cc pc = .ok (.iload_n k, 1)) (hi : (k : Nat) = i) (pos : Nat) (hv : lv[pos]? = some (i, .int x)) (kk : V D cA dm ad A nL p l e R s m args below meth c cells slots Q S (pc + 1) lv (.int x :: st)) : V D cA dm ad A nL p l e R s m args below meth c cells slots Q S pc lv st :=
  fun H locs ls hP hS hl => lv_iload_n X.1 X.2.1 hdg hi (lv_at hl pos hv) (kk H locs ls hP hS hl)
theorem V_iload (X : GX D cA dm ad A nL p s m args meth c own cc) {i : Nat} {x : Int32} (hdg : decode cc pc = .ok (.iload i, 2)) (pos : Nat) (hv : lv[pos]? = some (i, .int x)) (kk : V D cA dm ad A nL p l e R s m args below meth c cells slots Q S (pc + 2) lv (.int x :: st)) : V D cA dm ad A nL p l e R s m args below meth c cells slots Q S pc lv st :=
  fun H locs ls hP hS hl => lv_iload X.1 X.2.1 hdg (lv_at hl pos hv) (kk H locs ls hP hS hl)
theorem V_aload_n (X : GX D cA dm ad A nL p s m args meth c own cc) {k : Fin 4} {i : Nat} {x : Nat} (hdg : decode cc pc = .ok (.aload_n k, 1)) (hi : (k : Nat) = i) (pos : Nat) (hv : lv[pos]? = some (i, .ref x)) (kk : V D cA dm ad A nL p l e R s m args below meth c cells slots Q S (pc + 1) lv (.ref x :: st)) : V D cA dm ad A nL p l e R s m args below meth c cells slots Q S pc lv st :=
  fun H locs ls hP hS hl => lv_aload_n X.1 X.2.1 hdg hi (lv_at hl pos hv) (kk H locs ls hP hS hl)
theorem V_aload (X : GX D cA dm ad A nL p s m args meth c own cc) {i : Nat} {x : Nat} (hdg : decode cc pc = .ok (.aload i, 2)) (pos : Nat) (hv : lv[pos]? = some (i, .ref x)) (kk : V D cA dm ad A nL p l e R s m args below meth c cells slots Q S (pc + 2) lv (.ref x :: st)) : V D cA dm ad A nL p l e R s m args below meth c cells slots Q S pc lv st :=
  fun H locs ls hP hS hl => lv_aload X.1 X.2.1 hdg (lv_at hl pos hv) (kk H locs ls hP hS hl)
theorem V_istore_n (X : GX D cA dm ad A nL p s m args meth c own cc) {k : Fin 4} {i : Nat} {x : Int32} (hdg : decode cc pc = .ok (.istore_n k, 1)) (hi : (k : Nat) = i) (lv' : List (Nat × Value)) (hn : i < nL) (hl' : (i, Value.int x) :: lv.filter (fun q => !(q.1 == i) && !(q.1 + 1 == i && q.2.category == 2)) = lv') (kk : V D cA dm ad A nL p l e R s m args below meth c cells slots Q S (pc + 1) lv' st) : V D cA dm ad A nL p l e R s m args below meth c cells slots Q S pc lv (.int x :: st) :=
  fun H locs ls hP hS hl => lv_istore_n X.1 X.2.1 hdg hi hl hn hl' (fun ls' hl2 => kk H locs ls' hP hS hl2)
theorem V_istore (X : GX D cA dm ad A nL p s m args meth c own cc) {i : Nat} {x : Int32} (hdg : decode cc pc = .ok (.istore i, 2)) (lv' : List (Nat × Value)) (hn : i < nL) (hl' : (i, Value.int x) :: lv.filter (fun q => !(q.1 == i) && !(q.1 + 1 == i && q.2.category == 2)) = lv') (kk : V D cA dm ad A nL p l e R s m args below meth c cells slots Q S (pc + 2) lv' st) : V D cA dm ad A nL p l e R s m args below meth c cells slots Q S pc lv (.int x :: st) :=
  fun H locs ls hP hS hl => lv_istore X.1 X.2.1 hdg hl hn hl' (fun ls' hl2 => kk H locs ls' hP hS hl2)
theorem V_astore_n (X : GX D cA dm ad A nL p s m args meth c own cc) {k : Fin 4} {i : Nat} {x : Nat} (hdg : decode cc pc = .ok (.astore_n k, 1)) (hi : (k : Nat) = i) (lv' : List (Nat × Value)) (hn : i < nL) (hl' : (i, Value.ref x) :: lv.filter (fun q => !(q.1 == i) && !(q.1 + 1 == i && q.2.category == 2)) = lv') (kk : V D cA dm ad A nL p l e R s m args below meth c cells slots Q S (pc + 1) lv' st) : V D cA dm ad A nL p l e R s m args below meth c cells slots Q S pc lv (.ref x :: st) :=
  fun H locs ls hP hS hl => lv_astore_n X.1 X.2.1 hdg hi hl hn hl' (fun ls' hl2 => kk H locs ls' hP hS hl2)
theorem V_astore (X : GX D cA dm ad A nL p s m args meth c own cc) {i : Nat} {x : Nat} (hdg : decode cc pc = .ok (.astore i, 2)) (lv' : List (Nat × Value)) (hn : i < nL) (hl' : (i, Value.ref x) :: lv.filter (fun q => !(q.1 == i) && !(q.1 + 1 == i && q.2.category == 2)) = lv') (kk : V D cA dm ad A nL p l e R s m args below meth c cells slots Q S (pc + 2) lv' st) : V D cA dm ad A nL p l e R s m args below meth c cells slots Q S pc lv (.ref x :: st) :=
  fun H locs ls hP hS hl => lv_astore X.1 X.2.1 hdg hl hn hl' (fun ls' hl2 => kk H locs ls' hP hS hl2)
theorem V_iinc (X : GX D cA dm ad A nL p s m args meth c own cc) {i : Nat} {n : Int} {x : Int32} (v : Int32) (hdg : decode cc pc = .ok (.iinc i n, 3)) (pos : Nat) (hv : lv[pos]? = some (i, .int x)) (he : x + Int32.ofInt n = v) (lv' : List (Nat × Value)) (hn : i < nL) (hl' : (i, Value.int v) :: lv.filter (fun q => !(q.1 == i) && !(q.1 + 1 == i && q.2.category == 2)) = lv') (kk : V D cA dm ad A nL p l e R s m args below meth c cells slots Q S (pc + 3) lv' st) : V D cA dm ad A nL p l e R s m args below meth c cells slots Q S pc lv st :=
  fun H locs ls hP hS hl => lv_iinc X.1 X.2.1 hdg hl hv he hn hl' (fun ls' hl2 => kk H locs ls' hP hS hl2)
theorem V_iconst (X : GX D cA dm ad A nL p s m args meth c own cc) {n : Int} (v : Int32) (hdg : decode cc pc = .ok (.iconst n, 1)) (hv : Int32.ofInt n = v) (kk : V D cA dm ad A nL p l e R s m args below meth c cells slots Q S (pc + 1) lv (.int v :: st)) : V D cA dm ad A nL p l e R s m args below meth c cells slots Q S pc lv st :=
  fun H locs ls hP hS hl => lv_iconst X.1 X.2.1 hdg hv (kk H locs ls hP hS hl)
theorem V_bipush (X : GX D cA dm ad A nL p s m args meth c own cc) {n : Int} (v : Int32) (hdg : decode cc pc = .ok (.bipush n, 2)) (hv : (Int8.ofInt n).toInt32 = v) (kk : V D cA dm ad A nL p l e R s m args below meth c cells slots Q S (pc + 2) lv (.int v :: st)) : V D cA dm ad A nL p l e R s m args below meth c cells slots Q S pc lv st :=
  fun H locs ls hP hS hl => lv_bipush X.1 X.2.1 hdg hv (kk H locs ls hP hS hl)
theorem V_sipush (X : GX D cA dm ad A nL p s m args meth c own cc) {n : Int} (v : Int32) (hdg : decode cc pc = .ok (.sipush n, 3)) (hv : (Int16.ofInt n).toInt32 = v) (kk : V D cA dm ad A nL p l e R s m args below meth c cells slots Q S (pc + 3) lv (.int v :: st)) : V D cA dm ad A nL p l e R s m args below meth c cells slots Q S pc lv st :=
  fun H locs ls hP hS hl => lv_sipush X.1 X.2.1 hdg hv (kk H locs ls hP hS hl)
theorem V_null (X : GX D cA dm ad A nL p s m args meth c own cc) (hdg : decode cc pc = .ok (.aconst_null, 1)) (kk : V D cA dm ad A nL p l e R s m args below meth c cells slots Q S (pc + 1) lv (.null :: st)) : V D cA dm ad A nL p l e R s m args below meth c cells slots Q S pc lv st :=
  fun H locs ls hP hS hl => lv_null X.1 X.2.1 hdg (kk H locs ls hP hS hl)
theorem V_iadd (X : GX D cA dm ad A nL p s m args meth c own cc) {x y : Int32} (hdg : decode cc pc = .ok (.iadd, 1)) (kk : V D cA dm ad A nL p l e R s m args below meth c cells slots Q S (pc + 1) lv (.int (x + y) :: st)) : V D cA dm ad A nL p l e R s m args below meth c cells slots Q S pc lv (.int y :: .int x :: st) :=
  fun H locs ls hP hS hl => lv_iadd X.1 X.2.1 hdg (kk H locs ls hP hS hl)
theorem V_isub (X : GX D cA dm ad A nL p s m args meth c own cc) {x y : Int32} (hdg : decode cc pc = .ok (.isub, 1)) (kk : V D cA dm ad A nL p l e R s m args below meth c cells slots Q S (pc + 1) lv (.int (x - y) :: st)) : V D cA dm ad A nL p l e R s m args below meth c cells slots Q S pc lv (.int y :: .int x :: st) :=
  fun H locs ls hP hS hl => lv_isub X.1 X.2.1 hdg (kk H locs ls hP hS hl)
theorem V_imul (X : GX D cA dm ad A nL p s m args meth c own cc) {x y : Int32} (hdg : decode cc pc = .ok (.imul, 1)) (kk : V D cA dm ad A nL p l e R s m args below meth c cells slots Q S (pc + 1) lv (.int (x * y) :: st)) : V D cA dm ad A nL p l e R s m args below meth c cells slots Q S pc lv (.int y :: .int x :: st) :=
  fun H locs ls hP hS hl => lv_imul X.1 X.2.1 hdg (kk H locs ls hP hS hl)
theorem V_iand (X : GX D cA dm ad A nL p s m args meth c own cc) {x y : Int32} (hdg : decode cc pc = .ok (.iand, 1)) (kk : V D cA dm ad A nL p l e R s m args below meth c cells slots Q S (pc + 1) lv (.int (x &&& y) :: st)) : V D cA dm ad A nL p l e R s m args below meth c cells slots Q S pc lv (.int y :: .int x :: st) :=
  fun H locs ls hP hS hl => lv_iand X.1 X.2.1 hdg (kk H locs ls hP hS hl)
theorem V_ior (X : GX D cA dm ad A nL p s m args meth c own cc) {x y : Int32} (hdg : decode cc pc = .ok (.ior, 1)) (kk : V D cA dm ad A nL p l e R s m args below meth c cells slots Q S (pc + 1) lv (.int (x ||| y) :: st)) : V D cA dm ad A nL p l e R s m args below meth c cells slots Q S pc lv (.int y :: .int x :: st) :=
  fun H locs ls hP hS hl => lv_ior X.1 X.2.1 hdg (kk H locs ls hP hS hl)
theorem V_ishl (X : GX D cA dm ad A nL p s m args meth c own cc) {x y : Int32} (hdg : decode cc pc = .ok (.ishl, 1)) (kk : V D cA dm ad A nL p l e R s m args below meth c cells slots Q S (pc + 1) lv (.int (x <<< (y &&& 31)) :: st)) : V D cA dm ad A nL p l e R s m args below meth c cells slots Q S pc lv (.int y :: .int x :: st) :=
  fun H locs ls hP hS hl => lv_ishl X.1 X.2.1 hdg (kk H locs ls hP hS hl)
theorem V_ishr (X : GX D cA dm ad A nL p s m args meth c own cc) {x y : Int32} (hdg : decode cc pc = .ok (.ishr, 1)) (kk : V D cA dm ad A nL p l e R s m args below meth c cells slots Q S (pc + 1) lv (.int (x >>> (y &&& 31)) :: st)) : V D cA dm ad A nL p l e R s m args below meth c cells slots Q S pc lv (.int y :: .int x :: st) :=
  fun H locs ls hP hS hl => lv_ishr X.1 X.2.1 hdg (kk H locs ls hP hS hl)
theorem V_idiv (X : GX D cA dm ad A nL p s m args meth c own cc) {x y : Int32} (hdg : decode cc pc = .ok (.idiv, 1)) (hne : ¬ y = 0) (kk : V D cA dm ad A nL p l e R s m args below meth c cells slots Q S (pc + 1) lv (.int (x / y) :: st)) : V D cA dm ad A nL p l e R s m args below meth c cells slots Q S pc lv (.int y :: .int x :: st) :=
  fun H locs ls hP hS hl => lv_idiv X.1 X.2.1 hdg hne (kk H locs ls hP hS hl)
theorem V_irem (X : GX D cA dm ad A nL p s m args meth c own cc) {x y : Int32} (hdg : decode cc pc = .ok (.irem, 1)) (hne : ¬ y = 0) (kk : V D cA dm ad A nL p l e R s m args below meth c cells slots Q S (pc + 1) lv (.int (x - x / y * y) :: st)) : V D cA dm ad A nL p l e R s m args below meth c cells slots Q S pc lv (.int y :: .int x :: st) :=
  fun H locs ls hP hS hl => lv_irem X.1 X.2.1 hdg hne (kk H locs ls hP hS hl)
theorem V_i2c (X : GX D cA dm ad A nL p s m args meth c own cc) {x : Int32} (hdg : decode cc pc = .ok (.i2c, 1)) (kk : V D cA dm ad A nL p l e R s m args below meth c cells slots Q S (pc + 1) lv (.int (x.toUInt32 % 65536).toInt32 :: st)) : V D cA dm ad A nL p l e R s m args below meth c cells slots Q S pc lv (.int x :: st) :=
  fun H locs ls hP hS hl => lv_i2c X.1 X.2.1 hdg rfl (kk H locs ls hP hS hl)
theorem V_i2l (X : GX D cA dm ad A nL p s m args meth c own cc) {x : Int32} (hdg : decode cc pc = .ok (.i2l, 1)) (kk : V D cA dm ad A nL p l e R s m args below meth c cells slots Q S (pc + 1) lv (.long x.toInt64 :: st)) : V D cA dm ad A nL p l e R s m args below meth c cells slots Q S pc lv (.int x :: st) :=
  fun H locs ls hP hS hl => lv_i2l X.1 X.2.1 hdg rfl (kk H locs ls hP hS hl)
theorem V_dup (X : GX D cA dm ad A nL p s m args meth c own cc) {v : Value} (hdg : decode cc pc = .ok (.dup, 1)) (hv : v.category = 1) (kk : V D cA dm ad A nL p l e R s m args below meth c cells slots Q S (pc + 1) lv (v :: v :: st)) : V D cA dm ad A nL p l e R s m args below meth c cells slots Q S pc lv (v :: st) :=
  fun H locs ls hP hS hl => lv_dup X.1 X.2.1 hdg hv (kk H locs ls hP hS hl)
theorem V_pop (X : GX D cA dm ad A nL p s m args meth c own cc) {v : Value} (hdg : decode cc pc = .ok (.pop, 1)) (hv : v.category = 1) (kk : V D cA dm ad A nL p l e R s m args below meth c cells slots Q S (pc + 1) lv st) : V D cA dm ad A nL p l e R s m args below meth c cells slots Q S pc lv (v :: st) :=
  fun H locs ls hP hS hl => lv_pop X.1 X.2.1 hdg hv (kk H locs ls hP hS hl)
theorem V_dup2 (X : GX D cA dm ad A nL p s m args meth c own cc) {v w : Value} (hdg : decode cc pc = .ok (.dup2, 1)) (hv : v.category = 1) (hw : w.category = 1) (kk : V D cA dm ad A nL p l e R s m args below meth c cells slots Q S (pc + 1) lv (v :: w :: v :: w :: st)) : V D cA dm ad A nL p l e R s m args below meth c cells slots Q S pc lv (v :: w :: st) :=
  fun H locs ls hP hS hl => lv_dup2_11 X.1 X.2.1 hdg hv hw (kk H locs ls hP hS hl)
theorem V_goto (X : GX D cA dm ad A nL p s m args meth c own cc) {off : Int} (tgt : Nat) (hdg : decode cc pc = .ok (.goto off, 3)) (ht : (pc : Int) + off = (tgt : Int)) (kk : V D cA dm ad A nL p l e R s m args below meth c cells slots Q S tgt lv st) : V D cA dm ad A nL p l e R s m args below meth c cells slots Q S pc lv st :=
  fun H locs ls hP hS hl => lv_goto X.1 X.2.1 hdg ht (kk H locs ls hP hS hl)
theorem V_if_eq (X : GX D cA dm ad A nL p s m args meth c own cc) {x : Int32} {off : Int} (tgt : Nat) (hdg : decode cc pc = .ok (.ifCond .eq off, 3)) (ht : (pc : Int) + off = (tgt : Int)) (kt : x = 0 → V D cA dm ad A nL p l e R s m args below meth c cells slots Q S tgt lv st) (kf : ¬ x = 0 → V D cA dm ad A nL p l e R s m args below meth c cells slots Q S (pc + 3) lv st) : V D cA dm ad A nL p l e R s m args below meth c cells slots Q S pc lv (.int x :: st) :=
  fun H locs ls hP hS hl => lv_if_eq X.1 X.2.1 hdg ht (fun h => kt h H locs ls hP hS hl) (fun h => kf h H locs ls hP hS hl)
theorem V_if_ne (X : GX D cA dm ad A nL p s m args meth c own cc) {x : Int32} {off : Int} (tgt : Nat) (hdg : decode cc pc = .ok (.ifCond .ne off, 3)) (ht : (pc : Int) + off = (tgt : Int)) (kt : ¬ x = 0 → V D cA dm ad A nL p l e R s m args below meth c cells slots Q S tgt lv st) (kf : x = 0 → V D cA dm ad A nL p l e R s m args below meth c cells slots Q S (pc + 3) lv st) : V D cA dm ad A nL p l e R s m args below meth c cells slots Q S pc lv (.int x :: st) :=
  fun H locs ls hP hS hl => lv_if_ne X.1 X.2.1 hdg ht (fun h => kt h H locs ls hP hS hl) (fun h => kf h H locs ls hP hS hl)
theorem V_if_lt (X : GX D cA dm ad A nL p s m args meth c own cc) {x : Int32} {off : Int} (tgt : Nat) (hdg : decode cc pc = .ok (.ifCond .lt off, 3)) (ht : (pc : Int) + off = (tgt : Int)) (kt : x < 0 → V D cA dm ad A nL p l e R s m args below meth c cells slots Q S tgt lv st) (kf : ¬ x < 0 → V D cA dm ad A nL p l e R s m args below meth c cells slots Q S (pc + 3) lv st) : V D cA dm ad A nL p l e R s m args below meth c cells slots Q S pc lv (.int x :: st) :=
  fun H locs ls hP hS hl => lv_if_lt X.1 X.2.1 hdg ht (fun h => kt h H locs ls hP hS hl) (fun h => kf h H locs ls hP hS hl)
theorem V_if_ge (X : GX D cA dm ad A nL p s m args meth c own cc) {x : Int32} {off : Int} (tgt : Nat) (hdg : decode cc pc = .ok (.ifCond .ge off, 3)) (ht : (pc : Int) + off = (tgt : Int)) (kt : 0 ≤ x → V D cA dm ad A nL p l e R s m args below meth c cells slots Q S tgt lv st) (kf : ¬ 0 ≤ x → V D cA dm ad A nL p l e R s m args below meth c cells slots Q S (pc + 3) lv st) : V D cA dm ad A nL p l e R s m args below meth c cells slots Q S pc lv (.int x :: st) :=
  fun H locs ls hP hS hl => lv_if_ge X.1 X.2.1 hdg ht (fun h => kt h H locs ls hP hS hl) (fun h => kf h H locs ls hP hS hl)
theorem V_if_gt (X : GX D cA dm ad A nL p s m args meth c own cc) {x : Int32} {off : Int} (tgt : Nat) (hdg : decode cc pc = .ok (.ifCond .gt off, 3)) (ht : (pc : Int) + off = (tgt : Int)) (kt : 0 < x → V D cA dm ad A nL p l e R s m args below meth c cells slots Q S tgt lv st) (kf : ¬ 0 < x → V D cA dm ad A nL p l e R s m args below meth c cells slots Q S (pc + 3) lv st) : V D cA dm ad A nL p l e R s m args below meth c cells slots Q S pc lv (.int x :: st) :=
  fun H locs ls hP hS hl => lv_if_gt X.1 X.2.1 hdg ht (fun h => kt h H locs ls hP hS hl) (fun h => kf h H locs ls hP hS hl)
theorem V_if_le (X : GX D cA dm ad A nL p s m args meth c own cc) {x : Int32} {off : Int} (tgt : Nat) (hdg : decode cc pc = .ok (.ifCond .le off, 3)) (ht : (pc : Int) + off = (tgt : Int)) (kt : x ≤ 0 → V D cA dm ad A nL p l e R s m args below meth c cells slots Q S tgt lv st) (kf : ¬ x ≤ 0 → V D cA dm ad A nL p l e R s m args below meth c cells slots Q S (pc + 3) lv st) : V D cA dm ad A nL p l e R s m args below meth c cells slots Q S pc lv (.int x :: st) :=
  fun H locs ls hP hS hl => lv_if_le X.1 X.2.1 hdg ht (fun h => kt h H locs ls hP hS hl) (fun h => kf h H locs ls hP hS hl)
theorem V_icmp_eq (X : GX D cA dm ad A nL p s m args meth c own cc) {x y : Int32} {off : Int} (tgt : Nat) (hdg : decode cc pc = .ok (.if_icmp .eq off, 3)) (ht : (pc : Int) + off = (tgt : Int)) (kt : x = y → V D cA dm ad A nL p l e R s m args below meth c cells slots Q S tgt lv st) (kf : ¬ x = y → V D cA dm ad A nL p l e R s m args below meth c cells slots Q S (pc + 3) lv st) : V D cA dm ad A nL p l e R s m args below meth c cells slots Q S pc lv (.int y :: .int x :: st) :=
  fun H locs ls hP hS hl => lv_icmp_eq X.1 X.2.1 hdg ht (fun h => kt h H locs ls hP hS hl) (fun h => kf h H locs ls hP hS hl)
theorem V_icmp_ne (X : GX D cA dm ad A nL p s m args meth c own cc) {x y : Int32} {off : Int} (tgt : Nat) (hdg : decode cc pc = .ok (.if_icmp .ne off, 3)) (ht : (pc : Int) + off = (tgt : Int)) (kt : ¬ x = y → V D cA dm ad A nL p l e R s m args below meth c cells slots Q S tgt lv st) (kf : x = y → V D cA dm ad A nL p l e R s m args below meth c cells slots Q S (pc + 3) lv st) : V D cA dm ad A nL p l e R s m args below meth c cells slots Q S pc lv (.int y :: .int x :: st) :=
  fun H locs ls hP hS hl => lv_icmp_ne X.1 X.2.1 hdg ht (fun h => kt h H locs ls hP hS hl) (fun h => kf h H locs ls hP hS hl)
theorem V_icmp_lt (X : GX D cA dm ad A nL p s m args meth c own cc) {x y : Int32} {off : Int} (tgt : Nat) (hdg : decode cc pc = .ok (.if_icmp .lt off, 3)) (ht : (pc : Int) + off = (tgt : Int)) (kt : x < y → V D cA dm ad A nL p l e R s m args below meth c cells slots Q S tgt lv st) (kf : ¬ x < y → V D cA dm ad A nL p l e R s m args below meth c cells slots Q S (pc + 3) lv st) : V D cA dm ad A nL p l e R s m args below meth c cells slots Q S pc lv (.int y :: .int x :: st) :=
  fun H locs ls hP hS hl => lv_icmp_lt X.1 X.2.1 hdg ht (fun h => kt h H locs ls hP hS hl) (fun h => kf h H locs ls hP hS hl)
theorem V_icmp_ge (X : GX D cA dm ad A nL p s m args meth c own cc) {x y : Int32} {off : Int} (tgt : Nat) (hdg : decode cc pc = .ok (.if_icmp .ge off, 3)) (ht : (pc : Int) + off = (tgt : Int)) (kt : y ≤ x → V D cA dm ad A nL p l e R s m args below meth c cells slots Q S tgt lv st) (kf : ¬ y ≤ x → V D cA dm ad A nL p l e R s m args below meth c cells slots Q S (pc + 3) lv st) : V D cA dm ad A nL p l e R s m args below meth c cells slots Q S pc lv (.int y :: .int x :: st) :=
  fun H locs ls hP hS hl => lv_icmp_ge X.1 X.2.1 hdg ht (fun h => kt h H locs ls hP hS hl) (fun h => kf h H locs ls hP hS hl)
theorem V_icmp_gt (X : GX D cA dm ad A nL p s m args meth c own cc) {x y : Int32} {off : Int} (tgt : Nat) (hdg : decode cc pc = .ok (.if_icmp .gt off, 3)) (ht : (pc : Int) + off = (tgt : Int)) (kt : y < x → V D cA dm ad A nL p l e R s m args below meth c cells slots Q S tgt lv st) (kf : ¬ y < x → V D cA dm ad A nL p l e R s m args below meth c cells slots Q S (pc + 3) lv st) : V D cA dm ad A nL p l e R s m args below meth c cells slots Q S pc lv (.int y :: .int x :: st) :=
  fun H locs ls hP hS hl => lv_icmp_gt X.1 X.2.1 hdg ht (fun h => kt h H locs ls hP hS hl) (fun h => kf h H locs ls hP hS hl)
theorem V_icmp_le (X : GX D cA dm ad A nL p s m args meth c own cc) {x y : Int32} {off : Int} (tgt : Nat) (hdg : decode cc pc = .ok (.if_icmp .le off, 3)) (ht : (pc : Int) + off = (tgt : Int)) (kt : x ≤ y → V D cA dm ad A nL p l e R s m args below meth c cells slots Q S tgt lv st) (kf : ¬ x ≤ y → V D cA dm ad A nL p l e R s m args below meth c cells slots Q S (pc + 3) lv st) : V D cA dm ad A nL p l e R s m args below meth c cells slots Q S pc lv (.int y :: .int x :: st) :=
  fun H locs ls hP hS hl => lv_icmp_le X.1 X.2.1 hdg ht (fun h => kt h H locs ls hP hS hl) (fun h => kf h H locs ls hP hS hl)
theorem V_get (X : GX D cA dm ad A nL p s m args meth c own cc) {idx ci j k t i : Nat} {fs : List Value} {v : Value} (hdg : decode cc pc = .ok (.getfield idx, 3)) (hF : FR own idx ci j) (hg : dm k t i) (hct : ct cA ad k t i (S k t i) = .inr (ci, fs)) (hv : fs[j]? = some v) (kk : V D cA dm ad A nL p l e R s m args below meth c cells slots Q S (pc + 3) lv (v :: st)) : V D cA dm ad A nL p l e R s m args below meth c cells slots Q S pc lv (.ref (ad k t i) :: st) := by
  obtain ⟨hx, hb, hml, hown, hts, hK, hJ, hA, hA2, hlk⟩ := X
  obtain ⟨C, T, N, tys, ⟨hc, hin, hty, hnm⟩, hj, hlink, hT⟩ := hF
  intro H locs ls hP hS hl
  exact va_get hx hb hts hin hown hK (gP_one hP hg hct) 0 rfl hc j hj (hts _ hlink) (fun x h => by rw [hT] at h; exact h) hv hdg (kk H locs ls hP hS hl)
theorem V_put (X : GX D cA dm ad A nL p s m args meth c own cc) {idx ci j k t i : Nat} {fs : List Value} {x : Int32} {ty : FieldType} (hdg : decode cc pc = .ok (.putfield idx, 3)) (hF : FL own idx ci j ty) (hg : dm k t i) (hct : ct cA ad k t i (S k t i) = .inr (ci, fs)) (hl : j < fs.length) (hct2 : ct cA ad k t i (upd (S k t i) j x) = .inr (ci, fs.set j (.int x))) (hn : narrow ty (.int x) = .int x) (hfit : fits ty (.int x) = true) (kk : ∀ S1 : S4, S1 = u4 S k t i j x → V D cA dm ad A nL p l e R s m args below meth c cells slots Q S1 (pc + 3) lv st) : V D cA dm ad A nL p l e R s m args below meth c cells slots Q S pc lv (.int x :: .ref (ad k t i) :: st) := by
  obtain ⟨hx, hb, hml, hown, hts, hK, hJ, hA, hA2, hlk⟩ := X
  obtain ⟨C, T, N, tys, ⟨hc, hin, hty, hnm⟩, hj, rfl, hfin, hlink, hT⟩ := hF
  intro H locs ls hP hS hl0
  have hap := va_apart (own := own) hts hin tys hty hnm hK hc
  obtain ⟨r, h1, cell, q1, q2, q3, q4⟩ := gP_one hP hg hct 0 _ rfl
  have hr : r = (C, T, N) := Option.some.inj (h1.symm.trans hc)
  subst hr
  obtain ⟨hS1, hfc, kC, hkC, hkind⟩ := hK.1 ci _ hc
  obtain ⟨cf, kf, fi, f, hi, hsl⟩ := hS1 j hj
  have hlay := hts _ (hin _ (u_in_lay hj))
  unfold u_lay at hlay
  rw [if_neg (by rw [hfin]; decide)] at hlay
  have hst := (u_facts hfc hkC (u_lays hts hin hj) hi).1
  have h6 := u_store hfc hkC hkind hlay hi (hty j hj) hn hfit
  refine W.putK hx hb (f := f) ⟨hown, hts _ hlink, ⟨_, _, _, (by rw [hT] at hi; exact hi)⟩, hst⟩ (by rw [q2]; exact h6) q1 q3 (by rw [hsl]; exact k2_hasslot (q4 j hj)) rfl rfl hdg fun H' e1 e2 e3 => ?_
  rw [hsl] at e1 ⊢
  exact kk _ rfl H' _ ls (gP_upd hP hJ hg hct2 ⟨_, hc, t_OB.to (V := updV (vp_V fs) j (.int x)) ⟨_, e1, q2, q3, t_set q4 hap hj (.int x)⟩ (fun n _ => vp_updV_set hl (.int x) n)⟩ e3) (hS.put e2 e3 (hA k t i hg)) hl0
theorem V_iald (X : GX D cA dm ad A nL p s m args meth c own cc) {k t i n : Nat} {f : Nat → Int32} {x : Int32} (hdg : decode cc pc = .ok (.iaload, 1)) (hg : dm k t i) (hct : ct cA ad k t i (S k t i) = .inl (cA 0, n, .inl f)) (hin : inb x n) (kk : V D cA dm ad A nL p l e R s m args below meth c cells slots Q S (pc + 1) lv (.int (f x.toNatClampNeg) :: st)) : V D cA dm ad A nL p l e R s m args below meth c cells slots Q S pc lv (.int x :: .ref (ad k t i) :: st) :=
  fun H locs ls hP hS hl => va_iald X.1 X.2.1 X.2.2.2.2.2.1 (gP_one hP hg hct) 0 0 rfl rfl hin hdg (kk H locs ls hP hS hl)
theorem V_cald (X : GX D cA dm ad A nL p s m args meth c own cc) {k t i n : Nat} {f : Nat → Int32} {x : Int32} (hdg : decode cc pc = .ok (.caload, 1)) (hg : dm k t i) (hct : ct cA ad k t i (S k t i) = .inl (cA 1, n, .inl f)) (hin : inb x n) (kk : V D cA dm ad A nL p l e R s m args below meth c cells slots Q S (pc + 1) lv (.int (f x.toNatClampNeg) :: st)) : V D cA dm ad A nL p l e R s m args below meth c cells slots Q S pc lv (.int x :: .ref (ad k t i) :: st) :=
  fun H locs ls hP hS hl => va_cald X.1 X.2.1 X.2.2.2.2.2.1 (gP_one hP hg hct) 0 1 rfl rfl hin hdg (kk H locs ls hP hS hl)
theorem V_aald (X : GX D cA dm ad A nL p s m args meth c own cc) {k t i n : Nat} {f : Nat → Option Nat} {x : Int32} (q : Nat) {C : String} (hq : (gTy cA)[q]? = some (cA q, .object C)) (hdg : decode cc pc = .ok (.aaload, 1)) (hg : dm k t i) (hct : ct cA ad k t i (S k t i) = .inl (cA q, n, .inr (.inr (.inr (.inr f))))) (hin : inb x n) {v : Value} (hv : va_rf (f x.toNatClampNeg) = v) (kk : V D cA dm ad A nL p l e R s m args below meth c cells slots Q S (pc + 1) lv (v :: st)) : V D cA dm ad A nL p l e R s m args below meth c cells slots Q S pc lv (.int x :: .ref (ad k t i) :: st) := by
  subst hv
  exact fun H locs ls hP hS hl => va_aldq X.1 X.2.1 X.2.2.2.2.2.1 (gP_one hP hg hct) 0 q rfl hq hin hdg (kk H locs ls hP hS hl)
theorem V_alen (X : GX D cA dm ad A nL p s m args meth c own cc) {k t i n : Nat} {f : Nat → Int32} {v : Int32} (hdg : decode cc pc = .ok (.arraylength, 1)) (hg : dm k t i) (hct : ct cA ad k t i (S k t i) = .inl (cA 0, n, .inl f)) (hv : Int32.ofNat n = v) (kk : V D cA dm ad A nL p l e R s m args below meth c cells slots Q S (pc + 1) lv (.int v :: st)) : V D cA dm ad A nL p l e R s m args below meth c cells slots Q S pc lv (.ref (ad k t i) :: st) :=
  fun H locs ls hP hS hl => va_alen X.1 X.2.1 X.2.2.2.2.2.1 (gP_one hP hg hct) 0 0 rfl rfl hv hdg (kk H locs ls hP hS hl)
theorem V_alenC (X : GX D cA dm ad A nL p s m args meth c own cc) {k t i n : Nat} {f : Nat → Int32} {v : Int32} (hdg : decode cc pc = .ok (.arraylength, 1)) (hg : dm k t i) (hct : ct cA ad k t i (S k t i) = .inl (cA 1, n, .inl f)) (hv : Int32.ofNat n = v) (kk : V D cA dm ad A nL p l e R s m args below meth c cells slots Q S (pc + 1) lv (.int v :: st)) : V D cA dm ad A nL p l e R s m args below meth c cells slots Q S pc lv (.ref (ad k t i) :: st) :=
  fun H locs ls hP hS hl => va_alen X.1 X.2.1 X.2.2.2.2.2.1 (gP_one hP hg hct) 0 1 rfl rfl hv hdg (kk H locs ls hP hS hl)
theorem V_iast (X : GX D cA dm ad A nL p s m args meth c own cc) {k t i n : Nat} {x v : Int32} (hdg : decode cc pc = .ok (.iastore, 1)) (hg : dm k t i) (hct : ∀ r : Nat → Int32, ct cA ad k t i r = .inl (cA 0, n, .inl r)) (hin : inb x n) (kk : ∀ S1 : S4, S1 = u4 S k t i x.toNatClampNeg v → V D cA dm ad A nL p l e R s m args below meth c cells slots Q S1 (pc + 1) lv st) : V D cA dm ad A nL p l e R s m args below meth c cells slots Q S pc lv (.int v :: .int x :: .ref (ad k t i) :: st) := by
  obtain ⟨hx, hb, hml, hown, hts, hK, hJ, hA, hA2, hlk⟩ := X
  intro H locs ls hP hS hl
  refine W.iast hx hb (gP_one hP hg (hct _) 0 _ rfl) ((hK.2 0 _ rfl).1 n (fun j => .int (S k t i j))) (fun q => by cases q) (by show ¬ (x < 0 ∨ (arrV _ _ _).slots.size ≤ _); rw [arrV_size]; exact hin) rfl rfl hdg fun H1 e z oq => ?_
  refine kk _ rfl H1 _ ls (gP_upd hP hJ hg (hct _) ?_ oq) (hS.put z oq (hA k t i hg)) hl
  show H1[ad k t i]? = some (vp_cell _ _)
  rw [e]
  rw [vp_cell_i, vp_cell_i, arrV_store]
  congr 2
  funext q
  by_cases hq : q = x.toNatClampNeg
  · subst hq
    simp [updV, upd]
  · simp [updV, upd, hq]
theorem V_cast (X : GX D cA dm ad A nL p s m args meth c own cc) {k t i n : Nat} {x v : Int32} (hdg : decode cc pc = .ok (.castore, 1)) (hg : dm k t i) (hct : ∀ r : Nat → Int32, ct cA ad k t i r = .inl (cA 1, n, .inl r)) (hin : inb x n) (kk : ∀ S1 : S4, S1 = u4 S k t i x.toNatClampNeg (vp_nar .char v) → V D cA dm ad A nL p l e R s m args below meth c cells slots Q S1 (pc + 1) lv st) : V D cA dm ad A nL p l e R s m args below meth c cells slots Q S pc lv (.int v :: .int x :: .ref (ad k t i) :: st) := by
  obtain ⟨hx, hb, hml, hown, hts, hK, hJ, hA, hA2, hlk⟩ := X
  intro H locs ls hP hS hl
  refine W.cast hx hb (gP_one hP hg (hct _) 0 _ rfl) ((hK.2 1 _ rfl).1 n (fun j => .int (S k t i j))) (fun q => by cases q) (by show ¬ (x < 0 ∨ (arrV _ _ _).slots.size ≤ _); rw [arrV_size]; exact hin) rfl rfl hdg fun H1 e z oq => ?_
  refine kk _ rfl H1 _ ls (gP_upd hP hJ hg (hct _) ?_ oq) (hS.put z oq (hA k t i hg)) hl
  show H1[ad k t i]? = some (vp_cell _ _)
  rw [e]
  rw [vp_cell_i, vp_cell_i, arrV_store]
  congr 2
  funext q
  by_cases hq : q = x.toNatClampNeg
  · subst hq
    simp [updV, upd, vp_nar]
    try rfl
  · simp [updV, upd, hq]
/-- a whole int row copied: System.arraycopy -/
theorem V_copy (X : GX D cA dm ad A nL p s m args meth c own cc) {idx k t i n k' t' i' n' : Nat} {sp dp z : Int32} (hdg : decode cc pc = .ok (.invokestatic idx, 3)) (hw : Cond.methodLink own idx arraycopyName ∈ gT ∧ Cond.native arraycopyName ∈ gT ∧ Cond.static arraycopyName ∈ gT ∧ Cond.initialized "java/lang/System" ∈ gT) (hg : dm k t i) (hct : ∀ r : Nat → Int32, ct cA ad k t i r = .inl (cA 0, n, .inl r)) (hg' : dm k' t' i') (hct' : ∀ r : Nat → Int32, ct cA ad k' t' i' r = .inl (cA 0, n', .inl r))
    (h1 : ¬ sp < 0) (h2 : ¬ dp < 0) (h3 : ¬ z < 0) (h4 : sp.toNatClampNeg + z.toNatClampNeg ≤ n') (h5 : dp.toNatClampNeg + z.toNatClampNeg ≤ n) (hst : (st.map fun v => v.category).sum ≤ 8) (hR : 1 ≤ R.frames ∧ 8 + (nativeFrameWords "java/lang/System" "arraycopy" 5 + 11) ≤ R.locals)
    (kk : ∀ S1 : S4, S1 = w4 S k t i (va_cpy (S k' t' i') (S k t i) sp.toNatClampNeg dp.toNatClampNeg z.toNatClampNeg) → V D cA dm ad A nL p l e R s m args below meth c cells slots Q S1 (pc + 3) lv st) : V D cA dm ad A nL p l e R s m args below meth c cells slots Q S pc lv (.int z :: .int dp :: .ref (ad k t i) :: .int sp :: .ref (ad k' t' i') :: st) := by
  obtain ⟨hx, hb, hml, hown, hts, hK, hJ, hA, hA2, hlk⟩ := X
  have nn : ∀ z : Int32, ¬ z < 0 → z.toInt = (z.toNatClampNeg : Int) := by
    intro z hz
    have hz0 : (0 : Int) ≤ z.toInt := by
      have := Int32.not_lt.mp hz
      simpa using Int32.le_iff_toInt_le.mp this
    show z.toInt = ((z.toInt.toNat : Nat) : Int)
    omega
  intro H locs ls hP hS hl0 T hT X
  have hc0 : H[ad k' t' i']? = some (vp_cell (cA 0) (n', .inl (S k' t' i'))) := gP_one hP hg' (hct' _) 0 _ rfl
  have hc1 : H[ad k t i]? = some (vp_cell (cA 0) (n, .inl (S k t i))) := gP_one hP hg (hct _) 0 _ rfl
  obtain ⟨-, k0, hk0, cm0, hkk0⟩ := (hK.2 0 _ rfl).1 n' (fun j => .int (S k' t' i' j))
  obtain ⟨-, k1, hk1, cm1, hkk1⟩ := (hK.2 0 _ rfl).1 n (fun j => .int (S k t i j))
  obtain ⟨vm', X', step⟩ := X.arraycopy hx hown (hts _ hw.1) (hts _ hw.2.1) (hts _ hw.2.2.1) (hts _ hw.2.2.2) (src := ad k' t' i') (dst := ad k t i) (cs := vp_cell (cA 0) (n', .inl (S k' t' i'))) (cd := vp_cell (cA 0) (n, .inl (S k t i))) (srcPos := sp) (destPos := dp) (n := z) (by rw [hT]; exact hc0) (by rw [hT]; exact hc1)
    (fun _ h => by cases h) (fun _ h => by cases h) (fun h => by cases h) (fun h => by cases h) hk0 hk1 hkk0 hkk1 (by simp [refKind]) h1 h2 h3
    (by rw [nn sp h1, nn z h3]; show ¬ _ > ((arrV (cA 0) n' (fun j => .int (S k' t' i' j))).slots.size : Int); rw [arrV_size]; omega)
    (by rw [nn dp h2, nn z h3]; show ¬ _ > ((arrV (cA 0) n (fun j => .int (S k t i j))).slots.size : Int); rw [arrV_size]; omega)
    (fun vm₁ _ i0 hi => by
      have e : (vp_cell (cA 0) (n', .inl (S k' t' i'))).slots.getD (sp.toNatClampNeg + i0) .null = .int (S k' t' i' (sp.toNatClampNeg + i0)) := by
        show (arrV (cA 0) n' (fun j => .int (S k' t' i' j))).slots.getD _ _ = _
        rw [Array.getD_eq_getD_getElem?, arrV_read _ _ (by omega)]
        rfl
      refine ⟨?_, ?_⟩
      · rw [e]
        rfl
      · rw [e]
        exact trivial)
    (g := F0 m pc ls (.int z :: .int dp :: .ref (ad k t i) :: .int sp :: .ref (ad k' t' i') :: st)) rfl (by rw [hml]; exact hl0.1) (rest := st) rfl (by rw [hb]; exact hdg) hR.1 (by show 2 * 0 + _ + _ ≤ _; omega)
  have e1 : copied (vp_cell (cA 0) (n', .inl (S k' t' i'))) (vp_cell (cA 0) (n, .inl (S k t i))) sp dp z = vp_cell (cA 0) (n, .inl (va_cpy (S k' t' i') (S k t i) sp.toNatClampNeg dp.toNatClampNeg z.toNatClampNeg)) := va_copied (fun z => .int z) (cA 0) (cA 0) (S k' t' i') (S k t i) h4
  rw [e1] at X' step
  generalize hr : va_cpy (S k' t' i') (S k t i) sp.toNatClampNeg dp.toNatClampNeg z.toNatClampNeg = r at X' step kk
  have hl : ad k t i < H.size := (Array.getElem?_eq_some_iff.mp hc1).1
  have hheap : ((T.setVm vm').setCell (ad k t i) (vp_cell (cA 0) (n, .inl r))).heap = H.setIfInBounds (ad k t i) (vp_cell (cA 0) (n, .inl r)) := by rw [← hT]; rfl
  have oq : ∀ q : Nat, q ≠ ad k t i → (H.setIfInBounds (ad k t i) (vp_cell (cA 0) (n, .inl r)))[q]? = H[q]? := fun q hq => by simp [Array.getElem?_setIfInBounds, Ne.symm hq]
  obtain ⟨t9, a1, b1⟩ := kk _ rfl _ _ ls (gP_upd hP hJ hg (hct r) (show (H.setIfInBounds (ad k t i) _)[ad k t i]? = some _ by simp [Array.getElem?_setIfInBounds, hl]) oq) ⟨by simp; exact hS.1, fun q g1 g2 => by
      rw [oq q (fun e => g2 (by rw [e]; exact hA k t i hg))]
      exact hS.2.1 q g1 g2, fun q hq => by
      rcases List.mem_append.mp hq with h | h
      · exact hS.2.2 q h
      · obtain ⟨z, -, hz⟩ := List.mem_map.mp h
        rw [← hz]
        exact hA k t i hg⟩ hl0 _ hheap X'
  exact ⟨t9, step t9 a1, b1⟩
theorem V_iret (X : GX D cA dm ad A nL p s m args meth c own cc) (hr : meth.sig.returnType = some .int) {v : Int32} (hdg : decode cc pc = .ok (.ireturn, 1)) : V D cA dm ad A nL p l e R s m args below meth c cells slots (MQ below (gQ D cA dm ad S (some (.int v)) A) args s cells slots A) S pc lv [.int v] :=
  fun H locs ls hP hS hl => W.iret X.1 X.2.1 hr (fun t ht hW => ⟨⟨rfl, gP_moved hP ht⟩, hS.F ht⟩) hS.2.2 hdg X.2.2.2.2.2.2.2.2.2.1
theorem V_zret (X : GX D cA dm ad A nL p s m args meth c own cc) {ty : FieldType} (hr : meth.sig.returnType = some ty) {v : Int32} (hn : narrow ty (.int v) = .int v) (hdg : decode cc pc = .ok (.ireturn, 1)) : V D cA dm ad A nL p l e R s m args below meth c cells slots (MQ below (gQ D cA dm ad S (some (.int v)) A) args s cells slots A) S pc lv [.int v] :=
  fun H locs ls hP hS hl => W.zret X.1 X.2.1 hr hn (fun t ht hW => ⟨⟨rfl, gP_moved hP ht⟩, hS.F ht⟩) hS.2.2 hdg X.2.2.2.2.2.2.2.2.2.1
theorem V_vret (X : GX D cA dm ad A nL p s m args meth c own cc) (hr : meth.sig.returnType = none) (hdg : decode cc pc = .ok (.return_, 1)) : V D cA dm ad A nL p l e R s m args below meth c cells slots (MQ below (gQ D cA dm ad S none A) args s cells slots A) S pc lv [] :=
  fun H locs ls hP hS hl => W.vret X.1 X.2.1 hr (fun t ht hW => ⟨⟨rfl, gP_moved hP ht⟩, hS.F ht⟩) hS.2.2 hdg X.2.2.2.2.2.2.2.2.2.1
theorem V_aret (X : GX D cA dm ad A nL p s m args meth c own cc) {n : String} (hr : meth.sig.returnType = some (.object n)) {v : Value} (hv : v = .null ∨ ∃ a, v = .ref a) (hdg : decode cc pc = .ok (.areturn, 1)) : V D cA dm ad A nL p l e R s m args below meth c cells slots (MQ below (gQ D cA dm ad S (some v) A) args s cells slots A) S pc lv [v] :=
  fun H locs ls hP hS hl => W.aret X.1 X.2.1 hr (Or.inl ⟨n, rfl⟩) hv (fun t ht hW => ⟨⟨rfl, gP_moved hP ht⟩, hS.F ht⟩) hS.2.2 hdg X.2.2.2.2.2.2.2.2.2.1
/-- behind a call -/
theorem V_back (X : GX D cA dm ad A nL p s m args meth c own cc) {H : Heap} {locs : List Loc} {ls : Array Slot} {S' : S4} {rv : Option Value} {rest st0 : List Value} {a : Array Value} {k n : Nat} (hr : va_Run p l e R s m args below meth c H locs cells slots k n (F0 m pc ls st0) rest (gQ D cA dm ad S' rv (gA dm ad H.size) a) (gA dm ad H.size)) (hS : va_S A s.heap H locs) (hl : lv_has ls nL lv) (kk : V D cA dm ad A nL p l e R s m args below meth c (cells + k) (slots + n) Q S' (pc + 3) lv (rv.toList ++ rest)) : W p l e R s m args below meth c H locs cells slots Q (F0 m pc ls st0) := by
  obtain ⟨hx, hb, hml, hown, hts, hK, hJ, hA, hA2, hlk⟩ := X
  intro T hT X1
  obtain ⟨v, st₀, t, T', L, h0, X2, hL, e1, e2, ⟨⟨hv, hq⟩, hF⟩, st⟩ := hr T hT X1
  cases hv
  have hf : ∀ q, gA dm ad H.size q → A q := fun q h => h.elim (fun ⟨k, t, i, hg, e⟩ => by rw [e]; exact hA k t i hg) (fun h => hA2 q (Nat.le_trans hS.1 h))
  obtain ⟨k1, k2, k3⟩ := vx_keep h0 e1 hS (fun q _ h => hf q h) hf hL hF
  obtain ⟨t2, a1, b1⟩ := kk T'.heap (locs ++ L) ls (gP_moved hq e1) k3 hl T' rfl X2
  exact ⟨t2, st t2 a1, b1⟩
theorem g_cb {y : MethodName} {cy : ByteArray} {mL idx n rf rl : Nat} {ret : Option FieldType} (hts : ∀ w ∈ gT, w.before args s = true) (hM : ML own idx y cy mL ret n) (hR : rf + 1 ≤ R.frames ∧ 8 + (mL + 11) + rl ≤ R.locals) : CallB R s args own idx y cy mL ret (Cond.code y cy mL ret :: gT) ({ frames := rf, cells := 0, slots := 0, locals := rl }) 0 0 n :=
  callB_of n hts (gGood hM.2.1) rfl rfl rfl (hts _ hM.2.2.1) (hts _ hM.1) hM.2.2.2 hR
theorem V_callV (X : GX D cA dm ad A nL p s m args meth c own cc) {y : MethodName} {cy : ByteArray} {mL idx n rf rl k t i ci : Nat} {ret : Option FieldType} {rv : Option Value} {S' : S4} (As : List Value) {rest : List Value} {fs : List Value} (hdg : decode cc pc = .ok (.invokevirtual idx, 3)) (hM : ML own idx y cy mL ret n) (hV : MV y) (hR : rf + 1 ≤ R.frames ∧ 8 + (mL + 11) + rl ≤ R.locals) (hf : cells ≤ R.cells ∧ slots ≤ R.slots) (hn : As.length = n) (hst : (rest.map fun v => v.category).sum ≤ 8) (hg : dm k t i) (hct : ct cA ad k t i (S k t i) = .inr (ci, fs)) (hcl : ∃ T N, gCl[ci]? = some (y.cls, T, N))
    (hC : Ct D cA dm ad l y cy mL ret rf rl S (.ref (ad k t i) :: As) rv S') (kk : V D cA dm ad A nL p l e R s m args below meth c cells slots Q S' (pc + 3) lv (rv.toList ++ rest)) : V D cA dm ad A nL p l e R s m args below meth c cells slots Q S pc lv (As.reverse ++ .ref (ad k t i) :: rest) := by
  intro H locs ls hP hS hl
  obtain ⟨hx, hb, hml, hown, hts, hK, hJ, hA, hA2, hlk⟩ := id X
  obtain ⟨T, N, hcl⟩ := hcl
  refine V_back X (va_runV (As := As) (rest := rest) ⟨hx, hb, hml, hown, hts⟩ (hC H.size) ⟨g_cb hts hM hR, hts _ hV.1, hts _ hV.2⟩ ⟨gB_blind, va_recv hK (gP_one hP hg hct) (q0 := 0) hcl rfl, fun U hU hW => ⟨rfl, by rw [hU], gP_moved hP hU, gK_moved hW.alike hK, hJ, gN_moved hW hlk.2⟩⟩ rfl hn hl.1 rfl (lv_room hst) hdg hf) hS hl kk
theorem V_callS (X : GX D cA dm ad A nL p s m args meth c own cc) {y : MethodName} {cy : ByteArray} {mL idx n rf rl : Nat} {ret : Option FieldType} {rv : Option Value} {S' : S4} (As : List Value) {rest : List Value} (hdg : decode cc pc = .ok (.invokestatic idx, 3)) (hM : ML own idx y cy mL ret n) (hV : Cond.static y ∈ gT) (hR : rf + 1 ≤ R.frames ∧ 8 + (mL + 11) + rl ≤ R.locals) (hf : cells ≤ R.cells ∧ slots ≤ R.slots) (hn : As.length = n) (hst : (rest.map fun v => v.category).sum ≤ 8)
    (hC : Ct D cA dm ad l y cy mL ret rf rl S As rv S') (kk : V D cA dm ad A nL p l e R s m args below meth c cells slots Q S' (pc + 3) lv (rv.toList ++ rest)) : V D cA dm ad A nL p l e R s m args below meth c cells slots Q S pc lv (As.reverse ++ rest) := by
  intro H locs ls hP hS hl
  obtain ⟨hx, hb, hml, hown, hts, hK, hJ, hA, hA2, hlk⟩ := id X
  refine V_back X (va_runS (As := As) (rest := rest) ⟨hx, hb, hml, hown, hts⟩ (hC H.size) ⟨g_cb hts hM hR, hts _ hV⟩ ⟨gB_blind, fun U hU hW => ⟨rfl, by rw [hU], gP_moved hP hU, gK_moved hW.alike hK, hJ, gN_moved hW hlk.2⟩⟩ rfl hn hl.1 rfl (lv_room hst) hdg hf) hS hl kk
end VV
/-- a method's contract out of the walk of its body -/
theorem Ct.of {D : va_G} {cA : Nat → ClassId} {dm : Dm} {ad : Ad} {l : Launch} {y : MethodName} {cy : ByteArray} {mL rf rl : Nat} {ret : Option FieldType} {S S' : S4} {av : List Value} {rv : Option Value} (hy : plainName y.cls = true) (hlen : (lg_sl av).length ≤ mL) (lv : List (Nat × Value)) (hlv : lv_args 0 av = lv)
    (body : ∀ (p : Program) (e : Env) (s : State) (m : MethodId) (args : Array Value) (below : List Frame) (meth : Method) (c : Code) (A : Nat → Prop), GX D cA dm ad A mL p s m args meth c y.cls cy → meth.sig.returnType = ret → V D cA dm ad A mL p l e ({ frames := rf, cells := 0, slots := 0, locals := rl }) s m args below meth c 0 0 (MQ below (gQ D cA dm ad S' rv A) args s 0 0 A) S 0 lv []) : Ct D cA dm ad l y cy mL ret rf rl S av rv S' := by
  intro sz
  refine Met.ofW (cc := cy) (maxL := mL) (ret := ret) hy rfl ?_
  intro p e s m args below meth c s₁ B hml hv
  obtain ⟨rfl, hsz, hP, hK, hJ, hN⟩ := hv
  have hts := atoms_spec (ws := Cond.code y cy mL ret :: gT) B.pre
  have hown : s.vm.findClass y.cls = some m.cls := findClass_of_methodNamed B.named
  subst hsz
  have hl := lv_entry av (n := mL) hlen
  rw [lg_entry_eq]
  rw [hlv] at hl
  exact body p e s m av.toArray below meth c (gA dm ad s.heap.size) ⟨B.exec, B.bytes, hml, hown, fun w hw => hts w (List.mem_cons_of_mem _ hw), hK, hJ, fun k t i hg => Or.inl ⟨k, t, i, hg, rfl⟩, fun q h => Or.inr h, B.notSynchronized, hN⟩ B.returns s.heap [] _ hP va_S.rf hl

