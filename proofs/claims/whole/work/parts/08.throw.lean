/-! exceptions that the class throws -/
def exn : Nat → String := fun k => match k with
  | 1 => "java/lang/IllegalArgumentException"
  | 2 => "java/lang/IllegalStateException"
  | 3 => "java/lang/UnsupportedOperationException"
  | 4 => "java/util/NoSuchElementException"
  | 5 => "java/lang/IndexOutOfBoundsException"
  | _ => "java/lang/ArithmeticException"
abbrev exNames : List String := ["java/lang/RuntimeException", "java/lang/Exception"]
def tb {α β : Type} (x : Option (α ⊕ (Nat × S4))) (f : α → Option (β ⊕ (Nat × S4))) : Option (β ⊕ (Nat × S4)) := x.bind (fun r => match r with
  | .inl a => f a
  | .inr e => some (.inr e))
theorem tb_l {α β : Type} {x : Option (α ⊕ (Nat × S4))} {f : α → Option (β ⊕ (Nat × S4))} {o : β} (h : tb x f = some (.inl o)) : ∃ a, x = some (.inl a) ∧ f a = some (.inl o) := by
  cases x with
  | none => cases h
  | some r =>
    cases r with
    | inl a => exact ⟨a, rfl, h⟩
    | inr e => exact absurd h (by simp [tb])
theorem tb_r {α β : Type} {x : Option (α ⊕ (Nat × S4))} {f : α → Option (β ⊕ (Nat × S4))} {o : Nat × S4} (h : tb x f = some (.inr o)) : (∃ a, x = some (.inl a) ∧ f a = some (.inr o)) ∨ x = some (.inr o) := by
  cases x with
  | none => cases h
  | some r =>
    cases r with
    | inl a => exact Or.inl ⟨a, rfl, h⟩
    | inr e =>
      have h : some (Sum.inr e) = some (Sum.inr o) := h
      exact Or.inr (by rw [show e = o from Sum.inr.inj (Option.some.inj h)])
theorem lr_no {α β : Type} {a : α} {b : β} (h : some (Sum.inl a : α ⊕ β) = some (.inr b)) : False := by cases h
theorem rl_no {α β : Type} {a : α} {b : β} (h : some (Sum.inr b : α ⊕ β) = some (.inl a)) : False := by cases h
theorem ll_eq {α β : Type} {a b : α} (h : some (Sum.inl a : α ⊕ β) = some (.inl b)) : a = b := Sum.inl.inj (Option.some.inj h)
theorem rr_eq {α β : Type} {a b : β} (h : some (Sum.inr a : α ⊕ β) = some (.inr b)) : a = b := Sum.inr.inj (Option.some.inj h)
def gZ (A : Nat → Prop) (U : State) (H : Heap) : Prop := vx_Zq Bundle.tN "UNASSIGNED_STACK" Bundle.steD A U H ∧ vx_Zq Bundle.tN "SUPPRESSED_SENTINEL" Bundle.listD A U H
def gBx (D : va_G) (cA : Nat → ClassId) (dm : Dm) (ad : Ad) (S : S4) (sz : Nat) : State → Prop := fun U => gB D cA dm ad S sz U ∧ gZ (gA dm ad sz) U U.heap
def xQ (D : va_G) (cA : Nat → ClassId) (dm : Dm) (ad : Ad) (S : S4) (k : Nat) (A : Nat → Prop) : String → State → State → Prop := fun E st t => E = exn k ∧ gP D cA dm ad S t.heap ∧ va_F A st t
def qN : Array Value → State → Outcome → State → Prop := fun _ _ _ _ => False
/-- a method's contract where it throws -/
def Cx (D : va_G) (cA : Nat → ClassId) (dm : Dm) (ad : Ad) (l : Launch) (y : MethodName) (cy : ByteArray) (mL : Nat) (ret : Option FieldType) (rf rl : Nat) (S : S4) (av : List Value) (o : Nat × S4) : Prop :=
  ∀ sz : Nat, vx_Met l y (Cond.code y cy mL ret :: gT) ({ frames := rf, cells := 1, slots := 6, locals := rl }) (va_Pc av (gBx D cA dm ad S sz)) qN (xQ D cA dm ad o.2 o.1 (gA dm ad sz)) 1 6 (gA dm ad sz)
theorem gBx_blind {D : va_G} {cA : Nat → ClassId} {dm : Dm} {ad : Ad} {S : S4} {sz : Nat} {av : List Value} : FrameBlind (va_Pc av (gBx D cA dm ad S sz)) := fun a U g mk h => by
  obtain ⟨h1, h2⟩ := gB_blind (D := D) (cA := cA) (dm := dm) (ad := ad) (S := S) (sz := sz) (av := av) a U g mk ⟨h.1, h.2.1⟩
  exact ⟨h1, h2, vx_Zq.moved (u := U) (U := U.calling g mk a) (Vm.Alike.refl U.vm) h.2.2.1, vx_Zq.moved (u := U) (U := U.calling g mk a) (Vm.Alike.refl U.vm) h.2.2.2⟩
theorem Cx.of {D : va_G} {cA : Nat → ClassId} {dm : Dm} {ad : Ad} {l : Launch} {y : MethodName} {cy : ByteArray} {mL rf rl : Nat} {ret : Option FieldType} {S : S4} {av : List Value} {o : Nat × S4} (hy : plainName y.cls = true) (hlen : (lg_sl av).length ≤ mL) (lv : List (Nat × Value)) (hlv : lv_args 0 av = lv)
    (body : ∀ (p : Program) (e : Env) (s : State) (m : MethodId) (args : Array Value) (below : List Frame) (meth : Method) (c : Code) (A : Nat → Prop), GX D cA dm ad A mL p s m args meth c y.cls cy → meth.sig.returnType = ret → gZ A s s.heap → (∀ x ∈ c.exceptionTable.toList, False) → V D cA dm ad A mL p l e ({ frames := rf, cells := 1, slots := 6, locals := rl }) s m args below meth c 0 0 (vx_MQ below qN (xQ D cA dm ad o.2 o.1 A) args s 1 6 A) S 0 lv []) : Cx D cA dm ad l y cy mL ret rf rl S av o := by
  intro sz
  refine vx_ofW (cc := cy) (maxL := mL) (ret := ret) hy rfl ?_
  intro p e s m args below meth c s₁ B hml hE hv
  obtain ⟨rfl, ⟨hsz, hP, hK, hJ, hN⟩, hZ⟩ := hv
  have hts := atoms_spec (ws := Cond.code y cy mL ret :: gT) B.pre
  have hown : s.vm.findClass y.cls = some m.cls := findClass_of_methodNamed B.named
  subst hsz
  have hl := lv_entry av (n := mL) hlen
  rw [lg_entry_eq]
  rw [hlv] at hl
  exact body p e s m av.toArray below meth c (gA dm ad s.heap.size) ⟨B.exec, B.bytes, hml, hown, fun w hw => hts w (List.mem_cons_of_mem _ hw), hK, hJ, fun k t i hg => Or.inl ⟨k, t, i, hg, rfl⟩, fun q h => Or.inr h, B.notSynchronized, hN⟩ B.returns hZ hE s.heap [] _ hP va_S.rf hl
section VT
variable {D : va_G} {cA : Nat → ClassId} {dm : Dm} {ad : Ad} {A : Nat → Prop} {nL : Nat} {p : Program} {l : Launch} {e : Env} {R : Room} {s : State} {m : MethodId} {args : Array Value} {below : List Frame} {meth : Method} {c : Code} {cells slots : Nat} {Q : State → Prop} {cc : ByteArray} {S S' : S4} {pc : Nat} {lv lv' : List (Nat × Value)} {st : List Value}
theorem gP_new {H H1 : Heap} (h : gP D cA dm ad S H) (hq : ∀ q : Nat, q < H.size → H1[q]? = H[q]?) : gP D cA dm ad S H1 := fun k t i hg => (h k t i hg).kept (hq _ (h k t i hg).lt)
theorem gZ_narrow {A B : Nat → Prop} {U : State} {H : Heap} (h : gZ A U H) (hAB : ∀ q, B q → A q) : gZ B U H := ⟨h.1.narrow hAB, h.2.narrow hAB⟩
theorem gZ_kept {A : Nat → Prop} {U : State} {H H1 : Heap} (h : gZ A U H) (hq : ∀ a : Nat, a < H.size → ¬ A a → H1[a]? = H[a]?) : gZ A U H1 := ⟨h.1.kept hq, h.2.kept hq⟩
theorem gZ_moved {A : Nat → Prop} {u U : State} {H : Heap} (hvm : u.vm.Alike U.vm) (h : gZ A u H) : gZ A U H := ⟨vx_Zq.moved hvm h.1, vx_Zq.moved hvm h.2⟩
/-- what a throw of the class k takes from the tables -/
def TW (k ik ic ix : Nat) (rx : ByteArray) : Prop := (decode rx 0 = .ok (.aload_n 0, 1) ∧ decode rx 1 = .ok (.aload_n 1, 1) ∧ decode rx 2 = .ok (.invokespecial ix, 3) ∧ decode rx 5 = .ok (.return_, 1)) ∧ Bundle.fit (exn k) = true ∧ Cond.classLink RX6 ik (exn k) ∈ gT ∧ Cond.initialized (exn k) ∈ gT ∧ (∀ w ∈ (gx_at RX6 ic (exn k) ix rx exNames).filter goodWord, w ∈ gT) ∧ (∀ w ∈ (gx_at RX6 ic (exn k) ix rx exNames).filter (fun w => !goodWord w), w ∈ gNx) ∧ ∀ w ∈ Cond.classLink RX6 ik (exn k) :: Cond.initialized (exn k) :: gx_at RX6 ic (exn k) ix rx exNames, vx_ot w = true
theorem TW.of {k ik ic ix : Nat} {rx : ByteArray} (h0 : decode rx 0 = .ok (.aload_n 0, 1) ∧ decode rx 1 = .ok (.aload_n 1, 1) ∧ decode rx 2 = .ok (.invokespecial ix, 3) ∧ decode rx 5 = .ok (.return_, 1)) (h1 : Bundle.fit (exn k) = true) (h2 : Cond.classLink RX6 ik (exn k) ∈ gT) (h3 : Cond.initialized (exn k) ∈ gT) (h4 : ((gx_at RX6 ic (exn k) ix rx exNames).filter goodWord).all (fun w => decide (w ∈ lw_tbl)) = true) (h5 : ((gx_at RX6 ic (exn k) ix rx exNames).filter (fun w => !goodWord w)).all (fun w => decide (w ∈ gNx)) = true) (h6 : (Cond.classLink RX6 ik (exn k) :: Cond.initialized (exn k) :: gx_at RX6 ic (exn k) ix rx exNames).all vx_ot = true) : TW k ik ic ix rx :=
  ⟨h0, h1, h2, h3, fun w hw => List.mem_filter.mpr ⟨of_decide_eq_true (List.all_eq_true.mp h4 w hw), (List.mem_filter.mp hw).2⟩, fun w hw => of_decide_eq_true (List.all_eq_true.mp h5 w hw), fun w hw => List.all_eq_true.mp h6 w hw⟩
theorem exN_fit : ∀ n ∈ exNames, Bundle.fit n = true := by decide +kernel
theorem V_throwS (X : GX D cA dm ad A nL p s m args meth c RX6 cc) (hE : ∀ x ∈ c.exceptionTable.toList, False) (hl : l.stackTraces = false) (hZ : gZ A s s.heap) {k ik is ic ix : Nat} {rx : ByteArray} {text : String} (hT : TW k ik ic ix rx) (hs : (is, text) ∈ gStr) (d0 : decode cc pc = .ok (.new ik, 3)) (d3 : decode cc (pc + 3) = .ok (.dup, 1)) (d4 : decode cc (pc + 4) = .ok (.ldc is, 2)) (d6 : decode cc (pc + 6) = .ok (.invokespecial ic, 3)) (d9 : decode cc (pc + 9) = .ok (.athrow, 1)) (hst : (st.map fun v => v.category).sum ≤ 8) (hR : 5 < R.frames ∧ 8 + 82 ≤ R.locals ∧ cells + 1 ≤ R.cells ∧ slots + 6 ≤ R.slots) (hc : cells + 1 ≤ 1 ∧ slots + 6 ≤ 6) {Qc : Array Value → State → Outcome → State → Prop} : V D cA dm ad A nL p l e R s m args below meth c cells slots (vx_MQ below Qc (xQ D cA dm ad S k A) args s 1 6 A) S pc lv st := by
  obtain ⟨hx, hb, hml, hown, hts, hK, hJ, hA, hA2, hlk⟩ := X
  obtain ⟨t0, t1, t2, t3, t4, t5, t6⟩ := hT
  obtain ⟨sa, hsa⟩ := hlk.2.2.1 _ hs
  intro H locs ls hP hS hl0
  refine gx_throwS hx hb hl t0.1 t0.2.1 t0.2.2.1 t0.2.2.2 hown t1 exN_fit (hts _ t2) (hts _ t3) hsa (vx_hat (fun w hw => hts w (t4 w hw)) t5 (fun w hw => ?_)) t6 hZ.1 hZ.2 hS (hl0.1.trans hml.symm) d0 d3 d4 d6 d9 (fun x hx' => (hE x hx').elim) hR.1 ?_ hR.2.2.1 hR.2.2.2 hlk.1 ?_ hS.2.2 hc.1 hc.2
  · have h1 := hlk.2.1 w hw
    rcases gNx_cases hw with ⟨a, i, x, b, rfl⟩ | ⟨n, rfl⟩ | ⟨x, rfl⟩ <;> exact va_Nw.use rfl h1
  · have := hR.2.1
    show _ + (13 * (2 + 1) + 43) ≤ _
    omega
  · intro t ht hz hk
    exact ⟨rfl, gP_new hP hk, Nat.le_trans hS.1 hz, fun q h1 h2 => (hk q (Nat.lt_of_lt_of_le h1 hS.1)).trans (hS.2.1 q h1 h2)⟩
theorem V_throwSW (X : GX D cA dm ad A nL p s m args meth c RX6 cc) (hE : ∀ x ∈ c.exceptionTable.toList, False) (hl : l.stackTraces = false) (hZ : gZ A s s.heap) {k ik is ic ix : Nat} {rx : ByteArray} {text : String} (hT : TW k ik ic ix rx) (hs : (is, text) ∈ gStr) (d0 : decode cc pc = .ok (.new ik, 3)) (d3 : decode cc (pc + 3) = .ok (.dup, 1)) (d4 : decode cc (pc + 4) = .ok (.ldc_w is, 3)) (d6 : decode cc (pc + 7) = .ok (.invokespecial ic, 3)) (d9 : decode cc (pc + 10) = .ok (.athrow, 1)) (hst : (st.map fun v => v.category).sum ≤ 8) (hR : 5 < R.frames ∧ 8 + 82 ≤ R.locals ∧ cells + 1 ≤ R.cells ∧ slots + 6 ≤ R.slots) (hc : cells + 1 ≤ 1 ∧ slots + 6 ≤ 6) {Qc : Array Value → State → Outcome → State → Prop} : V D cA dm ad A nL p l e R s m args below meth c cells slots (vx_MQ below Qc (xQ D cA dm ad S k A) args s 1 6 A) S pc lv st := by
  obtain ⟨hx, hb, hml, hown, hts, hK, hJ, hA, hA2, hlk⟩ := X
  obtain ⟨t0, t1, t2, t3, t4, t5, t6⟩ := hT
  obtain ⟨sa, hsa⟩ := hlk.2.2.1 _ hs
  intro H locs ls hP hS hl0
  refine gx_throwSW hx hb hl t0.1 t0.2.1 t0.2.2.1 t0.2.2.2 hown t1 exN_fit (hts _ t2) (hts _ t3) hsa (vx_hat (fun w hw => hts w (t4 w hw)) t5 (fun w hw => ?_)) t6 hZ.1 hZ.2 hS (hl0.1.trans hml.symm) d0 d3 d4 d6 d9 (fun x hx' => (hE x hx').elim) hR.1 ?_ hR.2.2.1 hR.2.2.2 hlk.1 ?_ hS.2.2 hc.1 hc.2
  · have h1 := hlk.2.1 w hw
    rcases gNx_cases hw with ⟨a, i, x, b, rfl⟩ | ⟨n, rfl⟩ | ⟨x, rfl⟩ <;> exact va_Nw.use rfl h1
  · have := hR.2.1
    show _ + (13 * (2 + 1) + 43) ≤ _
    omega
  · intro t ht hz hk
    exact ⟨rfl, gP_new hP hk, Nat.le_trans hS.1 hz, fun q h1 h2 => (hk q (Nat.lt_of_lt_of_le h1 hS.1)).trans (hS.2.1 q h1 h2)⟩
theorem g_cbx {own : String} {y : MethodName} {cy : ByteArray} {mL idx n rf rl : Nat} {ret : Option FieldType} (hts : ∀ w ∈ gT, w.before args s = true) (hM : ML own idx y cy mL ret n) (hR : rf + 1 ≤ R.frames ∧ 8 + (mL + 11) + rl ≤ R.locals) : CallB R s args own idx y cy mL ret (Cond.code y cy mL ret :: gT) ({ frames := rf, cells := 1, slots := 6, locals := rl }) 1 6 n :=
  callB_of n hts (gGood hM.2.1) rfl rfl rfl (hts _ hM.2.2.1) (hts _ hM.1) hM.2.2.2 hR
/-- a callee that throws: nothing here catches it -/
theorem V_callSX {own : String} (X : GX D cA dm ad A nL p s m args meth c own cc) (hE : ∀ x ∈ c.exceptionTable.toList, False) (hZ : gZ A s s.heap) {y : MethodName} {cy : ByteArray} {mL idx n rf rl : Nat} {ret : Option FieldType} {o : Nat × S4} (As : List Value) {rest : List Value} (hdg : decode cc pc = .ok (.invokestatic idx, 3)) (hM : ML own idx y cy mL ret n) (hV : Cond.static y ∈ gT) (hR : rf + 1 ≤ R.frames ∧ 8 + (mL + 11) + rl ≤ R.locals) (hf : cells + 1 ≤ R.cells ∧ slots + 6 ≤ R.slots) (hc : cells + 1 ≤ 1 ∧ slots + 6 ≤ 6) (hn : As.length = n) (hst : (rest.map fun v => v.category).sum ≤ 8)
    (hC : Cx D cA dm ad l y cy mL ret rf rl S As o) {Qc : Array Value → State → Outcome → State → Prop} : V D cA dm ad A nL p l e R s m args below meth c cells slots (vx_MQ below Qc (xQ D cA dm ad o.2 o.1 A) args s 1 6 A) S pc lv (As.reverse ++ rest) := by
  intro H locs ls hP hS hl T hT X1
  obtain ⟨hx, hb, hml, hown, hts, hK, hJ, hA, hA2, hlk⟩ := id X
  have hAf : ∀ q, gA dm ad H.size q → A q := fun q h => h.elim (fun ⟨k, t, i, hg, e⟩ => by rw [e]; exact hA k t i hg) (fun h => hA2 q (Nat.le_trans hS.1 h))
  have hZH : gZ (gA dm ad H.size) s H := gZ_narrow (gZ_kept hZ (fun a h1 h2 => hS.2.1 a h1 h2)) hAf
  rcases vx_runS (As := As) (rest := rest) (g := F0 m pc ls (As.reverse ++ rest)) (cells := cells) (slots := slots) ⟨hx, hb, hml, hown, hts⟩ (hC H.size) ⟨g_cbx hts hM hR, hts _ hV⟩ ⟨gBx_blind, fun U hU hW => ⟨rfl, ⟨by rw [hU], gP_moved hP hU, gK_moved hW.alike hK, hJ, gN_moved hW hlk.2⟩, gZ_moved hW.alike (by rw [hU]; exact hZH)⟩⟩ rfl hn hl.1 rfl (lv_room hst) hdg hf T hT X1 with ⟨v, st₀, t, T', L, h0, X2, hL, e1, e2, hq, st9⟩ | ⟨q, st₀, t, T', L, E, ce, h0, X2, hL, e1, e2, ⟨hEe, hq, hF⟩, hce, hcv, hcl, st9⟩
  · exact hq.elim
  · obtain ⟨k1, k2, k3⟩ := vx_keep h0 e1 hS (fun q _ h => hAf q h) hAf hL hF
    obtain ⟨t9, a1, b1⟩ := vx_out (Qc := Qc) (XC := xQ D cA dm ad o.2 o.1 A) (rest := rest) (ls := ls) (pc := pc) (mc := 1) (ms := 6) (free := A) (H := T'.heap) (fun x hx' => (hE x hx').elim) hlk.1 (by rw [e1]; exact hce) hcv hcl (fun t2 ht2 _ => ⟨hEe, gP_moved hq (ht2.trans e1), by rw [ht2]; exact k3.1, fun q h1 h2 => by rw [ht2]; exact k3.2.1 q h1 h2⟩) k3.2.2 hc.1 hc.2 T' rfl X2
    exact ⟨t9, st9.trans a1, b1⟩
end VT

theorem tw_1 : TW 1 37 41 7 Bundle.six := TW.of ⟨by decide +kernel, by decide +kernel, by decide +kernel, by decide +kernel⟩ (by decide +kernel) (gin 497 (by decide +kernel) (by decide +kernel)) (gin 91 (by decide +kernel) (by decide +kernel)) (by decide +kernel) (by decide +kernel) (by decide +kernel)
theorem tw_2 : TW 2 64 68 7 Bundle.six := TW.of ⟨by decide +kernel, by decide +kernel, by decide +kernel, by decide +kernel⟩ (by decide +kernel) (gin 590 (by decide +kernel) (by decide +kernel)) (gin 92 (by decide +kernel) (by decide +kernel)) (by decide +kernel) (by decide +kernel) (by decide +kernel)
theorem tw_3 : TW 3 137 141 7 Bundle.six := TW.of ⟨by decide +kernel, by decide +kernel, by decide +kernel, by decide +kernel⟩ (by decide +kernel) (gin 777 (by decide +kernel) (by decide +kernel)) (gin 97 (by decide +kernel) (by decide +kernel)) (by decide +kernel) (by decide +kernel) (by decide +kernel)
theorem tw_4 : TW 4 190 194 13 prog_37_method_4_code := TW.of ⟨by decide +kernel, by decide +kernel, by decide +kernel, by decide +kernel⟩ (by decide +kernel) (gin 882 (by decide +kernel) (by decide +kernel)) (gin 100 (by decide +kernel) (by decide +kernel)) (by decide +kernel) (by decide +kernel) (by decide +kernel)
theorem tw_5 : TW 5 418 422 7 Bundle.six := TW.of ⟨by decide +kernel, by decide +kernel, by decide +kernel, by decide +kernel⟩ (by decide +kernel) (gin 845 (by decide +kernel) (by decide +kernel)) (gin 98 (by decide +kernel) (by decide +kernel)) (by decide +kernel) (by decide +kernel) (by decide +kernel)
theorem tw_6 : TW 6 357 361 7 Bundle.six := TW.of ⟨by decide +kernel, by decide +kernel, by decide +kernel, by decide +kernel⟩ (by decide +kernel) (gin 1139 (by decide +kernel) (by decide +kernel)) (gin 101 (by decide +kernel) (by decide +kernel)) (by decide +kernel) (by decide +kernel) (by decide +kernel)
