/-! the JDK's builder: what its statics hold; contracts that may move its bytes; rules of bytes -/
def gJw : List Cond := [.selects RJ4 yJ5_ensureCapacityInternal_d00df yJ5_ensureCapacityInternal_d00df, .selects RJ4 yJ5_newCapacity_0f7a4 yJ5_newCapacity_0f7a4]
def gYs (A : Nat → Prop) (U : State) (H : Heap) : Prop :=
  va_Z RJ0 "COMPACT_STRINGS" "Z" (.int 1) A U H ∧ (∃ b, va_Z RJ6 "DigitOnes" "[B" (.ref b) A U H ∧ va_T .byte b 100 (fun j => .int (nI (48 + j % 10))) A U H) ∧ (∃ b, va_Z RJ6 "DigitTens" "[B" (.ref b) A U H ∧ va_T .byte b 100 (fun j => .int (nI (48 + j / 10))) A U H) ∧ va_Zq RJ3 "SIOOBE_FORMATTER" "Ljava/util/function/BiFunction;" A U H
/-- classes of which arrays are made -/
def gAO : List String := [RX5, RX0, RX2, RX1, RX4]
def gY (A : Nat → Prop) (U : State) (H : Heap) : Prop := gYs A U H ∧ (∀ w ∈ gJw, va_Nw w U) ∧ ∀ C ∈ gAO, va_AO C U
theorem gYs_moved {A : Nat → Prop} {u U : State} {H : Heap} (hvm : u.vm.Alike U.vm) (h : gYs A u H) : gYs A U H := by
  obtain ⟨h1, ⟨b, h2, h3⟩, ⟨b', h4, h5⟩, h6⟩ := h
  exact ⟨va_Z.moved hvm h1, ⟨b, va_Z.moved hvm h2, va_T.moved hvm h3⟩, ⟨b', va_Z.moved hvm h4, va_T.moved hvm h5⟩, va_Zq.moved hvm h6⟩
theorem gJw_in {w : Cond} (h : w ∈ gJw) : ∃ a x y, w = .selects a x y := by
  simp only [gJw, List.mem_cons, List.not_mem_nil, or_false] at h
  rcases h with h | h <;> exact ⟨_, _, _, h⟩
theorem gY_warm {A : Nat → Prop} {s U : State} {H : Heap} (hW : s.WarmedH U.vm) (h : gY A s H) : gY A U H := ⟨gYs_moved hW.alike h.1, fun w hw => by
  have h1 := h.2.1 w hw
  obtain ⟨a, x, y, rfl⟩ := gJw_in hw
  exact Cond.onTables_warm (T := U) hW rfl rfl h1, fun C hC => va_AO.moved hW.alike (h.2.2 C hC)⟩
theorem gY_same {A : Nat → Prop} {u U : State} {H : Heap} (hv : u.vm = U.vm) (h : gY A u H) : gY A U H := ⟨gYs_moved (by rw [hv]; exact Vm.Alike.refl U.vm) h.1, fun w hw => by
  have h1 := h.2.1 w hw
  obtain ⟨a, x, y, rfl⟩ := gJw_in hw
  exact va_tabs rfl hv h1, fun C hC => va_AO.moved (by rw [hv]; exact Vm.Alike.refl U.vm) (h.2.2 C hC)⟩
theorem gY_kept {A : Nat → Prop} {U : State} {H H1 : Heap} (h : gY A U H) (hq : ∀ a : Nat, a < H.size → ¬ A a → H1[a]? = H[a]?) : gY A U H1 := by
  obtain ⟨⟨h1, ⟨b, h2, h3⟩, ⟨b', h4, h5⟩, h6⟩, h7⟩ := h
  exact ⟨⟨h1.kept hq, ⟨b, h2.kept hq, h3.kept hq⟩, ⟨b', h4.kept hq, h5.kept hq⟩, h6.kept hq⟩, h7⟩
theorem gY_narrow {A B : Nat → Prop} {U : State} {H : Heap} (h : gY A U H) (hAB : ∀ q, B q → A q) : gY B U H := by
  obtain ⟨⟨h1, ⟨b, h2, h3⟩, ⟨b', h4, h5⟩, h6⟩, h7⟩ := h
  exact ⟨⟨h1.narrow hAB, ⟨b, h2.narrow hAB, h3.narrow hAB⟩, ⟨b', h4.narrow hAB, h5.narrow hAB⟩, h6.narrow hAB⟩, h7⟩
/-- the names keep their addresses; the builder's bytes may move where mv says so -/
def agM (mv : Bool) (dm : Dm) (ad ad' : Ad) : Prop := ∀ k t i, dm k t i → (k ≠ 9 ∨ mv = false) → ad' k t i = ad k t i
theorem agM.refl {mv : Bool} {dm : Dm} {ad : Ad} : agM mv dm ad ad := fun _ _ _ _ _ => rfl
theorem agM.trans {mv : Bool} {dm dm' : Dm} {ad ad' ad2 : Ad} (h : agM mv dm ad ad') (h2 : agM mv dm' ad' ad2) (hd : ∀ k t i, dm k t i → dm' k t i) : agM mv dm ad ad2 := fun k t i g g9 => (h2 k t i (hd k t i g) g9).trans (h k t i g g9)
theorem agM.w {mv : Bool} {dm : Dm} {ad ad' : Ad} (h : agM mv dm ad ad') : agM true dm ad ad' := fun k t i g g9 => h k t i g (Or.inl (g9.resolve_right (fun z => by cases z)))
theorem agM.e {mv : Bool} {dm : Dm} {ad ad' : Ad} (h : agM mv dm ad ad') : agE dm ad ad' := fun k t i g g9 => h k t i g (Or.inl g9)
theorem agE.m {dm : Dm} {ad ad' : Ad} (h : agE dm ad ad') : agM true dm ad ad' := fun k t i g g9 => h k t i g (g9.resolve_right (fun z => by cases z))
def gBy (D : va_G) (cA : Nat → ClassId) (dm : Dm) (ad : Ad) (S : S4) (sz : Nat) : State → Prop := fun U => gB D cA dm ad S sz U ∧ gY (gA dm ad sz) U U.heap
def gQJ (mv : Bool) (D : va_G) (cA : Nat → ClassId) (dm E : Dm) (ad : Ad) (S : S4) (rv : Ad → Option Value) (A : Nat → Prop) : Array Value → State → Outcome → State → Prop := fun _ st oc t => (∃ ad' : Ad, oc = .returned (rv ad') ∧ agM mv dm ad ad' ∧ gJ E ad' ∧ (∀ k t i, E k t i → A (ad' k t i)) ∧ gP D cA E ad' S t.heap) ∧ va_F A st t
/-- a contract of the JDK's builder: cells may come, the bytes may move -/
def CtJ (mv : Bool) (D : va_G) (cA : Nat → ClassId) (dm E : Dm) (ad : Ad) (l : Launch) (y : MethodName) (cy : ByteArray) (mL : Nat) (ret : Option FieldType) (rf rl mc ms : Nat) (S : S4) (av : List Value) (rv : Ad → Option Value) (S' : S4) : Prop :=
  ∀ sz : Nat, Met l y (Cond.code y cy mL ret :: gT) ({ frames := rf, cells := mc, slots := ms, locals := rl }) (va_Pc av (gBy D cA dm ad S sz)) (gQJ mv D cA dm E ad S' rv (gA dm ad sz)) mc ms (gA dm ad sz)
theorem gBy_blind {D : va_G} {cA : Nat → ClassId} {dm : Dm} {ad : Ad} {S : S4} {sz : Nat} {av : List Value} : FrameBlind (va_Pc av (gBy D cA dm ad S sz)) := fun a U g mk h => by
  obtain ⟨h1, h2⟩ := gB_blind (D := D) (cA := cA) (dm := dm) (ad := ad) (S := S) (sz := sz) (av := av) a U g mk ⟨h.1, h.2.1⟩
  exact ⟨h1, h2, gY_same (u := U) (U := U.calling g mk a) rfl h.2.2⟩
theorem CtJ.ofI {mv : Bool} {D : va_G} {cA : Nat → ClassId} {dm E : Dm} {ad : Ad} {l : Launch} {y : MethodName} {cy : ByteArray} {mL rf rl mc ms : Nat} {ret : Option FieldType} {S S' : S4} {av : List Value} {rv : Ad → Option Value} (hy : plainName y.cls = true) (hlen : (lg_sl av).length ≤ mL) (lv : List (Nat × Value)) (hlv : lv_args 0 av = lv)
    (body : ∀ (p : Program) (e : Env) (s : State) (m : MethodId) (args : Array Value) (below : List Frame) (meth : Method) (c : Code) (A : Nat → Prop), GX D cA dm ad A mL p s m args meth c y.cls cy → meth.sig.returnType = ret → gY A s s.heap → meth.name = y.name → V D cA dm ad A mL p l e ({ frames := rf, cells := mc, slots := ms, locals := rl }) s m args below meth c 0 0 (MQ below (gQJ mv D cA dm E ad S' rv A) args s mc ms A) S 0 lv []) : CtJ mv D cA dm E ad l y cy mL ret rf rl mc ms S av rv S' := by
  intro sz
  refine Met.ofW (cc := cy) (maxL := mL) (ret := ret) hy rfl ?_
  intro p e s m args below meth c s₁ B hml hv
  obtain ⟨rfl, ⟨hsz, hP, hK, hJ, hN⟩, hY⟩ := hv
  have hts := atoms_spec (ws := Cond.code y cy mL ret :: gT) B.pre
  have hown : s.vm.findClass y.cls = some m.cls := findClass_of_methodNamed B.named
  subst hsz
  have hl := lv_entry av (n := mL) hlen
  rw [lg_entry_eq]
  rw [hlv] at hl
  exact body p e s m av.toArray below meth c (gA dm ad s.heap.size) ⟨B.exec, B.bytes, hml, hown, fun w hw => hts w (List.mem_cons_of_mem _ hw), hK, hJ, fun k t i hg => Or.inl ⟨k, t, i, hg, rfl⟩, fun q h => Or.inr h, B.notSynchronized, hN⟩ B.returns hY (name_of_methodNamed B.named B.method).1 s.heap [] _ hP va_S.rf hl
theorem CtJ.of {mv : Bool} {D : va_G} {cA : Nat → ClassId} {dm E : Dm} {ad : Ad} {l : Launch} {y : MethodName} {cy : ByteArray} {mL rf rl mc ms : Nat} {ret : Option FieldType} {S S' : S4} {av : List Value} {rv : Ad → Option Value} (hy : plainName y.cls = true) (hlen : (lg_sl av).length ≤ mL) (lv : List (Nat × Value)) (hlv : lv_args 0 av = lv)
    (body : ∀ (p : Program) (e : Env) (s : State) (m : MethodId) (args : Array Value) (below : List Frame) (meth : Method) (c : Code) (A : Nat → Prop), GX D cA dm ad A mL p s m args meth c y.cls cy → meth.sig.returnType = ret → gY A s s.heap → V D cA dm ad A mL p l e ({ frames := rf, cells := mc, slots := ms, locals := rl }) s m args below meth c 0 0 (MQ below (gQJ mv D cA dm E ad S' rv A) args s mc ms A) S 0 lv []) : CtJ mv D cA dm E ad l y cy mL ret rf rl mc ms S av rv S' :=
  CtJ.ofI hy hlen lv hlv (fun p e s m args below meth c A X hr hY _ => body p e s m args below meth c A X hr hY)
section VJ
variable {mv : Bool} {D : va_G} {cA : Nat → ClassId} {dm E : Dm} {ad : Ad} {A : Nat → Prop} {nL : Nat} {p : Program} {l : Launch} {e : Env} {R : Room} {s : State} {m : MethodId} {args : Array Value} {below : List Frame} {meth : Method} {c : Code} {cells slots : Nat} {Q : State → Prop} {own : String} {cc : ByteArray} {S S' : S4} {pc : Nat} {lv lv' : List (Nat × Value)} {st : List Value}
theorem V_backJ (X : GX D cA dm ad A nL p s m args meth c own cc) {H : Heap} {locs : List Loc} {ls : Array Slot} {S' : S4} {rv : Ad → Option Value} {rest st0 : List Value} {a : Array Value} {k n : Nat} (hr : va_Run p l e R s m args below meth c H locs cells slots k n (F0 m pc ls st0) rest (gQJ mv D cA dm E ad S' rv (gA dm ad H.size) a) (gA dm ad H.size)) (hS : va_S A s.heap H locs) (hl : lv_has ls nL lv) (kk : ∀ ad' : Ad, agM mv dm ad ad' → GX D cA E ad' A nL p s m args meth c own cc → V D cA E ad' A nL p l e R s m args below meth c (cells + k) (slots + n) Q S' (pc + 3) lv ((rv ad').toList ++ rest)) : W p l e R s m args below meth c H locs cells slots Q (F0 m pc ls st0) := by
  obtain ⟨hx, hb, hml, hown, hts, hK, hJ, hA, hA2, hlk⟩ := id X
  intro T hT X1
  obtain ⟨v, st₀, t, T', L, h0, X2, hL, e1, e2, ⟨⟨ad', hv, hag, hJ', hA', hq⟩, hF⟩, st⟩ := hr T hT X1
  cases hv
  have hf : ∀ q, gA dm ad H.size q → A q := fun q h => h.elim (fun ⟨k, t, i, hg, e⟩ => by rw [e]; exact hA k t i hg) (fun h => hA2 q (Nat.le_trans hS.1 h))
  obtain ⟨k1, k2, k3⟩ := vx_keep h0 e1 hS (fun q _ h => hf q h) hf hL hF
  obtain ⟨t2, a1, b1⟩ := kk ad' hag ⟨hx, hb, hml, hown, hts, hK, hJ', fun k t i h => hf _ (hA' k t i h), hA2, hlk⟩ T'.heap (locs ++ L) ls (gP_moved hq e1) k3 hl T' rfl X2
  exact ⟨t2, st t2 a1, b1⟩
theorem gY_at (X : GX D cA dm ad A nL p s m args meth c own cc) (hY : gY A s s.heap) {H : Heap} {locs : List Loc} (hS : va_S A s.heap H locs) : gY (gA dm ad H.size) s H :=
  gY_narrow (gY_kept hY (fun a h1 h2 => hS.2.1 a h1 h2)) (fun q h => h.elim (fun ⟨k, t, i, hg, e⟩ => by rw [e]; exact X.2.2.2.2.2.2.2.1 k t i hg) (fun h => X.2.2.2.2.2.2.2.2.1 q (Nat.le_trans hS.1 h)))
/-- a static call -/
theorem V_callSJ (X : GX D cA dm ad A nL p s m args meth c own cc) (hY : gY A s s.heap) {y : MethodName} {cy : ByteArray} {mL idx n rf rl mc ms : Nat} {ret : Option FieldType} {rv : Ad → Option Value} {S' : S4} (As : List Value) {rest : List Value} (hdg : decode cc pc = .ok (.invokestatic idx, 3)) (hM : ML own idx y cy mL ret n) (hV : Cond.static y ∈ gT) (hR : rf + 1 ≤ R.frames ∧ 8 + (mL + 11) + rl ≤ R.locals) (hf : cells + mc ≤ R.cells ∧ slots + ms ≤ R.slots) (hn : As.length = n) (hst : (rest.map fun v => v.category).sum ≤ 8)
    (hC : CtJ mv D cA dm E ad l y cy mL ret rf rl mc ms S As rv S') (kk : ∀ ad' : Ad, agM mv dm ad ad' → GX D cA E ad' A nL p s m args meth c own cc → V D cA E ad' A nL p l e R s m args below meth c (cells + mc) (slots + ms) Q S' (pc + 3) lv ((rv ad').toList ++ rest)) : V D cA dm ad A nL p l e R s m args below meth c cells slots Q S pc lv (As.reverse ++ rest) := by
  intro H locs ls hP hS hl
  obtain ⟨hx, hb, hml, hown, hts, hK, hJ, hA, hA2, hlk⟩ := id X
  exact V_backJ X (va_runS (As := As) (rest := rest) ⟨hx, hb, hml, hown, hts⟩ (hC H.size) ⟨g_cbE hts hM hR, hts _ hV⟩ ⟨gBy_blind, fun U hU hW => ⟨rfl, ⟨by rw [hU], gP_moved hP hU, gK_moved hW.alike hK, hJ, gN_moved hW hlk.2⟩, gY_warm hW (by rw [hU]; exact gY_at X hY hS)⟩⟩ rfl hn hl.1 rfl (lv_room hst) hdg hf) hS hl kk
/-- a virtual call on an object of just that class -/
theorem V_callVJ (X : GX D cA dm ad A nL p s m args meth c own cc) (hY : gY A s s.heap) {y : MethodName} {cy : ByteArray} {mL idx n rf rl k t i ci mc ms : Nat} {ret : Option FieldType} {rv : Ad → Option Value} {S' : S4} (As : List Value) {rest : List Value} {fs : List Value} (hdg : decode cc pc = .ok (.invokevirtual idx, 3)) (hM : ML own idx y cy mL ret n) (hV : MV y) (hR : rf + 1 ≤ R.frames ∧ 8 + (mL + 11) + rl ≤ R.locals) (hf : cells + mc ≤ R.cells ∧ slots + ms ≤ R.slots) (hn : As.length = n) (hst : (rest.map fun v => v.category).sum ≤ 8) (hg : dm k t i) (hct : ct cA ad k t i (S k t i) = .inr (ci, fs)) (hcl : ∃ T N, gCl[ci]? = some (y.cls, T, N))
    (hC : CtJ mv D cA dm E ad l y cy mL ret rf rl mc ms S (.ref (ad k t i) :: As) rv S') (kk : ∀ ad' : Ad, agM mv dm ad ad' → GX D cA E ad' A nL p s m args meth c own cc → V D cA E ad' A nL p l e R s m args below meth c (cells + mc) (slots + ms) Q S' (pc + 3) lv ((rv ad').toList ++ rest)) : V D cA dm ad A nL p l e R s m args below meth c cells slots Q S pc lv (As.reverse ++ .ref (ad k t i) :: rest) := by
  intro H locs ls hP hS hl
  obtain ⟨hx, hb, hml, hown, hts, hK, hJ, hA, hA2, hlk⟩ := id X
  obtain ⟨T, N, hcl⟩ := hcl
  exact V_backJ X (va_runV (As := As) (rest := rest) ⟨hx, hb, hml, hown, hts⟩ (hC H.size) ⟨g_cbE hts hM hR, hts _ hV.1, hts _ hV.2⟩ ⟨gBy_blind, va_recv hK (gP_one hP hg hct) (q0 := 0) hcl rfl, fun U hU hW => ⟨rfl, ⟨by rw [hU], gP_moved hP hU, gK_moved hW.alike hK, hJ, gN_moved hW hlk.2⟩, gY_warm hW (by rw [hU]; exact gY_at X hY hS)⟩⟩ rfl hn hl.1 rfl (lv_room hst) hdg hf) hS hl kk
/-- what an inherited method of the builder asks -/
def MU (y : MethodName) : Prop := Cond.sameMethod y.cls y.cls y.name y.desc ∈ gT ∧ Cond.instanceMethod y ∈ gT ∧ y = ⟨y.cls, y.name, y.desc⟩
/-- a virtual call of an inherited or private method of the builder -/
theorem V_callUJ (X : GX D cA dm ad A nL p s m args meth c own cc) (hY : gY A s s.heap) {y : MethodName} {cy : ByteArray} {mL idx n rf rl mc ms : Nat} {ret : Option FieldType} {rv : Ad → Option Value} {S' : S4} (As : List Value) {rest : List Value} (hdg : decode cc pc = .ok (.invokevirtual idx, 3)) (hM : ML own idx y cy mL ret n) (hV : MU y) (hsel : Cond.selects RJ4 y y ∈ gT ∨ Cond.selects RJ4 y y ∈ gJw) (hR : rf + 1 ≤ R.frames ∧ 8 + (mL + 11) + rl ≤ R.locals) (hf : cells + mc ≤ R.cells ∧ slots + ms ≤ R.slots) (hn : As.length = n) (hst : (rest.map fun v => v.category).sum ≤ 8) (hg : dm 8 0 0)
    (hC : CtJ mv D cA dm E ad l y cy mL ret rf rl mc ms S (.ref (ad 8 0 0) :: As) rv S') (kk : ∀ ad' : Ad, agM mv dm ad ad' → GX D cA E ad' A nL p s m args meth c own cc → V D cA E ad' A nL p l e R s m args below meth c (cells + mc) (slots + ms) Q S' (pc + 3) lv ((rv ad').toList ++ rest)) : V D cA dm ad A nL p l e R s m args below meth c cells slots Q S pc lv (As.reverse ++ .ref (ad 8 0 0) :: rest) := by
  intro H locs ls hP hS hl
  obtain ⟨hx, hb, hml, hown, hts, hK, hJ, hA, hA2, hlk⟩ := id X
  have hs1 : (Cond.selects RJ4 y y).before args s = true := by
    rcases hsel with h | h
    · exact hts _ h
    · exact va_Nw.use rfl (hY.2.1 _ h)
  have hG : GoodIn gT (Cond.code y cy mL ret :: gT) := gGood hM.2.1
  have hsig : ∀ sig, parseMethodDescriptor y.desc = some sig → n = sig.parameters.length := fun sig h => by
    have h2 := hM.2.2.2.2.2
    rw [h] at h2
    exact (Option.some.inj h2).symm
  exact V_backJ X (va_runU (C := RJ4) (owner := y.cls) (x := y) (As := As) (rest := rest) ⟨hx, hb, hml, hown, hts⟩ (hC H.size) ⟨⟨rfl, rfl, hR.1, hR.2, pay_in hts hG, List.mem_cons_self⟩, hts _ hM.2.1, hts _ hM.2.2.1, ⟨hM.2.2.2.1, hM.2.2.2.2.1⟩, hsig, hts _ hM.1, hts _ hV.1, va_Decl.of (hts _ hV.2.1) (hts _ hM.2.1), hs1, hts _ hV.2.1⟩ ⟨gBy_blind, va_recv hK (gP_one hP hg rfl) (q0 := 0) (ci := 8) (q := (RJ4, TJ4, 4)) rfl rfl, fun U hU hW => ⟨rfl, ⟨by rw [hU], gP_moved hP hU, gK_moved hW.alike hK, hJ, gN_moved hW hlk.2⟩, gY_warm hW (by rw [hU]; exact gY_at X hY hS)⟩⟩ rfl hn hl.1 rfl (lv_room hst) hdg hf) hS hl kk
/-- a call of the superclass's method on the builder -/
theorem V_callPJ (X : GX D cA dm ad A nL p s m args meth c RJ4 cc) (hY : gY A s s.heap) {y : MethodName} {cy : ByteArray} {mL idx n rf rl mc ms : Nat} {ret : Option FieldType} {rv : Ad → Option Value} {S' : S4} (As : List Value) {rest : List Value} (hdg : decode cc pc = .ok (.invokespecial idx, 3)) (hM : ML RJ4 idx y cy mL ret n) (hV : MU y) (hsup : Cond.superclass RJ4 y.cls ∈ gT) (hno : y.name ≠ "<init>") (hR : rf + 1 ≤ R.frames ∧ 8 + (mL + 11) + rl ≤ R.locals) (hf : cells + mc ≤ R.cells ∧ slots + ms ≤ R.slots) (hn : As.length = n) (hst : (rest.map fun v => v.category).sum ≤ 8) (hg : dm 8 0 0)
    (hC : CtJ mv D cA dm E ad l y cy mL ret rf rl mc ms S (.ref (ad 8 0 0) :: As) rv S') (kk : ∀ ad' : Ad, agM mv dm ad ad' → GX D cA E ad' A nL p s m args meth c RJ4 cc → V D cA E ad' A nL p l e R s m args below meth c (cells + mc) (slots + ms) Q S' (pc + 3) lv ((rv ad').toList ++ rest)) : V D cA dm ad A nL p l e R s m args below meth c cells slots Q S pc lv (As.reverse ++ .ref (ad 8 0 0) :: rest) := by
  intro H locs ls hP hS hl
  obtain ⟨hx, hb, hml, hown, hts, hK, hJ, hA, hA2, hlk⟩ := id X
  have hG : GoodIn gT (Cond.code y cy mL ret :: gT) := gGood hM.2.1
  have hsig : ∀ sig, parseMethodDescriptor y.desc = some sig → n = sig.parameters.length := fun sig h => by
    have h2 := hM.2.2.2.2.2
    rw [h] at h2
    exact (Option.some.inj h2).symm
  exact V_backJ X (va_runSU (C := RJ4) (As := As) (rest := rest) (hK.1 8 (RJ4, TJ4, 4) rfl).2 ⟨hx, hb, hml, hown, hts⟩ (hC H.size) ⟨⟨rfl, rfl, hR.1, hR.2, pay_in hts hG, List.mem_cons_self⟩, hts _ hM.1, hts _ hV.1, hts _ hsup, hts _ hV.2.1, hts _ hM.2.2.1, hts _ hM.2.1, hno, hsig⟩ ⟨gBy_blind, va_recv hK (gP_one hP hg rfl) (q0 := 0) (ci := 8) (q := (RJ4, TJ4, 4)) rfl rfl, fun U hU hW => ⟨rfl, ⟨by rw [hU], gP_moved hP hU, gK_moved hW.alike hK, hJ, gN_moved hW hlk.2⟩, gY_warm hW (by rw [hU]; exact gY_at X hY hS)⟩⟩ rfl hn hl.1 rfl (lv_room hst) hdg hf) hS hl kk
theorem V_callSJs (X : GX D cA dm ad A nL p s m args meth c own cc) (hY : gY A s s.heap) {y : MethodName} {cy : ByteArray} {mL idx n rf rl mc ms : Nat} {ret : Option FieldType} {v : Ad → Value} {S' : S4} (As : List Value) {rest : List Value} (hdg : decode cc pc = .ok (.invokestatic idx, 3)) (hM : ML own idx y cy mL ret n) (hV : Cond.static y ∈ gT) (hR : rf + 1 ≤ R.frames ∧ 8 + (mL + 11) + rl ≤ R.locals) (hf : cells + mc ≤ R.cells ∧ slots + ms ≤ R.slots) (hn : As.length = n) (hst : (rest.map fun v => v.category).sum ≤ 8)
    (hC : CtJ mv D cA dm E ad l y cy mL ret rf rl mc ms S As (fun ad' => some (v ad')) S') (kk : ∀ ad' : Ad, agM mv dm ad ad' → GX D cA E ad' A nL p s m args meth c own cc → V D cA E ad' A nL p l e R s m args below meth c (cells + mc) (slots + ms) Q S' (pc + 3) lv (v ad' :: rest)) : V D cA dm ad A nL p l e R s m args below meth c cells slots Q S pc lv (As.reverse ++ rest) :=
  V_callSJ X hY As hdg hM hV hR hf hn hst hC kk
theorem V_callSJv (X : GX D cA dm ad A nL p s m args meth c own cc) (hY : gY A s s.heap) {y : MethodName} {cy : ByteArray} {mL idx n rf rl mc ms : Nat} {ret : Option FieldType} {S' : S4} (As : List Value) {rest : List Value} (hdg : decode cc pc = .ok (.invokestatic idx, 3)) (hM : ML own idx y cy mL ret n) (hV : Cond.static y ∈ gT) (hR : rf + 1 ≤ R.frames ∧ 8 + (mL + 11) + rl ≤ R.locals) (hf : cells + mc ≤ R.cells ∧ slots + ms ≤ R.slots) (hn : As.length = n) (hst : (rest.map fun v => v.category).sum ≤ 8)
    (hC : CtJ mv D cA dm E ad l y cy mL ret rf rl mc ms S As (fun _ => none) S') (kk : ∀ ad' : Ad, agM mv dm ad ad' → GX D cA E ad' A nL p s m args meth c own cc → V D cA E ad' A nL p l e R s m args below meth c (cells + mc) (slots + ms) Q S' (pc + 3) lv rest) : V D cA dm ad A nL p l e R s m args below meth c cells slots Q S pc lv (As.reverse ++ rest) :=
  V_callSJ X hY As hdg hM hV hR hf hn hst hC kk
theorem V_callVJs (X : GX D cA dm ad A nL p s m args meth c own cc) (hY : gY A s s.heap) {y : MethodName} {cy : ByteArray} {mL idx n rf rl k t i ci mc ms : Nat} {ret : Option FieldType} {v : Ad → Value} {S' : S4} (As : List Value) {rest : List Value} {fs : List Value} (hdg : decode cc pc = .ok (.invokevirtual idx, 3)) (hM : ML own idx y cy mL ret n) (hV : MV y) (hR : rf + 1 ≤ R.frames ∧ 8 + (mL + 11) + rl ≤ R.locals) (hf : cells + mc ≤ R.cells ∧ slots + ms ≤ R.slots) (hn : As.length = n) (hst : (rest.map fun v => v.category).sum ≤ 8) (hg : dm k t i) (hct : ct cA ad k t i (S k t i) = .inr (ci, fs)) (hcl : ∃ T N, gCl[ci]? = some (y.cls, T, N))
    (hC : CtJ mv D cA dm E ad l y cy mL ret rf rl mc ms S (.ref (ad k t i) :: As) (fun ad' => some (v ad')) S') (kk : ∀ ad' : Ad, agM mv dm ad ad' → GX D cA E ad' A nL p s m args meth c own cc → V D cA E ad' A nL p l e R s m args below meth c (cells + mc) (slots + ms) Q S' (pc + 3) lv (v ad' :: rest)) : V D cA dm ad A nL p l e R s m args below meth c cells slots Q S pc lv (As.reverse ++ .ref (ad k t i) :: rest) :=
  V_callVJ X hY As hdg hM hV hR hf hn hst hg hct hcl hC kk
theorem V_callVJv (X : GX D cA dm ad A nL p s m args meth c own cc) (hY : gY A s s.heap) {y : MethodName} {cy : ByteArray} {mL idx n rf rl k t i ci mc ms : Nat} {ret : Option FieldType} {S' : S4} (As : List Value) {rest : List Value} {fs : List Value} (hdg : decode cc pc = .ok (.invokevirtual idx, 3)) (hM : ML own idx y cy mL ret n) (hV : MV y) (hR : rf + 1 ≤ R.frames ∧ 8 + (mL + 11) + rl ≤ R.locals) (hf : cells + mc ≤ R.cells ∧ slots + ms ≤ R.slots) (hn : As.length = n) (hst : (rest.map fun v => v.category).sum ≤ 8) (hg : dm k t i) (hct : ct cA ad k t i (S k t i) = .inr (ci, fs)) (hcl : ∃ T N, gCl[ci]? = some (y.cls, T, N))
    (hC : CtJ mv D cA dm E ad l y cy mL ret rf rl mc ms S (.ref (ad k t i) :: As) (fun _ => none) S') (kk : ∀ ad' : Ad, agM mv dm ad ad' → GX D cA E ad' A nL p s m args meth c own cc → V D cA E ad' A nL p l e R s m args below meth c (cells + mc) (slots + ms) Q S' (pc + 3) lv rest) : V D cA dm ad A nL p l e R s m args below meth c cells slots Q S pc lv (As.reverse ++ .ref (ad k t i) :: rest) :=
  V_callVJ X hY As hdg hM hV hR hf hn hst hg hct hcl hC kk
theorem V_callUJs (X : GX D cA dm ad A nL p s m args meth c own cc) (hY : gY A s s.heap) {y : MethodName} {cy : ByteArray} {mL idx n rf rl mc ms : Nat} {ret : Option FieldType} {v : Ad → Value} {S' : S4} (As : List Value) {rest : List Value} (hdg : decode cc pc = .ok (.invokevirtual idx, 3)) (hM : ML own idx y cy mL ret n) (hV : MU y) (hsel : Cond.selects RJ4 y y ∈ gT ∨ Cond.selects RJ4 y y ∈ gJw) (hR : rf + 1 ≤ R.frames ∧ 8 + (mL + 11) + rl ≤ R.locals) (hf : cells + mc ≤ R.cells ∧ slots + ms ≤ R.slots) (hn : As.length = n) (hst : (rest.map fun v => v.category).sum ≤ 8) (hg : dm 8 0 0)
    (hC : CtJ mv D cA dm E ad l y cy mL ret rf rl mc ms S (.ref (ad 8 0 0) :: As) (fun ad' => some (v ad')) S') (kk : ∀ ad' : Ad, agM mv dm ad ad' → GX D cA E ad' A nL p s m args meth c own cc → V D cA E ad' A nL p l e R s m args below meth c (cells + mc) (slots + ms) Q S' (pc + 3) lv (v ad' :: rest)) : V D cA dm ad A nL p l e R s m args below meth c cells slots Q S pc lv (As.reverse ++ .ref (ad 8 0 0) :: rest) :=
  V_callUJ X hY As hdg hM hV hsel hR hf hn hst hg hC kk
theorem V_callUJv (X : GX D cA dm ad A nL p s m args meth c own cc) (hY : gY A s s.heap) {y : MethodName} {cy : ByteArray} {mL idx n rf rl mc ms : Nat} {ret : Option FieldType} {S' : S4} (As : List Value) {rest : List Value} (hdg : decode cc pc = .ok (.invokevirtual idx, 3)) (hM : ML own idx y cy mL ret n) (hV : MU y) (hsel : Cond.selects RJ4 y y ∈ gT ∨ Cond.selects RJ4 y y ∈ gJw) (hR : rf + 1 ≤ R.frames ∧ 8 + (mL + 11) + rl ≤ R.locals) (hf : cells + mc ≤ R.cells ∧ slots + ms ≤ R.slots) (hn : As.length = n) (hst : (rest.map fun v => v.category).sum ≤ 8) (hg : dm 8 0 0)
    (hC : CtJ mv D cA dm E ad l y cy mL ret rf rl mc ms S (.ref (ad 8 0 0) :: As) (fun _ => none) S') (kk : ∀ ad' : Ad, agM mv dm ad ad' → GX D cA E ad' A nL p s m args meth c own cc → V D cA E ad' A nL p l e R s m args below meth c (cells + mc) (slots + ms) Q S' (pc + 3) lv rest) : V D cA dm ad A nL p l e R s m args below meth c cells slots Q S pc lv (As.reverse ++ .ref (ad 8 0 0) :: rest) :=
  V_callUJ X hY As hdg hM hV hsel hR hf hn hst hg hC kk
theorem V_callPJs (X : GX D cA dm ad A nL p s m args meth c RJ4 cc) (hY : gY A s s.heap) {y : MethodName} {cy : ByteArray} {mL idx n rf rl mc ms : Nat} {ret : Option FieldType} {v : Ad → Value} {S' : S4} (As : List Value) {rest : List Value} (hdg : decode cc pc = .ok (.invokespecial idx, 3)) (hM : ML RJ4 idx y cy mL ret n) (hV : MU y) (hsup : Cond.superclass RJ4 y.cls ∈ gT) (hno : y.name ≠ "<init>") (hR : rf + 1 ≤ R.frames ∧ 8 + (mL + 11) + rl ≤ R.locals) (hf : cells + mc ≤ R.cells ∧ slots + ms ≤ R.slots) (hn : As.length = n) (hst : (rest.map fun v => v.category).sum ≤ 8) (hg : dm 8 0 0)
    (hC : CtJ mv D cA dm E ad l y cy mL ret rf rl mc ms S (.ref (ad 8 0 0) :: As) (fun ad' => some (v ad')) S') (kk : ∀ ad' : Ad, agM mv dm ad ad' → GX D cA E ad' A nL p s m args meth c RJ4 cc → V D cA E ad' A nL p l e R s m args below meth c (cells + mc) (slots + ms) Q S' (pc + 3) lv (v ad' :: rest)) : V D cA dm ad A nL p l e R s m args below meth c cells slots Q S pc lv (As.reverse ++ .ref (ad 8 0 0) :: rest) :=
  V_callPJ X hY As hdg hM hV hsup hno hR hf hn hst hg hC kk
theorem V_callPJv (X : GX D cA dm ad A nL p s m args meth c RJ4 cc) (hY : gY A s s.heap) {y : MethodName} {cy : ByteArray} {mL idx n rf rl mc ms : Nat} {ret : Option FieldType} {S' : S4} (As : List Value) {rest : List Value} (hdg : decode cc pc = .ok (.invokespecial idx, 3)) (hM : ML RJ4 idx y cy mL ret n) (hV : MU y) (hsup : Cond.superclass RJ4 y.cls ∈ gT) (hno : y.name ≠ "<init>") (hR : rf + 1 ≤ R.frames ∧ 8 + (mL + 11) + rl ≤ R.locals) (hf : cells + mc ≤ R.cells ∧ slots + ms ≤ R.slots) (hn : As.length = n) (hst : (rest.map fun v => v.category).sum ≤ 8) (hg : dm 8 0 0)
    (hC : CtJ mv D cA dm E ad l y cy mL ret rf rl mc ms S (.ref (ad 8 0 0) :: As) (fun _ => none) S') (kk : ∀ ad' : Ad, agM mv dm ad ad' → GX D cA E ad' A nL p s m args meth c RJ4 cc → V D cA E ad' A nL p l e R s m args below meth c (cells + mc) (slots + ms) Q S' (pc + 3) lv rest) : V D cA dm ad A nL p l e R s m args below meth c cells slots Q S pc lv (As.reverse ++ .ref (ad 8 0 0) :: rest) :=
  V_callPJ X hY As hdg hM hV hsup hno hR hf hn hst hg hC kk
/-- the ends -/
theorem V_vretJ {dm0 : Dm} {ad0 : Ad} (X : GX D cA dm ad A nL p s m args meth c own cc) (hag : agM mv dm0 ad0 ad) (hr : meth.sig.returnType = none) (hdg : decode cc pc = .ok (.return_, 1)) : V D cA dm ad A nL p l e R s m args below meth c cells slots (MQ below (gQJ mv D cA dm0 dm ad0 S (fun _ => none) A) args s cells slots A) S pc lv [] :=
  fun H locs ls hP hS hl => W.vret X.1 X.2.1 hr (fun t ht hW => ⟨⟨ad, rfl, hag, X.2.2.2.2.2.2.1, X.2.2.2.2.2.2.2.1, gP_moved hP ht⟩, hS.F ht⟩) hS.2.2 hdg X.2.2.2.2.2.2.2.2.2.1
theorem V_zretJ {dm0 : Dm} {ad0 : Ad} (X : GX D cA dm ad A nL p s m args meth c own cc) (hag : agM mv dm0 ad0 ad) {ty : FieldType} (hr : meth.sig.returnType = some ty) {v : Int32} (hn : narrow ty (.int v) = .int v) (hdg : decode cc pc = .ok (.ireturn, 1)) : V D cA dm ad A nL p l e R s m args below meth c cells slots (MQ below (gQJ mv D cA dm0 dm ad0 S (fun _ => some (.int v)) A) args s cells slots A) S pc lv [.int v] :=
  fun H locs ls hP hS hl => W.zret X.1 X.2.1 hr hn (fun t ht hW => ⟨⟨ad, rfl, hag, X.2.2.2.2.2.2.1, X.2.2.2.2.2.2.2.1, gP_moved hP ht⟩, hS.F ht⟩) hS.2.2 hdg X.2.2.2.2.2.2.2.2.2.1
theorem V_aretJ {dm0 : Dm} {ad0 : Ad} (X : GX D cA dm ad A nL p s m args meth c own cc) (hag : agM mv dm0 ad0 ad) {ty : FieldType} (hr : meth.sig.returnType = some ty) (hty : (∃ n, ty = .object n) ∨ ∃ n, ty = .array n) {a : Nat} {rv : Ad → Option Value} (hv : rv ad = some (.ref a)) (hdg : decode cc pc = .ok (.areturn, 1)) : V D cA dm ad A nL p l e R s m args below meth c cells slots (MQ below (gQJ mv D cA dm0 dm ad0 S rv A) args s cells slots A) S pc lv [.ref a] :=
  fun H locs ls hP hS hl => W.aret X.1 X.2.1 hr hty (Or.inr ⟨a, rfl⟩) (fun t ht hW => ⟨⟨ad, by rw [hv], hag, X.2.2.2.2.2.2.1, X.2.2.2.2.2.2.2.1, gP_moved hP ht⟩, hS.F ht⟩) hS.2.2 hdg X.2.2.2.2.2.2.2.2.2.1
/-- small rules -/
theorem V_eqi {x y : Int32} (h : x = y) (kk : V D cA dm ad A nL p l e R s m args below meth c cells slots Q S pc lv (.int y :: st)) : V D cA dm ad A nL p l e R s m args below meth c cells slots Q S pc lv (.int x :: st) := by rw [h]; exact kk
theorem V_ineg (X : GX D cA dm ad A nL p s m args meth c own cc) {x : Int32} (hdg : decode cc pc = .ok (.ineg, 1)) (kk : V D cA dm ad A nL p l e R s m args below meth c cells slots Q S (pc + 1) lv (.int (-x) :: st)) : V D cA dm ad A nL p l e R s m args below meth c cells slots Q S pc lv (.int x :: st) :=
  fun H locs ls hP hS hl => lv_ineg X.1 X.2.1 hdg (kk H locs ls hP hS hl)
theorem V_i2b (X : GX D cA dm ad A nL p s m args meth c own cc) {x v : Int32} (hdg : decode cc pc = .ok (.i2b, 1)) (hv : x.toInt8.toInt32 = v) (kk : V D cA dm ad A nL p l e R s m args below meth c cells slots Q S (pc + 1) lv (.int v :: st)) : V D cA dm ad A nL p l e R s m args below meth c cells slots Q S pc lv (.int x :: st) :=
  fun H locs ls hP hS hl => lv_i2b X.1 X.2.1 hdg hv (kk H locs ls hP hS hl)
theorem V_dup_x1 (X : GX D cA dm ad A nL p s m args meth c own cc) {v w : Value} (hdg : decode cc pc = .ok (.dup_x1, 1)) (hv : v.category = 1) (hw : w.category = 1) (kk : V D cA dm ad A nL p l e R s m args below meth c cells slots Q S (pc + 1) lv (v :: w :: v :: st)) : V D cA dm ad A nL p l e R s m args below meth c cells slots Q S pc lv (v :: w :: st) :=
  fun H locs ls hP hS hl => lv_dup_x1 X.1 X.2.1 hdg hv hw (kk H locs ls hP hS hl)
theorem V_ldc (X : GX D cA dm ad A nL p s m args meth c own cc) {idx : Nat} {v : Int32} (hc : Cond.constant own idx v ∈ gT) (hdg : decode cc pc = .ok (.ldc idx, 2)) (kk : V D cA dm ad A nL p l e R s m args below meth c cells slots Q S (pc + 2) lv (.int v :: st)) : V D cA dm ad A nL p l e R s m args below meth c cells slots Q S pc lv st :=
  fun H locs ls hP hS hl => lv_ldc X.1 X.2.1 X.2.2.2.1 (X.2.2.2.2.1 _ hc) hdg (kk H locs ls hP hS hl)
theorem V_gets (X : GX D cA dm ad A nL p s m args meth c own cc) {C n d : String} {idx : Nat} {v : Value} (hZ : va_Z C n d v A s s.heap) (hlink : Cond.fieldLink own idx C n d ∈ gT) (hdg : decode cc pc = .ok (.getstatic idx, 3)) (kk : V D cA dm ad A nL p l e R s m args below meth c cells slots Q S (pc + 3) lv (v :: st)) : V D cA dm ad A nL p l e R s m args below meth c cells slots Q S pc lv st :=
  fun H locs ls hP hS hl => va_gets X.1 X.2.1 hZ hS X.2.2.2.1 (X.2.2.2.2.1 _ hlink) (fun x h => h) hdg (kk H locs ls hP hS hl)
theorem V_tb (X : GX D cA dm ad A nL p s m args meth c own cc) {t N : Nat} {f : Nat → Value} (hT : va_T .byte t N f A s s.heap) {i : Int32} (hin : inb i N) {v : Value} (hv : f i.toNatClampNeg = v) (hdg : decode cc pc = .ok (.baload, 1)) (kk : V D cA dm ad A nL p l e R s m args below meth c cells slots Q S (pc + 1) lv (v :: st)) : V D cA dm ad A nL p l e R s m args below meth c cells slots Q S pc lv (.int i :: .ref t :: st) :=
  fun H locs ls hP hS hl => va_tb X.1 X.2.1 hT hS hin hv hdg (kk H locs ls hP hS hl)
/-- the builder's bytes -/
theorem V_bald (X : GX D cA dm ad A nL p s m args meth c own cc) {t i : Nat} {x : Int32} (hdg : decode cc pc = .ok (.baload, 1)) (hg : dm 9 t i) (hin : inb x (S 9 t i 200).toNatClampNeg) (kk : V D cA dm ad A nL p l e R s m args below meth c cells slots Q S (pc + 1) lv (.int (S 9 t i x.toNatClampNeg) :: st)) : V D cA dm ad A nL p l e R s m args below meth c cells slots Q S pc lv (.int x :: .ref (ad 9 t i) :: st) :=
  fun H locs ls hP hS hl => va_bald X.1 X.2.1 X.2.2.2.2.2.1 (gP_one hP hg rfl) 0 9 rfl rfl hin hdg (kk H locs ls hP hS hl)
theorem V_alenB (X : GX D cA dm ad A nL p s m args meth c own cc) {t i : Nat} {v : Int32} (hdg : decode cc pc = .ok (.arraylength, 1)) (hg : dm 9 t i) (hv : Int32.ofNat (S 9 t i 200).toNatClampNeg = v) (kk : V D cA dm ad A nL p l e R s m args below meth c cells slots Q S (pc + 1) lv (.int v :: st)) : V D cA dm ad A nL p l e R s m args below meth c cells slots Q S pc lv (.ref (ad 9 t i) :: st) :=
  fun H locs ls hP hS hl => va_alen X.1 X.2.1 X.2.2.2.2.2.1 (gP_one hP hg rfl) 0 9 rfl rfl hv hdg (kk H locs ls hP hS hl)
theorem V_bast (X : GX D cA dm ad A nL p s m args meth c own cc) {t i : Nat} {x v : Int32} (hdg : decode cc pc = .ok (.bastore, 1)) (hg : dm 9 t i) (hin : inb x (S 9 t i 200).toNatClampNeg) (h200 : x.toNatClampNeg < 200) (kk : ∀ S1 : S4, S1 = u4 S 9 t i x.toNatClampNeg (vp_nar .byte v) → V D cA dm ad A nL p l e R s m args below meth c cells slots Q S1 (pc + 1) lv st) : V D cA dm ad A nL p l e R s m args below meth c cells slots Q S pc lv (.int v :: .int x :: .ref (ad 9 t i) :: st) := by
  obtain ⟨hx, hb, hml, hown, hts, hK, hJ, hA, hA2, hlk⟩ := X
  intro H locs ls hP hS hl
  have hct : ct cA ad 9 t i (upd (S 9 t i) x.toNatClampNeg (vp_nar .byte v)) = .inl (cA 9, (S 9 t i 200).toNatClampNeg, .inl (upd (S 9 t i) x.toNatClampNeg (vp_nar .byte v))) := by
    have hu : upd (S 9 t i) x.toNatClampNeg (vp_nar .byte v) 200 = S 9 t i 200 := by
      unfold upd
      rw [if_neg (by omega)]
    show (Sum.inl (cA 9, (upd (S 9 t i) x.toNatClampNeg (vp_nar .byte v) 200).toNatClampNeg, .inl (upd (S 9 t i) x.toNatClampNeg (vp_nar .byte v))) : va_E) = _
    rw [hu]
  refine W.bast hx hb (gP_one hP hg rfl 0 _ rfl) ((hK.2 9 _ rfl).1 _ (fun j => .int (S 9 t i j))) (fun q => by cases q) (by show ¬ (x < 0 ∨ (arrV _ _ _).slots.size ≤ _); rw [arrV_size]; exact hin) rfl rfl hdg fun H1 e z oq => ?_
  refine kk _ rfl H1 _ ls (gP_upd hP hJ hg hct ?_ oq) (hS.put z oq (hA 9 t i hg)) hl
  show H1[ad 9 t i]? = some (vp_cell _ _)
  rw [e]
  rw [vp_cell_i, vp_cell_i, arrV_store]
  congr 2
  funext q
  by_cases hq : q = x.toNatClampNeg
  · subst hq
    simp [updV, upd, vp_nar]
    try rfl
  · simp [updV, upd, hq]
end VJ
