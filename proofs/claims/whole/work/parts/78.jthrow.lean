/-! methods that may make cells and throw; wrappers of them -/
def gBz (D : va_G) (cA : Nat → ClassId) (dm : Dm) (ad : Ad) (S : S4) (sz : Nat) : State → Prop := fun U => gBx D cA dm ad S sz U ∧ gY (gA dm ad sz) U U.heap
theorem gBz_blind {D : va_G} {cA : Nat → ClassId} {dm : Dm} {ad : Ad} {S : S4} {sz : Nat} {av : List Value} : FrameBlind (va_Pc av (gBz D cA dm ad S sz)) := fun a U g mk h => by
  obtain ⟨h1, h2⟩ := gBx_blind (D := D) (cA := cA) (dm := dm) (ad := ad) (S := S) (sz := sz) (av := av) a U g mk ⟨h.1, h.2.1⟩
  exact ⟨h1, h2, gY_same (u := U) (U := U.calling g mk a) rfl h.2.2⟩
def xQJ (D : va_G) (cA : Nat → ClassId) (dm E : Dm) (ad : Ad) (S : S4) (k : Nat) (A : Nat → Prop) : String → State → State → Prop := fun nm st t => (nm = exn k ∧ ∃ ad' : Ad, agM true dm ad ad' ∧ gJ E ad' ∧ (∀ k t i, E k t i → A (ad' k t i)) ∧ gP D cA E ad' S t.heap) ∧ va_F A st t
def CxJ (D : va_G) (cA : Nat → ClassId) (dm E : Dm) (ad : Ad) (l : Launch) (y : MethodName) (cy : ByteArray) (mL : Nat) (ret : Option FieldType) (rf rl mc ms : Nat) (S : S4) (av : List Value) (o : Nat × S4) : Prop :=
  ∀ sz : Nat, vx_Met l y (Cond.code y cy mL ret :: gT) ({ frames := rf, cells := mc, slots := ms, locals := rl }) (va_Pc av (gBz D cA dm ad S sz)) qN (xQJ D cA dm E ad o.2 o.1 (gA dm ad sz)) mc ms (gA dm ad sz)
theorem CxJ.of {D : va_G} {cA : Nat → ClassId} {dm E : Dm} {ad : Ad} {l : Launch} {y : MethodName} {cy : ByteArray} {mL rf rl mc ms : Nat} {ret : Option FieldType} {S : S4} {av : List Value} {o : Nat × S4} (hy : plainName y.cls = true) (hlen : (lg_sl av).length ≤ mL) (lv : List (Nat × Value)) (hlv : lv_args 0 av = lv)
    (body : ∀ (p : Program) (e : Env) (s : State) (m : MethodId) (args : Array Value) (below : List Frame) (meth : Method) (c : Code) (A : Nat → Prop), GX D cA dm ad A mL p s m args meth c y.cls cy → meth.sig.returnType = ret → gZ A s s.heap → gY A s s.heap → (∀ x ∈ c.exceptionTable.toList, False) → V D cA dm ad A mL p l e ({ frames := rf, cells := mc, slots := ms, locals := rl }) s m args below meth c 0 0 (vx_MQ below qN (xQJ D cA dm E ad o.2 o.1 A) args s mc ms A) S 0 lv []) : CxJ D cA dm E ad l y cy mL ret rf rl mc ms S av o := by
  intro sz
  refine vx_ofW (cc := cy) (maxL := mL) (ret := ret) hy rfl ?_
  intro p e s m args below meth c s₁ B hml hE hv
  obtain ⟨rfl, ⟨⟨hsz, hP, hK, hJ, hN⟩, hZ⟩, hY⟩ := hv
  have hts := atoms_spec (ws := Cond.code y cy mL ret :: gT) B.pre
  have hown : s.vm.findClass y.cls = some m.cls := findClass_of_methodNamed B.named
  subst hsz
  have hl := lv_entry av (n := mL) hlen
  rw [lg_entry_eq]
  rw [hlv] at hl
  exact body p e s m av.toArray below meth c (gA dm ad s.heap.size) ⟨B.exec, B.bytes, hml, hown, fun w hw => hts w (List.mem_cons_of_mem _ hw), hK, hJ, fun k t i hg => Or.inl ⟨k, t, i, hg, rfl⟩, fun q h => Or.inr h, B.notSynchronized, hN⟩ B.returns hZ hY hE s.heap [] _ hP va_S.rf hl
/-- a wrapper that catches -/
def CwJ (D : va_G) (cA : Nat → ClassId) (dm E : Dm) (ad : Ad) (l : Launch) (y : MethodName) (cy : ByteArray) (mL : Nat) (ret : Option FieldType) (hh : List (Nat × Nat × Nat × Nat)) (rf rl mc ms : Nat) (S : S4) (av : List Value) (rv : Option Value) (S' : S4) : Prop :=
  ∀ sz : Nat, vx_Met l y (Cond.codeWith y cy mL ret hh :: gT) ({ frames := rf, cells := mc, slots := ms, locals := rl }) (va_Pc av (gBz D cA dm ad S sz)) (gQJ true D cA dm E ad S' (fun _ => rv) (gA dm ad sz)) (fun _ _ _ => False) mc ms (gA dm ad sz)
theorem CwJ.of {D : va_G} {cA : Nat → ClassId} {dm E : Dm} {ad : Ad} {l : Launch} {y : MethodName} {cy : ByteArray} {mL rf rl mc ms : Nat} {ret : Option FieldType} {hh : List (Nat × Nat × Nat × Nat)} {S S' : S4} {av : List Value} {rv : Option Value} (hy : plainName y.cls = true) (hlen : (lg_sl av).length ≤ mL) (lv : List (Nat × Value)) (hlv : lv_args 0 av = lv)
    (body : ∀ (p : Program) (e : Env) (s : State) (m : MethodId) (args : Array Value) (below : List Frame) (meth : Method) (c : Code) (A : Nat → Prop), GX D cA dm ad A mL p s m args meth c y.cls cy → meth.sig.returnType = ret → gZ A s s.heap → gY A s s.heap → c.exceptionTable.toList = tableOf hh → V D cA dm ad A mL p l e ({ frames := rf, cells := mc, slots := ms, locals := rl }) s m args below meth c 0 0 (vx_MQ below (gQJ true D cA dm E ad S' (fun _ => rv) A) (fun _ _ _ => False) args s mc ms A) S 0 lv []) : CwJ D cA dm E ad l y cy mL ret hh rf rl mc ms S av rv S' := by
  intro sz
  refine vx_ofWH (cc := cy) (maxL := mL) (ret := ret) (hh := hh) hy rfl ?_
  intro p e s m args below meth c s₁ B hml hv
  obtain ⟨rfl, ⟨⟨hsz, hP, hK, hJ, hN⟩, hZ⟩, hY⟩ := hv
  have hts := atoms_spec (ws := Cond.codeWith y cy mL ret hh :: gT) B.pre
  have hown : s.vm.findClass y.cls = some m.cls := findClass_of_methodNamed B.named
  have htab := vx_table (x := y) B (hts _ List.mem_cons_self)
  subst hsz
  have hl := lv_entry av (n := mL) hlen
  rw [lg_entry_eq]
  rw [hlv] at hl
  exact body p e s m av.toArray below meth c (gA dm ad s.heap.size) ⟨B.exec, B.bytes, hml, hown, fun w hw => hts w (List.mem_cons_of_mem _ hw), hK, hJ, fun k t i hg => Or.inl ⟨k, t, i, hg, rfl⟩, fun q h => Or.inr h, B.notSynchronized, hN⟩ B.returns hZ hY htab s.heap [] _ hP va_S.rf hl
section VTJ
variable {D : va_G} {cA : Nat → ClassId} {dm E dm0 : Dm} {ad ad0 : Ad} {A : Nat → Prop} {nL : Nat} {p : Program} {l : Launch} {e : Env} {R : Room} {s : State} {m : MethodId} {args : Array Value} {below : List Frame} {meth : Method} {c : Code} {cells slots mc ms : Nat} {Q : State → Prop} {cc : ByteArray} {S S' : S4} {pc : Nat} {lv lv' : List (Nat × Value)} {st : List Value}
theorem V_throwSJ (X : GX D cA dm ad A nL p s m args meth c RX6 cc) (hag : agM true dm0 ad0 ad) (hE : ∀ x ∈ c.exceptionTable.toList, False) (hl : l.stackTraces = false) (hZ : gZ A s s.heap) {k ik is ic ix : Nat} {rx : ByteArray} {text : String} (hT : TW k ik ic ix rx) (hs : (is, text) ∈ gStr) (d0 : decode cc pc = .ok (.new ik, 3)) (d3 : decode cc (pc + 3) = .ok (.dup, 1)) (d4 : decode cc (pc + 4) = .ok (.ldc is, 2)) (d6 : decode cc (pc + 6) = .ok (.invokespecial ic, 3)) (d9 : decode cc (pc + 9) = .ok (.athrow, 1)) (hst : (st.map fun v => v.category).sum ≤ 8) (hR : 5 < R.frames ∧ 8 + 82 ≤ R.locals ∧ cells + 1 ≤ R.cells ∧ slots + 6 ≤ R.slots) (hc : cells + 1 ≤ mc ∧ slots + 6 ≤ ms) {Qc : Array Value → State → Outcome → State → Prop} : V D cA dm ad A nL p l e R s m args below meth c cells slots (vx_MQ below Qc (xQJ D cA dm0 dm ad0 S k A) args s mc ms A) S pc lv st := by
  obtain ⟨hx, hb, hml, hown, hts, hK, hJ, hA, hA2, hlk⟩ := X
  obtain ⟨t0, t1, t2, t3, t4, t5, t6⟩ := hT
  obtain ⟨sa, hsa⟩ := hlk.2.2.1 _ hs
  intro H locs ls hP hS hl0
  refine gx_throwS hx hb hl t0.1 t0.2.1 t0.2.2.1 t0.2.2.2 hown t1 exN_fit (hts _ t2) (hts _ t3) hsa (vx_hat (fun w hw => hts w (t4 w hw)) t5 (fun w hw => ?_)) t6 hZ.1 hZ.2 hS (hl0.1.trans hml.symm) d0 d3 d4 d6 d9 (fun x hx' => (hE x hx').elim) hR.1 ?_ hR.2.2.1 hR.2.2.2 hlk.1 ?_ hS.2.2 hc.1 hc.2
  · have h1 := hlk.2.1 w hw
    rcases gNx_cases hw with ⟨a, i, x, b, rfl⟩ | ⟨n, rfl⟩ | ⟨x, rfl⟩ <;> exact va_Nw.use rfl h1
  · have := hR.2.1
    show _ + (13 * (2 + 1) + 43) ≤ _
    omega
  · intro t ht hz hk
    exact ⟨⟨rfl, ad, hag, hJ, hA, gP_new hP hk⟩, Nat.le_trans hS.1 hz, fun q h1 h2 => (hk q (Nat.lt_of_lt_of_le h1 hS.1)).trans (hS.2.1 q h1 h2)⟩
/-- a callee that throws plainly: nothing here catches it -/
theorem V_callSXJ {own : String} (X : GX D cA dm ad A nL p s m args meth c own cc) (hag : agM true dm0 ad0 ad) (hE : ∀ x ∈ c.exceptionTable.toList, False) (hZ : gZ A s s.heap) {y : MethodName} {cy : ByteArray} {mL idx n rf rl : Nat} {ret : Option FieldType} {o : Nat × S4} (As : List Value) {rest : List Value} (hdg : decode cc pc = .ok (.invokestatic idx, 3)) (hM : ML own idx y cy mL ret n) (hV : Cond.static y ∈ gT) (hR : rf + 1 ≤ R.frames ∧ 8 + (mL + 11) + rl ≤ R.locals) (hf : cells + 1 ≤ R.cells ∧ slots + 6 ≤ R.slots) (hc : cells + 1 ≤ mc ∧ slots + 6 ≤ ms) (hn : As.length = n) (hst : (rest.map fun v => v.category).sum ≤ 8)
    (hC : Cx D cA dm ad l y cy mL ret rf rl S As o) {Qc : Array Value → State → Outcome → State → Prop} : V D cA dm ad A nL p l e R s m args below meth c cells slots (vx_MQ below Qc (xQJ D cA dm0 dm ad0 o.2 o.1 A) args s mc ms A) S pc lv (As.reverse ++ rest) := by
  intro H locs ls hP hS hl T hT X1
  obtain ⟨hx, hb, hml, hown, hts, hK, hJ, hA, hA2, hlk⟩ := id X
  have hAf : ∀ q, gA dm ad H.size q → A q := fun q h => h.elim (fun ⟨k, t, i, hg, e⟩ => by rw [e]; exact hA k t i hg) (fun h => hA2 q (Nat.le_trans hS.1 h))
  have hZH : gZ (gA dm ad H.size) s H := gZ_narrow (gZ_kept hZ (fun a h1 h2 => hS.2.1 a h1 h2)) hAf
  rcases vx_runS (As := As) (rest := rest) (g := F0 m pc ls (As.reverse ++ rest)) (cells := cells) (slots := slots) ⟨hx, hb, hml, hown, hts⟩ (hC H.size) ⟨g_cbx hts hM hR, hts _ hV⟩ ⟨gBx_blind, fun U hU hW => ⟨rfl, ⟨by rw [hU], gP_moved hP hU, gK_moved hW.alike hK, hJ, gN_moved hW hlk.2⟩, gZ_moved hW.alike (by rw [hU]; exact hZH)⟩⟩ rfl hn hl.1 rfl (lv_room hst) hdg hf T hT X1 with ⟨v, st₀, t, T', L, h0, X2, hL, e1, e2, hq, st9⟩ | ⟨q, st₀, t, T', L, E, ce, h0, X2, hL, e1, e2, ⟨hEe, hq, hF⟩, hce, hcv, hcl, st9⟩
  · exact hq.elim
  · obtain ⟨k1, k2, k3⟩ := vx_keep h0 e1 hS (fun q _ h => hAf q h) hAf hL hF
    obtain ⟨t9, a1, b1⟩ := vx_out (Qc := Qc) (XC := xQJ D cA dm0 dm ad0 o.2 o.1 A) (rest := rest) (ls := ls) (pc := pc) (mc := mc) (ms := ms) (free := A) (H := T'.heap) (fun x hx' => (hE x hx').elim) hlk.1 (by rw [e1]; exact hce) hcv hcl (fun t2 ht2 _ => ⟨⟨hEe, ad, hag, hJ, hA, gP_moved hq (ht2.trans e1)⟩, by rw [ht2]; exact k3.1, fun q h1 h2 => by rw [ht2]; exact k3.2.1 q h1 h2⟩) k3.2.2 hc.1 hc.2 T' rfl X2
    exact ⟨t9, st9.trans a1, b1⟩
theorem V_wretJ {own : String} (X : GX D cA dm ad A nL p s m args meth c own cc) (hag : agM true dm0 ad0 ad) (hr : meth.sig.returnType = some .int) {v : Int32} (hdg : decode cc pc = .ok (.ireturn, 1)) (h1 : cells ≤ mc) (h2 : slots ≤ ms) {XC : String → State → State → Prop} : V D cA dm ad A nL p l e R s m args below meth c cells slots (vx_MQ below (gQJ true D cA dm0 dm ad0 S (fun _ => some (.int v)) A) XC args s mc ms A) S pc lv [.int v] :=
  V_widen h1 h2 (fun H locs ls hP hS hl => vx_ret (W.iret X.1 X.2.1 hr (fun t ht hW => ⟨⟨ad, rfl, hag, X.2.2.2.2.2.2.1, X.2.2.2.2.2.2.2.1, gP_moved hP ht⟩, hS.F ht⟩) hS.2.2 hdg X.2.2.2.2.2.2.2.2.2.1))
theorem g_cbxJ {own : String} {y : MethodName} {cy : ByteArray} {mL idx n rf rl mc ms : Nat} {ret : Option FieldType} (hts : ∀ w ∈ gT, w.before args s = true) (hM : ML own idx y cy mL ret n) (hR : rf + 1 ≤ R.frames ∧ 8 + (mL + 11) + rl ≤ R.locals) : CallB R s args own idx y cy mL ret (Cond.code y cy mL ret :: gT) ({ frames := rf, cells := mc, slots := ms, locals := rl }) mc ms n :=
  callB_of n hts (gGood hM.2.1) rfl rfl rfl (hts _ hM.2.2.1) (hts _ hM.1) hM.2.2.2 hR
/-- a callee that throws, and this method's table takes it -/
theorem V_callVCJ {own : String} (X : GX D cA dm ad A nL p s m args meth c own cc) (hZ : gZ A s s.heap) (hY : gY A s s.heap) {hh : List (Nat × Nat × Nat × Nat)} (htab : c.exceptionTable.toList = tableOf hh) {y : MethodName} {cy : ByteArray} {mL idx n rf rl ko t i ci k : Nat} {ret : Option FieldType} {o : Nat × S4} (hk : o.1 = k) (As : List Value) {rest : List Value} {fs : List Value} (hdg : decode cc pc = .ok (.invokevirtual idx, 3)) (hM : ML own idx y cy mL ret n) (hV : MV y) (hR : rf + 1 ≤ R.frames ∧ 8 + (mL + 11) + rl ≤ R.locals) (hf : cells + mc ≤ R.cells ∧ slots + ms ≤ R.slots) (hn : As.length = n) (hst : (rest.map fun v => v.category).sum ≤ 8) (hg : dm ko t i) (hct : ct cA ad ko t i (S ko t i) = .inr (ci, fs)) (hcl : ∃ T N, gCl[ci]? = some (y.cls, T, N))
    (hC : CxJ D cA dm E ad l y cy mL ret rf rl mc ms S (.ref (ad ko t i) :: As) o) (pre : List ExceptionTableEntry) (x : ExceptionTableEntry) (suf : List ExceptionTableEntry) (hsplit : tableOf hh = pre ++ x :: suf) (hpass : ∀ z ∈ pre, z.catchType ≠ 0 ∧ ∃ nm : String, Cond.classLink own z.catchType nm ∈ gT ∧ (exn k, nm) ∈ gNc) (hx : covers x pc = true) (h0 : x.catchType ≠ 0) (hlink : Cond.classLink own x.catchType (exn k) ∈ gT) (hcast : exn k ∈ gCw)
    (kk : ∀ ad' : Ad, agM true dm ad ad' → GX D cA E ad' A nL p s m args meth c own cc → ∀ q : Nat, V D cA E ad' A nL p l e R s m args below meth c (cells + mc) (slots + ms) Q o.2 x.handlerPc lv [.ref q]) : V D cA dm ad A nL p l e R s m args below meth c cells slots Q S pc lv (As.reverse ++ .ref (ad ko t i) :: rest) := by
  subst hk
  intro H locs ls hP hS hl T hT X1
  obtain ⟨hx0, hb, hml, hown, hts, hK, hJ, hA, hA2, hlk⟩ := id X
  obtain ⟨T0, N0, hcl⟩ := hcl
  have hAf : ∀ q, gA dm ad H.size q → A q := fun q h => h.elim (fun ⟨k, t, i, hg, e⟩ => by rw [e]; exact hA k t i hg) (fun h => hA2 q (Nat.le_trans hS.1 h))
  have hZH : gZ (gA dm ad H.size) s H := gZ_narrow (gZ_kept hZ (fun a h1 h2 => hS.2.1 a h1 h2)) hAf
  rcases vx_runV (As := As) (rest := rest) (g := F0 m pc ls (As.reverse ++ .ref (ad ko t i) :: rest)) (cells := cells) (slots := slots) ⟨hx0, hb, hml, hown, hts⟩ (hC H.size) ⟨g_cbxJ hts hM hR, hts _ hV.1, hts _ hV.2⟩ ⟨gBz_blind, va_recv hK (gP_one hP hg hct) (q0 := 0) hcl rfl, fun U hU hW => ⟨rfl, ⟨⟨by rw [hU], gP_moved hP hU, gK_moved hW.alike hK, hJ, gN_moved hW hlk.2⟩, gZ_moved hW.alike (by rw [hU]; exact hZH)⟩, gY_warm hW (by rw [hU]; exact gY_at X hY hS)⟩⟩ rfl hn hl.1 rfl (lv_room hst) hdg hf T hT X1 with ⟨v, st₀, t2, T', L, h01, X2, hL, e1, e2, hq, st9⟩ | ⟨q, st₀, t2, T', L, E', ce, h01, X2, hL, e1, e2, ⟨⟨hEe, ad', hag, hJ', hA', hq⟩, hF⟩, hce, hcv, hcl2, st9⟩
  · exact hq.elim
  · obtain ⟨k1, k2, k3⟩ := vx_keep h01 e1 hS (fun q _ h => hAf q h) hAf hL hF
    subst hEe
    obtain ⟨t9, a1, b1⟩ := vx_catch (rest := rest) (ls := ls) (pc := pc) (H := T'.heap) (Q := Q) hown pre x suf (htab.trans hsplit) (fun z hz => Or.inr ⟨(hpass z hz).1, by
      obtain ⟨nm, w1, w2⟩ := (hpass z hz).2
      exact ⟨nm, hts _ w1, hlk.2.2.2 _ w2⟩⟩) hx h0 (hts _ hlink) (va_Nw.use rfl (hlk.2.1 _ (List.mem_append_right _ (List.mem_append_left _ (List.mem_map.mpr ⟨_, hcast, rfl⟩))))) (by rw [e1]; exact hce) hcv hcl2 (kk ad' hag ⟨hx0, hb, hml, hown, hts, hK, hJ', fun k t i h => hAf _ (hA' k t i h), hA2, hlk⟩ q T'.heap (locs ++ L) ls (gP_moved hq e1) k3 hl) T' rfl X2
    exact ⟨t9, st9.trans a1, b1⟩
end VTJ
