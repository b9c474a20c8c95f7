/-! contracts of methods that make cells: the domain may grow to E, the paper's bytes may move -/
def agE (dm : Dm) (ad ad' : Ad) : Prop := ∀ k t i, dm k t i → k ≠ 9 → ad' k t i = ad k t i
theorem agE.refl {dm : Dm} {ad : Ad} : agE dm ad ad := fun _ _ _ _ _ => rfl
theorem agE.trans {dm dm' : Dm} {ad ad' ad2 : Ad} (h : agE dm ad ad') (h2 : agE dm' ad' ad2) (hd : ∀ k t i, dm k t i → dm' k t i) : agE dm ad ad2 := fun k t i g g9 => (h2 k t i (hd k t i g) g9).trans (h k t i g g9)
def gQE (D : va_G) (cA : Nat → ClassId) (dm E : Dm) (ad : Ad) (S : S4) (rv : Option Value) (A : Nat → Prop) : Array Value → State → Outcome → State → Prop := fun _ st oc t => (oc = .returned rv ∧ ∃ ad' : Ad, agE dm ad ad' ∧ gJ E ad' ∧ (∀ k t i, E k t i → A (ad' k t i)) ∧ gP D cA E ad' S t.heap) ∧ va_F A st t
def CtE (D : va_G) (cA : Nat → ClassId) (dm E : Dm) (ad : Ad) (l : Launch) (y : MethodName) (cy : ByteArray) (mL : Nat) (ret : Option FieldType) (rf rl mc ms : Nat) (S : S4) (av : List Value) (rv : Option Value) (S' : S4) : Prop :=
  ∀ sz : Nat, Met l y (Cond.code y cy mL ret :: gT) ({ frames := rf, cells := mc, slots := ms, locals := rl }) (va_Pc av (gB D cA dm ad S sz)) (gQE D cA dm E ad S' rv (gA dm ad sz)) mc ms (gA dm ad sz)
theorem CtE.of {D : va_G} {cA : Nat → ClassId} {dm E : Dm} {ad : Ad} {l : Launch} {y : MethodName} {cy : ByteArray} {mL rf rl mc ms : Nat} {ret : Option FieldType} {S S' : S4} {av : List Value} {rv : Option Value} (hy : plainName y.cls = true) (hlen : (lg_sl av).length ≤ mL) (lv : List (Nat × Value)) (hlv : lv_args 0 av = lv)
    (body : ∀ (p : Program) (e : Env) (s : State) (m : MethodId) (args : Array Value) (below : List Frame) (meth : Method) (c : Code) (A : Nat → Prop), GX D cA dm ad A mL p s m args meth c y.cls cy → meth.sig.returnType = ret → V D cA dm ad A mL p l e ({ frames := rf, cells := mc, slots := ms, locals := rl }) s m args below meth c 0 0 (MQ below (gQE D cA dm E ad S' rv A) args s mc ms A) S 0 lv []) : CtE D cA dm E ad l y cy mL ret rf rl mc ms S av rv S' := by
  intro sz
  refine Met.ofW (cc := cy) (maxL := mL) (ret := ret) hy rfl ?_
  intro p e s m args below meth c s₁ B hml hv
  obtain ⟨rfl, hsz, hP, hK, hJ, hN⟩ := hv
  have hts := atoms_spec (ws := Cond.code y cy mL ret :: gT) B.pre
  have hown : s.vm.findClass y.cls = some m.cls := findClass_of_methodNamed B.named
  subst hsz
  have hl := lv_entry av (n := mL) hlen
  rw [lg_entry_eq]
  rw [hlv] at hl
  exact body p e s m av.toArray below meth c (gA dm ad s.heap.size) ⟨B.exec, B.bytes, hml, hown, fun w hw => hts w (List.mem_cons_of_mem _ hw), hK, hJ, fun k t i hg => Or.inl ⟨k, t, i, hg, rfl⟩, fun q h => Or.inr h, B.notSynchronized, hN⟩ B.returns s.heap [] _ hP va_S.rf hl
section VE
variable {D : va_G} {cA : Nat → ClassId} {dm E : Dm} {ad : Ad} {A : Nat → Prop} {nL : Nat} {p : Program} {l : Launch} {e : Env} {R : Room} {s : State} {m : MethodId} {args : Array Value} {below : List Frame} {meth : Method} {c : Code} {cells slots : Nat} {Q : State → Prop} {own : String} {cc : ByteArray} {S S' : S4} {pc : Nat} {lv lv' : List (Nat × Value)} {st : List Value}
theorem V_backE (X : GX D cA dm ad A nL p s m args meth c own cc) {H : Heap} {locs : List Loc} {ls : Array Slot} {S' : S4} {rv : Option Value} {rest st0 : List Value} {a : Array Value} {k n : Nat} (hr : va_Run p l e R s m args below meth c H locs cells slots k n (F0 m pc ls st0) rest (gQE D cA dm E ad S' rv (gA dm ad H.size) a) (gA dm ad H.size)) (hS : va_S A s.heap H locs) (hl : lv_has ls nL lv) (kk : ∀ ad' : Ad, agE dm ad ad' → GX D cA E ad' A nL p s m args meth c own cc → V D cA E ad' A nL p l e R s m args below meth c (cells + k) (slots + n) Q S' (pc + 3) lv (rv.toList ++ rest)) : W p l e R s m args below meth c H locs cells slots Q (F0 m pc ls st0) := by
  obtain ⟨hx, hb, hml, hown, hts, hK, hJ, hA, hA2, hlk⟩ := id X
  intro T hT X1
  obtain ⟨v, st₀, t, T', L, h0, X2, hL, e1, e2, ⟨⟨hv, ad', hag, hJ', hA', hq⟩, hF⟩, st⟩ := hr T hT X1
  cases hv
  have hf : ∀ q, gA dm ad H.size q → A q := fun q h => h.elim (fun ⟨k, t, i, hg, e⟩ => by rw [e]; exact hA k t i hg) (fun h => hA2 q (Nat.le_trans hS.1 h))
  obtain ⟨k1, k2, k3⟩ := vx_keep h0 e1 hS (fun q _ h => hf q h) hf hL hF
  obtain ⟨t2, a1, b1⟩ := kk ad' hag ⟨hx, hb, hml, hown, hts, hK, hJ', fun k t i h => hf _ (hA' k t i h), hA2, hlk⟩ T'.heap (locs ++ L) ls (gP_moved hq e1) k3 hl T' rfl X2
  exact ⟨t2, st t2 a1, b1⟩
theorem g_cbE {y : MethodName} {cy : ByteArray} {mL idx n rf rl mc ms : Nat} {ret : Option FieldType} (hts : ∀ w ∈ gT, w.before args s = true) (hM : ML own idx y cy mL ret n) (hR : rf + 1 ≤ R.frames ∧ 8 + (mL + 11) + rl ≤ R.locals) : CallB R s args own idx y cy mL ret (Cond.code y cy mL ret :: gT) ({ frames := rf, cells := mc, slots := ms, locals := rl }) mc ms n :=
  callB_of n hts (gGood hM.2.1) rfl rfl rfl (hts _ hM.2.2.1) (hts _ hM.1) hM.2.2.2 hR
/-- a virtual call whose callee may make cells -/
theorem V_callVE (X : GX D cA dm ad A nL p s m args meth c own cc) {y : MethodName} {cy : ByteArray} {mL idx n rf rl k t i ci mc ms : Nat} {ret : Option FieldType} {rv : Option Value} {S' : S4} (As : List Value) {rest : List Value} {fs : List Value} (hdg : decode cc pc = .ok (.invokevirtual idx, 3)) (hM : ML own idx y cy mL ret n) (hV : MV y) (hR : rf + 1 ≤ R.frames ∧ 8 + (mL + 11) + rl ≤ R.locals) (hf : cells + mc ≤ R.cells ∧ slots + ms ≤ R.slots) (hn : As.length = n) (hst : (rest.map fun v => v.category).sum ≤ 8) (hg : dm k t i) (hct : ct cA ad k t i (S k t i) = .inr (ci, fs)) (hcl : ∃ T N, gCl[ci]? = some (y.cls, T, N))
    (hC : CtE D cA dm E ad l y cy mL ret rf rl mc ms S (.ref (ad k t i) :: As) rv S') (kk : ∀ ad' : Ad, agE dm ad ad' → GX D cA E ad' A nL p s m args meth c own cc → V D cA E ad' A nL p l e R s m args below meth c (cells + mc) (slots + ms) Q S' (pc + 3) lv (rv.toList ++ rest)) : V D cA dm ad A nL p l e R s m args below meth c cells slots Q S pc lv (As.reverse ++ .ref (ad k t i) :: rest) := by
  intro H locs ls hP hS hl
  obtain ⟨hx, hb, hml, hown, hts, hK, hJ, hA, hA2, hlk⟩ := id X
  obtain ⟨T, N, hcl⟩ := hcl
  exact V_backE X (va_runV (As := As) (rest := rest) ⟨hx, hb, hml, hown, hts⟩ (hC H.size) ⟨g_cbE hts hM hR, hts _ hV.1, hts _ hV.2⟩ ⟨gB_blind, va_recv hK (gP_one hP hg hct) (q0 := 0) hcl rfl, fun U hU hW => ⟨rfl, by rw [hU], gP_moved hP hU, gK_moved hW.alike hK, hJ, gN_moved hW hlk.2⟩⟩ rfl hn hl.1 rfl (lv_room hst) hdg hf) hS hl kk
theorem V_callSE (X : GX D cA dm ad A nL p s m args meth c own cc) {y : MethodName} {cy : ByteArray} {mL idx n rf rl mc ms : Nat} {ret : Option FieldType} {rv : Option Value} {S' : S4} (As : List Value) {rest : List Value} (hdg : decode cc pc = .ok (.invokestatic idx, 3)) (hM : ML own idx y cy mL ret n) (hV : Cond.static y ∈ gT) (hR : rf + 1 ≤ R.frames ∧ 8 + (mL + 11) + rl ≤ R.locals) (hf : cells + mc ≤ R.cells ∧ slots + ms ≤ R.slots) (hn : As.length = n) (hst : (rest.map fun v => v.category).sum ≤ 8)
    (hC : CtE D cA dm E ad l y cy mL ret rf rl mc ms S As rv S') (kk : ∀ ad' : Ad, agE dm ad ad' → GX D cA E ad' A nL p s m args meth c own cc → V D cA E ad' A nL p l e R s m args below meth c (cells + mc) (slots + ms) Q S' (pc + 3) lv (rv.toList ++ rest)) : V D cA dm ad A nL p l e R s m args below meth c cells slots Q S pc lv (As.reverse ++ rest) := by
  intro H locs ls hP hS hl
  obtain ⟨hx, hb, hml, hown, hts, hK, hJ, hA, hA2, hlk⟩ := id X
  exact V_backE X (va_runS (As := As) (rest := rest) ⟨hx, hb, hml, hown, hts⟩ (hC H.size) ⟨g_cbE hts hM hR, hts _ hV⟩ ⟨gB_blind, fun U hU hW => ⟨rfl, by rw [hU], gP_moved hP hU, gK_moved hW.alike hK, hJ, gN_moved hW hlk.2⟩⟩ rfl hn hl.1 rfl (lv_room hst) hdg hf) hS hl kk
/-- the ends, seen from the names at the beginning -/
theorem V_vretE {dm0 : Dm} {ad0 : Ad} (X : GX D cA dm ad A nL p s m args meth c own cc) (hag : agE dm0 ad0 ad) (hr : meth.sig.returnType = none) (hdg : decode cc pc = .ok (.return_, 1)) : V D cA dm ad A nL p l e R s m args below meth c cells slots (MQ below (gQE D cA dm0 dm ad0 S none A) args s cells slots A) S pc lv [] :=
  fun H locs ls hP hS hl => W.vret X.1 X.2.1 hr (fun t ht hW => ⟨⟨rfl, ad, hag, X.2.2.2.2.2.2.1, X.2.2.2.2.2.2.2.1, gP_moved hP ht⟩, hS.F ht⟩) hS.2.2 hdg X.2.2.2.2.2.2.2.2.2.1
theorem V_iretE {dm0 : Dm} {ad0 : Ad} (X : GX D cA dm ad A nL p s m args meth c own cc) (hag : agE dm0 ad0 ad) (hr : meth.sig.returnType = some .int) {v : Int32} (hdg : decode cc pc = .ok (.ireturn, 1)) : V D cA dm ad A nL p l e R s m args below meth c cells slots (MQ below (gQE D cA dm0 dm ad0 S (some (.int v)) A) args s cells slots A) S pc lv [.int v] :=
  fun H locs ls hP hS hl => W.iret X.1 X.2.1 hr (fun t ht hW => ⟨⟨rfl, ad, hag, X.2.2.2.2.2.2.1, X.2.2.2.2.2.2.2.1, gP_moved hP ht⟩, hS.F ht⟩) hS.2.2 hdg X.2.2.2.2.2.2.2.2.2.1
theorem V_aretE {dm0 : Dm} {ad0 : Ad} (X : GX D cA dm ad A nL p s m args meth c own cc) (hag : agE dm0 ad0 ad) {n : String} (hr : meth.sig.returnType = some (.object n)) {v : Value} (hv : v = .null ∨ ∃ a, v = .ref a) (hdg : decode cc pc = .ok (.areturn, 1)) : V D cA dm ad A nL p l e R s m args below meth c cells slots (MQ below (gQE D cA dm0 dm ad0 S (some v) A) args s cells slots A) S pc lv [v] :=
  fun H locs ls hP hS hl => W.aret X.1 X.2.1 hr (Or.inl ⟨n, rfl⟩) hv (fun t ht hW => ⟨⟨rfl, ad, hag, X.2.2.2.2.2.2.1, X.2.2.2.2.2.2.2.1, gP_moved hP ht⟩, hS.F ht⟩) hS.2.2 hdg X.2.2.2.2.2.2.2.2.2.1
end VE
