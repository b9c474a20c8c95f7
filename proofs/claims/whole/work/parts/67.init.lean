/-! constructors: final fields, Object's constructor -/
/-- a final field, put in a constructor of its class -/
def FF (own : String) (idx ci j : Nat) (ty : FieldType) : Prop := ∃ (T : u_T) (N : Nat) (tys : Nat → FieldType), GC ci own T N tys ∧ j < N ∧ tys j = ty ∧ (T j).2.2.2 = true ∧ Cond.fieldLink own idx own (T j).2.1 (T j).2.2.1 ∈ gT ∧ (T j).1 = own
section VI
variable {D : va_G} {cA : Nat → ClassId} {dm E : Dm} {ad : Ad} {A : Nat → Prop} {nL : Nat} {p : Program} {l : Launch} {e : Env} {R : Room} {s : State} {m : MethodId} {args : Array Value} {below : List Frame} {meth : Method} {c : Code} {cells slots : Nat} {Q : State → Prop} {own : String} {cc : ByteArray} {S S' : S4} {pc : Nat} {lv lv' : List (Nat × Value)} {st : List Value}
theorem V_putF (X : GX D cA dm ad A nL p s m args meth c own cc) (hnm0 : meth.name = "<init>") {idx ci j k t i : Nat} {fs : List Value} {v : Value} {x : Int32} {ty : FieldType} (hdg : decode cc pc = .ok (.putfield idx, 3)) (hF : FF own idx ci j ty) (hg : dm k t i) (hct : ct cA ad k t i (S k t i) = .inr (ci, fs)) (hl : j < fs.length) (hct2 : ct cA ad k t i (upd (S k t i) j x) = .inr (ci, fs.set j v)) (hn : narrow ty v = v) (hfit : fits ty v = true) (kk : ∀ S1 : S4, S1 = u4 S k t i j x → V D cA dm ad A nL p l e R s m args below meth c cells slots Q S1 (pc + 3) lv st) : V D cA dm ad A nL p l e R s m args below meth c cells slots Q S pc lv (v :: .ref (ad k t i) :: st) := by
  obtain ⟨hx, hb, hml, hown, hts, hK, hJ, hA, hA2, hlk⟩ := X
  obtain ⟨T, N, tys, ⟨hc, hin, hty, hnm⟩, hj, rfl, hfin, hlink, hT⟩ := hF
  intro H locs ls hP hS hl0
  have hap := va_apart (own := own) hts hin tys hty hnm hK hc
  obtain ⟨r, h1, cell, q1, q2, q3, q4⟩ := gP_one hP hg hct 0 _ rfl
  have hr : r = (own, T, N) := Option.some.inj (h1.symm.trans hc)
  subst hr
  obtain ⟨hS1, hfc, kC, hkC, hkind⟩ := hK.1 ci _ hc
  obtain ⟨cf, kf, fi, f, hi, hsl⟩ := hS1 j hj
  have hlay := hts _ (hin _ (u_in_lay hj))
  unfold u_lay at hlay
  rw [if_pos hfin] at hlay
  have hst := (u_facts hfc hkC (u_lays hts hin hj) hi).1
  have hcf : m.cls = cf := by
    obtain ⟨_, _, c', _, _, _, -, -, hf', -, -, -, hown2, -⟩ := Cond.laysFinal_spec hlay
    have e1 : c' = cf := by have := hi.symm.trans hf'; simp at this; exact this.1.symm
    rw [hT] at hown2
    rw [← e1]; exact Option.some.inj (hown.symm.trans hown2)
  have h6 := u_fits hfc hkC hkind (Or.inr hlay) hi (hty j hj) hn hfit
  have hi' : s.fieldFound? own (T j).2.1 (T j).2.2.1 = some (cf, kf, fi, f) := by rw [hT] at hi; exact hi
  refine W.putFinK hx hb hown (hts _ hlink) hi' hst hcf hnm0 (by rw [q2]; exact h6) q1 q3 (by rw [hsl]; exact k2_hasslot (q4 j hj)) rfl rfl hdg fun H' e1 e2 e3 => ?_
  rw [hsl] at e1 ⊢
  exact kk _ rfl H' _ ls (gP_upd hP hJ hg hct2 ⟨_, hc, t_OB.to (V := updV (vp_V fs) j v) ⟨_, e1, q2, q3, t_set q4 hap hj v⟩ (fun n _ => vp_updV_set hl v n)⟩ e3) (hS.put e2 e3 (hA k t i hg)) hl0
theorem V_objInit (X : GX D cA dm ad A nL p s m args meth c own cc) {idx a : Nat} (h1 : Cond.methodLink own idx Lib.objectInit ∈ gT) (h2 : Cond.instanceMethod Lib.objectInit ∈ gT) (h3 : Cond.code Lib.objectInit ⟨#[0xb1]⟩ 1 none ∈ gT) (hR : 1 ≤ R.frames ∧ 20 ≤ R.locals) (hst : (st.map fun v => v.category).sum ≤ 8) (hdg : decode cc pc = .ok (.invokespecial idx, 3)) (kk : V D cA dm ad A nL p l e R s m args below meth c cells slots Q S (pc + 3) lv st) : V D cA dm ad A nL p l e R s m args below meth c cells slots Q S pc lv (.ref a :: st) := by
  obtain ⟨hx, hb, hml, hown, hts, hK, hJ, hA, hA2, hlk⟩ := id X
  intro H locs ls hP hS hl
  refine W.objInit hx hb hown (hts _ h1) (hts _ h2) (hts _ h3) rfl (by rw [hml]; exact hl.1) rfl hdg hR.1 ?_ (kk H locs ls hP hS hl)
  have : 2 * (F0 m pc ls (.ref a :: st)).monitorRoom = 0 := rfl
  omega
end VI
/-- a constructor's contract out of the walk of its body -/
theorem CtE.ofI {D : va_G} {cA : Nat → ClassId} {dm E : Dm} {ad : Ad} {l : Launch} {y : MethodName} {cy : ByteArray} {mL rf rl mc ms : Nat} {ret : Option FieldType} {S S' : S4} {av : List Value} {rv : Option Value} (hy : plainName y.cls = true) (hlen : (lg_sl av).length ≤ mL) (lv : List (Nat × Value)) (hlv : lv_args 0 av = lv)
    (body : ∀ (p : Program) (e : Env) (s : State) (m : MethodId) (args : Array Value) (below : List Frame) (meth : Method) (c : Code) (A : Nat → Prop), GX D cA dm ad A mL p s m args meth c y.cls cy → meth.sig.returnType = ret → meth.name = y.name → V D cA dm ad A mL p l e ({ frames := rf, cells := mc, slots := ms, locals := rl }) s m args below meth c 0 0 (MQ below (gQE D cA dm E ad S' rv A) args s mc ms A) S 0 lv []) : CtE D cA dm E ad l y cy mL ret rf rl mc ms S av rv S' := by
  intro sz
  refine Met.ofW (cc := cy) (maxL := mL) (ret := ret) hy rfl ?_
  intro p e s m args below meth c s₁ B hml hv
  obtain ⟨rfl, hsz, hP, hK, hJ, hN⟩ := hv
  have hts := atoms_spec (ws := Cond.code y cy mL ret :: gT) B.pre
  have hown : s.vm.findClass y.cls = some m.cls := findClass_of_methodNamed B.named
  subst hsz
  have hl := lv_entry av (n := mL) hlen
  rw [lg_entry_eq]
  rw [hlv] at hl
  exact body p e s m av.toArray below meth c (gA dm ad s.heap.size) ⟨B.exec, B.bytes, hml, hown, fun w hw => hts w (List.mem_cons_of_mem _ hw), hK, hJ, fun k t i hg => Or.inl ⟨k, t, i, hg, rfl⟩, fun q h => Or.inr h, B.notSynchronized, hN⟩ B.returns (name_of_methodNamed B.named B.method).1 s.heap [] _ hP va_S.rf hl
