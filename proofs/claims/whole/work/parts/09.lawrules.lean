/-! the law's wrappers: they catch what the class throws -/
def Cw (D : va_G) (cA : Nat → ClassId) (dm : Dm) (ad : Ad) (l : Launch) (y : MethodName) (cy : ByteArray) (mL : Nat) (ret : Option FieldType) (hh : List (Nat × Nat × Nat × Nat)) (rf rl : Nat) (S : S4) (av : List Value) (rv : Option Value) (S' : S4) : Prop :=
  ∀ sz : Nat, vx_Met l y (Cond.codeWith y cy mL ret hh :: gT) ({ frames := rf, cells := 1, slots := 6, locals := rl }) (va_Pc av (gBx D cA dm ad S sz)) (gQ D cA dm ad S' rv (gA dm ad sz)) (fun _ _ _ => False) 1 6 (gA dm ad sz)
theorem Cw.of {D : va_G} {cA : Nat → ClassId} {dm : Dm} {ad : Ad} {l : Launch} {y : MethodName} {cy : ByteArray} {mL rf rl : Nat} {ret : Option FieldType} {hh : List (Nat × Nat × Nat × Nat)} {S S' : S4} {av : List Value} {rv : Option Value} (hy : plainName y.cls = true) (hlen : (lg_sl av).length ≤ mL) (lv : List (Nat × Value)) (hlv : lv_args 0 av = lv)
    (body : ∀ (p : Program) (e : Env) (s : State) (m : MethodId) (args : Array Value) (below : List Frame) (meth : Method) (c : Code) (A : Nat → Prop), GX D cA dm ad A mL p s m args meth c y.cls cy → meth.sig.returnType = ret → gZ A s s.heap → c.exceptionTable.toList = tableOf hh → V D cA dm ad A mL p l e ({ frames := rf, cells := 1, slots := 6, locals := rl }) s m args below meth c 0 0 (vx_MQ below (gQ D cA dm ad S' rv A) (fun _ _ _ => False) args s 1 6 A) S 0 lv []) : Cw D cA dm ad l y cy mL ret hh rf rl S av rv S' := by
  intro sz
  refine vx_ofWH (cc := cy) (maxL := mL) (ret := ret) (hh := hh) hy rfl ?_
  intro p e s m args below meth c s₁ B hml hv
  obtain ⟨rfl, ⟨hsz, hP, hK, hJ, hN⟩, hZ⟩ := hv
  have hts := atoms_spec (ws := Cond.codeWith y cy mL ret hh :: gT) B.pre
  have hown : s.vm.findClass y.cls = some m.cls := findClass_of_methodNamed B.named
  have htab := vx_table (x := y) B (hts _ List.mem_cons_self)
  subst hsz
  have hl := lv_entry av (n := mL) hlen
  rw [lg_entry_eq]
  rw [hlv] at hl
  exact body p e s m av.toArray below meth c (gA dm ad s.heap.size) ⟨B.exec, B.bytes, hml, hown, fun w hw => hts w (List.mem_cons_of_mem _ hw), hK, hJ, fun k t i hg => Or.inl ⟨k, t, i, hg, rfl⟩, fun q h => Or.inr h, B.notSynchronized, hN⟩ B.returns hZ htab s.heap [] _ hP va_S.rf hl
section VL
variable {D : va_G} {cA : Nat → ClassId} {dm : Dm} {ad : Ad} {A : Nat → Prop} {nL : Nat} {p : Program} {l : Launch} {e : Env} {R : Room} {s : State} {m : MethodId} {args : Array Value} {below : List Frame} {meth : Method} {c : Code} {cells slots : Nat} {Q : State → Prop} {own : String} {cc : ByteArray} {S S' : S4} {pc : Nat} {lv lv' : List (Nat × Value)} {st : List Value}
theorem V_widen {k n : Nat} (h1 : cells ≤ k) (h2 : slots ≤ n) (kk : V D cA dm ad A nL p l e R s m args below meth c k n Q S pc lv st) : V D cA dm ad A nL p l e R s m args below meth c cells slots Q S pc lv st :=
  fun H locs ls hP hS hl => W.widen h1 h2 (kk H locs ls hP hS hl)
theorem V_wret (X : GX D cA dm ad A nL p s m args meth c own cc) (hr : meth.sig.returnType = some .int) {v : Int32} (hdg : decode cc pc = .ok (.ireturn, 1)) (h1 : cells ≤ 1) (h2 : slots ≤ 6) {XC : String → State → State → Prop} : V D cA dm ad A nL p l e R s m args below meth c cells slots (vx_MQ below (gQ D cA dm ad S (some (.int v)) A) XC args s 1 6 A) S pc lv [.int v] :=
  V_widen h1 h2 (fun H locs ls hP hS hl => vx_ret (W.iret X.1 X.2.1 hr (fun t ht hW => ⟨⟨rfl, gP_moved hP ht⟩, hS.F ht⟩) hS.2.2 hdg X.2.2.2.2.2.2.2.2.2.1))
theorem V_lconst (X : GX D cA dm ad A nL p s m args meth c own cc) {n : Fin 2} (v : Int64) (hdg : decode cc pc = .ok (.lconst n, 1)) (hv : Int64.ofNat (n : Nat) = v) (kk : V D cA dm ad A nL p l e R s m args below meth c cells slots Q S (pc + 1) lv (.long v :: st)) : V D cA dm ad A nL p l e R s m args below meth c cells slots Q S pc lv st :=
  fun H locs ls hP hS hl => lv_lconst X.1 X.2.1 hdg hv (kk H locs ls hP hS hl)
theorem V_last (X : GX D cA dm ad A nL p s m args meth c own cc) (hg : dm 36 0 0) {x z : Int32} {v : Int64} (hv : v = z.toInt64) (hin : inb x 1) (hdg : decode cc pc = .ok (.lastore, 1)) (kk : ∀ S1 : S4, S1 = u4 S 36 0 0 x.toNatClampNeg z → V D cA dm ad A nL p l e R s m args below meth c cells slots Q S1 (pc + 1) lv st) : V D cA dm ad A nL p l e R s m args below meth c cells slots Q S pc lv (.long v :: .int x :: .ref (ad 36 0 0) :: st) := by
  subst hv
  obtain ⟨hx, hb, hml, hown, hts, hK, hJ, hA, hA2, hlk⟩ := X
  intro H locs ls hP hS hl
  refine W.last hx hb (gP_one hP hg rfl 0 _ rfl) ((hK.2 7 _ rfl).1 1 (fun j => .long ((S 36 0 0 j).toInt64))) (fun q => by cases q) (by show ¬ (x < 0 ∨ (arrV _ _ _).slots.size ≤ _); rw [arrV_size]; exact hin) rfl rfl hdg fun H1 e z1 oq => ?_
  refine kk _ rfl H1 _ ls (gP_upd hP hJ hg rfl ?_ oq) (hS.put z1 oq (hA _ _ _ hg)) hl
  show H1[ad 36 0 0]? = some (vp_cell _ _)
  rw [e]
  rw [vp_cell_l, vp_cell_l, arrV_store]
  congr 2
  funext q
  by_cases hq : q = x.toNatClampNeg
  · subst hq
    simp [updV, upd]
  · simp [updV, upd, hq]
/-- a callee that throws, and this method's table takes it -/
theorem V_callVC (X : GX D cA dm ad A nL p s m args meth c own cc) (hZ : gZ A s s.heap) {hh : List (Nat × Nat × Nat × Nat)} (htab : c.exceptionTable.toList = tableOf hh) {y : MethodName} {cy : ByteArray} {mL idx n rf rl ko t i ci k : Nat} {ret : Option FieldType} {o : Nat × S4} (hk : o.1 = k) (As : List Value) {rest : List Value} {fs : List Value} (hdg : decode cc pc = .ok (.invokevirtual idx, 3)) (hM : ML own idx y cy mL ret n) (hV : MV y) (hR : rf + 1 ≤ R.frames ∧ 8 + (mL + 11) + rl ≤ R.locals) (hf : cells + 1 ≤ R.cells ∧ slots + 6 ≤ R.slots) (hn : As.length = n) (hst : (rest.map fun v => v.category).sum ≤ 8) (hg : dm ko t i) (hct : ct cA ad ko t i (S ko t i) = .inr (ci, fs)) (hcl : ∃ T N, gCl[ci]? = some (y.cls, T, N))
    (hC : Cx D cA dm ad l y cy mL ret rf rl S (.ref (ad ko t i) :: As) o) (pre : List ExceptionTableEntry) (x : ExceptionTableEntry) (suf : List ExceptionTableEntry) (hsplit : tableOf hh = pre ++ x :: suf) (hpass : ∀ z ∈ pre, z.catchType ≠ 0 ∧ ∃ nm : String, Cond.classLink own z.catchType nm ∈ gT ∧ (exn k, nm) ∈ gNc) (hx : covers x pc = true) (h0 : x.catchType ≠ 0) (hlink : Cond.classLink own x.catchType (exn k) ∈ gT) (hcast : exn k ∈ gCw)
    (kk : ∀ q : Nat, V D cA dm ad A nL p l e R s m args below meth c (cells + 1) (slots + 6) Q o.2 x.handlerPc lv [.ref q]) : V D cA dm ad A nL p l e R s m args below meth c cells slots Q S pc lv (As.reverse ++ .ref (ad ko t i) :: rest) := by
  subst hk
  intro H locs ls hP hS hl T hT X1
  obtain ⟨hx0, hb, hml, hown, hts, hK, hJ, hA, hA2, hlk⟩ := id X
  obtain ⟨T0, N0, hcl⟩ := hcl
  have hAf : ∀ q, gA dm ad H.size q → A q := fun q h => h.elim (fun ⟨k, t, i, hg, e⟩ => by rw [e]; exact hA k t i hg) (fun h => hA2 q (Nat.le_trans hS.1 h))
  have hZH : gZ (gA dm ad H.size) s H := gZ_narrow (gZ_kept hZ (fun a h1 h2 => hS.2.1 a h1 h2)) hAf
  rcases vx_runV (As := As) (rest := rest) (g := F0 m pc ls (As.reverse ++ .ref (ad ko t i) :: rest)) (cells := cells) (slots := slots) ⟨hx0, hb, hml, hown, hts⟩ (hC H.size) ⟨g_cbx hts hM hR, hts _ hV.1, hts _ hV.2⟩ ⟨gBx_blind, va_recv hK (gP_one hP hg hct) (q0 := 0) hcl rfl, fun U hU hW => ⟨rfl, ⟨by rw [hU], gP_moved hP hU, gK_moved hW.alike hK, hJ, gN_moved hW hlk.2⟩, gZ_moved hW.alike (by rw [hU]; exact hZH)⟩⟩ rfl hn hl.1 rfl (lv_room hst) hdg hf T hT X1 with ⟨v, st₀, t2, T', L, h01, X2, hL, e1, e2, hq, st9⟩ | ⟨q, st₀, t2, T', L, E, ce, h01, X2, hL, e1, e2, ⟨hEe, hq, hF⟩, hce, hcv, hcl2, st9⟩
  · exact hq.elim
  · obtain ⟨k1, k2, k3⟩ := vx_keep h01 e1 hS (fun q _ h => hAf q h) hAf hL hF
    subst hEe
    obtain ⟨t9, a1, b1⟩ := vx_catch (rest := rest) (ls := ls) (pc := pc) (H := T'.heap) (Q := Q) hown pre x suf (htab.trans hsplit) (fun z hz => Or.inr ⟨(hpass z hz).1, by
      obtain ⟨nm, w1, w2⟩ := (hpass z hz).2
      exact ⟨nm, hts _ w1, hlk.2.2.2 _ w2⟩⟩) hx h0 (hts _ hlink) (va_Nw.use rfl (hlk.2.1 _ (List.mem_append_right _ (List.mem_append_left _ (List.mem_map.mpr ⟨_, hcast, rfl⟩))))) (by rw [e1]; exact hce) hcv hcl2 (kk q T'.heap (locs ++ L) ls (gP_moved hq e1) k3 hl) T' rfl X2
    exact ⟨t9, st9.trans a1, b1⟩
end VL
theorem el_l {α β γ : Type} {f : α → γ} {g : β → γ} {a : α} {o : γ} (h : Sum.elim f g (.inl a) = o) : f a = o := h
theorem el_r {α β γ : Type} {f : α → γ} {g : β → γ} {a : β} {o : γ} (h : Sum.elim f g (.inr a) = o) : g a = o := h

theorem k_L_8 : Cond.classLink RL 8 RX6 ∈ gT := gin 108 (by decide +kernel) (by decide +kernel)
theorem k_L_13 : Cond.classLink RL 13 "java/lang/IllegalArgumentException" ∈ gT := gin 492 (by decide +kernel) (by decide +kernel)
theorem k_L_18 : Cond.classLink RL 18 "java/lang/IllegalStateException" ∈ gT := gin 577 (by decide +kernel) (by decide +kernel)
theorem k_L_32 : Cond.classLink RL 32 "java/lang/UnsupportedOperationException" ∈ gT := gin 650 (by decide +kernel) (by decide +kernel)
theorem k_L_38 : Cond.classLink RL 38 "java/lang/IndexOutOfBoundsException" ∈ gT := gin 814 (by decide +kernel) (by decide +kernel)
theorem k_L_44 : Cond.classLink RL 44 "java/util/NoSuchElementException" ∈ gT := gin 874 (by decide +kernel) (by decide +kernel)
theorem k_L_82 : Cond.classLink RL 82 "java/lang/ArithmeticException" ∈ gT := gin 1121 (by decide +kernel) (by decide +kernel)
theorem k_L_108 : Cond.classLink RL 108 RX7 ∈ gT := gin 1496 (by decide +kernel) (by decide +kernel)
theorem nw_L_build : Cond.codeWith yL_build cL_build 4 (some .int) [(0, 9, 12, 13)] ∈ gT := gin 491 (by decide +kernel) (by decide +kernel)
theorem t_L_build : Cond.static yL_build ∈ gT := gin 490 (by decide +kernel) (by decide +kernel)
theorem nw_L_addStation : Cond.codeWith yL_addStation cL_addStation 4 (some .int) [(0, 9, 12, 13), (0, 9, 15, 18)] ∈ gT := gin 576 (by decide +kernel) (by decide +kernel)
theorem t_L_addStation : Cond.static yL_addStation ∈ gT := gin 575 (by decide +kernel) (by decide +kernel)
theorem nw_L_addChute : Cond.codeWith yL_addChute cL_addChute 9 (some .int) [(0, 18, 21, 13), (0, 18, 25, 18)] ∈ gT := gin 623 (by decide +kernel) (by decide +kernel)
theorem t_L_addChute : Cond.static yL_addChute ∈ gT := gin 622 (by decide +kernel) (by decide +kernel)
theorem nw_L_feed : Cond.codeWith yL_feed cL_feed 4 (some .int) [(0, 9, 12, 18)] ∈ gT := gin 641 (by decide +kernel) (by decide +kernel)
theorem t_L_feed : Cond.static yL_feed ∈ gT := gin 640 (by decide +kernel) (by decide +kernel)
theorem nw_L_addPlan : Cond.codeWith yL_addPlan cL_addPlan 3 (some .int) [(0, 8, 11, 32), (0, 8, 14, 18)] ∈ gT := gin 649 (by decide +kernel) (by decide +kernel)
theorem t_L_addPlan : Cond.static yL_addPlan ∈ gT := gin 648 (by decide +kernel) (by decide +kernel)
theorem nw_L_plan : Cond.codeWith yL_plan cL_plan 5 (some .int) [(0, 10, 13, 38), (0, 10, 17, 13)] ∈ gT := gin 813 (by decide +kernel) (by decide +kernel)
theorem t_L_plan : Cond.static yL_plan ∈ gT := gin 812 (by decide +kernel) (by decide +kernel)
theorem nw_L_route : Cond.codeWith yL_route cL_route 6 (some .int) [(0, 12, 15, 13), (0, 12, 19, 18), (0, 12, 23, 44)] ∈ gT := gin 873 (by decide +kernel) (by decide +kernel)
theorem t_L_route : Cond.static yL_route ∈ gT := gin 872 (by decide +kernel) (by decide +kernel)
theorem nw_L_arrive : Cond.codeWith yL_arrive cL_arrive 7 (some .int) [(0, 14, 17, 38), (0, 14, 21, 13), (0, 14, 25, 18)] ∈ gT := gin 902 (by decide +kernel) (by decide +kernel)
theorem t_L_arrive : Cond.static yL_arrive ∈ gT := gin 901 (by decide +kernel) (by decide +kernel)
theorem nw_L_find : Cond.codeWith yL_find cL_find 5 (some .int) [(0, 10, 13, 44)] ∈ gT := gin 927 (by decide +kernel) (by decide +kernel)
theorem t_L_find : Cond.static yL_find ∈ gT := gin 926 (by decide +kernel) (by decide +kernel)
theorem nw_L_parcel : Cond.codeWith yL_parcel cL_parcel 5 (some .int) [(0, 10, 13, 38), (0, 10, 17, 13)] ∈ gT := gin 935 (by decide +kernel) (by decide +kernel)
theorem t_L_parcel : Cond.static yL_parcel ∈ gT := gin 934 (by decide +kernel) (by decide +kernel)
theorem nw_L_carried : Cond.codeWith yL_carried cL_carried 4 (some .int) [(0, 9, 12, 38), (0, 9, 15, 44)] ∈ gT := gin 946 (by decide +kernel) (by decide +kernel)
theorem t_L_carried : Cond.static yL_carried ∈ gT := gin 945 (by decide +kernel) (by decide +kernel)
theorem nw_L_run : Cond.codeWith yL_run cL_run 4 (some .int) [(0, 9, 12, 13)] ∈ gT := gin 962 (by decide +kernel) (by decide +kernel)
theorem t_L_run : Cond.static yL_run ∈ gT := gin 961 (by decide +kernel) (by decide +kernel)
theorem nw_L_setClosed : Cond.codeWith yL_setClosed cL_setClosed 5 (some .int) [(0, 17, 20, 38)] ∈ gT := gin 1065 (by decide +kernel) (by decide +kernel)
theorem t_L_setClosed : Cond.static yL_setClosed ∈ gT := gin 1064 (by decide +kernel) (by decide +kernel)
theorem nw_L_clear : Cond.codeWith yL_clear cL_clear 4 (some .int) [(0, 9, 12, 38), (0, 9, 15, 18)] ∈ gT := gin 1072 (by decide +kernel) (by decide +kernel)
theorem t_L_clear : Cond.static yL_clear ∈ gT := gin 1071 (by decide +kernel) (by decide +kernel)
theorem nw_L_chute : Cond.codeWith yL_chute cL_chute 5 (some .int) [(0, 10, 13, 38), (0, 10, 17, 13)] ∈ gT := gin 1080 (by decide +kernel) (by decide +kernel)
theorem t_L_chute : Cond.static yL_chute ∈ gT := gin 1079 (by decide +kernel) (by decide +kernel)
theorem nw_L_station : Cond.codeWith yL_station cL_station 5 (some .int) [(0, 10, 13, 38), (0, 10, 17, 13)] ∈ gT := gin 1092 (by decide +kernel) (by decide +kernel)
theorem t_L_station : Cond.static yL_station ∈ gT := gin 1091 (by decide +kernel) (by decide +kernel)
theorem nw_L_count : Cond.codeWith yL_count cL_count 4 (some .int) [(0, 9, 12, 13)] ∈ gT := gin 1100 (by decide +kernel) (by decide +kernel)
theorem t_L_count : Cond.static yL_count ∈ gT := gin 1099 (by decide +kernel) (by decide +kernel)
theorem nw_L_meanRounds : Cond.codeWith yL_meanRounds cL_meanRounds 3 (some .int) [(0, 7, 10, 82)] ∈ gT := gin 1120 (by decide +kernel) (by decide +kernel)
theorem t_L_meanRounds : Cond.static yL_meanRounds ∈ gT := gin 1119 (by decide +kernel) (by decide +kernel)
theorem nw_L_foresee : Cond.codeWith yL_foresee cL_foresee 6 (some .int) [(0, 12, 15, 38), (0, 12, 19, 13), (0, 12, 23, 44)] ∈ gT := gin 1148 (by decide +kernel) (by decide +kernel)
theorem t_L_foresee : Cond.static yL_foresee ∈ gT := gin 1147 (by decide +kernel) (by decide +kernel)
theorem nw_L_untilEmpty : Cond.codeWith yL_untilEmpty cL_untilEmpty 4 (some .int) [(0, 9, 12, 13), (0, 9, 15, 44)] ∈ gT := gin 1156 (by decide +kernel) (by decide +kernel)
theorem t_L_untilEmpty : Cond.static yL_untilEmpty ∈ gT := gin 1155 (by decide +kernel) (by decide +kernel)
theorem nw_L_ledger : Cond.codeWith yL_ledger cL_ledger 5 (some .int) [(0, 10, 13, 38), (0, 10, 17, 13)] ∈ gT := gin 1168 (by decide +kernel) (by decide +kernel)
theorem t_L_ledger : Cond.static yL_ledger ∈ gT := gin 1167 (by decide +kernel) (by decide +kernel)
theorem nw_L_undo : Cond.codeWith yL_undo cL_undo 3 (some .int) [(0, 8, 11, 18)] ∈ gT := gin 1175 (by decide +kernel) (by decide +kernel)
theorem t_L_undo : Cond.static yL_undo ∈ gT := gin 1174 (by decide +kernel) (by decide +kernel)
theorem nw_L_restoreSnapshot : Cond.codeWith yL_restoreSnapshot cL_restoreSnapshot 3 (some .int) [(0, 8, 11, 18)] ∈ gT := gin 1183 (by decide +kernel) (by decide +kernel)
theorem t_L_restoreSnapshot : Cond.static yL_restoreSnapshot ∈ gT := gin 1182 (by decide +kernel) (by decide +kernel)
theorem nw_L_write : Cond.codeWith yL_write cL_write 4 (some .int) [(0, 9, 12, 38)] ∈ gT := gin 1191 (by decide +kernel) (by decide +kernel)
theorem t_L_write : Cond.static yL_write ∈ gT := gin 1190 (by decide +kernel) (by decide +kernel)
theorem nw_L_paper : Cond.codeWith yL_paper cL_paper 4 (some .int) [(0, 9, 12, 38)] ∈ gT := gin 1481 (by decide +kernel) (by decide +kernel)
theorem t_L_paper : Cond.static yL_paper ∈ gT := gin 1480 (by decide +kernel) (by decide +kernel)
