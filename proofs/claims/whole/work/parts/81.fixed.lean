/-! addresses known ahead: what a method makes lies where the heap ends -/
/-- the last cell made so far has a name -/
def lastN (dm : Dm) (ad : Ad) (n cells : Nat) : Prop := cells = 0 ∨ ∃ k t i, dm k t i ∧ ad k t i + 1 = n + cells
def gQF (D : va_G) (cA : Nat → ClassId) (E : Dm) (ad : Ad) (S : S4) (A : Nat → Prop) : Array Value → State → Outcome → State → Prop := fun _ st oc t => (oc = .returned none ∧ gJ E ad ∧ (∀ k t i, E k t i → A (ad k t i)) ∧ gP D cA E ad S t.heap) ∧ va_F A st t
/-- a constructor's contract, from a heap of n cells -/
def CtF (D : va_G) (cA : Nat → ClassId) (dm E : Dm) (ad : Ad) (l : Launch) (y : MethodName) (cy : ByteArray) (mL : Nat) (rf rl mc ms n : Nat) (S : S4) (av : List Value) (S' : S4) : Prop :=
  Met l y (Cond.code y cy mL none :: gT) ({ frames := rf, cells := mc, slots := ms, locals := rl }) (va_Pc av (gBy D cA dm ad S n)) (gQF D cA E ad S' (gA dm ad n)) mc ms (gA dm ad n)
theorem CtF.of {D : va_G} {cA : Nat → ClassId} {dm E : Dm} {ad : Ad} {l : Launch} {y : MethodName} {cy : ByteArray} {mL rf rl mc ms n : Nat} {S S' : S4} {av : List Value} (hy : plainName y.cls = true) (hlen : (lg_sl av).length ≤ mL) (lv : List (Nat × Value)) (hlv : lv_args 0 av = lv)
    (body : ∀ (p : Program) (e : Env) (s : State) (m : MethodId) (args : Array Value) (below : List Frame) (meth : Method) (c : Code) (A : Nat → Prop), GX D cA dm ad A mL p s m args meth c y.cls cy → meth.sig.returnType = none → gY A s s.heap → meth.name = y.name → s.heap.size = n → V D cA dm ad A mL p l e ({ frames := rf, cells := mc, slots := ms, locals := rl }) s m args below meth c 0 0 (MQ below (gQF D cA E ad S' A) args s mc ms A) S 0 lv []) : CtF D cA dm E ad l y cy mL rf rl mc ms n S av S' := by
  refine Met.ofW (cc := cy) (maxL := mL) (ret := none) hy rfl ?_
  intro p e s m args below meth c s₁ B hml hv
  obtain ⟨rfl, ⟨hsz, hP, hK, hJ, hN⟩, hY⟩ := hv
  have hts := atoms_spec (ws := Cond.code y cy mL none :: gT) B.pre
  have hown : s.vm.findClass y.cls = some m.cls := findClass_of_methodNamed B.named
  subst hsz
  have hl := lv_entry av (n := mL) hlen
  rw [lg_entry_eq]
  rw [hlv] at hl
  exact body p e s m av.toArray below meth c (gA dm ad s.heap.size) ⟨B.exec, B.bytes, hml, hown, fun w hw => hts w (List.mem_cons_of_mem _ hw), hK, hJ, fun k t i hg => Or.inl ⟨k, t, i, hg, rfl⟩, fun q h => Or.inr h, B.notSynchronized, hN⟩ B.returns hY (name_of_methodNamed B.named B.method).1 rfl s.heap [] _ hP va_S.rf hl
section VF
variable {D : va_G} {cA : Nat → ClassId} {dm E dm' : Dm} {ad : Ad} {A : Nat → Prop} {nL n : Nat} {p : Program} {l : Launch} {e : Env} {R : Room} {s : State} {m : MethodId} {args : Array Value} {below : List Frame} {meth : Method} {c : Code} {cells slots : Nat} {Q : State → Prop} {own : String} {cc : ByteArray} {S S' : S4} {pc : Nat} {lv lv' : List (Nat × Value)} {st : List Value}
theorem size_at (hsz : s.heap.size = n) (hlow : lastN dm ad n cells) {T : State} {locs : List Loc} {H : Heap} (hT : T.heap = H) (X1 : Stand p l e R s m args below meth c T locs cells slots) (hP : gP D cA dm ad S H) (hS : va_S A s.heap H locs) : H.size = n + cells := by
  have h1 := X1.same.2.2.1
  have h1 : T.heap.size ≤ s.heap.size + cells := h1
  rw [hT] at h1
  have h2 := hS.1
  rcases hlow with h | ⟨k, t, i, hd, h⟩
  · omega
  · have h3 : ad k t i < H.size := (hP k t i hd).lt
    omega
theorem W_size (hsz : s.heap.size = n) (hlow : lastN dm ad n cells) {locs : List Loc} {H : Heap} {g : JFrame} (hP : gP D cA dm ad S H) (hS : va_S A s.heap H locs) (kk : H.size = n + cells → W p l e R s m args below meth c H locs cells slots Q g) : W p l e R s m args below meth c H locs cells slots Q g :=
  fun T hT X1 => kk (size_at hsz hlow hT X1 hP hS) T hT X1
theorem gP_bornF {H H1 : Heap} {k t i : Nat} {r0 : Nat → Int32} (h : gP D cA dm ad S H) (o1 : ∀ q : Nat, q < H.size → H1[q]? = H[q]?) (had : ad k t i = H.size) (hnew : va_at D gCl (H.size, ct cA ad k t i r0) H1) : gP D cA (dmu dm k t i) ad (w4 S k t i r0) H1 := by
  intro k' t' i' hd
  by_cases hn : k' = k ∧ t' = t ∧ i' = i
  · obtain ⟨rfl, rfl, rfl⟩ := hn
    rw [w4_self, had]
    exact hnew
  · rcases hd with hd | hd
    · exact absurd hd hn
    · rw [w4_ne hn]
      exact (h k' t' i' hd).kept (o1 _ (h k' t' i' hd).lt)
theorem GX_bornF {H : Heap} {k t i : Nat} {locs : List Loc} (X : GX D cA dm ad A nL p s m args meth c own cc) (h : gP D cA dm ad S H) (hS : va_S A s.heap H locs) (had : ad k t i = H.size) : GX D cA (dmu dm k t i) ad A nL p s m args meth c own cc := by
  obtain ⟨hx, hb, hml, hown, hts, hK, hJ, hA, hA2, hlk, hN⟩ := X
  refine ⟨hx, hb, hml, hown, hts, hK, ?_, ?_, hA2, hlk, hN⟩
  · intro k1 t1 i1 k2 t2 i2 d1 d2 he
    rcases d1 with d1 | d1
    · rcases d2 with d2 | d2
      · omega
      · have := (h k2 t2 i2 d2).lt
        have h2 : ad k2 t2 i2 < H.size := this
        obtain ⟨rfl, rfl, rfl⟩ := d1
        omega
    · rcases d2 with d2 | d2
      · have h2 : ad k1 t1 i1 < H.size := (h k1 t1 i1 d1).lt
        obtain ⟨rfl, rfl, rfl⟩ := d2
        omega
      · exact hJ _ _ _ _ _ _ d1 d2 he
  · intro k1 t1 i1 d1
    rcases d1 with d1 | d1
    · obtain ⟨rfl, rfl, rfl⟩ := d1
      rw [had]
      exact hA2 _ hS.1
    · exact hA _ _ _ d1
theorem V_newX (X : GX D cA dm ad A nL p s m args meth c own cc) (hsz : s.heap.size = n) (hlow : lastN dm ad n cells) {idx ci k t i N : Nat} {C : String} {T : u_T} {tys : Nat → FieldType} (hG : GC ci C T N tys) (hl1 : Cond.classLink own idx C ∈ gT) (hi1 : Cond.instantiable C N ∈ gT) (hini : Cond.initialized C ∈ gT) {fs : List Value} {r0 : Nat → Int32} (had : ad k t i = n + cells) (hct : ct cA ad k t i r0 = .inr (ci, fs)) (hfs : ∀ j, j < N → defaultValue (tys j) = vp_V fs j) (hcells : cells + 1 ≤ R.cells) (hslots : slots + N ≤ R.slots) (hdg : decode cc pc = .ok (.new idx, 3))
    (kk : GX D cA (dmu dm k t i) ad A nL p s m args meth c own cc → V D cA (dmu dm k t i) ad A nL p l e R s m args below meth c (cells + 1) (slots + N) Q (w4 S k t i r0) (pc + 3) lv (.ref (ad k t i) :: st)) : V D cA dm ad A nL p l e R s m args below meth c cells slots Q S pc lv st := by
  obtain ⟨hx, hb, hml, hown, hts, hK, hJ, hA, hA2, hlk, hN⟩ := id X
  obtain ⟨hc, hin, hty, hnm⟩ := hG
  intro H locs ls hP hS hl
  refine W_size hsz hlow hP hS (fun hs => ?_)
  have had' : ad k t i = H.size := by rw [had, hs]
  have hKn := hK.1 ci _ hc
  refine W.newcK hx hb hown (hts _ hl1) (hts _ hi1) (hts _ hini) rfl hdg hcells hslots hKn.2.1 rfl (fun H1 kC hkC e1 z1 o1 => ?_)
  have hk := kk (GX_bornF X hP hS had') H1 locs ls (gP_bornF hP o1 had' (by rw [hct]; exact ⟨_, hc, (u_born tys hts hin hKn hkC e1 hty).to hfs⟩)) ⟨Nat.le_trans hS.1 (by omega), fun x h1 h2 => (o1 x (Nat.lt_of_lt_of_le h1 hS.1)).trans (hS.2.1 x h1 h2), hS.2.2⟩ hl
  rw [had'] at hk
  exact hk
theorem V_newaX (X : GX D cA dm ad A nL p s m args meth c own cc) (hsz : s.heap.size = n) (hlow : lastN dm ad n cells) {atype : ArrayType} {ty : FieldType} {k t i q N : Nat} (hty : newarray.typeOf atype = ty) (harr : Cond.arrayClass (newarray.typeOf atype) ∈ gT) (hq : (gTy cA)[q]? = some (cA q, ty)) {len : Int32} {a0 : vp_A} {r0 : Nat → Int32} (had : ad k t i = n + cells) (ha : ∀ cA' : ClassId, vp_cell cA' a0 = arrV cA' N (fun _ => defaultValue ty)) (hct : ct cA ad k t i r0 = .inl (cA q, a0)) (hn : ¬ len < 0) (hN : len.toNatClampNeg = N) (hbytes : N * componentBytes ty ≤ 536870912) (hcells : cells + 1 ≤ R.cells) (hslots : slots + N ≤ R.slots) (hdg : decode cc pc = .ok (.newarray atype, 2))
    (kk : GX D cA (dmu dm k t i) ad A nL p s m args meth c own cc → V D cA (dmu dm k t i) ad A nL p l e R s m args below meth c (cells + 1) (slots + N) Q (w4 S k t i r0) (pc + 2) lv (.ref (ad k t i) :: st)) : V D cA dm ad A nL p l e R s m args below meth c cells slots Q S pc lv (.int len :: st) := by
  obtain ⟨hx, hb, hml, hown, hts, hK, hJ, hA, hA2, hlk, hNn⟩ := id X
  subst hty
  intro H locs ls hP hS hl
  refine W_size hsz hlow hP hS (fun hs => ?_)
  have had' : ad k t i = H.size := by rw [had, hs]
  refine va_newaK hx hb (hts _ harr) rfl hdg rfl hn hN hbytes hcells hslots rfl (fun H1 cA' e1 z1 o1 hAr hNm => ?_)
  have hR := (hK.2 q _ hq).2
  have hNq : s.vm.findClass ("[" ++ (newarray.typeOf atype).toString) = some (cA q) := by cases atype <;> exact hR
  have ec : cA' = cA q := Option.some.inj (hNm.symm.trans hNq)
  have hk := kk (GX_bornF X hP hS had') H1 locs ls (gP_bornF hP o1 had' (by
    rw [hct]
    show H1[H.size]? = some (vp_cell (cA q) a0)
    rw [ha, ← ec]
    exact e1)) ⟨Nat.le_trans hS.1 (by omega), fun x h1 h2 => (o1 x (Nat.lt_of_lt_of_le h1 hS.1)).trans (hS.2.1 x h1 h2), hS.2.2⟩ hl
  rw [had'] at hk
  exact hk
theorem V_anewX (X : GX D cA dm ad A nL p s m args meth c own cc) (hsz : s.heap.size = n) (hlow : lastN dm ad n cells) {C : String} {idx k t i q N : Nat} (hl1 : Cond.classLink own idx C ∈ gT) (hov : va_AO C s) (hq : (gTy cA)[q]? = some (cA q, .object C)) {len : Int32} {a0 : vp_A} {r0 : Nat → Int32} (had : ad k t i = n + cells) (ha : ∀ cA' : ClassId, vp_cell cA' a0 = arrV cA' N (fun _ => .null)) (hct : ct cA ad k t i r0 = .inl (cA q, a0)) (hn : ¬ len < 0) (hN : len.toNatClampNeg = N) (hbytes : N * 4 ≤ 536870912) (hcells : cells + 1 ≤ R.cells) (hslots : slots + N ≤ R.slots) (hdg : decode cc pc = .ok (.anewarray idx, 3))
    (kk : GX D cA (dmu dm k t i) ad A nL p s m args meth c own cc → V D cA (dmu dm k t i) ad A nL p l e R s m args below meth c (cells + 1) (slots + N) Q (w4 S k t i r0) (pc + 3) lv (.ref (ad k t i) :: st)) : V D cA dm ad A nL p l e R s m args below meth c cells slots Q S pc lv (.int len :: st) := by
  obtain ⟨hx, hb, hml, hown, hts, hK, hJ, hA, hA2, hlk, hNn⟩ := id X
  subst hN
  intro H locs ls hP hS hl
  refine W_size hsz hlow hP hS (fun hs => ?_)
  have had' : ad k t i = H.size := by rw [had, hs]
  refine W.anew hx hb hown (hts _ hl1) (va_AO.use hov) rfl hdg rfl hn hbytes hcells hslots (fun cA' kA comp f1 f2 f3 f4 => ?_)
  generalize hH1 : H.push ({ cls := cA', slots := Array.replicate len.toNatClampNeg .null, vm := .none } : Cell) = H1
  have z1 : H1.size = H.size + 1 := by rw [← hH1, Array.size_push]
  have e1 : H1[H.size]? = some (arrV cA' len.toNatClampNeg (fun _ => .null)) := by rw [← hH1, Array.getElem?_push_size, ← arrV_new]
  have o1 : ∀ x : Nat, x < H.size → H1[x]? = H[x]? := fun x hx' => by rw [← hH1, Array.getElem?_push, if_neg (Nat.ne_of_lt hx')]
  obtain ⟨k2, c2, -, -, -, g4⟩ := (hK.2 q _ hq).2
  have ec : cA' = cA q := Option.some.inj (f1.symm.trans g4)
  have hk := kk (GX_bornF X hP hS had') H1 locs ls (gP_bornF hP o1 had' (by
    rw [hct]
    show H1[H.size]? = some (vp_cell (cA q) a0)
    rw [ha, ← ec]
    exact e1)) ⟨Nat.le_trans hS.1 (by omega), fun x h1 h2 => (o1 x (Nat.lt_of_lt_of_le h1 hS.1)).trans (hS.2.1 x h1 h2), hS.2.2⟩ hl
  rw [had'] at hk
  exact hk
theorem V_backF (X : GX D cA dm ad A nL p s m args meth c own cc) {H : Heap} {locs : List Loc} {ls : Array Slot} {S' : S4} {rest st0 : List Value} {a : Array Value} {k n0 : Nat} (hr : va_Run p l e R s m args below meth c H locs cells slots k n0 (F0 m pc ls st0) rest (gQF D cA E ad S' (gA dm ad H.size) a) (gA dm ad H.size)) (hS : va_S A s.heap H locs) (hl : lv_has ls nL lv) (kk : GX D cA E ad A nL p s m args meth c own cc → V D cA E ad A nL p l e R s m args below meth c (cells + k) (slots + n0) Q S' (pc + 3) lv rest) : W p l e R s m args below meth c H locs cells slots Q (F0 m pc ls st0) := by
  obtain ⟨hx, hb, hml, hown, hts, hK, hJ, hA, hA2, hlk⟩ := id X
  intro T hT X1
  obtain ⟨v, st₀, t, T', L, h0, X2, hL, e1, e2, ⟨⟨hv, hJ', hA', hq⟩, hF⟩, st⟩ := hr T hT X1
  cases hv
  have hf : ∀ q, gA dm ad H.size q → A q := fun q h => h.elim (fun ⟨k, t, i, hg, e⟩ => by rw [e]; exact hA k t i hg) (fun h => hA2 q (Nat.le_trans hS.1 h))
  obtain ⟨k1, k2, k3⟩ := vx_keep h0 e1 hS (fun q _ h => hf q h) hf hL hF
  obtain ⟨t2, a1, b1⟩ := kk ⟨hx, hb, hml, hown, hts, hK, hJ', fun k t i h => hf _ (hA' k t i h), hA2, hlk⟩ T'.heap (locs ++ L) ls (gP_moved hq e1) k3 hl T' rfl X2
  exact ⟨t2, st t2 a1, b1⟩
theorem V_callIF (X : GX D cA dm ad A nL p s m args meth c own cc) (hY : gY A s s.heap) (hsz : s.heap.size = n) (hlow : lastN dm ad n cells) {y : MethodName} {cy : ByteArray} {mL idx n0 rf rl a mc ms : Nat} {S' : S4} (As : List Value) {rest : List Value} (hdg : decode cc pc = .ok (.invokespecial idx, 3)) (hM : ML own idx y cy mL none n0) (hy : y.name = "<init>") (hI : Cond.instanceMethod y ∈ gT) (hR : rf + 1 ≤ R.frames ∧ 8 + (mL + 11) + rl ≤ R.locals) (hf : cells + mc ≤ R.cells ∧ slots + ms ≤ R.slots) (hn : As.length = n0) (hst : (rest.map fun v => v.category).sum ≤ 8)
    (hC : CtF D cA dm E ad l y cy mL rf rl mc ms (n + cells) S (.ref a :: As) S') (kk : GX D cA E ad A nL p s m args meth c own cc → V D cA E ad A nL p l e R s m args below meth c (cells + mc) (slots + ms) Q S' (pc + 3) lv rest) : V D cA dm ad A nL p l e R s m args below meth c cells slots Q S pc lv (As.reverse ++ .ref a :: rest) := by
  intro H locs ls hP hS hl
  refine W_size hsz hlow hP hS (fun hs => ?_)
  rw [← hs] at hC
  obtain ⟨hx, hb, hml, hown, hts, hK, hJ, hA, hA2, hlk⟩ := id X
  exact V_backF X (va_runI (As := As) (rest := rest) ⟨hx, hb, hml, hown, hts⟩ hC ⟨g_cbE hts hM hR, hy, hts _ hI⟩ ⟨gBy_blind, fun U hU hW => ⟨rfl, ⟨by rw [hU], gP_moved hP hU, gK_moved hW.alike hK, hJ, gN_moved hW hlk.2⟩, gY_warm hW (by rw [hU]; exact gY_at X hY hS)⟩⟩ rfl hn hl.1 rfl (lv_room hst) hdg hf) hS hl kk
theorem V_callINF (X : GX D cA dm ad A nL p s m args meth c own cc) (hY : gY A s s.heap) (hsz : s.heap.size = n) (hlow : lastN dm ad n cells) {y : MethodName} {host : String} {cy : ByteArray} {mL idx n0 rf rl a mc ms : Nat} {S' : S4} (As : List Value) {rest : List Value} (hdg : decode cc pc = .ok (.invokespecial idx, 3)) (hM : NI own idx y host cy mL n0) (hR : rf + 1 ≤ R.frames ∧ 8 + (mL + 11) + rl ≤ R.locals) (hf : cells + mc ≤ R.cells ∧ slots + ms ≤ R.slots) (hn : As.length = n0) (hst : (rest.map fun v => v.category).sum ≤ 8)
    (hC : CtF D cA dm E ad l y cy mL rf rl mc ms (n + cells) S (.ref a :: As) S') (kk : GX D cA E ad A nL p s m args meth c own cc → V D cA E ad A nL p l e R s m args below meth c (cells + mc) (slots + ms) Q S' (pc + 3) lv rest) : V D cA dm ad A nL p l e R s m args below meth c cells slots Q S pc lv (As.reverse ++ .ref a :: rest) := by
  intro H locs ls hP hS hl
  refine W_size hsz hlow hP hS (fun hs => ?_)
  rw [← hs] at hC
  obtain ⟨hx, hb, hml, hown, hts, hK, hJ, hA, hA2, hlk⟩ := id X
  exact V_backF X (va_runIN (As := As) (rest := rest) ⟨hx, hb, hml, hown, hts⟩ hC ⟨va_cnB n0 hts (gGood hM.2.1) rfl rfl rfl (va_Nw.use rfl (hlk.2.1 _ hM.1)) (hts _ hM.2.2.1) hM.2.2.2.1 hR, hM.2.2.2.2.1, hts _ hM.2.2.2.2.2⟩ ⟨gBy_blind, fun U hU hW => ⟨rfl, ⟨by rw [hU], gP_moved hP hU, gK_moved hW.alike hK, hJ, gN_moved hW hlk.2⟩, gY_warm hW (by rw [hU]; exact gY_at X hY hS)⟩⟩ rfl hn hl.1 rfl (lv_room hst) hdg hf) hS hl kk
theorem V_vretF (X : GX D cA dm ad A nL p s m args meth c own cc) (hr : meth.sig.returnType = none) (hdg : decode cc pc = .ok (.return_, 1)) : V D cA dm ad A nL p l e R s m args below meth c cells slots (MQ below (gQF D cA dm ad S A) args s cells slots A) S pc lv [] :=
  fun H locs ls hP hS hl => W.vret X.1 X.2.1 hr (fun t ht hW => ⟨⟨rfl, X.2.2.2.2.2.2.1, X.2.2.2.2.2.2.2.1, gP_moved hP ht⟩, hS.F ht⟩) hS.2.2 hdg X.2.2.2.2.2.2.2.2.2.1
/-- fewer names, the same numbers at them -/
theorem V_dom (X : GX D cA dm ad A nL p s m args meth c own cc) (hd : ∀ k t i, dm' k t i → dm k t i ∧ S' k t i = S k t i) (kk : GX D cA dm' ad A nL p s m args meth c own cc → V D cA dm' ad A nL p l e R s m args below meth c cells slots Q S' pc lv st) : V D cA dm ad A nL p l e R s m args below meth c cells slots Q S pc lv st :=
  V_conv (dm' := dm') (ad' := ad) (S' := S') (fun H hP k t i h => by rw [(hd k t i h).2]; exact hP k t i (hd k t i h).1) (kk (GX_conv X (fun k t i k' t' i' h h' he => X.2.2.2.2.2.2.1 _ _ _ _ _ _ (hd _ _ _ h).1 (hd _ _ _ h').1 he) (fun k t i h => X.2.2.2.2.2.2.2.1 _ _ _ (hd _ _ _ h).1)))
/-- a cell gets another name, at the same place -/
theorem V_renF (X : GX D cA dm ad A nL p s m args meth c own cc) {k k2 t i : Nat} (hg : dm k t i) (had : ad k2 t i = ad k t i) (hat : ∀ H : Heap, va_at D gCl (ad k t i, ct cA ad k t i (S k t i)) H → va_at D gCl (ad k t i, ct cA ad k2 t i (S' k2 t i)) H) (hd : ∀ k' t' i', dm' k' t' i' → (k' = k2 ∧ t' = t ∧ i' = i) ∨ (dm k' t' i' ∧ ¬ (k' = k ∧ t' = t ∧ i' = i) ∧ S' k' t' i' = S k' t' i'))
    (kk : GX D cA dm' ad A nL p s m args meth c own cc → V D cA dm' ad A nL p l e R s m args below meth c cells slots Q S' pc lv st) : V D cA dm ad A nL p l e R s m args below meth c cells slots Q S pc lv st := by
  obtain ⟨hx, hb, hml, hown, hts, hK, hJ, hA, hA2, hlk⟩ := id X
  refine V_conv (dm' := dm') (ad' := ad) (S' := S') (fun H hP k' t' i' h => ?_) (kk (GX_conv X ?_ ?_))
  · rcases hd _ _ _ h with ⟨rfl, rfl, rfl⟩ | ⟨h1, h2, h3⟩
    · rw [had]
      exact hat H (hP _ _ _ hg)
    · rw [h3]
      exact hP _ _ _ h1
  · intro k1 t1 i1 k3 t3 i3 d1 d3 he
    rcases hd _ _ _ d1 with ⟨rfl, rfl, rfl⟩ | ⟨a1, a2, -⟩
    · rcases hd _ _ _ d3 with ⟨rfl, rfl, rfl⟩ | ⟨b1, b2, -⟩
      · exact ⟨rfl, rfl, rfl⟩
      · rw [had] at he
        exact absurd (hJ _ _ _ _ _ _ hg b1 he) b2
    · rcases hd _ _ _ d3 with ⟨rfl, rfl, rfl⟩ | ⟨b1, b2, -⟩
      · rw [had] at he
        exact absurd (hJ _ _ _ _ _ _ hg a1 he.symm) a2
      · exact hJ _ _ _ _ _ _ a1 b1 he
  · intro k1 t1 i1 d1
    rcases hd _ _ _ d1 with ⟨rfl, rfl, rfl⟩ | ⟨a1, a2, -⟩
    · rw [had]; exact hA _ _ _ hg
    · exact hA _ _ _ a1
/-- an object put into an array that is being filled -/
theorem V_aastU (X : GX D cA dm ad A nL p s m args meth c own cc) {k t i q N ke te ie ci NN : Nat} {C : String} {T : u_T} {fs : List Value} {fe : Nat → Nat} {x : Int32} (hdg : decode cc pc = .ok (.aastore, 1)) (hg : dm k t i) (hct : ∀ r : Nat → Int32, ct cA ad k t i r = .inl (cA q, N, .inr (.inr (.inr (.inr (fun j => ro (r j) (fe j))))))) (hq : (gTy cA)[q]? = some (cA q, .object C)) (hin : inb x N) (hge : dm ke te ie) (hcte : ct cA ad ke te ie (S ke te ie) = .inr (ci, fs)) (hci : gCl[ci]? = some (C, T, NN)) (hfe : ad ke te ie = fe x.toNatClampNeg) (kk : ∀ S1 : S4, S1 = u4 S k t i x.toNatClampNeg 1 → V D cA dm ad A nL p l e R s m args below meth c cells slots Q S1 (pc + 1) lv st) : V D cA dm ad A nL p l e R s m args below meth c cells slots Q S pc lv (.ref (ad ke te ie) :: .int x :: .ref (ad k t i) :: st) := by
  obtain ⟨hx, hb, hml, hown, hts, hK, hJ, hA, hA2, hlk⟩ := X
  intro H locs ls hP hS hl
  have hlt : x.toNatClampNeg < N := inb_lt hin
  have h0 : ¬ x < 0 := fun q => hin (Or.inl q)
  have hcell : H[ad k t i]? = some (vp_cell (cA q) (N, .inr (.inr (.inr (.inr (fun j => ro (S k t i j) (fe j))))))) := gP_one hP hg (hct _) 0 _ rfl
  obtain ⟨r', hr', cellV, g1, g2, g3, -⟩ := gP_one hP hge hcte 0 _ rfl
  have hcls := (hK.1 ci _ hci).2
  have hr'' : r' = (C, T, NN) := Option.some.inj (hr'.symm.trans hci)
  subst hr''
  obtain ⟨kA, comp, k1, k2, k3, -⟩ := (hK.2 q _ hq).2
  have hcomp : comp = D.1 ci := Option.some.inj (k3.symm.trans hcls.1)
  subst hcomp
  obtain ⟨kC, hkC, -⟩ := hcls.2
  refine W.aast hx hb hcell (fun q h => by cases h) (fun h => by cases h) k1 k2 rfl hkC ⟨h0, by show _ < (arrV _ _ _).slots.size; rw [arrV_size]; exact hlt⟩ g1 (fun q h => by rw [g3] at h; cases h) (by rw [g2]; exact hkC) (by rw [g2]; exact va_assign hcls) rfl rfl hdg fun H1 e z1 oq => ?_
  refine kk _ rfl H1 _ ls (gP_upd hP hJ hg (hct _) ?_ oq) (hS.put z1 oq (hA _ _ _ hg)) hl
  show H1[ad k t i]? = some (vp_cell _ _)
  rw [e]
  rw [vp_cell_q, vp_cell_q, arrV_store]
  congr 2
  funext j
  by_cases hj : j = x.toNatClampNeg
  · subst hj
    simp [updV, upd, ro, hfe]
    rfl
  · simp [updV, upd, hj]
end VF
