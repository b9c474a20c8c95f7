/-! which names a world must have -/
def stK (k i : Nat) : Prop := (k = 0 ∧ i < 8) ∨ (k = 1 ∧ i < 60) ∨ (k = 5 ∧ i < 3) ∨ (k = 14 ∧ i < 3) ∨ (i = 0 ∧ (k = 4 ∨ (15 ≤ k ∧ k ≤ 21)))
/-- the state t -/
def DS (dm : Dm) (t : Nat) : Prop := ∀ k i, stK k i → dm k t i
/-- the plan i -/
def DP (dm : Dm) (i : Nat) : Prop := ∀ k, (k = 2 ∨ (10 ≤ k ∧ k ≤ 13)) → dm k 0 i
/-- the reader i, its plan and its text -/
def DR (dm : Dm) (i : Nat) : Prop := DP dm i ∧ dm 3 0 i ∧ dm 23 0 0
/-- the class's own object and what hangs on it -/
def DK (dm : Dm) : Prop := dm 6 0 0 ∧ dm 22 0 0 ∧ dm 23 0 0 ∧ ∀ t, t < 11 → DS dm t
/-- the reference -/
def DM (dm : Dm) : Prop := ∀ k, (k = 7 ∨ (24 ≤ k ∧ k ≤ 35)) → dm k 0 0
theorem gm0 {dm : Dm} {t i : Nat} (a : DS dm t) (b : i < 8) : dm 0 t i := a 0 i (Or.inl ⟨rfl, b⟩)
theorem gm1 {dm : Dm} {t i : Nat} (a : DS dm t) (b : i < 60) : dm 1 t i := a 1 i (Or.inr (Or.inl ⟨rfl, b⟩))
theorem gm5 {dm : Dm} {t i : Nat} (a : DS dm t) (b : i < 3) : dm 5 t i := a 5 i (Or.inr (Or.inr (Or.inl ⟨rfl, b⟩)))
theorem gm14 {dm : Dm} {t i : Nat} (a : DS dm t) (b : i < 3) : dm 14 t i := a 14 i (Or.inr (Or.inr (Or.inr (Or.inl ⟨rfl, b⟩))))
theorem gmS {dm : Dm} {t : Nat} (k : Nat) (a : DS dm t) (h : k = 4 ∨ (15 ≤ k ∧ k ≤ 21)) : dm k t 0 := a k 0 (Or.inr (Or.inr (Or.inr (Or.inr ⟨rfl, h⟩))))
theorem gm4 {dm : Dm} {t : Nat} (a : DS dm t) : dm 4 t 0 := gmS 4 a (by decide)
theorem gm15 {dm : Dm} {t : Nat} (a : DS dm t) : dm 15 t 0 := gmS 15 a (by decide)
theorem gm16 {dm : Dm} {t : Nat} (a : DS dm t) : dm 16 t 0 := gmS 16 a (by decide)
theorem gm17 {dm : Dm} {t : Nat} (a : DS dm t) : dm 17 t 0 := gmS 17 a (by decide)
theorem gm18 {dm : Dm} {t : Nat} (a : DS dm t) : dm 18 t 0 := gmS 18 a (by decide)
theorem gm19 {dm : Dm} {t : Nat} (a : DS dm t) : dm 19 t 0 := gmS 19 a (by decide)
theorem gm20 {dm : Dm} {t : Nat} (a : DS dm t) : dm 20 t 0 := gmS 20 a (by decide)
theorem gm21 {dm : Dm} {t : Nat} (a : DS dm t) : dm 21 t 0 := gmS 21 a (by decide)
theorem gm2 {dm : Dm} {i : Nat} (a : DP dm i) : dm 2 0 i := a 2 (by decide)
theorem gm10 {dm : Dm} {i : Nat} (a : DP dm i) : dm 10 0 i := a 10 (by decide)
theorem gm11 {dm : Dm} {i : Nat} (a : DP dm i) : dm 11 0 i := a 11 (by decide)
theorem gm12 {dm : Dm} {i : Nat} (a : DP dm i) : dm 12 0 i := a 12 (by decide)
theorem gm13 {dm : Dm} {i : Nat} (a : DP dm i) : dm 13 0 i := a 13 (by decide)
theorem gm3 {dm : Dm} {i : Nat} (a : DR dm i) : dm 3 0 i := a.2.1
theorem gm7 {dm : Dm} (a : DM dm) : dm 7 0 0 := a 7 (by decide)
theorem gm24 {dm : Dm} (a : DM dm) : dm 24 0 0 := a 24 (by decide)
theorem gm25 {dm : Dm} (a : DM dm) : dm 25 0 0 := a 25 (by decide)
theorem gm26 {dm : Dm} (a : DM dm) : dm 26 0 0 := a 26 (by decide)
theorem gm27 {dm : Dm} (a : DM dm) : dm 27 0 0 := a 27 (by decide)
theorem gm28 {dm : Dm} (a : DM dm) : dm 28 0 0 := a 28 (by decide)
theorem gm29 {dm : Dm} (a : DM dm) : dm 29 0 0 := a 29 (by decide)
theorem gm30 {dm : Dm} (a : DM dm) : dm 30 0 0 := a 30 (by decide)
theorem gm31 {dm : Dm} (a : DM dm) : dm 31 0 0 := a 31 (by decide)
theorem gm32 {dm : Dm} (a : DM dm) : dm 32 0 0 := a 32 (by decide)
theorem gm33 {dm : Dm} (a : DM dm) : dm 33 0 0 := a 33 (by decide)
theorem gm34 {dm : Dm} (a : DM dm) : dm 34 0 0 := a 34 (by decide)
theorem gm35 {dm : Dm} (a : DM dm) : dm 35 0 0 := a 35 (by decide)
theorem gm6 {dm : Dm} (a : DK dm) : dm 6 0 0 := a.1
theorem gm22 {dm : Dm} (a : DK dm) : dm 22 0 0 := a.2.1
theorem gm23 {dm : Dm} (a : DK dm) : dm 23 0 0 := a.2.2.1
theorem gmT {dm : Dm} {t : Nat} (a : DK dm) (h : t < 11) : DS dm t := a.2.2.2 t h
theorem inb_lt {x : Int32} {n : Nat} (h : inb x n) : x.toNatClampNeg < n := Nat.not_le.mp fun q => h (Or.inr q)
theorem or_np {dm : Dm} {np : Nat} {z : Int32} (h : z < 0 ∨ z.toNatClampNeg < np) (hnp : ∀ i, i < np → DP dm i) : z < 0 ∨ DP dm z.toNatClampNeg := h.imp id (hnp _)
theorem inb_past {x : Int32} (h : inb x 8) : 3 + x.toNatClampNeg < 11 := by have := inb_lt h; omega
theorem bnar {x : Int32} (h : isB x) : narrow .boolean (.int x) = .int x := by rcases h with rfl | rfl <;> rfl
theorem bfit {x : Int32} (h : isB x) : fits .boolean (.int x) = true := by rcases h with rfl | rfl <;> rfl
theorem nb0 : narrow .boolean (.int (0 : Int32)) = .int (0 : Int32) := rfl
theorem nb1 : narrow .boolean (.int (1 : Int32)) = .int (1 : Int32) := rfl
theorem nch0 : narrow .char (.int (0 : Int32)) = .int (0 : Int32) := rfl
theorem rfs {f : Nat → Nat} {i : Nat} : va_rf ((some i).map f) = .ref (f i) := rfl
theorem rf_or (o : Option Nat) {f : Nat → Nat} : va_rf (o.map f) = .null ∨ ∃ a, va_rf (o.map f) = .ref a := by
  cases o with
  | none => exact Or.inl rfl
  | some i => exact Or.inr ⟨f i, rfl⟩
theorem pcd_lt {dm : Dm} {i : Nat} {z : Int32} (h : pcd z = some i) (hi : DP dm i) : z < 0 ∨ DP dm z.toNatClampNeg := by
  unfold pcd at h
  by_cases h0 : z < 0
  · exact Or.inl h0
  · rw [if_neg h0] at h
    cases h
    exact Or.inr hi
theorem rfn {f : Nat → Nat} : va_rf ((none : Option Nat).map f) = .null := rfl
theorem sw_ne {x v : Int32} (h : ¬ x = v) (k : Int) (e : v.toInt = k) : x.toInt ≠ k := fun z => h (Int32.toInt_inj.mp (z.trans e.symm))
def IA (dm : Dm) (cA : Nat → ClassId) (ad : Ad) (k t i n : Nat) : Prop := dm k t i ∧ ∀ r : Nat → Int32, ct cA ad k t i r = .inl (cA 0, n, .inl r)
theorem ia19 {dm : Dm} {t : Nat} {cA : Nat → ClassId} {ad : Ad} (h : DS dm t) : IA dm cA ad 19 t 0 30 := ⟨gm19 h, fun _ => rfl⟩
theorem ia20 {dm : Dm} {t : Nat} {cA : Nat → ClassId} {ad : Ad} (h : DS dm t) : IA dm cA ad 20 t 0 60 := ⟨gm20 h, fun _ => rfl⟩
theorem ia21 {dm : Dm} {t : Nat} {cA : Nat → ClassId} {ad : Ad} (h : DS dm t) : IA dm cA ad 21 t 0 4 := ⟨gm21 h, fun _ => rfl⟩
theorem ia24 {dm : Dm} {cA : Nat → ClassId} {ad : Ad} (a : DM dm) : IA dm cA ad 24 0 0 30 := ⟨gm24 a, fun _ => rfl⟩
theorem ia25 {dm : Dm} {cA : Nat → ClassId} {ad : Ad} (a : DM dm) : IA dm cA ad 25 0 0 39 := ⟨gm25 a, fun _ => rfl⟩
theorem ia26 {dm : Dm} {cA : Nat → ClassId} {ad : Ad} (a : DM dm) : IA dm cA ad 26 0 0 120 := ⟨gm26 a, fun _ => rfl⟩
theorem ia27 {dm : Dm} {cA : Nat → ClassId} {ad : Ad} (a : DM dm) : IA dm cA ad 27 0 0 260 := ⟨gm27 a, fun _ => rfl⟩
theorem ia28 {dm : Dm} {cA : Nat → ClassId} {ad : Ad} (a : DM dm) : IA dm cA ad 28 0 0 720 := ⟨gm28 a, fun _ => rfl⟩
theorem ia29 {dm : Dm} {cA : Nat → ClassId} {ad : Ad} (a : DM dm) : IA dm cA ad 29 0 0 60 := ⟨gm29 a, fun _ => rfl⟩
theorem ia31 {dm : Dm} {cA : Nat → ClassId} {ad : Ad} (a : DM dm) : IA dm cA ad 31 0 0 52 := ⟨gm31 a, fun _ => rfl⟩
theorem ia32 {dm : Dm} {cA : Nat → ClassId} {ad : Ad} (a : DM dm) : IA dm cA ad 32 0 0 1360 := ⟨gm32 a, fun _ => rfl⟩
theorem ia33 {dm : Dm} {cA : Nat → ClassId} {ad : Ad} (a : DM dm) : IA dm cA ad 33 0 0 10880 := ⟨gm33 a, fun _ => rfl⟩
theorem ia34 {dm : Dm} {cA : Nat → ClassId} {ad : Ad} (a : DM dm) : IA dm cA ad 34 0 0 1360 := ⟨gm34 a, fun _ => rfl⟩
theorem ia35 {dm : Dm} {cA : Nat → ClassId} {ad : Ad} (a : DM dm) : IA dm cA ad 35 0 0 140 := ⟨gm35 a, fun _ => rfl⟩
theorem cl0 : ∃ T N, gCl[0]? = some (RX0, T, N) := ⟨_, _, rfl⟩
theorem cl1 : ∃ T N, gCl[1]? = some (RX1, T, N) := ⟨_, _, rfl⟩
theorem cl2 : ∃ T N, gCl[2]? = some (RX2, T, N) := ⟨_, _, rfl⟩
theorem cl3 : ∃ T N, gCl[3]? = some (RX3, T, N) := ⟨_, _, rfl⟩
theorem cl4 : ∃ T N, gCl[4]? = some (RX4, T, N) := ⟨_, _, rfl⟩
theorem cl5 : ∃ T N, gCl[5]? = some (RX5, T, N) := ⟨_, _, rfl⟩
theorem cl6 : ∃ T N, gCl[6]? = some (RX6, T, N) := ⟨_, _, rfl⟩
theorem cl7 : ∃ T N, gCl[7]? = some (RX7, T, N) := ⟨_, _, rfl⟩
section VW
variable {D : va_G} {cA : Nat → ClassId} {dm : Dm} {ad : Ad} {A : Nat → Prop} {nL : Nat} {p : Program} {l : Launch} {e : Env} {R : Room} {s : State} {m : MethodId} {args : Array Value} {below : List Frame} {meth : Method} {c : Code} {cells slots : Nat} {Q : State → Prop} {own : String} {cc : ByteArray} {S S' : S4} {pc : Nat} {lv lv' : List (Nat × Value)} {st : List Value}
theorem V_ifnull (X : GX D cA dm ad A nL p s m args meth c own cc) {x : Nat} {off : Int} (hdg : decode cc pc = .ok (.ifnull off, 3)) (kk : V D cA dm ad A nL p l e R s m args below meth c cells slots Q S (pc + 3) lv st) : V D cA dm ad A nL p l e R s m args below meth c cells slots Q S pc lv (.ref x :: st) :=
  fun H locs ls hP hS hl => lv_ifnull X.1 X.2.1 hdg (kk H locs ls hP hS hl)
theorem V_ifnullN (X : GX D cA dm ad A nL p s m args meth c own cc) {off : Int} (tgt : Nat) (hdg : decode cc pc = .ok (.ifnull off, 3)) (ht : (pc : Int) + off = (tgt : Int)) (kk : V D cA dm ad A nL p l e R s m args below meth c cells slots Q S tgt lv st) : V D cA dm ad A nL p l e R s m args below meth c cells slots Q S pc lv (.null :: st) :=
  fun H locs ls hP hS hl => lv_ifnullN X.1 X.2.1 hdg ht (kk H locs ls hP hS hl)
theorem V_ifnonnull (X : GX D cA dm ad A nL p s m args meth c own cc) {x : Nat} {off : Int} (tgt : Nat) (hdg : decode cc pc = .ok (.ifnonnull off, 3)) (ht : (pc : Int) + off = (tgt : Int)) (kk : V D cA dm ad A nL p l e R s m args below meth c cells slots Q S tgt lv st) : V D cA dm ad A nL p l e R s m args below meth c cells slots Q S pc lv (.ref x :: st) :=
  fun H locs ls hP hS hl => lv_ifnonnull X.1 X.2.1 hdg ht (kk H locs ls hP hS hl)
theorem V_ifnonnullN (X : GX D cA dm ad A nL p s m args meth c own cc) {off : Int} (hdg : decode cc pc = .ok (.ifnonnull off, 3)) (kk : V D cA dm ad A nL p l e R s m args below meth c cells slots Q S (pc + 3) lv st) : V D cA dm ad A nL p l e R s m args below meth c cells slots Q S pc lv (.null :: st) :=
  fun H locs ls hP hS hl => lv_ifnonnullN X.1 X.2.1 hdg (kk H locs ls hP hS hl)
theorem V_tsw (X : GX D cA dm ad A nL p s m args meth c own cc) {dflt lo hi off : Int} {offs : Array Int} {len : Nat} {x : Int32} (tgt : Nat) (hdg : decode cc pc = .ok (.tableswitch dflt lo hi offs, len)) (v : Int) (hx : x.toInt = v) (h1 : ¬ v < lo) (h2 : ¬ hi < v) (ho : offs[(v - lo).toNat]? = some off) (ht : (pc : Int) + off = (tgt : Int)) (kk : V D cA dm ad A nL p l e R s m args below meth c cells slots Q S tgt lv st) : V D cA dm ad A nL p l e R s m args below meth c cells slots Q S pc lv (.int x :: st) := by
  subst hx
  exact fun H locs ls hP hS hl => lv_tableIn X.1 X.2.1 hdg h1 h2 ho ht (kk H locs ls hP hS hl)
theorem V_tswD (X : GX D cA dm ad A nL p s m args meth c own cc) {dflt lo hi : Int} {offs : Array Int} {len : Nat} {x : Int32} (tgt : Nat) (hdg : decode cc pc = .ok (.tableswitch dflt lo hi offs, len)) (h : x.toInt < lo ∨ hi < x.toInt) (ht : (pc : Int) + dflt = (tgt : Int)) (kk : V D cA dm ad A nL p l e R s m args below meth c cells slots Q S tgt lv st) : V D cA dm ad A nL p l e R s m args below meth c cells slots Q S pc lv (.int x :: st) :=
  fun H locs ls hP hS hl => lv_tableOut X.1 X.2.1 hdg h ht (kk H locs ls hP hS hl)
theorem V_mmax (X : GX D cA dm ad A nL p s m args meth c own cc) {idx : Nat} {x y : Int32} (hdg : decode cc pc = .ok (.invokestatic idx, 3)) (hw : Cond.methodLink own idx Lib.Math.max.name ∈ gT ∧ Cond.static Lib.Math.max.name ∈ gT ∧ Cond.initialized "java/lang/Math" ∈ gT ∧ Cond.code Lib.Math.max.name Lib.Math.max.code 2 (some .int) ∈ gT) (hR : 1 ≤ R.frames ∧ 8 + 13 ≤ R.locals) (hf : cells ≤ R.cells ∧ slots ≤ R.slots) (hst : (st.map fun v => v.category).sum ≤ 8) (kk : V D cA dm ad A nL p l e R s m args below meth c cells slots Q S (pc + 3) lv (.int (if x < y then y else x) :: st)) : V D cA dm ad A nL p l e R s m args below meth c cells slots Q S pc lv (.int y :: .int x :: st) :=
  fun H locs ls hP hS hl => va_mmax X.1 X.2.1 (X.2.2.1.trans hl.1.symm) X.2.2.2.1 (X.2.2.2.2.1 _ hw.1) (X.2.2.2.2.1 _ hw.2.1) (X.2.2.2.2.1 _ hw.2.2.1) (X.2.2.2.2.1 _ hw.2.2.2) hR.1 (Nat.le_trans (Nat.add_le_add_right hst 13) hR.2) hf.1 hf.2 hdg (kk H locs ls hP hS hl)
theorem V_mmin (X : GX D cA dm ad A nL p s m args meth c own cc) {idx : Nat} {x y : Int32} (hdg : decode cc pc = .ok (.invokestatic idx, 3)) (hw : Cond.methodLink own idx Lib.Math.min.name ∈ gT ∧ Cond.static Lib.Math.min.name ∈ gT ∧ Cond.initialized "java/lang/Math" ∈ gT ∧ Cond.code Lib.Math.min.name Lib.Math.min.code 2 (some .int) ∈ gT) (hR : 1 ≤ R.frames ∧ 8 + 13 ≤ R.locals) (hf : cells ≤ R.cells ∧ slots ≤ R.slots) (hst : (st.map fun v => v.category).sum ≤ 8) (kk : V D cA dm ad A nL p l e R s m args below meth c cells slots Q S (pc + 3) lv (.int (if y < x then y else x) :: st)) : V D cA dm ad A nL p l e R s m args below meth c cells slots Q S pc lv (.int y :: .int x :: st) :=
  fun H locs ls hP hS hl => va_mmin X.1 X.2.1 (X.2.2.1.trans hl.1.symm) X.2.2.2.1 (X.2.2.2.2.1 _ hw.1) (X.2.2.2.2.1 _ hw.2.1) (X.2.2.2.2.1 _ hw.2.2.1) (X.2.2.2.2.1 _ hw.2.2.2) hR.1 (Nat.le_trans (Nat.add_le_add_right hst 13) hR.2) hf.1 hf.2 hdg (kk H locs ls hP hS hl)
theorem V_callVv (X : GX D cA dm ad A nL p s m args meth c own cc) {y : MethodName} {cy : ByteArray} {mL idx n rf rl k t i ci : Nat} {ret : Option FieldType} (As : List Value) {rest : List Value} {fs : List Value} (hdg : decode cc pc = .ok (.invokevirtual idx, 3)) (hM : ML own idx y cy mL ret n) (hV : MV y) (hR : rf + 1 ≤ R.frames ∧ 8 + (mL + 11) + rl ≤ R.locals) (hf : cells ≤ R.cells ∧ slots ≤ R.slots) (hn : As.length = n) (hst : (rest.map fun v => v.category).sum ≤ 8) (hg : dm k t i) (hct : ct cA ad k t i (S k t i) = .inr (ci, fs)) (hcl : ∃ T N, gCl[ci]? = some (y.cls, T, N))
    (hC : Ct D cA dm ad l y cy mL ret rf rl S (.ref (ad k t i) :: As) none S') (kk : V D cA dm ad A nL p l e R s m args below meth c cells slots Q S' (pc + 3) lv rest) : V D cA dm ad A nL p l e R s m args below meth c cells slots Q S pc lv (As.reverse ++ .ref (ad k t i) :: rest) := V_callV X As hdg hM hV hR hf hn hst hg hct hcl hC kk
theorem V_callVs (X : GX D cA dm ad A nL p s m args meth c own cc) {y : MethodName} {cy : ByteArray} {mL idx n rf rl k t i ci : Nat} {ret : Option FieldType} {v : Value} (As : List Value) {rest : List Value} {fs : List Value} (hdg : decode cc pc = .ok (.invokevirtual idx, 3)) (hM : ML own idx y cy mL ret n) (hV : MV y) (hR : rf + 1 ≤ R.frames ∧ 8 + (mL + 11) + rl ≤ R.locals) (hf : cells ≤ R.cells ∧ slots ≤ R.slots) (hn : As.length = n) (hst : (rest.map fun v => v.category).sum ≤ 8) (hg : dm k t i) (hct : ct cA ad k t i (S k t i) = .inr (ci, fs)) (hcl : ∃ T N, gCl[ci]? = some (y.cls, T, N))
    (hC : Ct D cA dm ad l y cy mL ret rf rl S (.ref (ad k t i) :: As) (some v) S') (kk : V D cA dm ad A nL p l e R s m args below meth c cells slots Q S' (pc + 3) lv (v :: rest)) : V D cA dm ad A nL p l e R s m args below meth c cells slots Q S pc lv (As.reverse ++ .ref (ad k t i) :: rest) := V_callV X As hdg hM hV hR hf hn hst hg hct hcl hC kk
theorem V_callSv (X : GX D cA dm ad A nL p s m args meth c own cc) {y : MethodName} {cy : ByteArray} {mL idx n rf rl : Nat} {ret : Option FieldType} (As : List Value) {rest : List Value} (hdg : decode cc pc = .ok (.invokestatic idx, 3)) (hM : ML own idx y cy mL ret n) (hV : Cond.static y ∈ gT) (hR : rf + 1 ≤ R.frames ∧ 8 + (mL + 11) + rl ≤ R.locals) (hf : cells ≤ R.cells ∧ slots ≤ R.slots) (hn : As.length = n) (hst : (rest.map fun v => v.category).sum ≤ 8)
    (hC : Ct D cA dm ad l y cy mL ret rf rl S As none S') (kk : V D cA dm ad A nL p l e R s m args below meth c cells slots Q S' (pc + 3) lv rest) : V D cA dm ad A nL p l e R s m args below meth c cells slots Q S pc lv (As.reverse ++ rest) := V_callS X As hdg hM hV hR hf hn hst hC kk
theorem V_callSs (X : GX D cA dm ad A nL p s m args meth c own cc) {y : MethodName} {cy : ByteArray} {mL idx n rf rl : Nat} {ret : Option FieldType} {v : Value} (As : List Value) {rest : List Value} (hdg : decode cc pc = .ok (.invokestatic idx, 3)) (hM : ML own idx y cy mL ret n) (hV : Cond.static y ∈ gT) (hR : rf + 1 ≤ R.frames ∧ 8 + (mL + 11) + rl ≤ R.locals) (hf : cells ≤ R.cells ∧ slots ≤ R.slots) (hn : As.length = n) (hst : (rest.map fun v => v.category).sum ≤ 8)
    (hC : Ct D cA dm ad l y cy mL ret rf rl S As (some v) S') (kk : V D cA dm ad A nL p l e R s m args below meth c cells slots Q S' (pc + 3) lv (v :: rest)) : V D cA dm ad A nL p l e R s m args below meth c cells slots Q S pc lv (As.reverse ++ rest) := V_callS X As hdg hM hV hR hf hn hst hC kk
/-- the words of a nest mate's static method -/
def NL (own : String) (idx : Nat) (y : MethodName) (host : String) (cy : ByteArray) (mL : Nat) (ret : Option FieldType) (n : Nat) : Prop := Cond.methodLinkNest own idx y host ∈ gNx ∧ Cond.code y cy mL ret ∈ gT ∧ Cond.initialized y.cls ∈ gT ∧ (y.cls ≠ "java/lang/invoke/MethodHandle" ∧ y.cls ≠ "java/lang/invoke/VarHandle" ∧ (parseMethodDescriptor y.desc).map (fun d => d.parameters.length) = some n) ∧ Cond.static y ∈ gT
theorem V_callSNs (X : GX D cA dm ad A nL p s m args meth c own cc) {y : MethodName} {host : String} {cy : ByteArray} {mL idx n rf rl : Nat} {ret : Option FieldType} {v : Value} (As : List Value) {rest : List Value} (hdg : decode cc pc = .ok (.invokestatic idx, 3)) (hM : NL own idx y host cy mL ret n) (hR : rf + 1 ≤ R.frames ∧ 8 + (mL + 11) + rl ≤ R.locals) (hf : cells ≤ R.cells ∧ slots ≤ R.slots) (hn : As.length = n) (hst : (rest.map fun v => v.category).sum ≤ 8)
    (hC : Ct D cA dm ad l y cy mL ret rf rl S As (some v) S') (kk : V D cA dm ad A nL p l e R s m args below meth c cells slots Q S' (pc + 3) lv (v :: rest)) : V D cA dm ad A nL p l e R s m args below meth c cells slots Q S pc lv (As.reverse ++ rest) := by
  intro H locs ls hP hS hl
  obtain ⟨hx, hb, hml, hown, hts, hK, hJ, hA, hA2, hlk⟩ := id X
  refine V_back X (rv := some v) (va_runSN (As := As) (rest := rest) ⟨hx, hb, hml, hown, hts⟩ (hC H.size) ⟨⟨⟨rfl, rfl, hR.1, hR.2, pay_in hts (gGood hM.2.1), List.mem_cons_self⟩, hts _ hM.2.1, hts _ hM.2.2.1, ⟨hM.2.2.2.1.1, hM.2.2.2.1.2.1⟩, fun sig h => by
    have h2 := hM.2.2.2.1.2.2
    rw [h] at h2
    exact (Option.some.inj h2).symm, va_Nw.use rfl (hlk.2.1 _ hM.1)⟩, hts _ hM.2.2.2.2, trivial⟩ ⟨gB_blind, fun U hU hW => ⟨rfl, by rw [hU], gP_moved hP hU, gK_moved hW.alike hK, hJ, gN_moved hW hlk.2⟩⟩ rfl hn hl.1 rfl (lv_room hst) hdg hf) hS hl kk
end VW
section VY
variable {D : va_G} {cA : Nat → ClassId} {dm : Dm} {ad : Ad} {A : Nat → Prop} {nL : Nat} {p : Program} {l : Launch} {e : Env} {R : Room} {s : State} {m : MethodId} {args : Array Value} {below : List Frame} {meth : Method} {c : Code} {cells slots : Nat} {Q : State → Prop} {own : String} {cc : ByteArray} {S S' : S4} {pc : Nat} {lv lv' : List (Nat × Value)} {st : List Value}
theorem V_aload_nN (X : GX D cA dm ad A nL p s m args meth c own cc) {k : Fin 4} {i : Nat} (hdg : decode cc pc = .ok (.aload_n k, 1)) (hi : (k : Nat) = i) (pos : Nat) (hv : lv[pos]? = some (i, .null)) (kk : V D cA dm ad A nL p l e R s m args below meth c cells slots Q S (pc + 1) lv (.null :: st)) : V D cA dm ad A nL p l e R s m args below meth c cells slots Q S pc lv st :=
  fun H locs ls hP hS hl => lv_aload_nN X.1 X.2.1 hdg hi (lv_at hl pos hv) (kk H locs ls hP hS hl)
theorem V_aloadN (X : GX D cA dm ad A nL p s m args meth c own cc) {i : Nat} (hdg : decode cc pc = .ok (.aload i, 2)) (pos : Nat) (hv : lv[pos]? = some (i, .null)) (kk : V D cA dm ad A nL p l e R s m args below meth c cells slots Q S (pc + 2) lv (.null :: st)) : V D cA dm ad A nL p l e R s m args below meth c cells slots Q S pc lv st :=
  fun H locs ls hP hS hl => lv_aloadN X.1 X.2.1 hdg (lv_at hl pos hv) (kk H locs ls hP hS hl)
theorem V_astore_nN (X : GX D cA dm ad A nL p s m args meth c own cc) {k : Fin 4} {i : Nat} (hdg : decode cc pc = .ok (.astore_n k, 1)) (hi : (k : Nat) = i) (lv' : List (Nat × Value)) (hn : i < nL) (hl' : (i, Value.null) :: lv.filter (fun q => !(q.1 == i) && !(q.1 + 1 == i && q.2.category == 2)) = lv') (kk : V D cA dm ad A nL p l e R s m args below meth c cells slots Q S (pc + 1) lv' st) : V D cA dm ad A nL p l e R s m args below meth c cells slots Q S pc lv (.null :: st) :=
  fun H locs ls hP hS hl => lv_astore_nN X.1 X.2.1 hdg hi hl hn hl' (fun ls' hl2 => kk H locs ls' hP hS hl2)
theorem V_astoreN (X : GX D cA dm ad A nL p s m args meth c own cc) {i : Nat} (hdg : decode cc pc = .ok (.astore i, 2)) (lv' : List (Nat × Value)) (hn : i < nL) (hl' : (i, Value.null) :: lv.filter (fun q => !(q.1 == i) && !(q.1 + 1 == i && q.2.category == 2)) = lv') (kk : V D cA dm ad A nL p l e R s m args below meth c cells slots Q S (pc + 2) lv' st) : V D cA dm ad A nL p l e R s m args below meth c cells slots Q S pc lv (.null :: st) :=
  fun H locs ls hP hS hl => lv_astoreN X.1 X.2.1 hdg hl hn hl' (fun ls' hl2 => kk H locs ls' hP hS hl2)
/-- a plan, or none, into a row of plans -/
theorem V_aast (X : GX D cA dm ad A nL p s m args meth c own cc) {t : Nat} {x z : Int32} (hdg : decode cc pc = .ok (.aastore, 1)) (ht : DS dm t) (hin : inb x 5) (hz : z < 0 ∨ DP dm z.toNatClampNeg) {v : Value} (hv : va_rf ((pcd z).map (ad 2 0)) = v) (kk : ∀ S1 : S4, S1 = u4 S 17 t 0 x.toNatClampNeg z → V D cA dm ad A nL p l e R s m args below meth c cells slots Q S1 (pc + 1) lv st) : V D cA dm ad A nL p l e R s m args below meth c cells slots Q S pc lv (v :: .int x :: .ref (ad 17 t 0) :: st) := by
  subst hv
  obtain ⟨hx, hb, hml, hown, hts, hK, hJ, hA, hA2, hlk⟩ := X
  have hg : dm 17 t 0 := gm17 ht
  intro H locs ls hP hS hl
  have hlt : x.toNatClampNeg < 5 := inb_lt hin
  have h0 : ¬ x < 0 := fun q => hin (Or.inl q)
  have hcell := gP_one hP hg rfl 0 _ rfl
  have key : ∀ (H1 : Heap) (w : Value), va_rf ((pcd z).map (ad 2 0)) = w → H1[ad 17 t 0]? = some ((vp_cell (cA 5) (5, .inr (.inr (.inr (.inr (fun j => (pcd (S 17 t 0 j)).map (ad 2 0))))))).setSlot x.toNatClampNeg w) → H1.size = H.size → (∀ q, q ≠ ad 17 t 0 → H1[q]? = H[q]?) → W p l e R s m args below meth c H1 (locs ++ [⟨ad 17 t 0, x.toNatClampNeg⟩]) cells slots Q (F0 m (pc + 1) ls st) := by
    intro H1 w hw e z1 oq
    subst hw
    refine kk _ rfl H1 _ ls (gP_upd hP hJ hg rfl ?_ oq) (hS.put z1 oq (hA _ _ _ hg)) hl
    show H1[ad 17 t 0]? = some (vp_cell _ _)
    rw [e]
    rw [vp_cell_q, vp_cell_q, arrV_store]
    congr 2
    funext q
    by_cases hq : q = x.toNatClampNeg
    · subst hq
      simp [updV, upd]
    · simp [updV, upd, hq]
  rcases hz with hz | hz
  · have hp : pcd z = none := if_pos hz
    rw [hp, rfn]
    exact va_WaastN (C := RX2) hx hb hcell ((hK.2 5 _ rfl).1 5 (fun j => va_rf ((pcd (S 17 t 0 j)).map (ad 2 0)))) (fun h => by cases h) (by show ¬ (x < 0 ∨ (arrV _ _ _).slots.size ≤ _); rw [arrV_size]; exact hin) rfl rfl hdg fun H1 e z1 oq => key H1 _ (by rw [hp, rfn]) e z1 oq
  · by_cases hz0 : z < 0
    · have hp : pcd z = none := if_pos hz0
      rw [hp, rfn]
      exact va_WaastN (C := RX2) hx hb hcell ((hK.2 5 _ rfl).1 5 (fun j => va_rf ((pcd (S 17 t 0 j)).map (ad 2 0)))) (fun h => by cases h) (by show ¬ (x < 0 ∨ (arrV _ _ _).slots.size ≤ _); rw [arrV_size]; exact hin) rfl rfl hdg fun H1 e z1 oq => key H1 _ (by rw [hp, rfn]) e z1 oq
    · have hp : pcd z = some z.toNatClampNeg := if_neg hz0
      rw [hp, rfs]
      obtain ⟨r', hr', cellV, g1, g2, g3, -⟩ := gP_one hP (gm2 hz) rfl 0 _ rfl
      have hcls := (hK.1 2 (RX2, TX2, 8) rfl).2
      obtain ⟨kA, comp, k1, k2, k3, -⟩ := (hK.2 5 _ rfl).2
      have hcomp : comp = D.1 2 := Option.some.inj (k3.symm.trans hcls.1)
      subst hcomp
      obtain ⟨kC, hkC, -⟩ := hcls.2
      exact W.aast hx hb hcell (fun q h => by cases h) (fun h => by cases h) k1 k2 rfl hkC ⟨h0, by show _ < (arrV _ _ _).slots.size; rw [arrV_size]; exact hlt⟩ g1 (fun q h => by rw [g3] at h; cases h) (by rw [g2]; exact hkC) (by rw [g2]; exact va_assign hcls) rfl rfl hdg fun H1 e z1 oq => key H1 _ (by rw [hp, rfs]) e z1 oq
end VY

theorem fin_num {a : UInt64} (h : FP.Core.DFin a) : FP.Core.dIsNaN a = false := by
  cases h9 : FP.Core.dIsNaN a with
  | false => rfl
  | true =>
    have h1 := (FP.Core.isNaN_bits a).mp h9
    have h2 := (FP.Core.fin_bits a).mp h
    omega
/-! doubles: a quotient of two ints is a number -/
theorem dq_num (a b : Int32) (h : ¬ b = 0) : vf_n64 (FP.ddiv (FP.i2d a) (FP.i2d b)) := by
  have hz : ¬ FP.Core.DZero (FP.Core.i2d b) := fun z => FP.Core.i2d_ne_zero h ((FP.Core.zero_bits2 _).mp z)
  have hn : FP.Core.dIsNaN (FP.Core.ddiv (FP.Core.i2d a) (FP.Core.i2d b)) = false := FP.Core.ddiv_out (fin_num (FP.Core.i2d_fin a)) (FP.Core.i2d_fin b) hz
  have e : FP.ddiv (FP.i2d a) (FP.i2d b) = FP.Core.ddiv (FP.Core.i2d a) (FP.Core.i2d b) := rfl
  rw [e]
  generalize FP.Core.ddiv (FP.Core.i2d a) (FP.Core.i2d b) = r at hn ⊢
  have h1 : ¬ 9218868437227405312 < r.toNat % 2 ^ 63 := fun z => by rw [(FP.Core.isNaN_bits r).mpr z] at hn; cases hn
  show r &&& 0x7fffffffffffffff ≤ 0x7ff0000000000000
  rw [UInt64.le_iff_toNat_le, UInt64.toNat_and]
  show r.toNat &&& (2 ^ 63 - 1) ≤ 9218868437227405312
  rw [Nat.and_two_pow_sub_one_eq_mod]
  omega
section VD
variable {D : va_G} {cA : Nat → ClassId} {dm : Dm} {ad : Ad} {A : Nat → Prop} {nL : Nat} {p : Program} {l : Launch} {e : Env} {R : Room} {s : State} {m : MethodId} {args : Array Value} {below : List Frame} {meth : Method} {c : Code} {cells slots : Nat} {Q : State → Prop} {own : String} {cc : ByteArray} {S S' : S4} {pc : Nat} {lv lv' : List (Nat × Value)} {st : List Value}
theorem V_i2d (X : GX D cA dm ad A nL p s m args meth c own cc) {x : Int32} (hdg : decode cc pc = .ok (.i2d, 1)) (kk : V D cA dm ad A nL p l e R s m args below meth c cells slots Q S (pc + 1) lv (.double (FP.i2d x) :: st)) : V D cA dm ad A nL p l e R s m args below meth c cells slots Q S pc lv (.int x :: st) :=
  fun H locs ls hP hS hl => lv_i2d X.1 X.2.1 hdg (kk H locs ls hP hS hl)
theorem V_ddiv (X : GX D cA dm ad A nL p s m args meth c own cc) {a b : Int32} (hb : ¬ b = 0) (hdg : decode cc pc = .ok (.ddiv, 1)) (kk : V D cA dm ad A nL p l e R s m args below meth c cells slots Q S (pc + 1) lv (.double (FP.ddiv (FP.i2d a) (FP.i2d b)) :: st)) : V D cA dm ad A nL p l e R s m args below meth c cells slots Q S pc lv (.double (FP.i2d b) :: .double (FP.i2d a) :: st) :=
  fun H locs ls hP hS hl => lv_ddiv X.1 X.2.1 hdg (dq_num a b hb) (kk H locs ls hP hS hl)
theorem V_dret (X : GX D cA dm ad A nL p s m args meth c own cc) (hr : meth.sig.returnType = some .double) {v v' : UInt64} (hv : v = v') (hdg : decode cc pc = .ok (.dreturn, 1)) : V D cA dm ad A nL p l e R s m args below meth c cells slots (MQ below (gQ D cA dm ad S (some (.double v')) A) args s cells slots A) S pc lv [.double v] := by
  subst hv
  exact fun H locs ls hP hS hl => W.dret X.1 X.2.1 hr (fun t ht hW => ⟨⟨rfl, gP_moved hP ht⟩, hS.F ht⟩) hS.2.2 hdg X.2.2.2.2.2.2.2.2.2.1
theorem V_dast (X : GX D cA dm ad A nL p s m args meth c own cc) (hg : dm 37 0 0) {x a b : Int32} (hx0 : x = 0) (hdg : decode cc pc = .ok (.dastore, 1)) (kk : ∀ S1 : S4, S1 = w4 S 37 0 0 (upd (upd (upd (S 37 0 0) 0 a) 1 b) 2 1) → V D cA dm ad A nL p l e R s m args below meth c cells slots Q S1 (pc + 1) lv st) : V D cA dm ad A nL p l e R s m args below meth c cells slots Q S pc lv (.double (dv a b) :: .int x :: .ref (ad 37 0 0) :: st) := by
  subst hx0
  obtain ⟨hx, hb, hml, hown, hts, hK, hJ, hA, hA2, hlk⟩ := X
  intro H locs ls hP hS hl
  have hin : inb (0 : Int32) 1 := by decide
  refine W.dast hx hb (gP_one hP hg rfl 0 _ rfl) ((hK.2 8 _ rfl).1 1 (fun j => .double (dq (S 37 0 0 (3 * j)) (S 37 0 0 (3 * j + 1)) (S 37 0 0 (3 * j + 2))))) (fun q => by cases q) (by show ¬ (_ < 0 ∨ (arrV _ _ _).slots.size ≤ _); rw [arrV_size]; exact hin) rfl rfl hdg fun H1 e z1 oq => ?_
  refine kk _ rfl H1 _ ls (gP_upd hP hJ hg rfl ?_ oq) (hS.put z1 oq (hA _ _ _ hg)) hl
  show H1[ad 37 0 0]? = some (vp_cell _ _)
  rw [e]
  rw [vp_cell_d, vp_cell_d, arrV_store]
  congr 2
  funext q
  by_cases hq : q = 0
  · subst hq
    simp [updV, upd, dq]
  · have h1 : ¬ 3 * q = 0 := by omega
    have h2 : ¬ 3 * q + 1 = 0 := by omega
    have h3 : ¬ 3 * q = 1 := by omega
    have h4 : ¬ 3 * q + 1 = 1 := by omega
    have h5 : ¬ 3 * q = 2 := by omega
    have h6 : ¬ 3 * q + 1 = 2 := by omega
    have h7 : ¬ 3 * q + 2 = 0 := by omega
    have h8 : ¬ 3 * q + 2 = 1 := by omega
    have h9 : ¬ 3 * q + 2 = 2 := by omega
    have h10 : ¬ q = (0 : Int32).toNatClampNeg := hq
    simp [updV, upd, h1, h2, h3, h4, h5, h6, h7, h8, h9, h10, hq]
end VD
theorem dv_q {a b : Int32} (h : ¬ b = 0) : FP.ddiv (FP.i2d a) (FP.i2d b) = dv a b := (if_neg h).symm
theorem dv_i (a : Int32) : FP.i2d a = dv a 0 := (if_pos rfl).symm

theorem mm_X1_48 : Cond.methodLink RX1 48 Lib.Math.max.name ∈ gT ∧ Cond.static Lib.Math.max.name ∈ gT ∧ Cond.initialized "java/lang/Math" ∈ gT ∧ Cond.code Lib.Math.max.name Lib.Math.max.code 2 (some .int) ∈ gT := ⟨gin 458 (by decide +kernel) (by decide +kernel), gin 459 (by decide +kernel) (by decide +kernel), gin 94 (by decide +kernel) (by decide +kernel), gin 460 (by decide +kernel) (by decide +kernel)⟩
theorem cp_X5_25 : Cond.methodLink RX5 25 arraycopyName ∈ gT ∧ Cond.native arraycopyName ∈ gT ∧ Cond.static arraycopyName ∈ gT ∧ Cond.initialized "java/lang/System" ∈ gT := ⟨gin 477 (by decide +kernel) (by decide +kernel), gin 479 (by decide +kernel) (by decide +kernel), gin 478 (by decide +kernel) (by decide +kernel), gin 93 (by decide +kernel) (by decide +kernel)⟩
theorem cp_X4_90 : Cond.methodLink RX4 90 arraycopyName ∈ gT ∧ Cond.native arraycopyName ∈ gT ∧ Cond.static arraycopyName ∈ gT ∧ Cond.initialized "java/lang/System" ∈ gT := ⟨gin 488 (by decide +kernel) (by decide +kernel), gin 479 (by decide +kernel) (by decide +kernel), gin 478 (by decide +kernel) (by decide +kernel), gin 93 (by decide +kernel) (by decide +kernel)⟩
theorem mm_X6_427 : Cond.methodLink RX6 427 Lib.Math.min.name ∈ gT ∧ Cond.static Lib.Math.min.name ∈ gT ∧ Cond.initialized "java/lang/Math" ∈ gT ∧ Cond.code Lib.Math.min.name Lib.Math.min.code 2 (some .int) ∈ gT := ⟨gin 610 (by decide +kernel) (by decide +kernel), gin 611 (by decide +kernel) (by decide +kernel), gin 94 (by decide +kernel) (by decide +kernel), gin 612 (by decide +kernel) (by decide +kernel)⟩
theorem mm_X3_22 : Cond.methodLink RX3 22 Lib.Math.min.name ∈ gT ∧ Cond.static Lib.Math.min.name ∈ gT ∧ Cond.initialized "java/lang/Math" ∈ gT ∧ Cond.code Lib.Math.min.name Lib.Math.min.code 2 (some .int) ∈ gT := ⟨gin 705 (by decide +kernel) (by decide +kernel), gin 611 (by decide +kernel) (by decide +kernel), gin 94 (by decide +kernel) (by decide +kernel), gin 612 (by decide +kernel) (by decide +kernel)⟩
theorem mm_X4_279 : Cond.methodLink RX4 279 Lib.Math.max.name ∈ gT ∧ Cond.static Lib.Math.max.name ∈ gT ∧ Cond.initialized "java/lang/Math" ∈ gT ∧ Cond.code Lib.Math.max.name Lib.Math.max.code 2 (some .int) ∈ gT := ⟨gin 1117 (by decide +kernel) (by decide +kernel), gin 459 (by decide +kernel) (by decide +kernel), gin 94 (by decide +kernel) (by decide +kernel), gin 460 (by decide +kernel) (by decide +kernel)⟩
theorem ne_X4_106 : NL RX4 106 yX6_isIn "ParcelSorter" cX6_isIn 3 (some .boolean) 3 := ⟨by decide +kernel, nc_X6_isIn, ni_X6, by decide +kernel, t_X6_isIn⟩
theorem ne_X2_31 : NL RX2 31 yX6_isIn "ParcelSorter" cX6_isIn 3 (some .boolean) 3 := ⟨by decide +kernel, nc_X6_isIn, ni_X6, by decide +kernel, t_X6_isIn⟩
def RJA : String := "java/util/Arrays"
def yJA_fill : MethodName := ⟨RJA, "fill", "([II)V"⟩
abbrev cJA_fill : ByteArray := prog_36_method_103_code
theorem dJA_fill_0 : decode cJA_fill 0 = .ok (.iconst 0, 1) := by decide +kernel
theorem dJA_fill_1 : decode cJA_fill 1 = .ok (.istore_n 2, 1) := by decide +kernel
theorem dJA_fill_2 : decode cJA_fill 2 = .ok (.aload_n 0, 1) := by decide +kernel
theorem dJA_fill_3 : decode cJA_fill 3 = .ok (.arraylength, 1) := by decide +kernel
theorem dJA_fill_4 : decode cJA_fill 4 = .ok (.istore_n 3, 1) := by decide +kernel
theorem dJA_fill_5 : decode cJA_fill 5 = .ok (.iload_n 2, 1) := by decide +kernel
theorem dJA_fill_6 : decode cJA_fill 6 = .ok (.iload_n 3, 1) := by decide +kernel
theorem dJA_fill_7 : decode cJA_fill 7 = .ok (.if_icmp .ge 13, 3) := by decide +kernel
theorem dJA_fill_10 : decode cJA_fill 10 = .ok (.aload_n 0, 1) := by decide +kernel
theorem dJA_fill_11 : decode cJA_fill 11 = .ok (.iload_n 2, 1) := by decide +kernel
theorem dJA_fill_12 : decode cJA_fill 12 = .ok (.iload_n 1, 1) := by decide +kernel
theorem dJA_fill_13 : decode cJA_fill 13 = .ok (.iastore, 1) := by decide +kernel
theorem dJA_fill_14 : decode cJA_fill 14 = .ok (.iinc 2 1, 3) := by decide +kernel
theorem dJA_fill_17 : decode cJA_fill 17 = .ok (.goto (-12), 3) := by decide +kernel
theorem dJA_fill_20 : decode cJA_fill 20 = .ok (.return_, 1) := by decide +kernel
theorem nc_JA_fill : Cond.code yJA_fill cJA_fill 4 none ∈ gT := gin 296 (by decide +kernel) (by decide +kernel)
theorem t_JA_fill : Cond.static yJA_fill ∈ gT := gin 295 (by decide +kernel) (by decide +kernel)
theorem ni_JA : Cond.initialized RJA ∈ gT := gin 82 (by decide +kernel) (by decide +kernel)
theorem m_X4_80 : ML RX4 80 yJA_fill cJA_fill 4 none 2 := ⟨gin 294 (by decide +kernel) (by decide +kernel), nc_JA_fill, ni_JA, by decide +kernel⟩
