/-! rules of the law's own body -/
section VLR
variable {D : va_G} {cA : Nat → ClassId} {dm : Dm} {ad : Ad} {A : Nat → Prop} {nL : Nat} {p : Program} {l : Launch} {e : Env} {R : Room} {s : State} {m : MethodId} {args : Array Value} {below : List Frame} {meth : Method} {c : Code} {cells slots : Nat} {Q : State → Prop} {own : String} {cc : ByteArray} {S S' : S4} {pc : Nat} {lv lv' : List (Nat × Value)} {st : List Value}
theorem V_slen (X : GX D cA dm ad A nL p s m args meth c own cc) {b L : Nat} {xs : Nat → Int32} (hX : va_X b L xs s s.heap) (hbl : b < s.heap.size) (hbA : ¬ A b) (hdg : decode cc pc = .ok (.arraylength, 1)) (kk : V D cA dm ad A nL p l e R s m args below meth c cells slots Q S (pc + 1) lv (.int (nI L) :: st)) : V D cA dm ad A nL p l e R s m args below meth c cells slots Q S pc lv (.ref b :: st) :=
  fun H locs ls hP hS hl => va_slen X.1 X.2.1 hX hbl hbA hS hdg (kk H locs ls hP hS hl)
theorem V_sld (X : GX D cA dm ad A nL p s m args meth c own cc) {b L : Nat} {xs : Nat → Int32} (hX : va_X b L xs s s.heap) (hbl : b < s.heap.size) (hbA : ¬ A b) {i : Int32} (hin : vp_in i L) (hdg : decode cc pc = .ok (.iaload, 1)) (kk : V D cA dm ad A nL p l e R s m args below meth c cells slots Q S (pc + 1) lv (.int (xs i.toNatClampNeg) :: st)) : V D cA dm ad A nL p l e R s m args below meth c cells slots Q S pc lv (.int i :: .ref b :: st) :=
  fun H locs ls hP hS hl => va_sld X.1 X.2.1 hX hbl hbA hS hin hdg (kk H locs ls hP hS hl)
theorem V_lald0 (X : GX D cA dm ad A nL p s m args meth c own cc) (hg : dm 36 0 0) (hdg : decode cc pc = .ok (.laload, 1)) (kk : V D cA dm ad A nL p l e R s m args below meth c cells slots Q S (pc + 1) lv (.long (S 36 0 0 0).toInt64 :: st)) : V D cA dm ad A nL p l e R s m args below meth c cells slots Q S pc lv (.int 0 :: .ref (ad 36 0 0) :: st) :=
  fun H locs ls hP hS hl => va_lald (n := 1) (f := fun j => (S 36 0 0 j).toInt64) X.1 X.2.1 X.2.2.2.2.2.1 (gP_one hP hg rfl) 0 7 rfl rfl (show inb 0 1 by decide) hdg (kk H locs ls hP hS hl)
theorem V_lcmp0 (X : GX D cA dm ad A nL p s m args meth c own cc) {x : Int64} (hdg : decode cc pc = .ok (.lcmp, 1)) (kk : V D cA dm ad A nL p l e R s m args below meth c cells slots Q S (pc + 1) lv (.int 0 :: st)) : V D cA dm ad A nL p l e R s m args below meth c cells slots Q S pc lv (.long x :: .long x :: st) :=
  fun H locs ls hP hS hl => W.lcmp X.1 X.2.1 hdg (by
    rw [show lg_cmp x x = 0 from by simp [lg_cmp]]
    exact kk H locs ls hP hS hl)
theorem V_lconst' (X : GX D cA dm ad A nL p s m args meth c own cc) {n : Fin 2} (v : Int64) (hdg : decode cc pc = .ok (.lconst n, 1)) (hv : Int64.ofNat (n : Nat) = v) (kk : V D cA dm ad A nL p l e R s m args below meth c cells slots Q S (pc + 1) lv (.long v :: st)) : V D cA dm ad A nL p l e R s m args below meth c cells slots Q S pc lv st :=
  V_lconst X v hdg hv kk
theorem V_dload (X : GX D cA dm ad A nL p s m args meth c own cc) {i : Nat} {x : UInt64} (hdg : decode cc pc = .ok (.dload i, 2)) (pos : Nat) (hv : lv[pos]? = some (i, .double x)) (kk : V D cA dm ad A nL p l e R s m args below meth c cells slots Q S (pc + 2) lv (.double x :: st)) : V D cA dm ad A nL p l e R s m args below meth c cells slots Q S pc lv st :=
  fun H locs ls hP hS hl => lv_dload X.1 X.2.1 hdg (lv_at hl pos hv) (kk H locs ls hP hS hl)
theorem V_dstore (X : GX D cA dm ad A nL p s m args meth c own cc) {i : Nat} {x : UInt64} (hdg : decode cc pc = .ok (.dstore i, 2)) (lv' : List (Nat × Value)) (hn : i + 1 < nL) (hl' : (i, Value.double x) :: lv.filter (fun q => !(q.1 == i) && (!(q.1 == i + 1) && !(q.1 + 1 == i && q.2.category == 2))) = lv') (kk : V D cA dm ad A nL p l e R s m args below meth c cells slots Q S (pc + 2) lv' st) : V D cA dm ad A nL p l e R s m args below meth c cells slots Q S pc lv (.double x :: st) :=
  fun H locs ls hP hS hl => lv_dstore X.1 X.2.1 hdg hl hn hl' (fun ls' hl2 => kk H locs ls' hP hS hl2)
theorem V_dald0 (X : GX D cA dm ad A nL p s m args meth c own cc) (hg : dm 37 0 0) {x : UInt64} (hx : dq (S 37 0 0 0) (S 37 0 0 1) (S 37 0 0 2) = x) (hdg : decode cc pc = .ok (.daload, 1)) (kk : V D cA dm ad A nL p l e R s m args below meth c cells slots Q S (pc + 1) lv (.double x :: st)) : V D cA dm ad A nL p l e R s m args below meth c cells slots Q S pc lv (.int 0 :: .ref (ad 37 0 0) :: st) := by
  subst hx
  exact fun H locs ls hP hS hl => va_dald (n := 1) (f := fun j => dq (S 37 0 0 (3 * j)) (S 37 0 0 (3 * j + 1)) (S 37 0 0 (3 * j + 2))) X.1 X.2.1 X.2.2.2.2.2.1 (gP_one hP hg rfl) 0 8 rfl rfl (show inb 0 1 by decide) hdg (kk H locs ls hP hS hl)
theorem V_dcmp (X : GX D cA dm ad A nL p s m args meth c own cc) {x y : UInt64} {o : CmpOp} (hdg : decode cc pc = .ok (.dcmp o, 1)) (kk : V D cA dm ad A nL p l e R s m args below meth c cells slots Q S (pc + 1) lv (.int (Op.cmpValue (FP.dcmp x y) o) :: st)) : V D cA dm ad A nL p l e R s m args below meth c cells slots Q S pc lv (.double y :: .double x :: st) :=
  fun H locs ls hP hS hl => lv_dcmp X.1 X.2.1 hdg (kk H locs ls hP hS hl)
end VLR
abbrev lvL (ad : Ad) (b : Nat) (i : Int32) : List (Nat × Value) := [(0, .ref b), (1, .ref (ad 6 0 0)), (2, .ref (ad 7 0 0)), (3, .ref (ad 36 0 0)), (4, .ref (ad 37 0 0)), (5, .int i)]
section VTL
variable {D : va_G} {cA : Nat → ClassId} {dm : Dm} {ad : Ad} {A : Nat → Prop} {p : Program} {l : Launch} {e : Env} {s : State} {m : MethodId} {args : Array Value} {below : List Frame} {meth : Method} {c : Code} {cells slots : Nat} {Q : State → Prop} {S : S4} {pc b0 : Nat} {k b i : Int32} {off : Int}
/-- the reference has thrown as the class has; and what both answer is the same: on to the next call -/
theorem law_tail (X : GX D cA dm ad A 9 p s m args meth c RL cL_law) (hM : DM dm) (h36 : dm 36 0 0) (hc : cells ≤ room_1.cells ∧ slots ≤ room_1.slots) (hk : S 7 0 0 0 = k) (hb : k = 0 → S 36 0 0 0 = b)
    (d0 : decode cL_law pc = .ok (.istore 7, 2)) (d2 : decode cL_law (pc + 2) = .ok (.aload_n 2, 1)) (d3 : decode cL_law (pc + 2 + 1) = .ok (.invokevirtual 117, 3)) (d6 : decode cL_law (pc + 2 + 1 + 3) = .ok (.iload 6, 2)) (d8 : decode cL_law (pc + 2 + 1 + 3 + 2) = .ok (.if_icmp .eq 5, 3)) (d13 : decode cL_law (pc + 13) = .ok (.iload 6, 2)) (d15 : decode cL_law (pc + 13 + 2) = .ok (.ifCond .ne 15, 3)) (d18 : decode cL_law (pc + 13 + 2 + 3) = .ok (.aload_n 3, 1)) (d19 : decode cL_law (pc + 13 + 2 + 3 + 1) = .ok (.iconst 0, 1)) (d20 : decode cL_law (pc + 13 + 2 + 3 + 1 + 1) = .ok (.laload, 1)) (d21 : decode cL_law (pc + 13 + 2 + 3 + 1 + 1 + 1) = .ok (.iload 7, 2)) (d23 : decode cL_law (pc + 13 + 2 + 3 + 1 + 1 + 1 + 2) = .ok (.i2l, 1)) (d24 : decode cL_law (pc + 13 + 2 + 3 + 1 + 1 + 1 + 2 + 1) = .ok (.lcmp, 1)) (d25 : decode cL_law (pc + 13 + 2 + 3 + 1 + 1 + 1 + 2 + 1 + 1) = .ok (.ifCond .eq 5, 3)) (d30 : decode cL_law (pc + 30) = .ok (.goto off, 3)) (ht : ((pc + 30 : Nat) : Int) + off = ((1838 : Nat) : Int))
    (kk : V D cA dm ad A 9 p l e room_1 s m args below meth c cells slots Q S 1838 (lvL ad b0 i) []) : V D cA dm ad A 9 p l e room_1 s m args below meth c cells slots Q S pc ((6, .int k) :: lvL ad b0 i) [.int b] := by
  refine V_istore X d0 ((7, .int b) :: (6, .int k) :: lvL ad b0 i) (by decide) rfl ?_
  refine V_aload_n X d2 rfl 4 rfl ?_
  refine V_callVs X [] d3 m_L_117 v_X7_thrown ⟨Nat.le_of_ble_eq_true rfl, Nat.le_of_ble_eq_true rfl⟩ hc rfl (Nat.le_of_ble_eq_true rfl) (gm7 hM) rfl cl7 (c_X7_thrown hM (rfl : s_X7_thrown S = some (S 7 0 0 0))) ?_
  refine V_iload X d6 1 rfl ?_
  refine V_icmp_eq X (pc + 13) d8 (by omega) (fun _ => ?_) (fun h => absurd hk h)
  refine V_iload X d13 1 rfl ?_
  refine V_if_ne X (pc + 30) d15 (by omega) (fun _ => ?_) (fun h0 => ?_)
  · refine V_goto X 1838 d30 ht ?_
    exact V_sub [2, 3, 4, 5, 6, 7] rfl kk
  · refine V_aload_n X d18 rfl 5 rfl ?_
    refine V_iconst X (0 : Int32) d19 (by decide) ?_
    refine V_lald0 X h36 d20 ?_
    refine V_iload X d21 0 rfl ?_
    refine V_i2l X d23 ?_
    rw [hb h0]
    refine V_lcmp0 X d24 ?_
    refine V_if_eq X (pc + 30) d25 (by omega) (fun _ => ?_) (fun h => absurd rfl h)
    refine V_goto X 1838 d30 ht ?_
    exact V_sub [2, 3, 4, 5, 6, 7] rfl kk
end VTL
