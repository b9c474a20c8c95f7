/-! the builder's constructors (printed by jg.py) -/
section VR
variable {D : va_G} {cA : Nat → ClassId} {dm E : Dm} {ad : Ad} {A : Nat → Prop} {nL : Nat} {p : Program} {l : Launch} {e : Env} {R : Room} {s : State} {m : MethodId} {args : Array Value} {below : List Frame} {meth : Method} {c : Code} {cells slots : Nat} {Q : State → Prop} {own : String} {cc : ByteArray} {S S' : S4} {pc : Nat} {lv lv' : List (Nat × Value)} {st : List Value}
theorem V_putR (X : GX D cA dm ad A nL p s m args meth c own cc) {idx ci j j' k t i : Nat} {fs : List Value} {v : Value} {x : Int32} {ty : FieldType} (hdg : decode cc pc = .ok (.putfield idx, 3)) (hF : FLJ own idx ci j ty) (hg : dm k t i) (hct : ct cA ad k t i (S k t i) = .inr (ci, fs)) (hl : j < fs.length) (hct2 : ct cA ad k t i (upd (S k t i) j' x) = .inr (ci, fs.set j v)) (hn : narrow ty v = v) (hfit : fits ty v = true) (kk : ∀ S1 : S4, S1 = u4 S k t i j' x → V D cA dm ad A nL p l e R s m args below meth c cells slots Q S1 (pc + 3) lv st) : V D cA dm ad A nL p l e R s m args below meth c cells slots Q S pc lv (v :: .ref (ad k t i) :: st) := by
  have hJ := X.2.2.2.2.2.2.1
  exact V_putA X hdg hF hg hct hl hn hfit (fun H H1 locs1 ls hP hat oq hS hl0 => kk _ rfl H1 locs1 ls (gP_upd hP hJ hg hct2 hat oq) hS hl0)
end VR
def sbI (S : S4) : S4 := u4 (u4 (w4 S 9 0 0 (fun j => if j = 200 then nI 16 else 0)) 48 0 0 3 1) 48 0 0 1 0
theorem c_J5_init {l : Launch} {D : va_G} {cA : Nat → ClassId} {dm : Dm} {ad : Ad} {n : Nat} {S : S4} (h48 : dm 48 0 0) (h9 : ad 9 0 0 = n) : CtF D cA dm (dmu dm 9 0 0) ad l yJ5_init_d00df cJ5_init_d00df 2 1 20 1 16 n S [.ref (ad 48 0 0), .int 16] (sbI S) := by
  refine CtF.of (by decide +kernel) (Nat.le_of_ble_eq_true rfl) [(0, .ref (ad 48 0 0)), (1, .int 16)] rfl (fun p e s m args below meth c A X hr hY hnm hsz => ?_)
  refine V_aload_n X dJ5_init_d00df_0 rfl 0 rfl ?_
  refine V_objInit X o_J5_3 o_1 o_2 ⟨Nat.le_of_ble_eq_true rfl, Nat.le_of_ble_eq_true rfl⟩ (Nat.zero_le _) dJ5_init_d00df_1 ?_
  refine V_gets X hY.1.1 g_J5_18 dJ5_init_d00df_4 ?_
  refine V_if_eq X 25 dJ5_init_d00df_7 (by decide) (fun c9 => absurd c9 (by decide)) (fun _ => ?_)
  refine V_aload_n X dJ5_init_d00df_10 rfl 0 rfl ?_
  refine V_iload_n X dJ5_init_d00df_11 rfl 1 rfl ?_
  refine V_newaX X hsz (Or.inl rfl) (atype := .byte) (ty := .byte) (k := 9) (t := 0) (i := 0) (q := 9) (N := 16) (a0 := (16, .inl (fun j => if j = 200 then nI 16 else 0))) (r0 := fun j => if j = 200 then nI 16 else 0) rfl ar_byte rfl h9 (fun c => ?_) ?_ (by decide) (by decide) (by decide) (Nat.le_of_ble_eq_true rfl) (Nat.le_of_ble_eq_true rfl) dJ5_init_d00df_12 (fun X1 => ?_)
  · show arrV c 16 (fun j => .int (if j = 200 then nI 16 else 0)) = arrV c 16 (fun _ => .int 0)
    exact arrV_same (fun j hj => by rw [if_neg (by omega)])
  · show (Sum.inl (cA 9, (if 200 = 200 then nI 16 else 0).toNatClampNeg, .inl (fun j => if j = 200 then nI 16 else 0)) : va_E) = _
    rw [if_pos rfl, nI_clamp (by decide)]
  refine V_putR X1 (j' := 3) (x := 1) dJ5_init_d00df_14 f_J_value (Or.inr h48) rfl (Nat.le_of_ble_eq_true rfl) rfl rfl rfl (fun Z1 e1 => ?_)
  refine V_aload_n X1 dJ5_init_d00df_17 rfl 0 rfl ?_
  refine V_iconst X1 (0 : Int32) dJ5_init_d00df_18 (by decide) ?_
  refine V_putJ X1 (j' := 1) dJ5_init_d00df_19 f_J_coder (Or.inr h48) rfl (Nat.le_of_ble_eq_true rfl) rfl rfl rfl (fun Z2 e2 => ?_)
  refine V_goto X1 38 dJ5_init_d00df_22 (by decide) ?_
  subst e1 e2
  exact V_sub [] rfl (V_vretF X1 hr dJ5_init_d00df_38)
theorem c_J4_init {l : Launch} {D : va_G} {cA : Nat → ClassId} {dm : Dm} {ad : Ad} {n : Nat} {S : S4} (h48 : dm 48 0 0) (h9 : ad 9 0 0 = n) : CtF D cA dm (dmu dm 9 0 0) ad l yJ4_init_da8c8 cJ4_init_da8c8 1 2 45 1 16 n S [.ref (ad 48 0 0)] (sbI S) := by
  refine CtF.of (by decide +kernel) (Nat.le_of_ble_eq_true rfl) [(0, .ref (ad 48 0 0))] rfl (fun p e s m args below meth c A X hr hY hnm hsz => ?_)
  refine V_aload_n X dJ4_init_da8c8_0 rfl 0 rfl ?_
  refine V_bipush X (16 : Int32) dJ4_init_da8c8_1 (by decide) ?_
  refine V_callIF X hY hsz (Or.inl rfl) [.int 16] dJ4_init_da8c8_3 m_J4_1 rfl i_J5_init_d00df ⟨Nat.le_of_ble_eq_true rfl, Nat.le_of_ble_eq_true rfl⟩ ⟨Nat.le_of_ble_eq_true rfl, Nat.le_of_ble_eq_true rfl⟩ rfl (Nat.le_of_ble_eq_true rfl) (c_J5_init h48 h9) (fun X1 => ?_)
  exact V_sub [] rfl (V_vretF X1 hr dJ4_init_da8c8_6)
/-- the names while the reference is made -/
def dM (dm : Dm) : Dm := fun k t x => (t = 0 ∧ x = 0 ∧ (k = 47 ∨ (24 ≤ k ∧ k ≤ 35))) ∨ dm k t x
