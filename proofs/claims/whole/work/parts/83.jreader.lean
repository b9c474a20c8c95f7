/-! a new reader with its plan; addPlan (printed by jd.py) -/
theorem w4_app {S : S4} {k t i k' t' i' j : Nat} {r : Nat → Int32} : w4 S k t i r k' t' i' j = if k' = k ∧ t' = t ∧ i' = i then r j else S k' t' i' j := by
  unfold w4
  split <;> rfl
/-- the plan i, all new -/
def nwP (i : Nat) (S : S4) : S4 := w4 (w4 (w4 (w4 (w4 S 2 0 i (fun j => if j = 3 then 3 else 0)) 10 0 i (fun _ => 0)) 11 0 i (fun _ => 0)) 12 0 i (fun _ => 0)) 13 0 i (fun _ => 0)
def e3 (dm : Dm) (i : Nat) : Dm := fun k t x => (t = 0 ∧ x = i ∧ (k = 2 ∨ (10 ≤ k ∧ k ≤ 13))) ∨ dm k t x
def e4 (dm : Dm) (i : Nat) : Dm := fun k t x => (t = 0 ∧ x = i ∧ (k = 2 ∨ k = 3 ∨ (10 ≤ k ∧ k ≤ 13))) ∨ dm k t x
/-- no name of a plan or a reader i -/
def NFr (dm : Dm) (i : Nat) : Prop := ∀ k t, (k = 2 ∨ k = 3 ∨ (10 ≤ k ∧ k ≤ 13) ∨ k = 42 ∨ k = 43) → ¬ dm k t i
theorem n_init_row {i : Nat} {S : S4} (hz : ∀ j, S 42 0 i j = 0) (j : Nat) : n_X2_init i S 42 0 i j = if j = 3 then 3 else if 4 ≤ j ∧ j ≤ 7 then 1 else 0 := by
  unfold n_X2_init
  simp only [u4_app, w4_app]
  by_cases h3 : j = 3
  · subst h3; rfl
  · by_cases h4 : j = 4
    · subst h4; rfl
    · by_cases h5 : j = 5
      · subst h5; rfl
      · by_cases h6 : j = 6
        · subst h6; rfl
        · by_cases h7 : j = 7
          · subst h7; rfl
          · simp [h3, h4, h5, h6, h7, hz]
            omega
theorem nwP_of {i : Nat} {S : S4} {dm : Dm} (hfr : ∀ k, (k = 2 ∨ (10 ≤ k ∧ k ≤ 13) ∨ k = 42) → ¬ dm k 0 i) {k t x : Nat} (h : e3 dm i k t x) : (k = 2 ∧ t = 0 ∧ x = i) ∨ (eP (dmu dm 42 0 i) i k t x ∧ ¬ (k = 42 ∧ t = 0 ∧ x = i) ∧ nwP i S k t x = n_X2_init i (w4 S 42 0 i (fun _ => 0)) k t x) := by
  by_cases h2 : k = 2 ∧ t = 0 ∧ x = i
  · exact Or.inl h2
  · refine Or.inr ?_
    rcases h with ⟨rfl, rfl, h⟩ | h
    · have hk : k = 10 ∨ k = 11 ∨ k = 12 ∨ k = 13 := by omega
      refine ⟨?_, by omega, ?_⟩
      · unfold eP dmu; omega
      · funext j
        unfold nwP n_X2_init
        simp only [u4_app, w4_app]
        rcases hk with rfl | rfl | rfl | rfl <;> simp
    · have n42 : ¬ (k = 42 ∧ t = 0 ∧ x = i) := fun z => hfr 42 (by omega) (by obtain ⟨rfl, rfl, rfl⟩ := z; exact h)
      have nk : ¬ ((10 ≤ k ∧ k ≤ 13) ∧ t = 0 ∧ x = i) := fun z => hfr k (by omega) (by obtain ⟨-, rfl, rfl⟩ := z; exact h)
      refine ⟨Or.inr (Or.inr (Or.inr (Or.inr (Or.inr h)))), n42, ?_⟩
      funext j
      unfold nwP n_X2_init
      simp only [u4_app, w4_app]
      rw [if_neg (by omega), if_neg (by omega), if_neg (by omega), if_neg (by omega), if_neg (by omega), if_neg (by omega), if_neg (by omega), if_neg (by omega), if_neg (by omega), if_neg (by omega), if_neg (by omega), if_neg (by omega), if_neg (by omega), if_neg (by omega), if_neg (by omega)]
def nwR (i : Nat) (len : Int32) (S : S4) : S4 := w4 (nwP i S) 43 0 i (fun j => if j = 3 then (if (80 : Int32) < len then (80 : Int32) else len) else if j = 0 ∨ j = 2 then 1 else 0)
theorem c_X3_init {l : Launch} {D : va_G} {cA : Nat → ClassId} {dm : Dm} {ad : Ad} {n : Nat} {S : S4} {i : Nat} {len : Int32} (h43 : dm 43 0 i) (h23 : dm 23 0 0) (hz : ∀ j, S 43 0 i j = 0) (hfr : ∀ k, (k = 2 ∨ (10 ≤ k ∧ k ≤ 13) ∨ k = 42) → ¬ dm k 0 i) (h42 : ad 42 0 i = n) (h2 : ad 2 0 i = n) (h10 : ad 10 0 i = n + 1) (h11 : ad 11 0 i = n + 2) (h12 : ad 12 0 i = n + 3) (h13 : ad 13 0 i = n + 4) : CtF D cA dm (e3 dm i) ad l yX3_init cX3_init 3 2 50 5 56 n S [.ref (ad 43 0 i), .ref (ad 23 0 0), .int len] (nwR i len S) := by
  refine CtF.of (by decide +kernel) (Nat.le_of_ble_eq_true rfl) [(0, .ref (ad 43 0 i)), (1, .ref (ad 23 0 0)), (2, .int len)] rfl (fun p e s m args below meth c A X hr hY hnm hsz => ?_)
  refine V_aload_n X dX3_init_0 rfl 0 rfl ?_
  refine V_objInit X o_X3_3 o_1 o_2 ⟨Nat.le_of_ble_eq_true rfl, Nat.le_of_ble_eq_true rfl⟩ (Nat.zero_le _) dX3_init_1 ?_
  refine V_aload_n X dX3_init_4 rfl 0 rfl ?_
  refine V_newX X hsz (Or.inl rfl) (k := 42) (t := 0) (i := i) (r0 := fun _ => 0) gc2 cl_X3_9 in_RX2 ni_X2 h42 rfl (fs := [.int 0, .int 0, .int 0, .int 0, .null, .null, .null, .null]) (by intro j hj; rcases (by omega : j = 0 ∨ j = 1 ∨ j = 2 ∨ j = 3 ∨ j = 4 ∨ j = 5 ∨ j = 6 ∨ j = 7) with rfl | rfl | rfl | rfl | rfl | rfl | rfl | rfl <;> rfl) (Nat.le_of_ble_eq_true rfl) (Nat.le_of_ble_eq_true rfl) dX3_init_5 (fun X2 => ?_)
  refine V_dup X2 dX3_init_8 rfl ?_
  refine V_callINF X2 hY hsz (Or.inr ⟨42, 0, i, Or.inl ⟨rfl, rfl, rfl⟩, by rw [h42]⟩) [] dX3_init_9 nn_X3_11 ⟨Nat.le_of_ble_eq_true rfl, Nat.le_of_ble_eq_true rfl⟩ ⟨Nat.le_of_ble_eq_true rfl, Nat.le_of_ble_eq_true rfl⟩ rfl (Nat.le_of_ble_eq_true rfl) (c_X2_initF (Or.inl ⟨rfl, rfl, rfl⟩) h10 h11 h12 h13) (fun X3 => ?_)
  refine V_renF X3 (k := 42) (k2 := 2) (t := 0) (i := i) (dm' := e3 dm i) (S' := nwP i S) (by unfold eP dmu; omega) (h2.trans h42.symm) (fun H hv => ?_) (fun k' t' x' h => nwP_of hfr h) (fun X4 => ?_)
  · have hrow := n_init_row (i := i) (S := w4 S 42 0 i (fun _ => 0)) (fun j => by rw [w4_self])
    have e2 : ∀ j, nwP i S 2 0 i j = if j = 3 then 3 else 0 := fun j => by unfold nwP; simp only [w4_app]; simp
    have ee : ct cA ad 2 0 i (nwP i S 2 0 i) = ct cA ad 42 0 i (n_X2_init i (w4 S 42 0 i (fun _ => 0)) 42 0 i) := by
      show (Sum.inr (2, [.int (nwP i S 2 0 i 0), .int (nwP i S 2 0 i 1), .int (nwP i S 2 0 i 2), .int (nwP i S 2 0 i 3), .ref (ad 10 0 i), .ref (ad 11 0 i), .ref (ad 12 0 i), .ref (ad 13 0 i)]) : va_E) = _
      simp only [e2, ct, hrow]
      rfl
    rw [ee]; exact hv
  rw [show ad 42 0 i = ad 2 0 i from h42.trans h2.symm]
  refine V_putF X4 hnm (k := 43) (t := 0) (i := i) (x := 1) dX3_init_12 ff_X3_12 (Or.inr h43) rfl (Nat.le_of_ble_eq_true rfl) rfl rfl rfl (fun Y1 eY1 => ?_)
  refine V_aload_n X4 dX3_init_15 rfl 0 rfl ?_
  refine V_aload_n X4 dX3_init_16 rfl 1 rfl ?_
  refine V_putF X4 hnm (k := 43) (t := 0) (i := i) (x := 1) dX3_init_17 ff_X3_18 (Or.inr h43) rfl (Nat.le_of_ble_eq_true rfl) rfl rfl rfl (fun Y2 eY2 => ?_)
  refine V_aload_n X4 dX3_init_20 rfl 0 rfl ?_
  refine V_iload_n X4 dX3_init_21 rfl 2 rfl ?_
  refine V_aload_n X4 dX3_init_22 rfl 1 rfl ?_
  refine V_alenC X4 dX3_init_23 (Or.inr h23) rfl (v := (80 : Int32)) rfl ?_
  refine V_mmin X4 dX3_init_24 mm_X3_22 ⟨Nat.le_of_ble_eq_true rfl, Nat.le_of_ble_eq_true rfl⟩ ⟨Nat.le_of_ble_eq_true rfl, Nat.le_of_ble_eq_true rfl⟩ (Nat.le_of_ble_eq_true rfl) ?_
  refine V_putF X4 hnm (k := 43) (t := 0) (i := i) (x := (if (80 : Int32) < len then (80 : Int32) else len)) dX3_init_27 ff_X3_28 (Or.inr h43) rfl (Nat.le_of_ble_eq_true rfl) rfl rfl rfl (fun Y3 eY3 => ?_)
  refine V_dom X4 (dm' := e3 dm i) (S' := nwR i len S) (fun k' t' x' h => ⟨h, ?_⟩) (fun X5 => ?_)
  · funext j
    have z43 : ∀ j, nwP i S 43 0 i j = 0 := fun j => by unfold nwP; simp only [w4_app]; simp [hz]
    rw [eY3, u4_app, eY2, u4_app, eY1, u4_app]
    unfold nwR
    rw [w4_app]
    by_cases q : k' = 43 ∧ t' = 0 ∧ x' = i
    · obtain ⟨rfl, rfl, rfl⟩ := q
      by_cases j3 : j = 3
      · subst j3; simp
      · by_cases j2 : j = 2
        · subst j2; simp
        · by_cases j0 : j = 0
          · subst j0; simp
          · simp [j3, j2, j0, z43]
    · rw [if_neg q, if_neg (by omega), if_neg (by omega), if_neg (by omega)]
  exact V_sub [] rfl (V_vretF X5 hr dX3_init_30)
